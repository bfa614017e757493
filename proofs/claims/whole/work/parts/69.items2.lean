/-! ===== text: rifts, pairs, clay, side by side ===== -/
theorem tx_rift {B : Nat → Int32} {t q : Nat} {τ μ : fk_T} (hT : TK B t τ) (hR : RBy B t μ) (hS : txS B t τ μ q) (hw : WF (μ.1 27)) (hc : CP 6 τ (μ.1 27)) (htk : tkT B t q = -10 - nI 7) : txI B t τ μ q F_X1_readRift F_X5_riftHere := by
  have ht := hR.1
  obtain ⟨z1, z2, z3⟩ := nG_of hw
  obtain ⟨τ1, μ1, q1, s1, s2, s3, s4, s5, s6⟩ := tx_step hR hS (Or.inl (tx_so1 hS (by omega) htk))
  have e27 : μ1.1 27 = μ.1 27 := s6.1 27 (by omega)
  have hc1 : CP 6 τ1 (μ.1 27) := hc.g s5
  have hhi : (nI (nG (μ.1 27)) - 1).toInt = (nG (μ.1 27) : Int) - 1 := szI (by omega)
  have h99 : (99 : Int32).toInt = 99 := by decide
  unfold txI
  have ec : F_X1_readRift τ = (F_X1_readNumber 0 (nI (nG (μ.1 27)) - 1) τ1).bind (fun q2 => fk_A (q2.2.1 19) 121 (q2.2.1 18 4) (fun y3 => if y3 = q2.1 then ((F_X1_refuse  q2.2).bind (fun q8 => (F_X1_readNumber 0 ((q8.1 6 6) - 1) q8).bind (fun q9 => (F_X1_readNumber 0 99 q9.2).bind (fun q10 => (F_X1_hasFault  q10.2).bind (fun q11 => if (fk_b q11.1) = 0 then ((F_X0_setRift 6 q2.1 q9.1 q10.1 q11.2).bind (fun q12 => some q12)) else (some q11.2)))))) else ((F_X1_readNumber 0 ((q2.2.1 6 6) - 1) q2.2).bind (fun q4 => (F_X1_readNumber 0 99 q4.2).bind (fun q5 => (F_X1_hasFault  q5.2).bind (fun q6 => if (fk_b q6.1) = 0 then ((F_X0_setRift 6 q2.1 q4.1 q5.1 q6.2).bind (fun q7 => some q7)) else (some q6.2))))))) := by
    unfold F_X1_readRift
    rw [s1, bS, hc1.c6, z1]
  have em : F_X5_riftHere μ = (F_X5_numberHere 0 (nI (nG (μ.1 27)) - 1) (-1) μ1).bind (fun q3 => if 0 ≤ (q3.2.1 26 12) then (if 0 ≤ (q3.2.1 26 12) then (if 0 ≤ (q3.2.1 26 12) then (some q3.2) else ((F_X5_between q3.1 0 q3.2).bind (fun q4 => fk_S q4.2 27 135 q4.1 0 (fun s5 => some s5)))) else ((F_X5_numberHere 0 99 (-1) q3.2).bind (fun q6 => if 0 ≤ (q6.2.1 26 12) then (some q6.2) else ((F_X5_between q3.1 0 q6.2).bind (fun q7 => fk_S q7.2 27 135 q7.1 q6.1 (fun s8 => some s8)))))) else (fk_A (q3.2.1 27) 135 0 (fun y9 => (F_X5_numberHere 0 (y9 - 1) q3.1 q3.2).bind (fun q10 => if 0 ≤ (q10.2.1 26 12) then (if 0 ≤ (q10.2.1 26 12) then (some q10.2) else ((F_X5_between q3.1 q10.1 q10.2).bind (fun q11 => fk_S q11.2 27 135 q11.1 0 (fun s12 => some s12)))) else ((F_X5_numberHere 0 99 (-1) q10.2).bind (fun q13 => if 0 ≤ (q13.2.1 26 12) then (some q13.2) else ((F_X5_between q3.1 q10.1 q13.2).bind (fun q14 => fk_S q14.2 27 135 q14.1 q13.1 (fun s15 => some s15))))))))) := by
    unfold F_X5_riftHere
    rw [s2, bS, rdG 0 (by omega), e27, z1]
  have tB := hT.g s5
  have rB := hR.g s6
  rcases tx_num tB rB s4 0 (nI (nG (μ.1 27)) - 1) (by decide) (by rw [hhi]; omega) with ⟨n1, n2, τ2, μ2, q2, n3, n4, -, n5, n6, n7, n8⟩ | ⟨-, τ2, μ2, n3, n4, n5, n6, n7⟩
  · -- the first is there
    rw [li0] at n1
    rw [hhi] at n2
    obtain ⟨a, ea, ha⟩ := toN n1
    have n12 : ¬ (0 : Int32) ≤ μ2.1 26 12 := by rw [n6.2.2.1]; decide
    have f27 : μ2.1 27 = μ.1 27 := by rw [n8.1 27 (by omega), e27]
    have hc2 : CP 6 τ2 (μ.1 27) := hc1.g n7
    have tC := tB.g n7
    have rC := rB.g n8
    have ec2 : F_X1_readRift τ = (if tkT B t q2 = tkT B t q1 then ((F_X1_refuse  τ2).bind (fun q8 => (F_X1_readNumber 0 ((q8.1 6 6) - 1) q8).bind (fun q9 => (F_X1_readNumber 0 99 q9.2).bind (fun q10 => (F_X1_hasFault  q10.2).bind (fun q11 => if (fk_b q11.1) = 0 then ((F_X0_setRift 6 (tkT B t q1) q9.1 q10.1 q11.2).bind (fun q12 => some q12)) else (some q11.2)))))) else ((F_X1_readNumber 0 (nI (nG (μ.1 27)) - 1) τ2).bind (fun q4 => (F_X1_readNumber 0 99 q4.2).bind (fun q5 => (F_X1_hasFault  q5.2).bind (fun q6 => if (fk_b q6.1) = 0 then ((F_X0_setRift 6 (tkT B t q1) q4.1 q5.1 q6.2).bind (fun q7 => some q7)) else (some q6.2)))))) := by
      rw [ec, n3, bS]
      dsimp only
      rw [tx_tok ht tC n6, hc2.c6, z1]
    have em2 : F_X5_riftHere μ = (F_X5_numberHere 0 (nI (nG (μ.1 27)) - 1) (tkT B t q1) μ2).bind (fun q10 => if 0 ≤ (q10.2.1 26 12) then (if 0 ≤ (q10.2.1 26 12) then (some q10.2) else ((F_X5_between (tkT B t q1) q10.1 q10.2).bind (fun q11 => fk_S q11.2 27 135 q11.1 0 (fun s12 => some s12)))) else ((F_X5_numberHere 0 99 (-1) q10.2).bind (fun q13 => if 0 ≤ (q13.2.1 26 12) then (some q13.2) else ((F_X5_between (tkT B t q1) q10.1 q13.2).bind (fun q14 => fk_S q14.2 27 135 q14.1 q13.1 (fun s15 => some s15)))))) := by
      rw [em, n4 (-1) (fun z => by rw [z, lim1] at n1; omega), bS]
      dsimp only
      rw [if_neg n12, rdG 0 (by omega), f27, z1]
    by_cases eq : tkT B t q2 = tkT B t q1
    · -- the same one
      obtain ⟨τ3, μ3, v1, v2, v3, v4, v5⟩ := tx_fault ht tC n6
      refine Or.inr ⟨τ3, μ3, ?_, ?_, v3, ((s5.tr n7).tr v4).f, ((s6.tr n8).tr v5).f⟩
      · rw [ec2, if_pos eq, v1, bS, C_num1 (v3.ha ht), bS]
        dsimp only
        rw [C_num1 (v3.ha ht), bS]
        dsimp only
        rw [C_hasF1 (v3.ha ht).2, bS]
        dsimp only
        rw [if_neg fbT]
      · rcases tx_num tC rC n6 0 (nI (nG (μ.1 27)) - 1) (by decide) (by rw [hhi]; omega) with ⟨-, -, τ4, μ4, q4, -, -, w5, -⟩ | ⟨w1, -⟩
        · rw [em2, ← eq, w5, v2, bS, bS]
          dsimp only
          rw [if_pos (v3.ge ht), if_pos (v3.ge ht)]
        · exact absurd (by rw [eq, li0, hhi]; exact ⟨n1, n2⟩) w1
    · rcases tx_num tC rC n6 0 (nI (nG (μ.1 27)) - 1) (by decide) (by rw [hhi]; omega) with ⟨m1, m2, τ3, μ3, q3, m3, m4, -, m5, m6, m7, m8⟩ | ⟨-, τ3, μ3, m3, m4, m5, m6, m7⟩
      · rw [li0] at m1
        rw [hhi] at m2
        obtain ⟨b, eb, hb9⟩ := toN m1
        have m12 : ¬ (0 : Int32) ≤ μ3.1 26 12 := by rw [m6.2.2.1]; decide
        have g27 : μ3.1 27 = μ.1 27 := by rw [m8.1 27 (by omega), f27]
        have hc3 : CP 6 τ3 (μ.1 27) := hc2.g m7
        rcases tx_num (tC.g m7) (rC.g m8) m6 0 99 (by decide) (by decide) with ⟨k1, k2, τ4, μ4, q4, k3, k4, -, k5, k6, k7, k8⟩ | ⟨-, τ4, μ4, k3, k4, k5, k6, k7⟩
        · rw [li0] at k1
          rw [h99] at k2
          have k12 : ¬ (0 : Int32) ≤ μ4.1 26 12 := by rw [k6.2.2.1]; decide
          have h27 : μ4.1 27 = μ.1 27 := by rw [k8.1 27 (by omega), g27]
          have ha8 : a < 8 := by omega
          have hb8 : b < 8 := by omega
          have hbt := gbt_lt ha8 hb8
          obtain ⟨τ5, d1, d2, d3⟩ := C_setRift (hc3.g k7) (v := tkT B t q3) ea eb ha8 hb8
          refine Or.inl ⟨τ5, fk_w μ4 27 (upd (μ4.1 27) (61 + gbt a b) (tkT B t q3)), q4, ?_, ?_, by omega, k6.fr (d3.1 18 (by omega)) (w_ne _ _ (by omega)) rfl, (((s5.tr n7).tr m7).tr k7).f.tr d3.f, ⟨(((s6.tr n8).tr m8).tr k8).k.tr (kM.w _ _), ?_⟩, ?_, ?_⟩
          · rw [ec2, if_neg eq, m3, bS]
            dsimp only
            rw [k3, bS]
            dsimp only
            rw [C_hasF0 k6.2.1, bS]
            dsimp only
            rw [if_pos fbF, d1, bS]
          · rw [em2, m4 _ eq, bS]
            dsimp only
            rw [if_neg m12, k4 (-1) (fun z => by rw [z, lim1] at k1; omega), bS]
            dsimp only
            rw [if_neg k12, M_between ea eb ha8 hb8, bS, fS (j := 61 + gbt a b) rfl (by omega) (by omega)]
          · rw [w_self, h27]; exact Out.u _ (by omega)
          · rw [w_self, h27]
            exact hw.set (by omega) (by omega) (fun _ _ => by rw [hb_99 (by omega) (by omega)]; exact ⟨k1, k2⟩)
          · rw [w_self, h27]; exact d2
        · refine Or.inr ⟨τ4, μ4, ?_, ?_, k5, (((s5.tr n7).tr m7).tr k6).f, (((s6.tr n8).tr m8).tr k7).f⟩
          · rw [ec2, if_neg eq, m3, bS]
            dsimp only
            rw [k3, bS]
            dsimp only
            rw [C_hasF1 (k5.ha ht).2, bS]
            dsimp only
            rw [if_neg fbT]
          · rw [em2, m4 _ eq, bS]
            dsimp only
            rw [if_neg m12, k4 (-1), bS]
            dsimp only
            rw [if_pos (k5.ge ht)]
      · refine Or.inr ⟨τ3, μ3, ?_, ?_, m5, ((s5.tr n7).tr m6).f, ((s6.tr n8).tr m7).f⟩
        · rw [ec2, if_neg eq, m3, bS]
          dsimp only
          rw [C_num1 (m5.ha ht), bS]
          dsimp only
          rw [C_hasF1 (m5.ha ht).2, bS]
          dsimp only
          rw [if_neg fbT]
        · rw [em2, m4, bS]
          dsimp only
          rw [if_pos (m5.ge ht), if_pos (m5.ge ht)]
  · refine Or.inr ⟨τ2, μ2, ?_, ?_, n5, (s5.tr n6).f, (s6.tr n7).f⟩
    · rw [ec, n3, bS]
      dsimp only
      have hh := n5.ha ht
      have t1 : (F_X1_refuse  τ2).bind (fun q8 => (F_X1_readNumber 0 ((q8.1 6 6) - 1) q8).bind (fun q9 => (F_X1_readNumber 0 99 q9.2).bind (fun q10 => (F_X1_hasFault  q10.2).bind (fun q11 => if (fk_b q11.1) = 0 then ((F_X0_setRift 6 0 q9.1 q10.1 q11.2).bind (fun q12 => some q12)) else (some q11.2))))) = some τ2 := by
        rw [C_ref1 hh.2, bS, C_num1 hh, bS]
        dsimp only
        rw [C_num1 hh, bS]
        dsimp only
        rw [C_hasF1 hh.2, bS]
        dsimp only
        rw [if_neg fbT]
      have t2 : (F_X1_readNumber 0 ((τ2.1 6 6) - 1) τ2).bind (fun q4 => (F_X1_readNumber 0 99 q4.2).bind (fun q5 => (F_X1_hasFault  q5.2).bind (fun q6 => if (fk_b q6.1) = 0 then ((F_X0_setRift 6 0 q4.1 q5.1 q6.2).bind (fun q7 => some q7)) else (some q6.2)))) = some τ2 := by
        rw [C_num1 hh, bS]
        dsimp only
        rw [C_num1 hh, bS]
        dsimp only
        rw [C_hasF1 hh.2, bS]
        dsimp only
        rw [if_neg fbT]
      rw [t1, t2]
      obtain ⟨y, e⟩ := hh.tok (fun y3 => if y3 = 0 then some τ2 else some τ2)
      rw [e]
      split <;> rfl
    · rw [em, n4 (-1), bS]
      dsimp only
      rw [if_pos (n5.ge ht), if_pos (n5.ge ht), if_pos (n5.ge ht)]
theorem tx_pair {B : Nat → Int32} {t q : Nat} {τ μ : fk_T} (hT : TK B t τ) (hR : RBy B t μ) (hS : txS B t τ μ q) (hw : WF (μ.1 27)) (hc : CP 6 τ (μ.1 27)) (htk : tkT B t q = -10 - nI 8) : txI B t τ μ q F_X1_readPair F_X5_pairHere := by
  have ht := hR.1
  have l5 : (5 : Int32).toInt = 5 := by decide
  have l7 : (7 : Int32).toInt = 7 := by decide
  obtain ⟨τ1, μ1, q1, s1, s2, s3, s4, s5, s6⟩ := tx_step hR hS (Or.inl (tx_so1 hS (by omega) htk))
  have e27 : μ1.1 27 = μ.1 27 := s6.1 27 (by omega)
  have hc1 : CP 6 τ1 (μ.1 27) := hc.g s5
  have tB := hT.g s5
  have rB := hR.g s6
  unfold txI
  rcases tx_num tB rB s4 0 5 (by decide) (by decide) with ⟨n1, n2, τ2, μ2, q2, n3, n4, -, n5, n6, n7, n8⟩ | ⟨-, τ2, μ2, n3, n4, n5, n6, n7⟩
  · rw [li0] at n1
    rw [l5] at n2
    obtain ⟨i, ei, hi⟩ := toN n1
    have n12 : ¬ (0 : Int32) ≤ μ2.1 26 12 := by rw [n6.2.2.1]; decide
    rcases tx_num (tB.g n7) (rB.g n8) n6 0 7 (by decide) (by decide) with ⟨m1, m2, τ3, μ3, q3, m3, m4, -, m5, m6, m7, m8⟩ | ⟨-, τ3, μ3, m3, m4, m5, m6, m7⟩
    · rw [li0] at m1
      rw [l7] at m2
      have m12 : ¬ (0 : Int32) ≤ μ3.1 26 12 := by rw [m6.2.2.1]; decide
      rcases tx_num ((tB.g n7).g m7) ((rB.g n8).g m8) m6 0 7 (by decide) (by decide) with ⟨k1, k2, τ4, μ4, q4, k3, k4, -, k5, k6, k7, k8⟩ | ⟨-, τ4, μ4, k3, k4, k5, k6, k7⟩
      · rw [li0] at k1
        have k12 : ¬ (0 : Int32) ≤ μ4.1 26 12 := by rw [k6.2.2.1]; decide
        have h27 : μ4.1 27 = μ.1 27 := by rw [k8.1 27 (by omega), m8.1 27 (by omega), n8.1 27 (by omega), e27]
        have hc4 : CP 6 τ4 (μ.1 27) := ((hc1.g n7).g m7).g k7
        have d2 := hc4.li (i := i) (by omega) ((10 * tkT B t q2) + tkT B t q3)
        refine Or.inl ⟨fk_w τ4 7 (upd (τ4.1 7) i ((10 * tkT B t q2) + tkT B t q3)), fk_w μ4 27 (upd (μ4.1 27) (7 + i) ((10 * tkT B t q2) + tkT B t q3)), q4, ?_, ?_, by omega, k6.fr (w_ne _ _ (by omega)) (w_ne _ _ (by omega)) rfl, (((s5.tr n7).tr m7).tr k7).f.tr (fun a ha => w_ne _ _ (by omega)), ⟨(((s6.tr n8).tr m8).tr k8).k.tr (kM.w _ _), ?_⟩, ?_, ?_⟩
        · unfold F_X1_readPair
          rw [s1, bS, n3, bS]
          dsimp only
          rw [m3, bS]
          dsimp only
          rw [k3, bS]
          dsimp only
          rw [C_hasF0 k6.2.1, bS]
          dsimp only
          rw [if_pos fbF, fS (j := i) ei (by omega) (by omega)]
        · unfold F_X5_pairHere
          rw [s2, bS, n4 (-1) (fun z => by rw [z, lim1] at n1; omega), bS]
          dsimp only
          rw [if_neg n12, m4 (-1) (fun z => by rw [z, lim1] at m1; omega), bS]
          dsimp only
          rw [if_neg m12, k4 (-1) (fun z => by rw [z, lim1] at k1; omega), bS]
          dsimp only
          rw [if_neg k12, fS (j := 7 + i) (by rw [ei]; exact nl 7 i) (by omega) (by omega)]
        · rw [w_self, h27]; exact Out.u _ (by omega)
        · rw [w_self, h27]
          exact hw.set (by omega) (by omega) (fun _ z => by omega)
        · rw [w_self, h27]; exact d2
      · refine Or.inr ⟨τ4, μ4, ?_, ?_, k5, (((s5.tr n7).tr m7).tr k6).f, (((s6.tr n8).tr m8).tr k7).f⟩
        · unfold F_X1_readPair
          rw [s1, bS, n3, bS]
          dsimp only
          rw [m3, bS]
          dsimp only
          rw [k3, bS]
          dsimp only
          rw [C_hasF1 (k5.ha ht).2, bS]
          dsimp only
          rw [if_neg fbT]
        · unfold F_X5_pairHere
          rw [s2, bS, n4 (-1) (fun z => by rw [z, lim1] at n1; omega), bS]
          dsimp only
          rw [if_neg n12, m4 (-1) (fun z => by rw [z, lim1] at m1; omega), bS]
          dsimp only
          rw [if_neg m12, k4 (-1), bS]
          dsimp only
          rw [if_pos (k5.ge ht)]
    · refine Or.inr ⟨τ3, μ3, ?_, ?_, m5, ((s5.tr n7).tr m6).f, ((s6.tr n8).tr m7).f⟩
      · unfold F_X1_readPair
        rw [s1, bS, n3, bS]
        dsimp only
        rw [m3, bS]
        dsimp only
        rw [C_num1 (m5.ha ht), bS]
        dsimp only
        rw [C_hasF1 (m5.ha ht).2, bS]
        dsimp only
        rw [if_neg fbT]
      · unfold F_X5_pairHere
        rw [s2, bS, n4 (-1) (fun z => by rw [z, lim1] at n1; omega), bS]
        dsimp only
        rw [if_neg n12, m4 (-1), bS]
        dsimp only
        rw [if_pos (m5.ge ht), if_pos (m5.ge ht)]
  · refine Or.inr ⟨τ2, μ2, ?_, ?_, n5, (s5.tr n6).f, (s6.tr n7).f⟩
    · unfold F_X1_readPair
      rw [s1, bS, n3, bS]
      dsimp only
      rw [C_num1 (n5.ha ht), bS]
      dsimp only
      rw [C_num1 (n5.ha ht), bS]
      dsimp only
      rw [C_hasF1 (n5.ha ht).2, bS]
      dsimp only
      rw [if_neg fbT]
    · unfold F_X5_pairHere
      rw [s2, bS, n4 (-1), bS]
      dsimp only
      rw [if_pos (n5.ge ht), if_pos (n5.ge ht), if_pos (n5.ge ht)]
theorem tx_clay {B : Nat → Int32} {t q : Nat} {τ μ : fk_T} (hT : TK B t τ) (hR : RBy B t μ) (hS : txS B t τ μ q) (hw : WF (μ.1 27)) (hc : CP 6 τ (μ.1 27)) (htk : tkT B t q = -10 - nI 9) : txI B t τ μ q F_X1_readClay (fun μ => (F_X5_next_ μ).bind (fun q6 => (F_X5_numberHere 1 20 (-1) q6).bind (fun q7 => fk_S q7.2 27 135 3 q7.1 (fun s8 => some s8)))) := by
  have ht := hR.1
  obtain ⟨τ1, μ1, q1, s1, s2, s3, s4, s5, s6⟩ := tx_step hR hS (Or.inl (tx_so1 hS (by omega) htk))
  have e27 : μ1.1 27 = μ.1 27 := s6.1 27 (by omega)
  have hc1 : CP 6 τ1 (μ.1 27) := hc.g s5
  have tB := hT.g s5
  have rB := hR.g s6
  unfold txI
  rcases tx_num tB rB s4 1 20 (by decide) (by decide) with ⟨n1, n2, τ2, μ2, q2, n3, n4, -, n5, n6, n7, n8⟩ | ⟨-, τ2, μ2, n3, n4, n5, n6, n7⟩
  · rw [li1] at n1
    rw [l20] at n2
    have h27 : μ2.1 27 = μ.1 27 := by rw [n8.1 27 (by omega), e27]
    have d2 := (hc1.g n7).obj (i := 0) (by omega) (tkT B t q1)
    refine Or.inl ⟨fk_w τ2 6 (upd (τ2.1 6) 0 (tkT B t q1)), fk_w μ2 27 (upd (μ2.1 27) 3 (tkT B t q1)), q2, ?_, ?_, by omega, n6.fr (w_ne _ _ (by omega)) (w_ne _ _ (by omega)) rfl, (s5.tr n7).f.tr (fun a ha => w_ne _ _ (by omega)), ⟨(s6.tr n8).k.tr (kM.w _ _), ?_⟩, ?_, ?_⟩
    · unfold F_X1_readClay
      rw [s1, bS, n3, bS]
      dsimp only
      rw [C_hasF0 n6.2.1, bS]
      dsimp only
      rw [if_pos fbF, fB]
    · dsimp only
      rw [s2, bS, n4 (-1) (fun z => by rw [z, lim1] at n1; omega), bS]
      dsimp only
      rw [fS (j := 3) (nlit 3) (by omega) (by omega)]
    · rw [w_self, h27]; exact Out.u _ (by omega)
    · rw [w_self, h27]
      exact hw.set (k := 3) (by omega) (by omega) (fun _ _ => by rw [show hb 3 = 20 from rfl]; omega)
    · rw [w_self, h27]; exact d2
  · refine Or.inr ⟨τ2, fk_w μ2 27 (upd (μ2.1 27) 3 0), ?_, ?_, ?_, (s5.tr n6).f, ⟨(s6.tr n7).k.tr (kM.w _ _), ?_⟩⟩
    · unfold F_X1_readClay
      rw [s1, bS, n3, bS]
      dsimp only
      rw [C_hasF1 (n5.ha ht).2, bS]
      dsimp only
      rw [if_neg fbT]
    · dsimp only
      rw [s2, bS, n4 (-1), bS]
      dsimp only
      rw [fS (j := 3) (nlit 3) (by omega) (by omega)]
    · obtain ⟨h1, f, h2, h3, h4⟩ := n5
      exact ⟨h1, f, h2, h3, by rw [w_ne _ _ (by omega)]; exact h4⟩
    · rw [w_self, n7.1 27 (by omega), e27]; exact Out.u _ (by omega)
