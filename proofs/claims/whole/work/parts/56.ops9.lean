/-! ===== market ===== -/
def zG (G : Nat → Int32) : Nat → Int32 := upd G 2 (G 2 * 1103515245 + 12345)
def drV (G : Nat → Int32) : Int32 := ((G 2).toUInt32 >>> ((8 : Int32).toUInt32 &&& Int32.toUInt32 31)).toInt32
theorem dr_nn (x : Int32) : 0 ≤ ((x.toUInt32 >>> ((8 : Int32).toUInt32 &&& Int32.toUInt32 31)).toInt32).toInt := by
  have e : ((8 : Int32).toUInt32 &&& Int32.toUInt32 31) = 8 := by decide
  rw [e]
  have h : (x.toUInt32 >>> (8 : UInt32)).toNat < 16777216 := by
    rw [UInt32.toNat_shiftRight, show (8 : UInt32).toNat % 32 = 8 by decide, Nat.shiftRight_eq_div_pow]
    have := x.toUInt32.toNat_lt
    omega
  have h2 : ((x.toUInt32 >>> (8 : UInt32)).toInt32).toInt = ((x.toUInt32 >>> (8 : UInt32)).toNat : Int) := by
    rw [← Int32.toInt_toBitVec, BitVec.toInt_eq_toNat_of_lt]
    · rfl
    · show 2 * (x.toUInt32 >>> (8 : UInt32)).toNat < 2 ^ 32
      omega
  rw [h2]
  omega
theorem wf_zG {G : Nat → Int32} (hw : WF G) : WF (zG G) := hw.set (by omega) (by omega) (fun z _ => absurd rfl z)
theorem C_draw {c : Nat} {σ : fk_T} {G : Nat → Int32} (h : CP c σ G) : ∃ σ', F_X0_draw c σ = some (drV (zG G), σ') ∧ CP c σ' (zG G) ∧ FrP c σ σ' := by
  have d1 := h.obj (i := 5) (by omega) (σ.1 c 5 * 1103515245 + 12345)
  rw [h.c5, show ob 5 = 2 from rfl] at d1
  refine ⟨fk_w σ c (upd (σ.1 c) 5 (G 2 * 1103515245 + 12345)), ?_, d1, FrP.w _ (by omega)⟩
  unfold F_X0_draw
  rw [fB, h.c5, w_self, u_self]
  unfold drV zG
  rw [u_self]
theorem M_draw (σ : fk_T) : F_X5_draw σ = some (drV (zG (σ.1 27)), fk_w σ 27 (zG (σ.1 27))) := by
  unfold F_X5_draw
  rw [rdG 2 (by omega), fS (j := 2) (nlit 2) (by omega) (by omega), rdG 2 (by omega), w_self]
  rfl
def mkG (G : Nat → Int32) : Nat → Int32 :=
  upd (zG (upd (zG (zG G)) (7 + dI G 6) (10 * (drV (zG G) - drV (zG G) / 8 * 8) + (drV (zG (zG G)) - drV (zG (zG G)) / 8 * 8)))) 3 (1 + (drV (zG (upd (zG (zG G)) (7 + dI G 6) (10 * (drV (zG G) - drV (zG G) / 8 * 8) + (drV (zG (zG G)) - drV (zG (zG G)) / 8 * 8)))) - drV (zG (upd (zG (zG G)) (7 + dI G 6) (10 * (drV (zG G) - drV (zG G) / 8 * 8) + (drV (zG (zG G)) - drV (zG (zG G)) / 8 * 8)))) / 20 * 20))
theorem wf_mkG {G : Nat → Int32} (hw : WF G) : WF (mkG G) := by
  unfold mkG
  have hd := dI_lt G (d := 6) (by omega)
  have h1 : WF (upd (zG (zG G)) (7 + dI G 6) (10 * (drV (zG G) - drV (zG G) / 8 * 8) + (drV (zG (zG G)) - drV (zG (zG G)) / 8 * 8))) := (wf_zG (wf_zG hw)).set (by omega) (by omega) (fun _ z => by omega)
  refine (wf_zG h1).set (by omega) (by omega) (fun _ _ => ?_)
  generalize zG (upd (zG (zG G)) (7 + dI G 6) (10 * (drV (zG G) - drV (zG G) / 8 * 8) + (drV (zG (zG G)) - drV (zG (zG G)) / 8 * 8))) = K
  have hn : 0 ≤ (drV K).toInt := dr_nn _
  have e := rem_of (x := drV K) (d := 20) (by omega) (by omega) hn
  rw [nlit 20, e, show hb 3 = 20 from rfl, ti_add, li1, nI_tI]
  all_goals first | omega | (rw [li1, nI_tI] <;> omega) | skip
theorem mk_1 {G : Nat → Int32} : mkG G 0 = G 0 ∧ mkG G 1 = G 1 := by
  have hd := dI_lt G (d := 6) (by omega)
  unfold mkG zG
  exact ⟨by rw [u_ne _ _ (by omega), u_ne _ _ (by omega), u_ne _ _ (by omega), u_ne _ _ (by omega), u_ne _ _ (by omega)], by rw [u_ne _ _ (by omega), u_ne _ _ (by omega), u_ne _ _ (by omega), u_ne _ _ (by omega), u_ne _ _ (by omega)]⟩
theorem z_1 (G : Nat → Int32) : zG G 1 = G 1 := u_ne _ _ (by omega)
theorem C_drawMarket {c : Nat} {σ : fk_T} {G : Nat → Int32} (h : CP c σ G) (hw : WF G) : ∃ σ', F_X0_drawMarket c σ = some σ' ∧ CP c σ' (mkG G) ∧ FrP c σ σ' := by
  have hd := dI_lt G (d := 6) (by omega)
  obtain ⟨s1, a1, a2, a3⟩ := C_draw h
  obtain ⟨s2, b1, b2, b3⟩ := C_draw a2
  have d1 := b2.li (i := dI G 6) hd (10 * (drV (zG G) - drV (zG G) / 8 * 8) + (drV (zG (zG G)) - drV (zG (zG G)) / 8 * 8))
  obtain ⟨s3, c1, c2, c3⟩ := C_draw d1
  have d2 := c2.obj (i := 0) (by omega) (1 + (drV (zG (upd (zG (zG G)) (7 + dI G 6) (10 * (drV (zG G) - drV (zG G) / 8 * 8) + (drV (zG (zG G)) - drV (zG (zG G)) / 8 * 8)))) - drV (zG (upd (zG (zG G)) (7 + dI G 6) (10 * (drV (zG G) - drV (zG G) / 8 * 8) + (drV (zG (zG G)) - drV (zG (zG G)) / 8 * 8)))) / 20 * 20))
  refine ⟨_, ?_, d2, (((a3.tr b3).tr (FrP.w _ (by omega))).tr c3).tr (FrP.w _ (by omega))⟩
  unfold F_X0_drawMarket
  rw [a1, bS, fB]
  dsimp only
  rw [b1, bS, fB]
  dsimp only
  rw [b2.c4, z_1, z_1, fS (j := dI G 6) (day_ix hw) hd (by omega), c1, bS, fB]
theorem M_mkL {n : Nat} (hn : n < 4000) {k : Int32 → Int32 → fk_T → Option (Int32 × fk_T)} : ∀ (m i fu : Nat) {σ : fk_T}, WF (σ.1 27) → i + m = n → m < fu → ∃ G, L_X5_market_39 fu (nI n) (nI i) σ k = k (nI n) (nI n) (fk_w σ 27 G) ∧ WF G ∧ ∀ (c : Nat) (τ : fk_T) (fv : Nat) (kk : Int32 → Int32 → fk_T → Option (Int32 × fk_T)), c = 1 → CP c τ (σ.1 27) → m < fv → ∃ τ', L_X4_market_38 fv (nI n) (nI i) τ kk = kk (nI n) (nI n) τ' ∧ CP c τ' G ∧ FrP c τ τ'
  | m, i, 0, _, _, _, hf => by omega
  | 0, i, fu + 1, σ, hw, hi, _ => by
    have : i = n := by omega
    subst this
    refine ⟨σ.1 27, ?_, hw, fun c τ fv kk hc h hv => ⟨τ, ?_, h, FrP.rf _ _⟩⟩
    · rw [L_X5_market_39, if_pos (by rw [i_le]; omega), w_id rfl]
    · obtain ⟨fv, rfl⟩ : ∃ f, fv = f + 1 := ⟨fv - 1, by omega⟩
      rw [L_X4_market_38, if_pos (by rw [i_le]; omega)]
  | m + 1, i, fu + 1, σ, hw, hi, hf => by
    have hm := wf_mkG hw
    have hd := dI_lt (σ.1 27) (d := 6) (by omega)
    have e0 : ¬ nI n ≤ nI i := by rw [i_le, nI_tI (by omega), nI_tI (by omega)]; omega
    obtain ⟨G, g1, g2, g3⟩ := M_mkL hn (k := k) m (i + 1) fu (σ := fk_w σ 27 (dayG (mkG (σ.1 27)))) (by rw [w_self]; exact (wf_dayG hm).1) (by omega) (by omega)
    refine ⟨G, ?_, g2, fun c τ fv kk hc h hv => ?_⟩
    · rw [w_w] at g1
      rw [L_X5_market_39, if_neg e0, M_draw, bS, fB]
      dsimp only
      rw [M_draw, bS, fB]
      dsimp only
      rw [rdG 1 (by omega), fS (j := 7 + dI (σ.1 27) 6) (by rw [w_self, w_self, z_1, z_1, day_ix hw, nl]) (by omega) (by omega), M_draw, bS]
      dsimp only
      rw [fS (j := 3) (nlit 3) (by omega) (by omega)]
      simp only [w_w, w_self]
      rw [show upd (zG (upd (zG (zG (σ.1 27))) (7 + dI (σ.1 27) 6) (10 * (drV (zG (σ.1 27)) - drV (zG (σ.1 27)) / 8 * 8) + (drV (zG (zG (σ.1 27))) - drV (zG (zG (σ.1 27))) / 8 * 8)))) 3 (1 + (drV (zG (upd (zG (zG (σ.1 27))) (7 + dI (σ.1 27) 6) (10 * (drV (zG (σ.1 27)) - drV (zG (σ.1 27)) / 8 * 8) + (drV (zG (zG (σ.1 27))) - drV (zG (zG (σ.1 27))) / 8 * 8)))) - drV (zG (upd (zG (zG (σ.1 27))) (7 + dI (σ.1 27) 6) (10 * (drV (zG (σ.1 27)) - drV (zG (σ.1 27)) / 8 * 8) + (drV (zG (zG (σ.1 27))) - drV (zG (zG (σ.1 27))) / 8 * 8)))) / 20 * 20)) = mkG (σ.1 27) from rfl]
      rw [M_dayGoes (by rw [w_self]; exact hm), bS, fB, nI_1, w_w, w_self, g1]
    · subst hc
      obtain ⟨fv, rfl⟩ : ∃ f, fv = f + 1 := ⟨fv - 1, by omega⟩
      obtain ⟨s1, a1, a2, a3⟩ := C_drawMarket h hw
      obtain ⟨s2, b1, b2, b3⟩ := C_pass1 (Or.inl rfl) a2 hm
      obtain ⟨s3, c1, c2, c3⟩ := g3 1 s2 fv kk rfl (by rw [w_self]; exact b2) (by omega)
      refine ⟨s3, ?_, c2, (a3.tr b3).tr c3⟩
      rw [L_X4_market_38, if_neg e0, a1, bS, b1, bS, fB, nI_1, c1]

theorem Q_market {σ : fk_T} (hI : Inv σ) (x1 : Int32) : QQ (F_X4_market x1) (F_X5_market x1) σ := by
  obtain ⟨hw, hc⟩ := hI.p
  have c1 : ∀ τ, F_X4_within x1 1 20 τ = some (inR x1 1 20, τ) := cR x1 1 20 (by omega) (by omega)
  cases h1 : inR x1 1 20
  · refine QQ.find hI (k := 0) (by omega) ?_ ?_
    · first | (simp only [F_X4_market, c1, h1, bS, fb0, if_true, if_false, Bool.true_eq_false, Bool.false_eq_true, reduceIte]; done) | (simp only [F_X4_market, c1, h1, bS, fb0, if_true, if_false, Bool.true_eq_false, Bool.false_eq_true, reduceIte]; rfl)
    · have m1 : ∀ τ, F_X5_in x1.toInt64 1 20 τ = some (inR x1 1 20, τ) := mR x1 1 20 (by omega) (by omega)
      first | (simp only [F_X5_market, m1, h1, bS, fb0, if_true, if_false, Bool.true_eq_false, Bool.false_eq_true, reduceIte]; done) | (simp only [F_X5_market, m1, h1, bS, fb0, if_true, if_false, Bool.true_eq_false, Bool.false_eq_true, reduceIte]; rfl)
  obtain ⟨n, e1, n1, n2, hn⟩ := inR_of h1
  have m1 : ∀ τ, F_X5_in x1.toInt64 1 20 τ = some (inR x1 1 20, τ) := mR x1 1 20 (by omega) (by omega)
  by_cases hz : σ.1 27 1 + x1 ≤ 99999
  · obtain ⟨G, g1, g2, g3⟩ := M_mkL (by omega : n < 4000) (k := fun y14 y15 s13 => fk_A (s13.1 27) 135 4 (fun y16 => some (y16, s13))) n 0 fk_N (σ := σ) hw (by omega) (by unfold fk_N; omega)
    obtain ⟨s1, a1, a2, a3⟩ := g3 1 σ fk_N (fun y6 y7 s5 => some ((s5.1 1 1), s5)) rfl hc (by unfold fk_N; omega)
    have e27 : s1.1 27 = σ.1 27 := a3.1 27 (by omega)
    obtain ⟨G', g1', g2', g3'⟩ := M_mkL (by omega : n < 4000) (k := fun y14 y15 s13 => fk_A (s13.1 27) 135 4 (fun y16 => some (y16, s13))) n 0 fk_N (σ := s1) (by rw [e27]; exact hw) (by omega) (by unfold fk_N; omega)
    obtain ⟨s1', a1', a2', a3'⟩ := g3' 1 σ fk_N (fun y6 y7 s5 => some ((s5.1 1 1), s5)) rfl (by rw [e27]; exact hc) (by unfold fk_N; omega)
    have es : s1' = s1 := by
      have := a1'.symm.trans a1
      injection this with this
      injection this
    subst es
    refine ⟨G' 4, s1', fk_w s1' 27 G', ?_, ?_, ?_⟩
    · simp only [F_X4_market, c1, h1, bS, fb0, if_true, if_false, Bool.true_eq_false, Bool.false_eq_true, reduceIte]
      rw [hc.c4, if_pos hz, e1]
      refine a1'.trans ?_
      rw [a2'.c1]
    · simp only [F_X5_market, m1, h1, bS, fb0, if_true, if_false, Bool.true_eq_false, Bool.false_eq_true, reduceIte]
      rw [rdG 1 (by omega), e27, if_pos hz, e1]
      refine g1'.trans ?_
      rw [rdG 4 (by omega), w_self]
    · refine hI.mk' ((Eqo.p1 a3').tr (Eqo.w _ (by omega))) ?_ ?_
      · rw [w_self]; exact g2'
      · rw [w_self]; exact a2'.fr (fun a h1 h2 => w_ne _ _ (by omega))
  · refine QQ.find hI (k := 4) (by omega) ?_ ?_
    · simp only [F_X4_market, c1, h1, bS, fb0, if_true, if_false, Bool.true_eq_false, Bool.false_eq_true, reduceIte]
      rw [hc.c4, if_neg hz]
    · simp only [F_X5_market, m1, h1, bS, fb0, if_true, if_false, Bool.true_eq_false, Bool.false_eq_true, reduceIte]
      rw [rdG 1 (by omega), f25_ne _ _ (by omega), if_neg hz]
