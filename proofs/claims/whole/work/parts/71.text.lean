/-! ===== text ===== -/
theorem Inv.tx {σ fin : fk_T} (h : Inv σ) (e : ∀ a, (a = 0 ∨ (11 ≤ a ∧ a ≤ 15) ∨ (22 ≤ a ∧ a ≤ 25) ∨ (30 ≤ a ∧ a ≤ 35)) → fin.1 a = σ.1 a) (e4 : fin.1 26 4 = σ.1 26 4) (e16 : fin.1 16 1 = 0) (e7 : fin.1 26 7 = 0) (hw : WF (fin.1 27)) (hc : CP 1 fin (fin.1 27)) : Inv fin := by
  obtain ⟨-, hk, hf, ht, hs⟩ := h
  exact ⟨⟨hw, hc⟩, hk.fr (e 0 (by omega)) e4 (e 30 (by omega)) (fun a h1 h2 => e a (by omega)), hf.fr (e 25 (by omega)) (e 31 (by omega)), ⟨0, by omega, e16, e7, fun i hi => absurd hi (Nat.not_lt_zero _)⟩, hs.fr (e 22 (by omega)) (e 23 (by omega)) (e 24 (by omega)) (e 33 (by omega)) (e 34 (by omega)) (e 35 (by omega))⟩
theorem Q_text {σ : fk_T} (hI : Inv σ) : QQ F_X4_text F_X5_text σ := by
  obtain ⟨hw, hc⟩ := hI.p
  obtain ⟨t, ht, t1, t2, t3⟩ := hI.2.2.2.1
  obtain ⟨s1, b1, b2, b3⟩ := C_become (b := 6) (c := 1) (Or.inr (Or.inl rfl)) (Or.inl rfl) (by omega) hc
  have e17 : s1.1 17 = σ.1 17 := b3.1 17 (by omega)
  obtain ⟨s2, c1, c2, c3⟩ := C_split ht (τ := s1) (by rw [b3.1 16 (by omega)]; exact t1)
  rw [e17] at c3
  have o2 : ∀ a, a < 6 ∨ (10 < a ∧ a ≠ 19 ∧ a ≠ 20) → s2.1 a = σ.1 a := fun a ha => by rw [c2 a (by omega) (by omega), b3.1 a (by omega)]
  have hc2 : CP 6 s2 (σ.1 27) := b2.fr (fun a h1 h2 => c2 a (by omega) (by omega))
  have hRx : ∀ μ : fk_T, μ.1 26 7 = σ.1 26 7 → μ.1 32 = σ.1 32 → RBy (σ.1 17) t μ := fun μ h1 h2 => ⟨ht, by rw [h1]; exact t2, fun i hi => by rw [h2]; exact t3 i hi⟩
  have A1 := tx_all (B := σ.1 17) (t := t) (τ := s2) (μ := s2) c3 (hRx s2 (by rw [o2 26 (by omega)]) (o2 32 (by omega))) (by rw [o2 27 (by omega)]; exact hw) (by rw [o2 27 (by omega)]; exact hc2)
  have A2 : ∀ μ : fk_T, μ.1 26 7 = σ.1 26 7 → μ.1 32 = σ.1 32 → μ.1 27 = σ.1 27 → txE t s2 μ (F_X1_readItems s2) (F_X5_items μ) := fun μ h1 h2 h3 => tx_all (B := σ.1 17) (t := t) (τ := s2) (μ := μ) c3 (hRx μ h1 h2) (by rw [h3]; exact hw) (by rw [h3]; exact hc2)
  have ec : ∀ r τ', F_X1_readItems s2 = some (r, τ') → F_X4_text σ = (F_X1_hasFault (fk_w τ' 16 (upd (τ'.1 16) 1 0))).bind (fun q5 => if (fk_b q5.1) = 0 then ((F_X0_become 1 6 q5.2).bind (fun q6 => some (r, q6))) else (some (((-1) - (q5.2.1 18 5)), q5.2))) := fun r τ' h => by
    unfold F_X4_text
    rw [b1, bS, c1, bS, h, bS, fB]
  have em : ∀ μ r μ', F_X5_items (fk_w μ 28 (cpG (μ.1 27) (μ.1 28))) = some (r, μ') → F_X5_text μ = if ((fk_w μ' 26 (upd (μ'.1 26) 7 0)).1 26 12) < 0 then (some (r, fk_w μ' 26 (upd (μ'.1 26) 7 0))) else ((F_X5_copies 28 27 (fk_w μ' 26 (upd (μ'.1 26) 7 0))).bind (fun q4 => some (((-1) - (q4.1 26 12)), q4))) := fun μ r μ' h => by
    unfold F_X5_text
    rw [M_copies (by omega), bS, h, bS, fB]
  rcases A1 with ⟨r, τ', μ', a1, -, a3, -, a5, -, -, a8⟩ | ⟨r, -, τ', μ', f, a1, -, af, a4, -, a6, -⟩
  · -- no fault
    have hs4 : ∀ G, CP 6 τ' G → CP 6 (fk_w τ' 16 (upd (τ'.1 16) 1 0)) G := fun G h => h.fr (fun a h1 h2 => w_ne _ _ (by omega))
    obtain ⟨s5, d1, -, d3⟩ := C_become (b := 1) (c := 6) (Or.inl rfl) (Or.inr (Or.inl rfl)) (by omega) (hs4 _ a8)
    have o5 : ∀ a, a = 0 ∨ (10 < a ∧ a ≠ 16 ∧ a ≠ 18 ∧ a ≠ 19 ∧ a ≠ 20) → s5.1 a = σ.1 a := fun a ha => by
      rw [d3.1 a (by omega), w_ne _ _ (by omega), a5 a (by omega), o2 a (by omega)]
    have o16 : s5.1 16 1 = 0 := by rw [d3.1 16 (by omega), w_self, u_self]
    have mu : ∀ a, a ≠ 28 → (fk_w s5 28 (cpG (s5.1 27) (s5.1 28))).1 a = s5.1 a := fun a ha => w_ne _ _ ha
    rcases A2 (fk_w s5 28 (cpG (s5.1 27) (s5.1 28))) (by rw [mu 26 (by omega), o5 26 (by omega)]) (by rw [mu 32 (by omega), o5 32 (by omega)]) (by rw [mu 27 (by omega), o5 27 (by omega)]) with ⟨r2, τ2, μ2, k1, k2, k3, k4, k5, k6, k7, k8⟩ | ⟨r2, -, τ2, μ2, f, k1, -, k3, k4, -⟩
    · have ee := a1.symm.trans k1
      rw [Option.some.injEq, Prod.mk.injEq] at ee
      obtain ⟨rfl, rfl⟩ := ee
      obtain ⟨s6, g1, g2, -⟩ := C_become (b := 1) (c := 6) (Or.inl rfl) (Or.inr (Or.inl rfl)) (by omega) (hs4 _ k8)
      have ee := d1.symm.trans g1
      rw [Option.some.injEq] at ee
      subst ee
      have o9 : ∀ a, a ≠ 26 → a ≠ 27 → a ≠ 28 → (fk_w μ2 26 (upd (μ2.1 26) 7 0)).1 a = s5.1 a := fun a h1 h2 h3 => by rw [w_ne _ _ h1, k6.1.1 a h1 h2, mu a h3]
      have w27 : (fk_w μ2 26 (upd (μ2.1 26) 7 0)).1 27 = μ2.1 27 := w_ne _ _ (by omega)
      refine ⟨r, s5, fk_w μ2 26 (upd (μ2.1 26) 7 0), ?_, ?_, ?_⟩
      · rw [ec r τ' a1, C_hasF0 (by rw [w_ne _ _ (by omega)]; exact a3), bS]
        dsimp only
        rw [if_pos fbF, d1, bS]
      · rw [em s5 r μ2 k2, if_pos (by rw [w_self, u_ne _ _ (by omega), k4]; decide)]
      · refine hI.tx (fun a ha => by rw [o9 a (by omega) (by omega) (by omega), o5 a (by omega)]) ?_ ?_ (by rw [w_self, u_self]) (by rw [w27]; exact k7) (by rw [w27]; exact g2.fr (fun a h1 h2 => o9 a (by omega) (by omega) (by omega)))
        · rw [w_self, u_ne _ _ (by omega), k6.1.2 4 (by omega) (by omega) (by omega) (by omega), mu 26 (by omega), o5 26 (by omega)]
        · rw [o9 16 (by omega) (by omega) (by omega)]; exact o16
    · have ee := a1.symm.trans k1
      rw [Option.some.injEq, Prod.mk.injEq] at ee
      obtain ⟨rfl, rfl⟩ := ee
      rw [a3] at k4
      exact absurd k4.symm (nI_m1 (by omega))
  · -- a fault
    have o4 : ∀ a, a < 6 ∨ (10 < a ∧ a ≠ 16 ∧ a ≠ 18 ∧ a ≠ 19 ∧ a ≠ 20) → (fk_w τ' 16 (upd (τ'.1 16) 1 0)).1 a = σ.1 a := fun a ha => by
      rw [w_ne _ _ (by omega), a6 a (by omega), o2 a (by omega)]
    have o16 : (fk_w τ' 16 (upd (τ'.1 16) 1 0)).1 16 1 = 0 := by rw [w_self, u_self]
    have o18 : (fk_w τ' 16 (upd (τ'.1 16) 1 0)).1 18 5 = τ'.1 18 5 := by rw [w_ne _ _ (by omega)]
    have ec2 := ec r τ' a1
    generalize fk_w τ' 16 (upd (τ'.1 16) 1 0) = s4 at ec2 o4 o16 o18
    have mu : ∀ a, a ≠ 28 → (fk_w s4 28 (cpG (s4.1 27) (s4.1 28))).1 a = s4.1 a := fun a ha => w_ne _ _ ha
    have m28 : (fk_w s4 28 (cpG (s4.1 27) (s4.1 28))).1 28 = cpG (σ.1 27) (s4.1 28) := by rw [w_self, o4 27 (by omega)]
    rcases A2 (fk_w s4 28 (cpG (s4.1 27) (s4.1 28))) (by rw [mu 26 (by omega), o4 26 (by omega)]) (by rw [mu 32 (by omega), o4 32 (by omega)]) (by rw [mu 27 (by omega), o4 27 (by omega)]) with ⟨r2, τ2, μ2, k1, k2, k3, k4, k5, k6, k7, k8⟩ | ⟨r2, r3, τ2, μ2, f2, k1, k2, k3, k4, k5, k6, k7⟩
    · have ee := a1.symm.trans k1
      rw [Option.some.injEq, Prod.mk.injEq] at ee
      obtain ⟨rfl, rfl⟩ := ee
      rw [k3] at a4
      exact absurd a4.symm (nI_m1 (by omega))
    · have ee := a1.symm.trans k1
      rw [Option.some.injEq, Prod.mk.injEq] at ee
      obtain ⟨rfl, rfl⟩ := ee
      have v12 : (fk_w μ2 26 (upd (μ2.1 26) 7 0)).1 26 12 = nI f2 := by rw [w_self, u_ne _ _ (by omega), k5]
      have v28 : (fk_w μ2 26 (upd (μ2.1 26) 7 0)).1 28 = cpG (σ.1 27) (s4.1 28) := by rw [w_ne _ _ (by omega), k7.1.1 28 (by omega) (by omega), m28]
      have v27 : Out (σ.1 27) ((fk_w μ2 26 (upd (μ2.1 26) 7 0)).1 27) := by
        have := k7.2
        rw [mu 27 (by omega), o4 27 (by omega)] at this
        rw [w_ne _ _ (by omega)]
        exact this
      have v7 : (fk_w μ2 26 (upd (μ2.1 26) 7 0)).1 26 7 = 0 := by rw [w_self, u_self]
      have v4 : (fk_w μ2 26 (upd (μ2.1 26) 7 0)).1 26 4 = σ.1 26 4 := by rw [w_self, u_ne _ _ (by omega), k7.1.2 4 (by omega) (by omega) (by omega) (by omega), mu 26 (by omega), o4 26 (by omega)]
      have o9 : ∀ a, a ≠ 26 → a ≠ 27 → a ≠ 28 → (fk_w μ2 26 (upd (μ2.1 26) 7 0)).1 a = s4.1 a := fun a h1 h2 h3 => by rw [w_ne _ _ h1, k7.1.1 a h1 h2, mu a h3]
      have em2 := em s4 r3 μ2 k2
      generalize fk_w μ2 26 (upd (μ2.1 26) 7 0) = μ3 at em2 v12 v28 v27 v7 v4 o9
      have bk : F_X5_copies 28 27 μ3 = some (fk_w μ3 27 (σ.1 27)) := by rw [M_copies (by omega), v28, cp_back v27]
      refine ⟨-1 - nI f2, s4, fk_w μ3 27 (σ.1 27), ?_, ?_, ?_⟩
      · rw [ec2, C_hasF1 (by rw [o18, k4]; exact nI_m1 (by omega)), bS]
        dsimp only
        rw [if_neg fbT, o18, k4]
      · rw [em2, v12, if_neg (by rw [i_lt, nI_tI (by omega), li0]; omega), bk, bS]
        try dsimp only
        rw [w_ne _ _ (by omega), v12]
      · refine hI.tx (fun a ha => by rw [w_ne _ _ (by omega), o9 a (by omega) (by omega) (by omega), o4 a (by omega)]) (by rw [w_ne _ _ (by omega)]; exact v4) (by rw [w_ne _ _ (by omega), o9 16 (by omega) (by omega) (by omega)]; exact o16) (by rw [w_ne _ _ (by omega)]; exact v7) (by rw [w_self]; exact hw) ?_
        rw [w_self]
        exact hc.fr (fun a h1 h2 => by rw [w_ne _ _ (by omega), o9 a (by omega) (by omega) (by omega), o4 a (by omega)])
