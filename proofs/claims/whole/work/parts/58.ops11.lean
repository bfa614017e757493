/-! ===== load, sheet ===== -/
def ldK (f : Nat → Int32) : Nat → Nat → (Nat → Int32) → Nat × (Nat → Int32)
  | 0, i, G => (i, G)
  | m + 1, i, G => if inR (f i) 0 99 = true then ldK f m (i + 1) (upd G (29 + i) (f i)) else (i, G)
theorem ldK_s (f G : Nat → Int32) (m i : Nat) : ldK f (m + 1) i G = if inR (f i) 0 99 = true then ldK f m (i + 1) (upd G (29 + i) (f i)) else (i, G) := rfl
theorem wf_ld (f : Nat → Int32) : ∀ (m i : Nat) {G : Nat → Int32}, WF G → i + m ≤ 8 → WF (ldK f m i G).2
  | 0, _, _, h, _ => h
  | m + 1, i, G, h, hi => by
    rw [ldK_s]
    by_cases q : inR (f i) 0 99 = true
    · rw [if_pos q]
      exact wf_ld f m (i + 1) (h.set (by omega) (by omega) (fun _ _ => by rw [hb_99 (by omega) (by omega)]; exact of_decide_eq_true q)) (by omega)
    · rw [if_neg q]; exact h
theorem C_ldL {s n : Nat} (hs : s < 4) (hn : n ≤ 8) {f : Nat → Int32} : ∀ (m i fu : Nat) {τ : fk_T} {G : Nat → Int32}, (∀ j, j < n → τ.1 24 (40 * s + j) = f j) → CP 1 τ G → i + m = n → m < fu → ∃ τ', L_X4_load_54 fu (nI s) (nI n) (nI i) τ (fun _ y11 _ s9 => some (y11, s9)) = some (nI (ldK f m i G).1, τ') ∧ CP 1 τ' (ldK f m i G).2 ∧ FrP 1 τ τ'
  | m, i, 0, _, _, _, _, _, hf => by omega
  | 0, i, fu + 1, τ, G, _, h, hi, _ => by
    have : i = n := by omega
    subst this
    refine ⟨τ, ?_, h, FrP.rf _ _⟩
    rw [L_X4_load_54, if_pos (by rw [i_le]; omega)]
    rfl
  | m + 1, i, fu + 1, τ, G, hf9, h, hi, hf => by
    have e1 : L_X4_load_54 (fu + 1) (nI s) (nI n) (nI i) τ (fun _ y11 _ s9 => some (y11, s9)) = if inR (f i) 0 99 = true then L_X4_load_54 fu (nI s) (nI n) (nI (i + 1)) (fk_w τ 3 (upd (τ.1 3) (16 + i) (f i))) (fun _ y11 _ s9 => some (y11, s9)) else some (nI i, τ) := by
      rw [L_X4_load_54, if_neg (by rw [i_le, nI_tI (by omega), nI_tI (by omega)]; omega), C_get rfl rfl hs (by omega), bS, hf9 i (by omega)]
      dsimp only
      rw [cR (f i) 0 99 (by omega) (by omega), bS]
      dsimp only
      rw [fS (j := 16 + i) (nl 16 i) (by omega) (by omega), fB, nI_1]
      cases inR (f i) 0 99
      · rw [if_pos (show fk_b false = 0 from rfl), if_neg (by decide)]
      · rw [if_neg fbT, if_pos rfl]
    rw [e1, ldK_s]
    by_cases q : inR (f i) 0 99 = true
    · rw [if_pos q, if_pos q]
      obtain ⟨t1, a1, a2, a3⟩ := C_ldL hs hn (f := f) m (i + 1) fu (τ := fk_w τ 3 (upd (τ.1 3) (16 + i) (f i))) (fun j hj => by rw [w_ne _ _ (by omega)]; exact hf9 j hj) (h.trm (b := 1) (i := 16 + i) (m := 29 + i) (by omega) (by omega) (f i)) (by omega) (by omega)
      exact ⟨t1, a1, a2, (FrP.w _ (by omega)).tr a3⟩
    · rw [if_neg q, if_neg q]
      exact ⟨τ, rfl, h, FrP.rf _ _⟩
theorem M_ldL {s z nn : Nat} (hs : s < 4) (hz : z ≤ 40) (hn : nn ≤ 8) {f : Nat → Int32} : ∀ (m i fu : Nat) {σ : fk_T}, σ.1 34 s = nI z → σ.1 27 0 = nI nn → (∀ j, j < z → σ.1 35 (40 * s + j) = f j) → i + m = min z nn → m < fu → L_X5_load_18 fu (nI s) (nI i) σ (fun _ y11 s9 => some (y11, s9)) = some (nI (ldK f m i (σ.1 27)).1, fk_w σ 27 (ldK f m i (σ.1 27)).2)
  | m, i, 0, _, _, _, _, _, hf => by omega
  | 0, i, fu + 1, σ, h4, h0, _, hi, _ => by
    rw [L_X5_load_18, fA rfl hs (by omega), h4]
    show _ = some (nI i, fk_w σ 27 (σ.1 27))
    rw [w_id rfl]
    by_cases q : z ≤ i
    · rw [if_pos (by rw [i_le, nI_tI (by omega), nI_tI (by omega)]; omega)]
    · rw [if_neg (by rw [i_le, nI_tI (by omega), nI_tI (by omega)]; omega), rdG 0 (by omega), h0, if_pos (by rw [i_le, nI_tI (by omega), nI_tI (by omega)]; omega)]
  | m + 1, i, fu + 1, σ, h4, h0, hf9, hi, hf => by
    rw [L_X5_load_18, fA rfl hs (by omega), h4, if_neg (by rw [i_le, nI_tI (by omega), nI_tI (by omega)]; omega), rdG 0 (by omega), h0, if_neg (by rw [i_le, nI_tI (by omega), nI_tI (by omega)]; omega), fA (j := 40 * s + i) (by rw [nm, nI_add]) (by omega) (by omega), hf9 i (by omega), mR (f i) 0 99 (by omega) (by omega), bS]
    dsimp only
    rw [fA (j := 40 * s + i) (by rw [nm, nI_add]) (by omega) (by omega), hf9 i (by omega), M_sets (a := i) (b := 2) rfl (nlit 2) (by omega) (by omega), bS, fB, nI_1, ldK_s, show 13 + 8 * 2 + i = 29 + i by omega]
    cases q : inR (f i) 0 99
    · rw [if_pos (show fk_b false = 0 from rfl), if_neg (by decide), w_id rfl]
    · rw [if_neg fbT, if_pos rfl, M_ldL hs hz hn (f := f) m (i + 1) fu (by rw [w_ne _ _ (by omega), h4]) (by rw [w_self, u_ne _ _ (by omega), h0]) (fun j hj => by rw [w_ne _ _ (by omega)]; exact hf9 j hj) (by omega) (by omega), w_w, w_self]
theorem fmin_n {a b : Nat} (ha : a < 1000) (hb9 : b < 1000) : fk_min (nI a) (nI b) = nI (min a b) := by
  unfold fk_min
  by_cases q : a ≤ b
  · rw [Nat.min_eq_left q, if_neg (by rw [i_lt, nI_tI (by omega), nI_tI (by omega)]; omega)]
  · rw [Nat.min_eq_right (by omega), if_pos (by rw [i_lt, nI_tI (by omega), nI_tI (by omega)]; omega)]
theorem Q_load {σ : fk_T} (hI : Inv σ) (x1 : Int32) : QQ (F_X4_load x1) (F_X5_load x1) σ := by
  obtain ⟨hw, hc⟩ := hI.p
  have c1 : ∀ τ, F_X4_within x1 0 3 τ = some (inR x1 0 3, τ) := cR x1 0 3 (by omega) (by omega)
  cases h1 : inR x1 0 3
  · refine QQ.find hI (k := 0) (by omega) ?_ ?_
    · first | (simp only [F_X4_load, c1, h1, bS, fb0, if_true, if_false, Bool.true_eq_false, Bool.false_eq_true, reduceIte]; done) | (simp only [F_X4_load, c1, h1, bS, fb0, if_true, if_false, Bool.true_eq_false, Bool.false_eq_true, reduceIte]; rfl)
    · have m1 : F_X5_whyNone x1 (f25 σ 0) = some (0, (f25 σ 0)) := M_why0 h1 _
      first | (simp only [F_X5_load, m1, h1, bS, fb0, if_true, if_false, Bool.true_eq_false, Bool.false_eq_true, reduceIte, show ¬ ((0 : Int32) < 0) by decide]; done) | (simp only [F_X5_load, m1, h1, bS, fb0, if_true, if_false, Bool.true_eq_false, Bool.false_eq_true, reduceIte, show ¬ ((0 : Int32) < 0) by decide]; rfl)
  obtain ⟨s, e1, s1, s2, hs⟩ := inR_of h1
  have hs4 : s < 4 := by omega
  obtain ⟨v1, v2, v3, z, hz, v4, v5⟩ := hI.2.2.2.2 s hs4
  by_cases hm : σ.1 22 s = 0
  · refine QQ.find hI (k := 5) (by omega) ?_ ?_
    · simp only [F_X4_load, c1, h1, C_misT e1 hs4 hm, bS, fb0, if_true, if_false, Bool.true_eq_false, Bool.false_eq_true, reduceIte]
    · have m1 := M_why5 h1 e1 hs4 (τ := f25 σ 5) (by rw [f25_ne _ _ (by omega), ← v1]; exact hm)
      simp only [F_X5_load, m1, bS, show ¬ ((5 : Int32) < 0) by decide, if_false]
  
  obtain ⟨n1, n2, n3⟩ := nG_of hw
  obtain ⟨t1, a1, a2, a3⟩ := C_ldL hs4 (n := min z (nG (σ.1 27))) (by omega) (f := fun j => σ.1 24 (40 * s + j)) (min z (nG (σ.1 27))) 0 fk_N (τ := σ) (fun j hj => rfl) hc (by omega) (by unfold fk_N; omega)
  have e27 : t1.1 27 = σ.1 27 := a3.1 27 (by omega)
  refine ⟨nI (ldK (fun j => σ.1 24 (40 * s + j)) (min z (nG (σ.1 27))) 0 (σ.1 27)).1, t1, fk_w t1 27 (ldK (fun j => σ.1 24 (40 * s + j)) (min z (nG (σ.1 27))) 0 (σ.1 27)).2, ?_, ?_, ?_⟩
  · simp only [F_X4_load, c1, h1, C_misF e1 hs4 hm, bS, fb0, if_true, if_false, Bool.true_eq_false, Bool.false_eq_true, reduceIte]
    rw [fA e1 hs4 (by omega), v4, fB, hc.c6, n1, fmin_n (by omega) (by omega), e1]
    exact a1
  · have m1 := M_whyN h1 e1 hs4 (τ := t1) (by rw [a3.1 33 (by omega), ← v1]; exact hm)
    simp only [F_X5_load, m1, bS, show ((-1 : Int32) < 0) by decide, if_true]
    rw [e1]
    have := M_ldL hs4 hz n2 (f := fun j => σ.1 24 (40 * s + j)) (min z (nG (σ.1 27))) 0 fk_N (σ := t1) (by rw [a3.1 34 (by omega)]; exact v3.symm.trans v4) (by rw [e27]; exact n1) (fun j hj => by rw [a3.1 35 (by omega)]; exact (v5 j hj).symm) (by omega) (by unfold fk_N; omega)
    rw [e27] at this
    exact this
  · refine hI.mk' ((Eqo.p1 a3).tr (Eqo.w _ (by omega))) ?_ ?_
    · rw [w_self]; exact wf_ld _ _ _ hw (by omega)
    · rw [w_self]; exact a2.fr (fun a h1 h2 => w_ne _ _ (by omega))
