/-! ===== image, undo, tear, wipe, hold, status, count, now, potter, change, ahead, as ===== -/
theorem fbT : ¬ fk_b true = 0 := by decide
theorem cp_lo {f g : Nat → Int32} {k : Nat} (h : k < 135) : cpG f g k = f k := if_pos h
theorem Q_wipe {σ : fk_T} (hI : Inv σ) : QQ F_X4_wipe F_X5_wipe σ := by
  obtain ⟨hp, hk, hf, ⟨t, t1, t2, t3, t4⟩, hs⟩ := hI
  refine ⟨nI t, fk_w σ 16 (upd (σ.1 16) 1 0), fk_w (fk_w σ 16 (upd (σ.1 16) 1 0)) 26 (upd (σ.1 26) 7 0), ?_, ?_, ?_⟩
  · unfold F_X4_wipe; simp only [fk_B]; rw [t2]
  · unfold F_X5_wipe; simp only [fk_B]; rw [w_ne _ _ (by omega), t3]
  · have e : ∀ a, a ≠ 16 → a ≠ 26 → (fk_w (fk_w σ 16 (upd (σ.1 16) 1 0)) 26 (upd (σ.1 26) 7 0)).1 a = σ.1 a := fun a h1 h2 => by rw [w_ne _ _ h2, w_ne _ _ h1]
    refine ⟨⟨by rw [e 27 (by omega) (by omega)]; exact hp.1, by rw [e 27 (by omega) (by omega)]; exact hp.2.fr (fun a h1 h2 => e a (by omega) (by omega))⟩, hk.fr (e 0 (by omega) (by omega)) (by rw [w_self, u_ne _ _ (by omega)]) (e 30 (by omega) (by omega)) (fun a h1 h2 => e a (by omega) (by omega)), hf.fr (e 25 (by omega) (by omega)) (e 31 (by omega) (by omega)), ⟨0, by omega, ?_, ?_, fun i hi => by omega⟩, hs.fr (e 22 (by omega) (by omega)) (e 23 (by omega) (by omega)) (e 24 (by omega) (by omega)) (e 33 (by omega) (by omega)) (e 34 (by omega) (by omega)) (e 35 (by omega) (by omega))⟩
    · rw [w_ne _ _ (by omega), w_self, u_self]; rfl
    · rw [w_self, u_self]; rfl
theorem Q_tear {σ : fk_T} (hI : Inv σ) : QQ F_X4_tear F_X5_tear σ := by
  obtain ⟨hp, ⟨k1, k2, k3⟩, hf, ht, hs⟩ := hI
  have e : ∀ a, a ≠ 0 → a ≠ 26 → (fk_w (fk_w σ 0 (upd (σ.1 0) 3 0)) 26 (upd (σ.1 26) 4 0)).1 a = σ.1 a := fun a h1 h2 => by rw [w_ne _ _ h2, w_ne _ _ h1]
  have hi : Inv (fk_w (fk_w σ 0 (upd (σ.1 0) 3 0)) 26 (upd (σ.1 26) 4 0)) := by
    refine ⟨⟨by rw [e 27 (by omega) (by omega)]; exact hp.1, by rw [e 27 (by omega) (by omega)]; exact hp.2.fr (fun a h1 h2 => e a (by omega) (by omega))⟩, ⟨?_, ?_, ?_⟩, hf.fr (e 25 (by omega) (by omega)) (e 31 (by omega) (by omega)), ht.fr (e 16 (by omega) (by omega)) (by rw [w_self, u_ne _ _ (by omega)]) (e 17 (by omega) (by omega)) (e 32 (by omega) (by omega)), hs.fr (e 22 (by omega) (by omega)) (e 23 (by omega) (by omega)) (e 24 (by omega) (by omega)) (e 33 (by omega) (by omega)) (e 34 (by omega) (by omega)) (e 35 (by omega) (by omega))⟩
    · rw [w_self, u_self, w_ne _ _ (by omega), w_self, u_self]
    · rw [w_ne _ _ (by omega), w_self, u_self]; exact Or.inl rfl
    · rw [w_ne _ _ (by omega), w_self, u_self]; intro z; exact absurd z (by decide)
  have em : (fk_w σ 0 (upd (σ.1 0) 3 0)).1 26 = σ.1 26 := w_ne _ _ (by omega)
  by_cases z : σ.1 0 3 = 0
  · refine ⟨0, fk_w σ 0 (upd (σ.1 0) 3 0), fk_w (fk_w σ 0 (upd (σ.1 0) 3 0)) 26 (upd (σ.1 26) 4 0), ?_, ?_, hi⟩
    · unfold F_X4_tear; rw [if_pos z]; rfl
    · unfold F_X5_tear; rw [em, if_pos (k1.symm.trans z)]; rfl
  · refine ⟨1, fk_w σ 0 (upd (σ.1 0) 3 0), fk_w (fk_w σ 0 (upd (σ.1 0) 3 0)) 26 (upd (σ.1 26) 4 0), ?_, ?_, hi⟩
    · unfold F_X4_tear; rw [if_neg z]; rfl
    · unfold F_X5_tear; rw [em, if_neg (fun y => z (k1.trans y))]; rfl
theorem Q_image {σ : fk_T} (hI : Inv σ) : QQ F_X4_image F_X5_image σ := by
  obtain ⟨⟨hw, hc⟩, hk, hf, ht, hs⟩ := hI
  obtain ⟨s1, g1, g2, g3⟩ := C_become (b := 11) (c := 1) (Or.inr (Or.inr rfl)) (Or.inl rfl) (by omega) hc
  have em : (fk_w s1 0 (upd (s1.1 0) 3 1)).1 27 = σ.1 27 := by rw [w_ne _ _ (by omega), g3.1 27 (by omega)]
  let s2 := fk_w s1 0 (upd (s1.1 0) 3 1)
  let s3 := fk_w s2 30 (cpG (s2.1 27) (s2.1 30))
  refine ⟨1, s2, fk_w s3 26 (upd (s3.1 26) 4 1), ?_, ?_, ?_⟩
  · unfold F_X4_image; rw [g1, bS]; rfl
  · unfold F_X5_image; rw [M_copies (by omega), bS]; rfl
  · have e : ∀ a, a ≠ 0 → a ≠ 26 → a ≠ 30 → (a < 11 ∨ 15 < a) → (fk_w s3 26 (upd (s3.1 26) 4 1)).1 a = σ.1 a := fun a h1 h2 h3 h4 => by rw [w_ne _ _ h2, w_ne _ _ h3, w_ne _ _ h1, g3.1 a (by omega)]
    have e30 : (fk_w s3 26 (upd (s3.1 26) 4 1)).1 30 = cpG (σ.1 27) (s2.1 30) := by rw [w_ne _ _ (by omega), w_self, em]
    have e26 : s3.1 26 = σ.1 26 := by rw [w_ne _ _ (by omega), w_ne _ _ (by omega), g3.1 26 (by omega)]
    refine ⟨⟨by rw [e 27 (by omega) (by omega) (by omega) (by omega)]; exact hw, by rw [e 27 (by omega) (by omega) (by omega) (by omega)]; exact hc.fr (fun a h1 h2 => e a (by omega) (by omega) (by omega) (by omega))⟩, ⟨?_, ?_, fun _ => ⟨?_, ?_⟩⟩, hf.fr (e 25 (by omega) (by omega) (by omega) (by omega)) (e 31 (by omega) (by omega) (by omega) (by omega)), ht.fr (e 16 (by omega) (by omega) (by omega) (by omega)) (by rw [w_self, u_ne _ _ (by omega), e26]) (e 17 (by omega) (by omega) (by omega) (by omega)) (e 32 (by omega) (by omega) (by omega) (by omega)), hs.fr (e 22 (by omega) (by omega) (by omega) (by omega)) (e 23 (by omega) (by omega) (by omega) (by omega)) (e 24 (by omega) (by omega) (by omega) (by omega)) (e 33 (by omega) (by omega) (by omega) (by omega)) (e 34 (by omega) (by omega) (by omega) (by omega)) (e 35 (by omega) (by omega) (by omega) (by omega))⟩
    · rw [w_self, u_self, w_ne _ _ (by omega), w_ne _ _ (by omega), w_self, u_self]
    · rw [w_ne _ _ (by omega), w_ne _ _ (by omega), w_self, u_self]; exact Or.inr rfl
    · rw [e30]; exact hw.cong (fun k hk => cp_lo hk)
    · rw [e30]
      exact (g2.fr (fun a h1 h2 => by rw [w_ne _ _ (by omega), w_ne _ _ (by omega), w_ne _ _ (by omega)])).cong (fun k hk => cp_lo hk)
theorem Q_undo {σ : fk_T} (hI : Inv σ) : QQ F_X4_undo F_X5_undo σ := by
  obtain ⟨k1, k2, k3⟩ := hI.2.1
  by_cases z : σ.1 0 3 = 0
  · refine QQ.find hI (k := 3) (by omega) ?_ ?_
    · unfold F_X4_undo; rw [if_pos z]
    · unfold F_X5_undo; rw [f25_ne _ _ (by omega), if_pos (k1.symm.trans z)]
  · obtain ⟨hw, hc⟩ := k3 (k2.resolve_left z)
    obtain ⟨s1, g1, g2, g3⟩ := C_become (b := 1) (c := 11) (Or.inl rfl) (Or.inr (Or.inr rfl)) (by omega) hc
    have e30 : s1.1 30 = σ.1 30 := g3.1 30 (by omega)
    refine ⟨σ.1 30 1, s1, fk_w s1 27 (cpG (s1.1 30) (s1.1 27)), ?_, ?_, ?_⟩
    · unfold F_X4_undo; rw [if_neg z, g1, bS, g2.c4]
    · unfold F_X5_undo
      rw [if_neg (by rw [g3.1 26 (by omega), ← k1]; exact z), M_copies (by omega), bS, fA (j := 1) (nlit 1) (by omega) (by omega), w_self, cp_lo (by omega), e30]
    · refine hI.mk' ((Eqo.p1 g3).tr (Eqo.w _ (by omega))) ?_ ?_
      · rw [w_self, e30]; exact hw.cong (fun k hk => cp_lo hk)
      · rw [w_self, e30]; exact (g2.fr (fun a h1 h2 => w_ne _ _ (by omega))).cong (fun k hk => cp_lo hk)
/-! sums -/
def smK (f : Nat → Int32) : Nat → Nat → Int32 → Int32
  | 0, _, s => s
  | m + 1, i, s => smK f m (i + 1) (s + f i)
theorem smK_eq {f g : Nat → Int32} {n : Nat} (h : ∀ i, i < n → f i = g i) : ∀ (m i : Nat) (s : Int32), i + m ≤ n → smK f m i s = smK g m i s
  | 0, _, _, _ => rfl
  | m + 1, i, s, hi => by unfold smK; rw [h i (by omega)]; exact smK_eq h m (i + 1) _ (by omega)
theorem C_sumL {c n r : Nat} (hn : n ≤ 8) (hr : r ≤ 40) {σ : fk_T} {G : Nat → Int32} (h : CP c σ G) (hG : G 0 = nI n) {k : Int32 → Int32 → Int32 → fk_T → Option (Int32 × fk_T)} : ∀ (m i fu : Nat) (s : Int32), i + m = n → m < fu → L_X0_sumOf_4 c fu (nI r) s (nI i) σ k = k (nI r) (smK (fun j => G (13 + r + j)) m i s) (nI n) σ
  | m, i, 0, s, _, hf => by omega
  | 0, i, fu + 1, s, hi, _ => by
    have : i = n := by omega
    subst this
    rw [L_X0_sumOf_4, h.c6, hG, if_pos (by rw [i_le]; omega)]
    rfl
  | m + 1, i, fu + 1, s, hi, hf => by
    rw [L_X0_sumOf_4, h.c6, hG, if_neg (by rw [i_le, nI_tI (by omega), nI_tI (by omega)]; omega), rT h (13 + r + i) (j := r + i) (nI_add r i) (by omega) (by omega)]
    simp only [fk_B]
    rw [nI_1, C_sumL hn hr h hG m (i + 1) fu _ (by omega) (by omega)]
    rfl
theorem C_sumOf {c r : Nat} (hr : r ≤ 40) {σ : fk_T} {G : Nat → Int32} (h : CP c σ G) (hw : WF G) : F_X0_sumOf c (nI r) σ = some (smK (fun j => G (13 + r + j)) (nG G) 0 0, σ) := by
  obtain ⟨n1, n2, n3⟩ := nG_of hw
  unfold F_X0_sumOf
  rw [show L_X0_sumOf_4 c fk_N (nI r) 0 0 σ (fun y5 y6 y7 s4 => some (y6, s4)) = L_X0_sumOf_4 c fk_N (nI r) 0 (nI 0) σ (fun y5 y6 y7 s4 => some (y6, s4)) from rfl, C_sumL n2 hr h n1 (nG G) 0 fk_N 0 (by omega) (by unfold fk_N; omega)]
theorem M_sumL {n b : Nat} (hn : n ≤ 8) (hb6 : b < 6) {σ : fk_T} (hG : σ.1 27 0 = nI n) {k : Int32 → Int32 → Int32 → fk_T → Option (Int32 × fk_T)} : ∀ (m i fu : Nat) (s : Int32), i + m = n → m < fu → L_X5_sumOf_4 fu (nI b) s (nI i) σ k = k (nI b) (smK (fun j => σ.1 27 (13 + 8 * b + j)) m i s) (nI n) σ
  | m, i, 0, s, _, hf => by omega
  | 0, i, fu + 1, s, hi, _ => by
    have : i = n := by omega
    subst this
    rw [L_X5_sumOf_4, fA (j := 0) (nlit 0) (by omega) (by omega), hG, if_pos (by rw [i_le]; omega)]
    rfl
  | m + 1, i, fu + 1, s, hi, hf => by
    rw [L_X5_sumOf_4, fA (j := 0) (nlit 0) (by omega) (by omega), hG, if_neg (by rw [i_le, nI_tI (by omega), nI_tI (by omega)]; omega), M_its rfl rfl (by omega) hb6, bS]
    simp only [fk_B]
    rw [nI_1, M_sumL hn hb6 hG m (i + 1) fu _ (by omega) (by omega)]
    rfl
theorem M_sumOf {b : Nat} (hb6 : b < 6) {σ : fk_T} (hw : WF (σ.1 27)) : F_X5_sumOf (nI b) σ = some (smK (fun j => σ.1 27 (13 + 8 * b + j)) (nG (σ.1 27)) 0 0, σ) := by
  obtain ⟨n1, n2, n3⟩ := nG_of hw
  unfold F_X5_sumOf
  rw [show L_X5_sumOf_4 fk_N (nI b) 0 0 σ (fun y6 y7 y8 s5 => some (y7, s5)) = L_X5_sumOf_4 fk_N (nI b) 0 (nI 0) σ (fun y6 y7 y8 s5 => some (y7, s5)) from rfl, M_sumL n2 hb6 n1 (nG (σ.1 27)) 0 fk_N 0 (by omega) (by unfold fk_N; omega)]
theorem l7 : (7 : Int32).toInt = 7 := by decide
theorem l10 : (10 : Int32).toInt = 10 := by decide
theorem C_statL {σ : fk_T} {k : Int32 → Int32 → fk_T → Option (Int32 × fk_T)} : ∀ (m i fu : Nat) (s : Int32), i + m = 7 → m < fu → L_X4_status_31 fu s (nI i) σ k = k (smK (σ.1 25) m i s) (nI 7) σ
  | m, i, 0, s, _, hf => by omega
  | 0, i, fu + 1, s, hi, _ => by
    have : i = 7 := by omega
    subst this
    rw [L_X4_status_31, if_pos (by decide)]
    rfl
  | m + 1, i, fu + 1, s, hi, hf => by
    rw [L_X4_status_31, if_neg (by rw [i_le, nI_tI (by omega), l7]; omega), fA rfl (by omega) (by omega)]
    simp only [fk_B]
    rw [nI_1, C_statL m (i + 1) fu _ (by omega) (by omega)]
    rfl
theorem M_statL {σ : fk_T} {x : Int32} {k : Int32 → Int32 → Int32 → fk_T → Option (Int32 × fk_T)} : ∀ (m i fu : Nat) (s : Int32), i + m = 7 → m < fu → L_X5_status_24 fu x s (nI i) σ k = k x (smK (σ.1 31) m i s) (nI 7) σ
  | m, i, 0, s, _, hf => by omega
  | 0, i, fu + 1, s, hi, _ => by
    have : i = 7 := by omega
    subst this
    rw [L_X5_status_24, if_pos (by decide)]
    rfl
  | m + 1, i, fu + 1, s, hi, hf => by
    rw [L_X5_status_24, if_neg (by rw [i_le, nI_tI (by omega), l7]; omega), fA rfl (by omega) (by omega)]
    simp only [fk_B]
    rw [nI_1, M_statL m (i + 1) fu _ (by omega) (by omega)]
    rfl
theorem Q_status {σ : fk_T} (hI : Inv σ) (x1 : Int32) : QQ (F_X4_status x1) (F_X5_status x1) σ := by
  have hf := hI.2.2.1
  have c1 : ∀ τ, F_X4_within x1 (-1) 6 τ = some (decide (-1 ≤ x1.toInt ∧ x1.toInt ≤ 6), τ) := fun τ => by rw [C_within, lim1, show (6 : Int32).toInt = 6 by decide]
  have m1 : ∀ τ, F_X5_in x1.toInt64 (-1) 6 τ = some (decide (-1 ≤ x1.toInt ∧ x1.toInt ≤ 6), τ) := fun τ => by rw [M_in, lLm1, show (6 : Int64).toInt = 6 by decide, Int32.toInt_toInt64]
  have ml : ∀ (τ : fk_T), L_X5_status_24 fk_N x1 0 0 τ (fun y6 y7 y8 s5 => if 0 ≤ y6 then (fk_A (s5.1 31) 7 y6 (fun y9 => some (y9, s5))) else (some (y7, s5))) = if 0 ≤ x1 then (fk_A (τ.1 31) 7 x1 (fun y9 => some (y9, τ))) else (some (smK (τ.1 31) 7 0 0, τ)) := fun τ => by
    rw [show L_X5_status_24 fk_N x1 0 0 τ (fun y6 y7 y8 s5 => if 0 ≤ y6 then (fk_A (s5.1 31) 7 y6 (fun y9 => some (y9, s5))) else (some (y7, s5))) = L_X5_status_24 fk_N x1 0 (nI 0) τ (fun y6 y7 y8 s5 => if 0 ≤ y6 then (fk_A (s5.1 31) 7 y6 (fun y9 => some (y9, s5))) else (some (y7, s5))) from rfl, M_statL 7 0 fk_N 0 (by omega) (by unfold fk_N; omega)]
  cases h1 : decide (-1 ≤ x1.toInt ∧ x1.toInt ≤ 6)
  · refine QQ.find hI (k := 0) (by omega) ?_ ?_
    · unfold F_X4_status; rw [c1, bS, h1]; rfl
    · unfold F_X5_status; rw [m1, bS, h1]; rfl
  · have h2 := of_decide_eq_true h1
    by_cases h3 : x1.toInt < 0
    · refine QQ.same hI (r := smK (σ.1 25) 7 0 0) ?_ ?_
      · unfold F_X4_status
        rw [c1, bS, h1, if_neg (show ¬ fk_b (true, σ).1 = 0 from fbT), if_pos (by rw [i_lt, li0]; exact h3), show L_X4_status_31 fk_N 0 0 σ (fun y6 y7 s5 => some (y6, s5)) = L_X4_status_31 fk_N 0 (nI 0) σ (fun y6 y7 s5 => some (y6, s5)) from rfl, C_statL 7 0 fk_N 0 (by omega) (by unfold fk_N; omega)]
      · unfold F_X5_status
        rw [m1, bS, h1, if_neg (show ¬ fk_b (true, σ).1 = 0 from fbT), ml, if_neg (by rw [i_le, li0]; omega), smK_eq (g := σ.1 25) (n := 7) (fun i hi => (hf i hi).symm) 7 0 0 (by omega)]
    · obtain ⟨p, e, hp⟩ := toN (x := x1) (by omega)
      refine QQ.same hI (r := σ.1 25 p) ?_ ?_
      · unfold F_X4_status
        rw [c1, bS, h1, if_neg (show ¬ fk_b (true, σ).1 = 0 from fbT), if_neg (by rw [i_lt, li0]; exact h3), fA e (by omega) (by omega)]
      · unfold F_X5_status
        rw [m1, bS, h1, if_neg (show ¬ fk_b (true, σ).1 = 0 from fbT), ml, if_pos (by rw [i_le, li0]; omega), fA e (by omega) (by omega), hf p (by omega)]

