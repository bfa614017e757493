/-! ===== how all begins ===== -/
def G00 : Nat → Int32 := fun j => if j = 2 then 1 else if j = 3 then 10 else if 7 ≤ j ∧ j < 13 then 1 else if 61 ≤ j ∧ j < 125 then 20 else 0
theorem in_104 {k : Int32 → fk_T → Option fk_T} : ∀ (m i fu : Nat) {σ : fk_T}, i + m = 6 → m < fu → L_X5_init_104 fu (nI i) σ k = k (nI 6) (fk_w σ 27 (fun j => if 7 + i ≤ j ∧ j < 13 then 1 else σ.1 27 j))
  | m, i, 0, _, _, hf => by omega
  | 0, i, fu + 1, σ, hi, _ => by
    have : i = 6 := by omega
    subst this
    rw [L_X5_init_104, if_pos (by decide), w_id (by funext j; rw [if_neg (by omega)])]
  | m + 1, i, fu + 1, σ, hi, hf => by
    rw [L_X5_init_104, if_neg (by rw [i_le, nI_tI (by omega), l6]; omega), fS (j := 7 + i) (nl 7 i) (by omega) (by omega), fB, nI_1, in_104 m (i + 1) fu (by omega) (by omega), w_w, w_self]
    congr 2
    funext j
    by_cases e : j = 7 + i
    · subst e; rw [if_neg (by omega), if_pos (by omega), u_self]
    · rw [u_ne _ _ e]
      by_cases e2 : 7 + (i + 1) ≤ j ∧ j < 13
      · rw [if_pos e2, if_pos (by omega)]
      · rw [if_neg e2, if_neg (by omega)]
theorem l64 : (64 : Int32).toInt = 64 := by decide
theorem in_128 {k : Int32 → fk_T → Option fk_T} : ∀ (m i fu : Nat) {σ : fk_T}, i + m = 64 → m < fu → L_X5_init_128 fu (nI i) σ k = k (nI 64) (fk_w σ 27 (fun j => if 61 + i ≤ j ∧ j < 125 then 20 else σ.1 27 j))
  | m, i, 0, _, _, hf => by omega
  | 0, i, fu + 1, σ, hi, _ => by
    have : i = 64 := by omega
    subst this
    rw [L_X5_init_128, if_pos (by decide), w_id (by funext j; rw [if_neg (by omega)])]
  | m + 1, i, fu + 1, σ, hi, hf => by
    rw [L_X5_init_128, if_neg (by rw [i_le, nI_tI (by omega), l64]; omega), fS (j := 61 + i) (nl 61 i) (by omega) (by omega), fB, nI_1, in_128 m (i + 1) fu (by omega) (by omega), w_w, w_self]
    congr 2
    funext j
    by_cases e : j = 61 + i
    · subst e; rw [if_neg (by omega), if_pos (by omega), u_self]
    · rw [u_ne _ _ e]
      by_cases e2 : 61 + (i + 1) ≤ j ∧ j < 125
      · rw [if_pos e2, if_pos (by omega)]
      · rw [if_neg e2, if_neg (by omega)]
theorem in_all : F_X5_init hs_1 = some (fk_w hs_1 27 G00) := by
  unfold F_X5_init
  rw [fS (j := 2) (nlit 2) (by omega) (by omega), fS (j := 3) (nlit 3) (by omega) (by omega), show (0 : Int32) = nI 0 from rfl, in_104 6 0 fk_N (by omega) (by unfold fk_N; omega), in_128 64 0 fk_N (by omega) (by unfold fk_N; omega), w_w, w_w, w_w, w_self, w_self, w_self]
  congr 2
  funext j
  show (if 61 + 0 ≤ j ∧ j < 125 then 20 else if 7 + 0 ≤ j ∧ j < 13 then 1 else upd (upd (hs_1.1 27) 2 1) 3 10 j) = G00 j
  have h0 : hs_1.1 27 j = 0 := rfl
  unfold G00 upd
  rw [h0]
  repeat' split
  all_goals first | rfl | (exfalso; omega)
theorem g0_w : ∀ k : Fin 125, k.val ≠ 2 → (k.val < 7 ∨ 13 ≤ k.val) → 0 ≤ (G00 k.val).toInt ∧ (G00 k.val).toInt ≤ hb k.val := by decide +kernel
theorem g0_s : ∀ j : Fin 10, 0 ≤ (G00 (125 + j.val)).toInt ∧ (G00 (125 + j.val)).toInt ≤ (G00 0).toInt := by decide +kernel
theorem g0_1 : ∀ i : Fin 7, hs_1.1 1 i.val = G00 (ob i.val) := by decide +kernel
theorem g0_2 : ∀ i : Fin 6, hs_1.1 2 i.val = G00 (7 + i.val) := by decide +kernel
theorem g0_3 : ∀ i : Fin 48, hs_1.1 3 i.val = G00 (13 + i.val) := by decide +kernel
theorem g0_4 : ∀ i : Fin 64, hs_1.1 4 i.val = G00 (61 + i.val) := by decide +kernel
theorem g0_5 : ∀ i : Fin 10, hs_1.1 5 i.val + 1 = G00 (125 + i.val) := by decide +kernel
theorem in_inv : Inv (fk_w hs_1 27 G00) := by
  have e : ∀ a, a ≠ 27 → (fk_w hs_1 27 G00).1 a = hs_1.1 a := fun a ha => w_ne _ _ ha
  refine ⟨⟨?_, ?_⟩, ⟨?_, ?_, ?_⟩, fun i hi => ?_, ⟨0, by omega, ?_, ?_, fun i hi => absurd hi (Nat.not_lt_zero _)⟩, fun s hs => ⟨?_, Or.inl ?_, ?_, 0, by omega, ?_, fun i hi => absurd hi (Nat.not_lt_zero _)⟩⟩
  · rw [w_self]
    exact ⟨fun k h1 h2 h3 => g0_w ⟨k, h1⟩ h2 h3, fun j hj => g0_s ⟨j, hj⟩⟩
  · rw [w_self]
    refine ⟨fun i hi => ?_, fun i hi => ?_, fun i hi => ?_, fun i hi => ?_, fun i hi => ?_⟩
    · rw [e 1 (by omega)]; exact g0_1 ⟨i, hi⟩
    · rw [e (1 + 1) (by omega)]; exact g0_2 ⟨i, hi⟩
    · rw [e (1 + 2) (by omega)]; exact g0_3 ⟨i, hi⟩
    · rw [e (1 + 3) (by omega)]; exact g0_4 ⟨i, hi⟩
    · rw [e (1 + 4) (by omega)]; exact g0_5 ⟨i, hi⟩
  · rw [e 0 (by omega), e 26 (by omega)]; rfl
  · rw [e 0 (by omega)]; exact Or.inl rfl
  · rw [e 0 (by omega)]
    intro z
    exact absurd (show (0 : Int32) = 1 from z) (by decide)
  · rw [e 25 (by omega), e 31 (by omega)]; rfl
  · rw [e 16 (by omega)]; rfl
  · rw [e 26 (by omega)]; rfl
  · rw [e 22 (by omega), e 33 (by omega)]; rfl
  · rw [e 22 (by omega)]; rfl
  · rw [e 23 (by omega), e 34 (by omega)]; rfl
  · rw [e 23 (by omega)]; rfl
/-! ===== the law's loop ===== -/
theorem law_0 {xs : Nat → Int32} {L i : Nat} (hL : L ≤ 3072) (hi : i + 6 ≤ L) {σ : fk_T} {f4 f5 : fk_T → Option (Int32 × fk_T)} (hQ : QQ f4 f5 σ) : ∃ σ2, Inv σ2 ∧ ∀ K : Int32 → fk_T → Option (Bool × fk_T), (f4 σ).bind (fun q => (f5 q.2).bind (fun r => if q.1 = r.1 then (fk_B (nI i + 6) (fun w => K w r.2)) else (some (false, r.2)))) = K (nI (i + 6)) σ2 := by
  obtain ⟨r, s1, s2, h1, h2, h3⟩ := hQ 
  refine ⟨s2, h3, fun K => ?_⟩
  rw [h1, bS]
  dsimp only
  rw [h2, bS]
  dsimp only
  rw [if_pos rfl, fB]
  rw [show nI i + 6 = nI (i + 6) from nI_add i 6]
theorem law_1 {xs : Nat → Int32} {L i : Nat} (hL : L ≤ 3072) (hi : i + 6 ≤ L) {σ : fk_T} {f4 f5 : Int32 → fk_T → Option (Int32 × fk_T)} (hQ : ∀ a1, QQ (f4 a1) (f5 a1) σ) : ∃ σ2, Inv σ2 ∧ ∀ K : Int32 → fk_T → Option (Bool × fk_T), fk_A xs L (nI i + 1) (fun y1 => (f4 y1 σ).bind (fun q => fk_A xs L (nI i + 1) (fun z1 => (f5 z1 q.2).bind (fun r => if q.1 = r.1 then (fk_B (nI i + 6) (fun w => K w r.2)) else (some (false, r.2)))))) = K (nI (i + 6)) σ2 := by
  obtain ⟨r, s1, s2, h1, h2, h3⟩ := hQ (xs (i + 1))
  refine ⟨s2, h3, fun K => ?_⟩
  rw [fA (x := nI i + 1) (j := i + 1) (nI_add i 1) (by omega) (by omega), h1, bS]
  dsimp only
  rw [fA (x := nI i + 1) (j := i + 1) (nI_add i 1) (by omega) (by omega), h2, bS]
  dsimp only
  rw [if_pos rfl, fB]
  rw [show nI i + 6 = nI (i + 6) from nI_add i 6]
theorem law_2 {xs : Nat → Int32} {L i : Nat} (hL : L ≤ 3072) (hi : i + 6 ≤ L) {σ : fk_T} {f4 f5 : Int32 → Int32 → fk_T → Option (Int32 × fk_T)} (hQ : ∀ a1 a2, QQ (f4 a1 a2) (f5 a1 a2) σ) : ∃ σ2, Inv σ2 ∧ ∀ K : Int32 → fk_T → Option (Bool × fk_T), fk_A xs L (nI i + 1) (fun y1 => fk_A xs L (nI i + 2) (fun y2 => (f4 y1 y2 σ).bind (fun q => fk_A xs L (nI i + 1) (fun z1 => fk_A xs L (nI i + 2) (fun z2 => (f5 z1 z2 q.2).bind (fun r => if q.1 = r.1 then (fk_B (nI i + 6) (fun w => K w r.2)) else (some (false, r.2)))))))) = K (nI (i + 6)) σ2 := by
  obtain ⟨r, s1, s2, h1, h2, h3⟩ := hQ (xs (i + 1)) (xs (i + 2))
  refine ⟨s2, h3, fun K => ?_⟩
  rw [fA (x := nI i + 1) (j := i + 1) (nI_add i 1) (by omega) (by omega), fA (x := nI i + 2) (j := i + 2) (nI_add i 2) (by omega) (by omega), h1, bS]
  dsimp only
  rw [fA (x := nI i + 1) (j := i + 1) (nI_add i 1) (by omega) (by omega), fA (x := nI i + 2) (j := i + 2) (nI_add i 2) (by omega) (by omega), h2, bS]
  dsimp only
  rw [if_pos rfl, fB]
  rw [show nI i + 6 = nI (i + 6) from nI_add i 6]
theorem law_3 {xs : Nat → Int32} {L i : Nat} (hL : L ≤ 3072) (hi : i + 6 ≤ L) {σ : fk_T} {f4 f5 : Int32 → Int32 → Int32 → fk_T → Option (Int32 × fk_T)} (hQ : ∀ a1 a2 a3, QQ (f4 a1 a2 a3) (f5 a1 a2 a3) σ) : ∃ σ2, Inv σ2 ∧ ∀ K : Int32 → fk_T → Option (Bool × fk_T), fk_A xs L (nI i + 1) (fun y1 => fk_A xs L (nI i + 2) (fun y2 => fk_A xs L (nI i + 3) (fun y3 => (f4 y1 y2 y3 σ).bind (fun q => fk_A xs L (nI i + 1) (fun z1 => fk_A xs L (nI i + 2) (fun z2 => fk_A xs L (nI i + 3) (fun z3 => (f5 z1 z2 z3 q.2).bind (fun r => if q.1 = r.1 then (fk_B (nI i + 6) (fun w => K w r.2)) else (some (false, r.2)))))))))) = K (nI (i + 6)) σ2 := by
  obtain ⟨r, s1, s2, h1, h2, h3⟩ := hQ (xs (i + 1)) (xs (i + 2)) (xs (i + 3))
  refine ⟨s2, h3, fun K => ?_⟩
  rw [fA (x := nI i + 1) (j := i + 1) (nI_add i 1) (by omega) (by omega), fA (x := nI i + 2) (j := i + 2) (nI_add i 2) (by omega) (by omega), fA (x := nI i + 3) (j := i + 3) (nI_add i 3) (by omega) (by omega), h1, bS]
  dsimp only
  rw [fA (x := nI i + 1) (j := i + 1) (nI_add i 1) (by omega) (by omega), fA (x := nI i + 2) (j := i + 2) (nI_add i 2) (by omega) (by omega), fA (x := nI i + 3) (j := i + 3) (nI_add i 3) (by omega) (by omega), h2, bS]
  dsimp only
  rw [if_pos rfl, fB]
  rw [show nI i + 6 = nI (i + 6) from nI_add i 6]
theorem law_4 {xs : Nat → Int32} {L i : Nat} (hL : L ≤ 3072) (hi : i + 6 ≤ L) {σ : fk_T} {f4 f5 : Int32 → Int32 → Int32 → Int32 → fk_T → Option (Int64 × fk_T)} (hQ : ∀ a1 a2 a3 a4, QL (f4 a1 a2 a3 a4) (f5 a1 a2 a3 a4) σ) : ∃ σ2, Inv σ2 ∧ ∀ K : Int32 → fk_T → Option (Bool × fk_T), fk_A xs L (nI i + 1) (fun y1 => fk_A xs L (nI i + 2) (fun y2 => fk_A xs L (nI i + 3) (fun y3 => fk_A xs L (nI i + 4) (fun y4 => (f4 y1 y2 y3 y4 σ).bind (fun q => fk_A xs L (nI i + 1) (fun z1 => fk_A xs L (nI i + 2) (fun z2 => fk_A xs L (nI i + 3) (fun z3 => fk_A xs L (nI i + 4) (fun z4 => (f5 z1 z2 z3 z4 q.2).bind (fun r => if (lg_cmp q.1 r.1) = 0 then (fk_B (nI i + 6) (fun w => K w r.2)) else (some (false, r.2)))))))))))) = K (nI (i + 6)) σ2 := by
  obtain ⟨r, s1, s2, h1, h2, h3⟩ := hQ (xs (i + 1)) (xs (i + 2)) (xs (i + 3)) (xs (i + 4))
  refine ⟨s2, h3, fun K => ?_⟩
  rw [fA (x := nI i + 1) (j := i + 1) (nI_add i 1) (by omega) (by omega), fA (x := nI i + 2) (j := i + 2) (nI_add i 2) (by omega) (by omega), fA (x := nI i + 3) (j := i + 3) (nI_add i 3) (by omega) (by omega), fA (x := nI i + 4) (j := i + 4) (nI_add i 4) (by omega) (by omega), h1, bS]
  dsimp only
  rw [fA (x := nI i + 1) (j := i + 1) (nI_add i 1) (by omega) (by omega), fA (x := nI i + 2) (j := i + 2) (nI_add i 2) (by omega) (by omega), fA (x := nI i + 3) (j := i + 3) (nI_add i 3) (by omega) (by omega), fA (x := nI i + 4) (j := i + 4) (nI_add i 4) (by omega) (by omega), h2, bS]
  dsimp only
  rw [if_pos (cmpl_eq.mpr rfl), fB]
  rw [show nI i + 6 = nI (i + 6) from nI_add i 6]
theorem law_5 {xs : Nat → Int32} {L i : Nat} (hL : L ≤ 3072) (hi : i + 6 ≤ L) {σ : fk_T} {f4 f5 : Int32 → Int32 → Int32 → Int32 → Int32 → fk_T → Option (Int32 × fk_T)} (hQ : ∀ a1 a2 a3 a4 a5, QQ (f4 a1 a2 a3 a4 a5) (f5 a1 a2 a3 a4 a5) σ) : ∃ σ2, Inv σ2 ∧ ∀ K : Int32 → fk_T → Option (Bool × fk_T), fk_A xs L (nI i + 1) (fun y1 => fk_A xs L (nI i + 2) (fun y2 => fk_A xs L (nI i + 3) (fun y3 => fk_A xs L (nI i + 4) (fun y4 => fk_A xs L (nI i + 5) (fun y5 => (f4 y1 y2 y3 y4 y5 σ).bind (fun q => fk_A xs L (nI i + 1) (fun z1 => fk_A xs L (nI i + 2) (fun z2 => fk_A xs L (nI i + 3) (fun z3 => fk_A xs L (nI i + 4) (fun z4 => fk_A xs L (nI i + 5) (fun z5 => (f5 z1 z2 z3 z4 z5 q.2).bind (fun r => if q.1 = r.1 then (fk_B (nI i + 6) (fun w => K w r.2)) else (some (false, r.2)))))))))))))) = K (nI (i + 6)) σ2 := by
  obtain ⟨r, s1, s2, h1, h2, h3⟩ := hQ (xs (i + 1)) (xs (i + 2)) (xs (i + 3)) (xs (i + 4)) (xs (i + 5))
  refine ⟨s2, h3, fun K => ?_⟩
  rw [fA (x := nI i + 1) (j := i + 1) (nI_add i 1) (by omega) (by omega), fA (x := nI i + 2) (j := i + 2) (nI_add i 2) (by omega) (by omega), fA (x := nI i + 3) (j := i + 3) (nI_add i 3) (by omega) (by omega), fA (x := nI i + 4) (j := i + 4) (nI_add i 4) (by omega) (by omega), fA (x := nI i + 5) (j := i + 5) (nI_add i 5) (by omega) (by omega), h1, bS]
  dsimp only
  rw [fA (x := nI i + 1) (j := i + 1) (nI_add i 1) (by omega) (by omega), fA (x := nI i + 2) (j := i + 2) (nI_add i 2) (by omega) (by omega), fA (x := nI i + 3) (j := i + 3) (nI_add i 3) (by omega) (by omega), fA (x := nI i + 4) (j := i + 4) (nI_add i 4) (by omega) (by omega), fA (x := nI i + 5) (j := i + 5) (nI_add i 5) (by omega) (by omega), h2, bS]
  dsimp only
  rw [if_pos rfl, fB]
  rw [show nI i + 6 = nI (i + 6) from nI_add i 6]
theorem law_step {xs : Nat → Int32} {L i fu : Nat} (hL : L ≤ 3072) (hi : i + 6 ≤ L) {σ : fk_T} (hI : Inv σ) (k : Int32 → fk_T → Option (Bool × fk_T)) : ∃ σ2, Inv σ2 ∧ L_L_law_18 xs L (fu + 1) (nI i) σ k = L_L_law_18 xs L fu (nI (i + 6)) σ2 k := by
  have hc : ¬ (Int32.ofNat L - 6 < nI i) := by
    have e : (Int32.ofNat L).toInt = (L : Int) := nI_tI (p := L) (by omega)
    rw [i_lt, ti_sub (by rw [e, l6]; omega) (by rw [e, l6]; omega), e, l6, nI_tI (by omega)]
    omega
  rw [L_L_law_18, if_neg hc, fA (j := i) rfl (by omega) (by omega), fB]
  generalize xs i &&& 63 = y
  by_cases e0 : y = 0
  · obtain ⟨s2, h2, h3⟩ := law_1 (xs := xs) hL hi (f4 := F_X4_clay) (f5 := F_X5_clay) (fun a1 => Q_clay hI a1)
    exact ⟨s2, h2, (if_pos e0).trans (h3 (fun w s => L_L_law_18 xs L fu w s k))⟩
  rw [if_neg e0]
  by_cases e1 : y = 1
  · obtain ⟨s2, h2, h3⟩ := law_3 (xs := xs) hL hi (f4 := F_X4_pair) (f5 := F_X5_pair) (fun a1 a2 a3 => Q_pair hI a1 a2 a3)
    exact ⟨s2, h2, (if_pos e1).trans (h3 (fun w s => L_L_law_18 xs L fu w s k))⟩
  rw [if_neg e1]
  by_cases e2 : y = 2
  · obtain ⟨s2, h2, h3⟩ := law_1 (xs := xs) hL hi (f4 := F_X4_listed) (f5 := F_X5_listed) (fun a1 => Q_listed hI a1)
    exact ⟨s2, h2, (if_pos e2).trans (h3 (fun w s => L_L_law_18 xs L fu w s k))⟩
  rw [if_neg e2]
  by_cases e3 : y = 3
  · obtain ⟨s2, h2, h3⟩ := law_2 (xs := xs) hL hi (f4 := F_X4_potter) (f5 := F_X5_potter) (fun a1 a2 => Q_potter hI a1 a2)
    exact ⟨s2, h2, (if_pos e3).trans (h3 (fun w s => L_L_law_18 xs L fu w s k))⟩
  rw [if_neg e3]
  by_cases e4 : y = 4
  · obtain ⟨s2, h2, h3⟩ := law_2 (xs := xs) hL hi (f4 := F_X4_of) (f5 := F_X5_of) (fun a1 a2 => Q_of hI a1 a2)
    exact ⟨s2, h2, (if_pos e4).trans (h3 (fun w s => L_L_law_18 xs L fu w s k))⟩
  rw [if_neg e4]
  by_cases e5 : y = 5
  · obtain ⟨s2, h2, h3⟩ := law_3 (xs := xs) hL hi (f4 := F_X4_change) (f5 := F_X5_change) (fun a1 a2 a3 => Q_change hI a1 a2 a3)
    exact ⟨s2, h2, (if_pos e5).trans (h3 (fun w s => L_L_law_18 xs L fu w s k))⟩
  rw [if_neg e5]
  by_cases e6 : y = 6
  · obtain ⟨s2, h2, h3⟩ := law_3 (xs := xs) hL hi (f4 := F_X4_rift) (f5 := F_X5_rift) (fun a1 a2 a3 => Q_rift hI a1 a2 a3)
    exact ⟨s2, h2, (if_pos e6).trans (h3 (fun w s => L_L_law_18 xs L fu w s k))⟩
  rw [if_neg e6]
  by_cases e7 : y = 7
  · obtain ⟨s2, h2, h3⟩ := law_3 (xs := xs) hL hi (f4 := F_X4_two) (f5 := F_X5_two) (fun a1 a2 a3 => Q_two hI a1 a2 a3)
    exact ⟨s2, h2, (if_pos e7).trans (h3 (fun w s => L_L_law_18 xs L fu w s k))⟩
  rw [if_neg e7]
  by_cases e8 : y = 8
  · obtain ⟨s2, h2, h3⟩ := law_1 (xs := xs) hL hi (f4 := F_X4_go) (f5 := F_X5_go) (fun a1 => Q_go hI a1)
    exact ⟨s2, h2, (if_pos e8).trans (h3 (fun w s => L_L_law_18 xs L fu w s k))⟩
  rw [if_neg e8]
  by_cases e9 : y = 9
  · obtain ⟨s2, h2, h3⟩ := law_1 (xs := xs) hL hi (f4 := F_X4_now) (f5 := F_X5_now) (fun a1 => Q_now hI a1)
    exact ⟨s2, h2, (if_pos e9).trans (h3 (fun w s => L_L_law_18 xs L fu w s k))⟩
  rw [if_neg e9]
  by_cases e10 : y = 10
  · obtain ⟨s2, h2, h3⟩ := law_3 (xs := xs) hL hi (f4 := F_X4_ahead) (f5 := F_X5_ahead) (fun a1 a2 a3 => Q_ahead hI a1 a2 a3)
    exact ⟨s2, h2, (if_pos e10).trans (h3 (fun w s => L_L_law_18 xs L fu w s k))⟩
  rw [if_neg e10]
  by_cases e11 : y = 11
  · obtain ⟨s2, h2, h3⟩ := law_3 (xs := xs) hL hi (f4 := F_X4_terms) (f5 := F_X5_terms) (fun a1 a2 a3 => Q_terms hI a1 a2 a3)
    exact ⟨s2, h2, (if_pos e11).trans (h3 (fun w s => L_L_law_18 xs L fu w s k))⟩
  rw [if_neg e11]
  by_cases e12 : y = 12
  · obtain ⟨s2, h2, h3⟩ := law_1 (xs := xs) hL hi (f4 := F_X4_next) (f5 := F_X5_next) (fun a1 => Q_next hI a1)
    exact ⟨s2, h2, (if_pos e12).trans (h3 (fun w s => L_L_law_18 xs L fu w s k))⟩
  rw [if_neg e12]
  by_cases e13 : y = 13
  · obtain ⟨s2, h2, h3⟩ := law_3 (xs := xs) hL hi (f4 := F_X4_peace) (f5 := F_X5_peace) (fun a1 a2 a3 => Q_peace hI a1 a2 a3)
    exact ⟨s2, h2, (if_pos e13).trans (h3 (fun w s => L_L_law_18 xs L fu w s k))⟩
  rw [if_neg e13]
  by_cases e14 : y = 14
  · obtain ⟨s2, h2, h3⟩ := law_2 (xs := xs) hL hi (f4 := F_X4_when) (f5 := F_X5_when) (fun a1 a2 => Q_when hI a1 a2)
    exact ⟨s2, h2, (if_pos e14).trans (h3 (fun w s => L_L_law_18 xs L fu w s k))⟩
  rw [if_neg e14]
  by_cases e15 : y = 15
  · obtain ⟨s2, h2, h3⟩ := law_3 (xs := xs) hL hi (f4 := F_X4_setWith) (f5 := F_X5_setWith) (fun a1 a2 a3 => Q_setWith hI a1 a2 a3)
    exact ⟨s2, h2, (if_pos e15).trans (h3 (fun w s => L_L_law_18 xs L fu w s k))⟩
  rw [if_neg e15]
  by_cases e16 : y = 16
  · obtain ⟨s2, h2, h3⟩ := law_2 (xs := xs) hL hi (f4 := F_X4_heatFor) (f5 := F_X5_heatFor) (fun a1 a2 => Q_heatFor hI a1 a2)
    exact ⟨s2, h2, (if_pos e16).trans (h3 (fun w s => L_L_law_18 xs L fu w s k))⟩
  rw [if_neg e16]
  by_cases e17 : y = 17
  · obtain ⟨s2, h2, h3⟩ := law_2 (xs := xs) hL hi (f4 := F_X4_kindFor) (f5 := F_X5_kindFor) (fun a1 a2 => Q_kindFor hI a1 a2)
    exact ⟨s2, h2, (if_pos e17).trans (h3 (fun w s => L_L_law_18 xs L fu w s k))⟩
  rw [if_neg e17]
  by_cases e18 : y = 18
  · obtain ⟨s2, h2, h3⟩ := law_2 (xs := xs) hL hi (f4 := F_X4_clayFor) (f5 := F_X5_clayFor) (fun a1 a2 => Q_clayFor hI a1 a2)
    exact ⟨s2, h2, (if_pos e18).trans (h3 (fun w s => L_L_law_18 xs L fu w s k))⟩
  rw [if_neg e18]
  by_cases e19 : y = 19
  · obtain ⟨s2, h2, h3⟩ := law_1 (xs := xs) hL hi (f4 := F_X4_reconcile) (f5 := F_X5_reconcile) (fun a1 => Q_reconcile hI a1)
    exact ⟨s2, h2, (if_pos e19).trans (h3 (fun w s => L_L_law_18 xs L fu w s k))⟩
  rw [if_neg e19]
  by_cases e20 : y = 20
  · obtain ⟨s2, h2, h3⟩ := law_3 (xs := xs) hL hi (f4 := F_X4_fits) (f5 := F_X5_fits) (fun a1 a2 a3 => Q_fits hI a1 a2 a3)
    exact ⟨s2, h2, (if_pos e20).trans (h3 (fun w s => L_L_law_18 xs L fu w s k))⟩
  rw [if_neg e20]
  by_cases e21 : y = 21
  · obtain ⟨s2, h2, h3⟩ := law_2 (xs := xs) hL hi (f4 := F_X4_kinds) (f5 := F_X5_kinds) (fun a1 a2 => Q_kinds hI a1 a2)
    exact ⟨s2, h2, (if_pos e21).trans (h3 (fun w s => L_L_law_18 xs L fu w s k))⟩
  rw [if_neg e21]
  by_cases e22 : y = 22
  · obtain ⟨s2, h2, h3⟩ := law_1 (xs := xs) hL hi (f4 := F_X4_market) (f5 := F_X5_market) (fun a1 => Q_market hI a1)
    exact ⟨s2, h2, (if_pos e22).trans (h3 (fun w s => L_L_law_18 xs L fu w s k))⟩
  rw [if_neg e22]
  by_cases e23 : y = 23
  · obtain ⟨s2, h2, h3⟩ := law_4 (xs := xs) hL hi (f4 := F_X4_odds) (f5 := F_X5_odds) (fun a1 a2 a3 a4 => Q_odds hI a1 a2 a3 a4)
    exact ⟨s2, h2, (if_pos e23).trans (h3 (fun w s => L_L_law_18 xs L fu w s k))⟩
  rw [if_neg e23]
  by_cases e24 : y = 24
  · obtain ⟨s2, h2, h3⟩ := law_1 (xs := xs) hL hi (f4 := F_X4_seed) (f5 := F_X5_seed) (fun a1 => Q_seed hI a1)
    exact ⟨s2, h2, (if_pos e24).trans (h3 (fun w s => L_L_law_18 xs L fu w s k))⟩
  rw [if_neg e24]
  by_cases e25 : y = 25
  · obtain ⟨s2, h2, h3⟩ := law_2 (xs := xs) hL hi (f4 := F_X4_feed) (f5 := F_X5_feed) (fun a1 a2 => Q_feed hI a1 a2)
    exact ⟨s2, h2, (if_pos e25).trans (h3 (fun w s => L_L_law_18 xs L fu w s k))⟩
  rw [if_neg e25]
  by_cases e26 : y = 26
  · obtain ⟨s2, h2, h3⟩ := law_0 (xs := xs) hL hi (f4 := F_X4_wipe) (f5 := F_X5_wipe) (Q_wipe hI)
    exact ⟨s2, h2, (if_pos e26).trans (h3 (fun w s => L_L_law_18 xs L fu w s k))⟩
  rw [if_neg e26]
  by_cases e27 : y = 27
  · obtain ⟨s2, h2, h3⟩ := law_0 (xs := xs) hL hi (f4 := F_X4_text) (f5 := F_X5_text) (Q_text hI)
    exact ⟨s2, h2, (if_pos e27).trans (h3 (fun w s => L_L_law_18 xs L fu w s k))⟩
  rw [if_neg e27]
  by_cases e28 : y = 28
  · obtain ⟨s2, h2, h3⟩ := law_2 (xs := xs) hL hi (f4 := F_X4_hold) (f5 := F_X5_hold) (fun a1 a2 => Q_hold hI a1 a2)
    exact ⟨s2, h2, (if_pos e28).trans (h3 (fun w s => L_L_law_18 xs L fu w s k))⟩
  rw [if_neg e28]
  by_cases e29 : y = 29
  · obtain ⟨s2, h2, h3⟩ := law_2 (xs := xs) hL hi (f4 := F_X4_as) (f5 := F_X5_as) (fun a1 a2 => Q_as hI a1 a2)
    exact ⟨s2, h2, (if_pos e29).trans (h3 (fun w s => L_L_law_18 xs L fu w s k))⟩
  rw [if_neg e29]
  by_cases e30 : y = 30
  · obtain ⟨s2, h2, h3⟩ := law_3 (xs := xs) hL hi (f4 := F_X4_sheet) (f5 := F_X5_sheet) (fun a1 a2 a3 => Q_sheet hI a1 a2 a3)
    exact ⟨s2, h2, (if_pos e30).trans (h3 (fun w s => L_L_law_18 xs L fu w s k))⟩
  rw [if_neg e30]
  by_cases e31 : y = 31
  · obtain ⟨s2, h2, h3⟩ := law_3 (xs := xs) hL hi (f4 := F_X4_write) (f5 := F_X5_write) (fun a1 a2 a3 => Q_write hI a1 a2 a3)
    exact ⟨s2, h2, (if_pos e31).trans (h3 (fun w s => L_L_law_18 xs L fu w s k))⟩
  rw [if_neg e31]
  by_cases e32 : y = 32
  · obtain ⟨s2, h2, h3⟩ := law_5 (xs := xs) hL hi (f4 := F_X4_copy) (f5 := F_X5_copy) (fun a1 a2 a3 a4 a5 => Q_copy hI a1 a2 a3 a4 a5)
    exact ⟨s2, h2, (if_pos e32).trans (h3 (fun w s => L_L_law_18 xs L fu w s k))⟩
  rw [if_neg e32]
  by_cases e33 : y = 33
  · obtain ⟨s2, h2, h3⟩ := law_1 (xs := xs) hL hi (f4 := F_X4_load) (f5 := F_X5_load) (fun a1 => Q_load hI a1)
    exact ⟨s2, h2, (if_pos e33).trans (h3 (fun w s => L_L_law_18 xs L fu w s k))⟩
  rw [if_neg e33]
  by_cases e34 : y = 34
  · obtain ⟨s2, h2, h3⟩ := law_1 (xs := xs) hL hi (f4 := F_X4_judge) (f5 := F_X5_judge) (fun a1 => Q_judge hI a1)
    exact ⟨s2, h2, (if_pos e34).trans (h3 (fun w s => L_L_law_18 xs L fu w s k))⟩
  rw [if_neg e34]
  by_cases e35 : y = 35
  · obtain ⟨s2, h2, h3⟩ := law_0 (xs := xs) hL hi (f4 := F_X4_image) (f5 := F_X5_image) (Q_image hI)
    exact ⟨s2, h2, (if_pos e35).trans (h3 (fun w s => L_L_law_18 xs L fu w s k))⟩
  rw [if_neg e35]
  by_cases e36 : y = 36
  · obtain ⟨s2, h2, h3⟩ := law_0 (xs := xs) hL hi (f4 := F_X4_undo) (f5 := F_X5_undo) (Q_undo hI)
    exact ⟨s2, h2, (if_pos e36).trans (h3 (fun w s => L_L_law_18 xs L fu w s k))⟩
  rw [if_neg e36]
  by_cases e37 : y = 37
  · obtain ⟨s2, h2, h3⟩ := law_0 (xs := xs) hL hi (f4 := F_X4_tear) (f5 := F_X5_tear) (Q_tear hI)
    exact ⟨s2, h2, (if_pos e37).trans (h3 (fun w s => L_L_law_18 xs L fu w s k))⟩
  rw [if_neg e37]
  by_cases e38 : y = 38
  · obtain ⟨s2, h2, h3⟩ := law_1 (xs := xs) hL hi (f4 := F_X4_count) (f5 := F_X5_count) (fun a1 => Q_count hI a1)
    exact ⟨s2, h2, (if_pos e38).trans (h3 (fun w s => L_L_law_18 xs L fu w s k))⟩
  rw [if_neg e38]
  by_cases e39 : y = 39
  · obtain ⟨s2, h2, h3⟩ := law_1 (xs := xs) hL hi (f4 := F_X4_status) (f5 := F_X5_status) (fun a1 => Q_status hI a1)
    exact ⟨s2, h2, (if_pos e39).trans (h3 (fun w s => L_L_law_18 xs L fu w s k))⟩
  rw [if_neg e39]
  exact ⟨σ, hI, by rw [fB, show nI i + 6 = nI (i + 6) from nI_add i 6]⟩
theorem law_all {xs : Nat → Int32} {L : Nat} (hL : L ≤ 3072) : ∀ (m i fu : Nat) {σ : fk_T}, Inv σ → L - i ≤ m → i ≤ 4000 → m < fu → ∃ σ', L_L_law_18 xs L fu (nI i) σ (fun _ s => some (true, s)) = some (true, σ')
  | m, i, 0, _, _, _, _, hf => by omega
  | m, i, fu + 1, σ, hI, hm, h4, hf => by
    by_cases hi : i + 6 ≤ L
    · obtain ⟨s2, h2, h3⟩ := law_step (xs := xs) (fu := fu) hL hi hI (fun _ s => some (true, s))
      obtain ⟨s3, h5⟩ := law_all hL (xs := xs) (m - 1) (i + 6) fu h2 (by omega) (by omega) (by omega)
      exact ⟨s3, h3.trans h5⟩
    · refine ⟨σ, ?_⟩
      have e : (Int32.ofNat L).toInt = (L : Int) := nI_tI (p := L) (by omega)
      rw [L_L_law_18, if_pos (by rw [i_lt, ti_sub (by rw [e, l6]; omega) (by rw [e, l6]; omega), e, l6, nI_tI (by omega)]; omega)]
theorem law_end (xs : Nat → Int32) {L : Nat} (hL : L ≤ 3072) : ∃ q1, F_law xs L (fk_w hs_1 27 G00) = some (true, q1) := by
  unfold F_law
  exact law_all (xs := xs) hL L 0 fk_N in_inv (by omega) (by omega) (by unfold fk_N; omega)
