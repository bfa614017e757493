/-! ===== setWith, heatFor, kindFor, clayFor ===== -/
theorem M_isShort (v : Int32) (τ : fk_T) : F_X5_isShort v τ = some (inR v 0 60, τ) := by
  unfold F_X5_isShort
  rw [mR v 0 60 (by omega) (by omega), bS]
/-- both try, both find 3 or both answer -/
theorem QQ.best {σ : fk_T} (hI : Inv σ) {fc fm : fk_T → Option (Int32 × fk_T)} {r : Int32} {s1 : fk_T} (hf : FrP 6 σ s1) (hr : r = -1 ∨ ∃ q, q < 1000 ∧ r = nI q) (h1 : fc σ = if r = -1 then (F_X4_found 3 s1).bind (fun q => some (q.1, q.2)) else some (r, s1)) (h2 : ∀ τ, WF (τ.1 27) → τ.1 27 = σ.1 27 → fm τ = if 0 ≤ r then some (r, as29 τ) else (F_X5_finds 3 (as29 τ)).bind (fun q => some (q.1, q.2))) : QQ fc fm σ := by
  have h27 : s1.1 27 = σ.1 27 := hf.1 27 (by omega)
  have hw1 : WF (s1.1 27) := by rw [h27]; exact hI.1.1
  rcases hr with rfl | ⟨q, hq, rfl⟩
  · refine ⟨_, _, _, h1.trans (by rw [if_pos rfl, c25 s1 (k := 3) (by omega)]; rfl), (h2 (f25 s1 3) hw1 h27).trans (by rw [if_neg (by decide), c31 _ (k := 3) (by omega)]; rfl), ?_⟩
    have := (hI.trial hf).aside.find (k := 3) (by omega)
    have e : as29 (f25 s1 3) = f25 (as29 s1) 3 := by
      unfold as29 f25
      rw [w_ne _ _ (by omega), w_ne _ _ (by omega), w_ne _ _ (by omega), w_c _ _ _ (by omega)]
    rw [e]
    exact this
  · exact ⟨nI q, s1, as29 s1, h1.trans (if_neg (by rw [i_eq, nI_tI (by omega), lim1]; omega)), (h2 s1 hw1 h27).trans (if_pos (by rw [i_le, nI_tI (by omega), li0]; omega)), (hI.trial hf).aside⟩
def swK (G : Nat → Int32) (i p n : Nat) : Nat → Nat → Int32 → Int32 → Int32 × Int32
  | 0, _, b, t => (b, t)
  | m + 1, j, b, t => if j = p then swK G i p n m (j + 1) b t else if daysG (upd G (7 + i) (10 * nI p + nI j)) n 4 ≤ t then swK G i p n m (j + 1) b t else swK G i p n m (j + 1) (nI j) (daysG (upd G (7 + i) (10 * nI p + nI j)) n 4)
theorem swK_s (G : Nat → Int32) (i p n m j : Nat) (b t : Int32) : swK G i p n (m + 1) j b t = if j = p then swK G i p n m (j + 1) b t else if daysG (upd G (7 + i) (10 * nI p + nI j)) n 4 ≤ t then swK G i p n m (j + 1) b t else swK G i p n m (j + 1) (nI j) (daysG (upd G (7 + i) (10 * nI p + nI j)) n 4) := rfl
theorem sw_ok (G : Nat → Int32) (i p n : Nat) : ∀ (m j : Nat) (b t : Int32), j + m ≤ 8 → (b = -1 ∨ ∃ q, q < 1000 ∧ b = nI q) → ((swK G i p n m j b t).1 = -1 ∨ ∃ q, q < 1000 ∧ (swK G i p n m j b t).1 = nI q)
  | 0, _, _, _, _, h => h
  | m + 1, j, b, t, hj, h => by
    rw [swK_s]
    split
    · exact sw_ok G i p n m (j + 1) b t (by omega) h
    · split
      · exact sw_ok G i p n m (j + 1) b t (by omega) h
      · exact sw_ok G i p n m (j + 1) _ _ (by omega) (Or.inr ⟨j, by omega, rfl⟩)
theorem C_swL {G : Nat → Int32} (hw : WF G) {nn i p n : Nat} (hn8 : nn ≤ 8) (hG : G 0 = nI nn) (hi : i < 6) (hp : p < 8) (hn : n < 4000) {k : Int32 → Int32 → Int32 → Int32 → Int32 → Int32 → fk_T → Option (Int32 × fk_T)} : ∀ (m j fu : Nat) (b t : Int32) {τ : fk_T}, CP 1 τ G → j + m = nn → m < fu → ∃ τ', FrP 6 τ τ' ∧ L_X4_setWith_45 fu (nI i) (nI p) (nI n) b t (nI j) τ k = k (nI i) (nI p) (nI n) (swK G i p n m j b t).1 (swK G i p n m j b t).2 (nI nn) τ'
  | m, j, 0, b, t, _, _, _, hf => by omega
  | 0, j, fu + 1, b, t, τ, h, hj, _ => by
    have : j = nn := by omega
    subst this
    refine ⟨τ, FrP.rf _ _, ?_⟩
    rw [L_X4_setWith_45, h.c6, hG, if_pos (by rw [i_le]; omega)]
    rfl
  | m + 1, j, fu + 1, b, t, τ, h, hj, hf => by
    by_cases e : j = p
    · obtain ⟨τ', f1, g1⟩ := C_swL hw hn8 hG hi hp hn (k := k) m (j + 1) fu b t h (by omega) (by omega)
      refine ⟨τ', f1, ?_⟩
      rw [L_X4_setWith_45, h.c6, hG, if_neg (by rw [i_le, nI_tI (by omega), nI_tI (by omega)]; omega), if_pos (by rw [e]), fB, nI_1, g1, swK_s, if_pos e]
    · obtain ⟨s0, b1, b2, b3⟩ := C_become (b := 6) (c := 1) (Or.inr (Or.inl rfl)) (Or.inl rfl) (by omega) h
      have d1 := b2.li (i := i) hi (10 * nI p + nI j)
      have hw1 : WF (upd G (7 + i) (10 * nI p + nI j)) := hw.set (by omega) (by omega) (fun _ z => by omega)
      obtain ⟨s1, g1, g2, g3⟩ := C_passDays (Or.inr (Or.inl rfl)) (x := nI n) rfl hn d1 hw1
      have fr : FrP 6 τ s1 := (b3.tr (FrP.w _ (by omega))).tr g3
      have h1 : CP 1 s1 G := h.fr (fun a z1 z2 => fr.1 a (by omega))
      have e1 : L_X4_setWith_45 (fu + 1) (nI i) (nI p) (nI n) b t (nI j) τ k = if daysG (upd G (7 + i) (10 * nI p + nI j)) n 4 ≤ t then L_X4_setWith_45 fu (nI i) (nI p) (nI n) b t (nI (j + 1)) s1 k else L_X4_setWith_45 fu (nI i) (nI p) (nI n) (nI j) (daysG (upd G (7 + i) (10 * nI p + nI j)) n 4) (nI (j + 1)) s1 k := by
        rw [L_X4_setWith_45, h.c6, hG, if_neg (by rw [i_le, nI_tI (by omega), nI_tI (by omega)]; omega), if_neg (by rw [nI_inj (by omega) (by omega)]; exact e), b1, bS, fS (j := i) rfl hi (by omega)]
        rw [g1, bS, g2.c1, fB, fB, fB, nI_1]
      rw [e1, swK_s, if_neg e]
      by_cases z : daysG (upd G (7 + i) (10 * nI p + nI j)) n 4 ≤ t
      · rw [if_pos z, if_pos z]
        obtain ⟨τ', f1, q1⟩ := C_swL hw hn8 hG hi hp hn (k := k) m (j + 1) fu b t h1 (by omega) (by omega)
        exact ⟨τ', fr.tr f1, q1⟩
      · rw [if_neg z, if_neg z]
        obtain ⟨τ', f1, q1⟩ := C_swL hw hn8 hG hi hp hn (k := k) m (j + 1) fu (nI j) (daysG (upd G (7 + i) (10 * nI p + nI j)) n 4) h1 (by omega) (by omega)
        exact ⟨τ', fr.tr f1, q1⟩
theorem M_try {σ : fk_T} {G A : Nat → Int32} (h29 : σ.1 29 = cpG G A) (h27 : σ.1 27 = G) {w : Nat} {v : Int32} (hw9 : w < 135) (hw : WF (upd G w v)) {x y : Int32} {n q : Nat} (hx : x = nI n) (hn : n < 4000) (hy : y = nI q) (hq : q < 135) : F_X5_behind x y (fk_w σ 27 (upd (σ.1 27) w v)) = some (daysG (upd G w v) n q, σ) := by
  rw [M_behind (G := G) (A := A) (by rw [w_ne _ _ (by omega), h29]) (by rw [w_self, h27]; exact hw) (by rw [w_self, h27]; exact Out.u _ hw9) hx hn hy hq, w_w, w_self, h27, w_id h27.symm]
theorem M_swL {G A : Nat → Int32} (hw : WF G) {σ : fk_T} (h29 : σ.1 29 = cpG G A) (h27 : σ.1 27 = G) {nn i p n : Nat} (hn8 : nn ≤ 8) (hG : G 0 = nI nn) (hi : i < 6) (hp : p < 8) (hn : n < 4000) {k : Int32 → Int32 → Int32 → Int32 → Int32 → Int32 → fk_T → Option (Int32 × fk_T)} : ∀ (m j fu : Nat) (b t : Int32), j + m = nn → m < fu → L_X5_setWith_53 fu (nI i) (nI p) (nI n) b t (nI j) σ k = k (nI i) (nI p) (nI n) (swK G i p n m j b t).1 (swK G i p n m j b t).2 (nI nn) σ
  | m, j, 0, b, t, _, hf => by omega
  | 0, j, fu + 1, b, t, hj, _ => by
    have : j = nn := by omega
    subst this
    rw [L_X5_setWith_53, rdG 0 (by omega), h27, hG, if_pos (by rw [i_le]; omega)]
    rfl
  | m + 1, j, fu + 1, b, t, hj, hf => by
    have i1 := fun b t => M_swL hw h29 h27 hn8 hG hi hp hn (k := k) m (j + 1) fu b t (by omega) (by omega)
    rw [L_X5_setWith_53, rdG 0 (by omega), swK_s, h27, hG, if_neg (by rw [i_le, nI_tI (by omega), nI_tI (by omega)]; omega)]
    by_cases e : j = p
    · rw [if_pos (by rw [e]), if_pos e, fB, nI_1, i1]
    · have hw1 : WF (upd G (7 + i) (10 * nI p + nI j)) := hw.set (by omega) (by omega) (fun _ z => by omega)
      rw [if_neg (by rw [nI_inj (by omega) (by omega)]; exact e), if_neg e, fS (j := 7 + i) (nl 7 i) (by omega) (by omega), M_try h29 h27 (by omega) hw1 rfl hn (nlit 4) (by omega), bS]
      dsimp only
      rw [fB, fB, nI_1, i1, i1]
      by_cases z : daysG (upd G (7 + i) (10 * nI p + nI j)) n 4 ≤ t
      · rw [if_pos z, if_pos z]
      · rw [if_neg z, if_neg z]
theorem Q_setWith {σ : fk_T} (hI : Inv σ) (x1 x2 x3 : Int32) : QQ (F_X4_setWith x1 x2 x3) (F_X5_setWith x1 x2 x3) σ := by
  obtain ⟨hw, hc⟩ := hI.p
  have c1 : ∀ τ, F_X4_within x1 0 5 τ = some (inR x1 0 5, τ) := cR x1 0 5 (by omega) (by omega)
  have c2 : F_X0_has 1 x2 σ = some (hasG (σ.1 27) x2, σ) := C_has hc x2
  have c3 : ∀ τ, F_X4_within x3 0 60 τ = some (inR x3 0 60, τ) := cR x3 0 60 (by omega) (by omega)
  cases h1 : inR x1 0 5
  · refine QQ.find hI (k := 0) (by omega) ?_ ?_
    · first | (simp only [F_X4_setWith, c1, h1, bS, fb0, if_true, if_false, Bool.true_eq_false, Bool.false_eq_true, reduceIte]; done) | (simp only [F_X4_setWith, c1, h1, bS, fb0, if_true, if_false, Bool.true_eq_false, Bool.false_eq_true, reduceIte]; rfl)
    · have m1 : ∀ τ, F_X5_in x1.toInt64 0 5 τ = some (inR x1 0 5, τ) := mR x1 0 5 (by omega) (by omega)
      first | (simp only [F_X5_setWith, m1, h1, bS, fb0, if_true, if_false, Bool.true_eq_false, Bool.false_eq_true, reduceIte]; done) | (simp only [F_X5_setWith, m1, h1, bS, fb0, if_true, if_false, Bool.true_eq_false, Bool.false_eq_true, reduceIte]; rfl)
  cases h2 : hasG (σ.1 27) x2
  · refine QQ.find hI (k := 0) (by omega) ?_ ?_
    · first | (simp only [F_X4_setWith, c1, c2, h1, h2, bS, fb0, if_true, if_false, Bool.true_eq_false, Bool.false_eq_true, reduceIte]; done) | (simp only [F_X4_setWith, c1, c2, h1, h2, bS, fb0, if_true, if_false, Bool.true_eq_false, Bool.false_eq_true, reduceIte]; rfl)
    · have m1 : ∀ τ, F_X5_in x1.toInt64 0 5 τ = some (inR x1 0 5, τ) := mR x1 0 5 (by omega) (by omega)
      have m2 : F_X5_isPotter x2 (f25 σ 0) = some (hasG (σ.1 27) x2, (f25 σ 0)) := M_isPotter (σ := (f25 σ 0)) hw x2
      first | (simp only [F_X5_setWith, m1, m2, h1, h2, bS, fb0, if_true, if_false, Bool.true_eq_false, Bool.false_eq_true, reduceIte]; done) | (simp only [F_X5_setWith, m1, m2, h1, h2, bS, fb0, if_true, if_false, Bool.true_eq_false, Bool.false_eq_true, reduceIte]; rfl)
  cases h3 : inR x3 0 60
  · refine QQ.find hI (k := 0) (by omega) ?_ ?_
    · first | (simp only [F_X4_setWith, c1, c2, c3, h1, h2, h3, bS, fb0, if_true, if_false, Bool.true_eq_false, Bool.false_eq_true, reduceIte]; done) | (simp only [F_X4_setWith, c1, c2, c3, h1, h2, h3, bS, fb0, if_true, if_false, Bool.true_eq_false, Bool.false_eq_true, reduceIte]; rfl)
    · have m1 : ∀ τ, F_X5_in x1.toInt64 0 5 τ = some (inR x1 0 5, τ) := mR x1 0 5 (by omega) (by omega)
      have m2 : F_X5_isPotter x2 (f25 σ 0) = some (hasG (σ.1 27) x2, (f25 σ 0)) := M_isPotter (σ := (f25 σ 0)) hw x2
      have m3 : ∀ τ, F_X5_isShort x3 τ = some (inR x3 0 60, τ) := M_isShort x3
      first | (simp only [F_X5_setWith, m1, m2, m3, h1, h2, h3, bS, fb0, if_true, if_false, Bool.true_eq_false, Bool.false_eq_true, reduceIte]; done) | (simp only [F_X5_setWith, m1, m2, m3, h1, h2, h3, bS, fb0, if_true, if_false, Bool.true_eq_false, Bool.false_eq_true, reduceIte]; rfl)
  obtain ⟨i, e1, i1, i2, hi⟩ := inR_of h1
  obtain ⟨p, e2, p1, p2⟩ := hasG_of hw h2
  obtain ⟨n, e3, n1, n2, hn⟩ := inR_of h3
  obtain ⟨z1, z2, z3⟩ := nG_of hw
  obtain ⟨s1, f1, g1⟩ := C_swL hw z2 z1 (by omega : i < 6) p1 (by omega : n < 4000) (k := fun y14 y15 y16 y17 y18 y19 s13 => if y17 = (-1) then ((F_X4_found 3 s13).bind (fun q20 => some (q20.1, q20.2))) else (some (y17, s13))) (nG (σ.1 27)) 0 fk_N (-1) (-1) hc (by omega) (by unfold fk_N; omega)
  refine QQ.best hI (r := (swK (σ.1 27) i p n (nG (σ.1 27)) 0 (-1) (-1)).1) f1 (sw_ok _ _ _ _ _ _ _ _ (by omega) (Or.inl rfl)) ?_ (fun τ hτ e27 => ?_)
  · simp only [F_X4_setWith, c1, c2, c3, h1, h2, h3, bS, fb0, if_true, if_false, Bool.true_eq_false, Bool.false_eq_true, reduceIte]
    rw [e1, e2, e3]
    exact g1
  · have m1 : ∀ τ, F_X5_in x1.toInt64 0 5 τ = some (inR x1 0 5, τ) := mR x1 0 5 (by omega) (by omega)
    have m2 : F_X5_isPotter x2 τ = some (hasG (σ.1 27) x2, τ) := by rw [M_isPotter hτ, e27]
    have m3 : ∀ τ, F_X5_isShort x3 τ = some (inR x3 0 60, τ) := M_isShort x3
    simp only [F_X5_setWith, m1, m2, m3, h1, h2, h3, bS, fb0, if_true, if_false, Bool.true_eq_false, Bool.false_eq_true, reduceIte]
    rw [M_aside, bS, e1, e2, e3]
    have a27 : (as29 τ).1 27 = σ.1 27 := by rw [as_ne _ (by omega), e27]
    have a29 : (as29 τ).1 29 = cpG (σ.1 27) (τ.1 29) := by rw [as_29, e27]
    exact M_swL hw a29 a27 z2 z1 (by omega : i < 6) p1 (by omega : n < 4000) (k := fun y14 y15 y16 y17 y18 y19 s13 => if 0 ≤ y17 then (some (y17, s13)) else ((F_X5_finds 3 s13).bind (fun q20 => some (q20.1, q20.2)))) (nG (σ.1 27)) 0 fk_N (-1) (-1) (by omega) (by unfold fk_N; omega)
def dtK (G : Nat → Int32) (w n : Nat) : Nat → Nat → Int32 → Int32 → Int32 × Int32
  | 0, _, b, t => (b, t)
  | m + 1, v, b, t => if daysG (upd G w (nI v)) n 4 ≤ t then dtK G w n m (v + 1) b t else dtK G w n m (v + 1) (nI v) (daysG (upd G w (nI v)) n 4)
theorem dtK_s (G : Nat → Int32) (w n m v : Nat) (b t : Int32) : dtK G w n (m + 1) v b t = if daysG (upd G w (nI v)) n 4 ≤ t then dtK G w n m (v + 1) b t else dtK G w n m (v + 1) (nI v) (daysG (upd G w (nI v)) n 4) := rfl
theorem C_dtL {G : Nat → Int32} {w j n top : Nat} (ht : top < 1000) (hj : j < 48) (hwj : 13 + j = w) (hv : ∀ v, v ≤ top → WF (upd G w (nI v))) (hn : n < 4000) {k : Int32 → Int32 → Int32 → Int32 → Int32 → Int32 → fk_T → Option (Int32 × fk_T)} : ∀ (m v fu : Nat) (b t : Int32) {τ : fk_T}, CP 1 τ G → v + m = top + 1 → m < fu → ∃ τ', FrP 6 τ τ' ∧ L_X4_dearestTrait_9 fu (nI j) (nI top) (nI n) b t (nI v) τ k = k (nI j) (nI top) (nI n) (dtK G w n m v b t).1 (dtK G w n m v b t).2 (nI (top + 1)) τ'
  | m, v, 0, b, t, _, _, _, hf => by omega
  | 0, v, fu + 1, b, t, τ, h, hv9, _ => by
    have : v = top + 1 := by omega
    subst this
    refine ⟨τ, FrP.rf _ _, ?_⟩
    rw [L_X4_dearestTrait_9, if_pos (by rw [i_lt, nI_tI (by omega), nI_tI (by omega)]; omega)]
    rfl
  | m + 1, v, fu + 1, b, t, τ, h, hv9, hf => by
    obtain ⟨s0, b1, b2, b3⟩ := C_become (b := 6) (c := 1) (Or.inr (Or.inl rfl)) (Or.inl rfl) (by omega) h
    have d1 := b2.trm (i := j) (m := w) hj hwj (nI v)
    obtain ⟨s1, g1, g2, g3⟩ := C_passDays (Or.inr (Or.inl rfl)) (x := nI n) rfl hn d1 (hv v (by omega))
    have fr : FrP 6 τ s1 := (b3.tr (FrP.w _ (by omega))).tr g3
    have h1 : CP 1 s1 G := h.fr (fun a z1 z2 => fr.1 a (by omega))
    have e1 : L_X4_dearestTrait_9 (fu + 1) (nI j) (nI top) (nI n) b t (nI v) τ k = if daysG (upd G w (nI v)) n 4 ≤ t then L_X4_dearestTrait_9 fu (nI j) (nI top) (nI n) b t (nI (v + 1)) s1 k else L_X4_dearestTrait_9 fu (nI j) (nI top) (nI n) (nI v) (daysG (upd G w (nI v)) n 4) (nI (v + 1)) s1 k := by
      rw [L_X4_dearestTrait_9, if_neg (by rw [i_lt, nI_tI (by omega), nI_tI (by omega)]; omega), b1, bS, fS (j := j) rfl hj (by omega)]
      rw [g1, bS, g2.c1, fB, fB, fB, nI_1]
    rw [e1, dtK_s]
    by_cases z : daysG (upd G w (nI v)) n 4 ≤ t
    · rw [if_pos z, if_pos z]
      obtain ⟨τ', f1, q1⟩ := C_dtL ht hj hwj hv hn (k := k) m (v + 1) fu b t h1 (by omega) (by omega)
      exact ⟨τ', fr.tr f1, q1⟩
    · rw [if_neg z, if_neg z]
      obtain ⟨τ', f1, q1⟩ := C_dtL ht hj hwj hv hn (k := k) m (v + 1) fu (nI v) (daysG (upd G w (nI v)) n 4) h1 (by omega) (by omega)
      exact ⟨τ', fr.tr f1, q1⟩
theorem M_dtL {G A : Nat → Int32} {σ : fk_T} (h29 : σ.1 29 = cpG G A) (h27 : σ.1 27 = G) {w n top : Nat} (ht : top < 1000) (hw9 : w < 135) (hv : ∀ v, v ≤ top → WF (upd G w (nI v))) (hn : n < 4000) {k : Int32 → Int32 → Int32 → Int32 → Int32 → Int32 → fk_T → Option (Int32 × fk_T)} : ∀ (m v fu : Nat) (b t : Int32), v + m = top + 1 → m < fu → L_X5_bestOf_20 fu (nI w) (nI top) (nI n) b t (nI v) σ k = k (nI w) (nI top) (nI n) (dtK G w n m v b t).1 (dtK G w n m v b t).2 (nI (top + 1)) σ
  | m, v, 0, b, t, _, hf => by omega
  | 0, v, fu + 1, b, t, hv9, _ => by
    have : v = top + 1 := by omega
    subst this
    rw [L_X5_bestOf_20, if_pos (by rw [i_lt, nI_tI (by omega), nI_tI (by omega)]; omega)]
    rfl
  | m + 1, v, fu + 1, b, t, hv9, hf => by
    have i1 := fun b t => M_dtL h29 h27 ht hw9 hv hn (k := k) m (v + 1) fu b t (by omega) (by omega)
    rw [L_X5_bestOf_20, dtK_s, if_neg (by rw [i_lt, nI_tI (by omega), nI_tI (by omega)]; omega), fS (j := w) rfl hw9 (by omega), M_try h29 h27 hw9 (hv v (by omega)) rfl hn (nlit 4) (by omega), bS]
    dsimp only
    rw [fB, fB, nI_1, i1, i1]
    by_cases z : daysG (upd G w (nI v)) n 4 ≤ t
    · rw [if_pos z, if_pos z]
    · rw [if_neg z, if_neg z]
/-- both dearest alike -/
theorem Q_dear {σ : fk_T} (hI : Inv σ) {w j n top : Nat} (ht : top < 1000) (hj : j < 48) (hwj : 13 + j = w) (hv : ∀ v, v ≤ top → WF (upd (σ.1 27) w (nI v))) (hn : n < 4000) {fc fm : fk_T → Option (Int32 × fk_T)} (h1 : fc σ = (F_X4_dearestTrait (nI j) (nI top) (nI n) σ).bind (fun q => some (q.1, q.2))) (h2 : ∀ τ, WF (τ.1 27) → τ.1 27 = σ.1 27 → fm τ = (F_X5_bestOf (nI w) (nI top) (nI n) τ).bind (fun q => some (q.1, q.2))) : QQ fc fm σ := by
  obtain ⟨hw, hc⟩ := hI.p
  obtain ⟨s1, f1, g1⟩ := C_dtL ht hj hwj hv hn (k := fun y8 y9 y10 y11 y12 y13 s7 => some (y11, s7)) (top + 1) 0 fk_N 0 (-1) hc (by omega) (by unfold fk_N; omega)
  have e27 : s1.1 27 = σ.1 27 := f1.1 27 (by omega)
  refine ⟨(dtK (σ.1 27) w n (top + 1) 0 0 (-1)).1, s1, as29 s1, ?_, ?_, (hI.trial f1).aside⟩
  · rw [h1]
    unfold F_X4_dearestTrait
    refine (congrArg (fun o : Option (Int32 × fk_T) => o.bind (fun q => some (q.1, q.2))) g1).trans ?_
    rfl
  · rw [h2 s1 (by rw [e27]; exact hw) e27]
    unfold F_X5_bestOf
    rw [M_aside, bS]
    have a27 : (as29 s1).1 27 = σ.1 27 := by rw [as_ne _ (by omega), e27]
    have a29 : (as29 s1).1 29 = cpG (σ.1 27) (s1.1 29) := by rw [as_29, e27]
    refine (congrArg (fun o : Option (Int32 × fk_T) => o.bind (fun q => some (q.1, q.2))) (M_dtL a29 a27 ht (by omega) hv hn (k := fun y7 y8 y9 y10 y11 y12 s6 => some (y10, s6)) (top + 1) 0 fk_N 0 (-1) (by omega) (by unfold fk_N; omega))).trans ?_
    rfl
theorem Q_heatFor {σ : fk_T} (hI : Inv σ) (x1 x2 : Int32) : QQ (F_X4_heatFor x1 x2) (F_X5_heatFor x1 x2) σ := by
  obtain ⟨hw, hc⟩ := hI.p
  have c1 : F_X0_has 1 x1 σ = some (hasG (σ.1 27) x1, σ) := C_has hc x1
  have c2 : ∀ τ, F_X4_within x2 0 60 τ = some (inR x2 0 60, τ) := cR x2 0 60 (by omega) (by omega)
  cases h1 : hasG (σ.1 27) x1
  · refine QQ.find hI (k := 0) (by omega) ?_ ?_
    · first | (simp only [F_X4_heatFor, c1, h1, bS, fb0, if_true, if_false, Bool.true_eq_false, Bool.false_eq_true, reduceIte]; done) | (simp only [F_X4_heatFor, c1, h1, bS, fb0, if_true, if_false, Bool.true_eq_false, Bool.false_eq_true, reduceIte]; rfl)
    · have m1 : F_X5_isPotter x1 (f25 σ 0) = some (hasG (σ.1 27) x1, (f25 σ 0)) := M_isPotter (σ := (f25 σ 0)) hw x1
      first | (simp only [F_X5_heatFor, m1, h1, bS, fb0, if_true, if_false, Bool.true_eq_false, Bool.false_eq_true, reduceIte]; done) | (simp only [F_X5_heatFor, m1, h1, bS, fb0, if_true, if_false, Bool.true_eq_false, Bool.false_eq_true, reduceIte]; rfl)
  cases h2 : inR x2 0 60
  · refine QQ.find hI (k := 0) (by omega) ?_ ?_
    · first | (simp only [F_X4_heatFor, c1, c2, h1, h2, bS, fb0, if_true, if_false, Bool.true_eq_false, Bool.false_eq_true, reduceIte]; done) | (simp only [F_X4_heatFor, c1, c2, h1, h2, bS, fb0, if_true, if_false, Bool.true_eq_false, Bool.false_eq_true, reduceIte]; rfl)
    · have m1 : F_X5_isPotter x1 (f25 σ 0) = some (hasG (σ.1 27) x1, (f25 σ 0)) := M_isPotter (σ := (f25 σ 0)) hw x1
      have m2 : ∀ τ, F_X5_isShort x2 τ = some (inR x2 0 60, τ) := M_isShort x2
      first | (simp only [F_X5_heatFor, m1, m2, h1, h2, bS, fb0, if_true, if_false, Bool.true_eq_false, Bool.false_eq_true, reduceIte]; done) | (simp only [F_X5_heatFor, m1, m2, h1, h2, bS, fb0, if_true, if_false, Bool.true_eq_false, Bool.false_eq_true, reduceIte]; rfl)
  obtain ⟨p, e1, p1, p2⟩ := hasG_of hw h1
  obtain ⟨n, e2, n1, n2, hn⟩ := inR_of h2
  refine Q_dear hI (w := 21 + p) (j := 8 + p) (n := n) (top := 99) (by omega) (by omega) (by omega) (fun v hv => hw.set (by omega) (by omega) (fun _ _ => by rw [hb_99 (by omega) (by omega), nI_tI (by omega)]; omega)) (by omega) ?_ (fun τ hτ e27 => ?_)
  · simp only [F_X4_heatFor, c1, c2, h1, h2, bS, fb0, if_true, if_false, Bool.true_eq_false, Bool.false_eq_true, reduceIte]
    rw [e1, nl, e2, nlit 99]
  · have m1 : F_X5_isPotter x1 τ = some (hasG (σ.1 27) x1, τ) := by rw [M_isPotter hτ, e27]
    have m2 : ∀ τ, F_X5_isShort x2 τ = some (inR x2 0 60, τ) := M_isShort x2
    simp only [F_X5_heatFor, m1, m2, h1, h2, bS, fb0, if_true, if_false, Bool.true_eq_false, Bool.false_eq_true, reduceIte]
    rw [e1, nl, e2, nlit 99]
theorem Q_kindFor {σ : fk_T} (hI : Inv σ) (x1 x2 : Int32) : QQ (F_X4_kindFor x1 x2) (F_X5_kindFor x1 x2) σ := by
  obtain ⟨hw, hc⟩ := hI.p
  have c1 : F_X0_has 1 x1 σ = some (hasG (σ.1 27) x1, σ) := C_has hc x1
  have c2 : ∀ τ, F_X4_within x2 0 60 τ = some (inR x2 0 60, τ) := cR x2 0 60 (by omega) (by omega)
  cases h1 : hasG (σ.1 27) x1
  · refine QQ.find hI (k := 0) (by omega) ?_ ?_
    · first | (simp only [F_X4_kindFor, c1, h1, bS, fb0, if_true, if_false, Bool.true_eq_false, Bool.false_eq_true, reduceIte]; done) | (simp only [F_X4_kindFor, c1, h1, bS, fb0, if_true, if_false, Bool.true_eq_false, Bool.false_eq_true, reduceIte]; rfl)
    · have m1 : F_X5_isPotter x1 (f25 σ 0) = some (hasG (σ.1 27) x1, (f25 σ 0)) := M_isPotter (σ := (f25 σ 0)) hw x1
      first | (simp only [F_X5_kindFor, m1, h1, bS, fb0, if_true, if_false, Bool.true_eq_false, Bool.false_eq_true, reduceIte]; done) | (simp only [F_X5_kindFor, m1, h1, bS, fb0, if_true, if_false, Bool.true_eq_false, Bool.false_eq_true, reduceIte]; rfl)
  cases h2 : inR x2 0 60
  · refine QQ.find hI (k := 0) (by omega) ?_ ?_
    · first | (simp only [F_X4_kindFor, c1, c2, h1, h2, bS, fb0, if_true, if_false, Bool.true_eq_false, Bool.false_eq_true, reduceIte]; done) | (simp only [F_X4_kindFor, c1, c2, h1, h2, bS, fb0, if_true, if_false, Bool.true_eq_false, Bool.false_eq_true, reduceIte]; rfl)
    · have m1 : F_X5_isPotter x1 (f25 σ 0) = some (hasG (σ.1 27) x1, (f25 σ 0)) := M_isPotter (σ := (f25 σ 0)) hw x1
      have m2 : ∀ τ, F_X5_isShort x2 τ = some (inR x2 0 60, τ) := M_isShort x2
      first | (simp only [F_X5_kindFor, m1, m2, h1, h2, bS, fb0, if_true, if_false, Bool.true_eq_false, Bool.false_eq_true, reduceIte]; done) | (simp only [F_X5_kindFor, m1, m2, h1, h2, bS, fb0, if_true, if_false, Bool.true_eq_false, Bool.false_eq_true, reduceIte]; rfl)
  obtain ⟨p, e1, p1, p2⟩ := hasG_of hw h1
  obtain ⟨n, e2, n1, n2, hn⟩ := inR_of h2
  refine Q_dear hI (w := 13 + p) (j := 0 + p) (n := n) (top := 6) (by omega) (by omega) (by omega) (fun v hv => hw.set (by omega) (by omega) (fun _ _ => by rw [hb_kind p1, nI_tI (by omega)]; omega)) (by omega) ?_ (fun τ hτ e27 => ?_)
  · simp only [F_X4_kindFor, c1, c2, h1, h2, bS, fb0, if_true, if_false, Bool.true_eq_false, Bool.false_eq_true, reduceIte]
    rw [e1, nl, e2, nlit 6]
  · have m1 : F_X5_isPotter x1 τ = some (hasG (σ.1 27) x1, τ) := by rw [M_isPotter hτ, e27]
    have m2 : ∀ τ, F_X5_isShort x2 τ = some (inR x2 0 60, τ) := M_isShort x2
    simp only [F_X5_kindFor, m1, m2, h1, h2, bS, fb0, if_true, if_false, Bool.true_eq_false, Bool.false_eq_true, reduceIte]
    rw [e1, nl, e2, nlit 6]
def clK (G : Nat → Int32) (p n : Nat) : Nat → Nat → Int32
  | 0, _ => -1
  | m + 1, v => if daysG (upd G 3 (nI v)) n (53 + p) = G (53 + p) then nI v else clK G p n m (v + 1)
theorem clK_s (G : Nat → Int32) (p n m v : Nat) : clK G p n (m + 1) v = if daysG (upd G 3 (nI v)) n (53 + p) = G (53 + p) then nI v else clK G p n m (v + 1) := rfl
theorem cl_ok (G : Nat → Int32) (p n : Nat) : ∀ (m v : Nat), v + m ≤ 21 → (clK G p n m v = -1 ∨ ∃ q, q < 1000 ∧ clK G p n m v = nI q)
  | 0, _, _ => Or.inl rfl
  | m + 1, v, hv => by
    rw [clK_s]
    split
    · exact Or.inr ⟨v, by omega, rfl⟩
    · exact cl_ok G p n m (v + 1) (by omega)
theorem l20 : (20 : Int32).toInt = 20 := by decide
theorem nne {q : Nat} (h : q < 1000) : ¬ nI q = -1 := by rw [i_eq, nI_tI (by omega), lim1]; omega
theorem C_clL {G : Nat → Int32} (hw : WF G) {p n : Nat} (hp : p < 8) (hn : n < 4000) {kf : fk_T → Option (Int32 × fk_T)} : ∀ (m v fu : Nat) {τ : fk_T}, CP 1 τ G → v + m = 21 → m < fu → ∃ τ', FrP 6 τ τ' ∧ L_X4_clayFor_35 fu (nI n) (nI (40 + p)) (nI v) τ (fun _ _ _ s => kf s) = if clK G p n m v = -1 then kf τ' else some (clK G p n m v, τ')
  | m, v, 0, _, _, _, hf => by omega
  | 0, v, fu + 1, τ, h, hv9, _ => by
    have : v = 21 := by omega
    subst this
    refine ⟨τ, FrP.rf _ _, ?_⟩
    rw [L_X4_clayFor_35, if_pos (by decide)]
    rfl
  | m + 1, v, fu + 1, τ, h, hv9, hf => by
    obtain ⟨s0, b1, b2, b3⟩ := C_become (b := 6) (c := 1) (Or.inr (Or.inl rfl)) (Or.inl rfl) (by omega) h
    have d1 := b2.obj (i := 0) (by omega) (nI v)
    obtain ⟨s1, g1, g2, g3⟩ := C_passDays (Or.inr (Or.inl rfl)) (x := nI n) rfl hn d1 (hw.set (k := 3) (by omega) (by omega) (fun _ _ => by rw [show hb 3 = 20 from rfl, nI_tI (by omega)]; omega))
    have fr : FrP 6 τ s1 := (b3.tr (FrP.w _ (by omega))).tr g3
    have h1 : CP 1 s1 G := h.fr (fun a z1 z2 => fr.1 a (by omega))
    have e1 : L_X4_clayFor_35 (fu + 1) (nI n) (nI (40 + p)) (nI v) τ (fun _ _ _ s => kf s) = if daysG (upd G 3 (nI v)) n (53 + p) = G (53 + p) then some (nI v, s1) else L_X4_clayFor_35 fu (nI n) (nI (40 + p)) (nI (v + 1)) s1 (fun _ _ _ s => kf s) := by
      rw [L_X4_clayFor_35, if_neg (by rw [i_lt, nI_tI (by omega), l20]; omega), b1, bS, fB, g1, bS, rT (b := 6) g2 (53 + p) (j := 40 + p) rfl (by omega) (by omega), rT (b := 1) h1 (53 + p) (j := 40 + p) rfl (by omega) (by omega), fB, nI_1]
      rfl
    rw [e1, clK_s]
    by_cases z : daysG (upd G 3 (nI v)) n (53 + p) = G (53 + p)
    · refine ⟨s1, fr, ?_⟩
      rw [if_pos z, if_pos z, if_neg (nne (by omega))]
    · rw [if_neg z, if_neg z]
      obtain ⟨τ', f1, q1⟩ := C_clL hw hp hn (kf := kf) m (v + 1) fu h1 (by omega) (by omega)
      exact ⟨τ', fr.tr f1, q1⟩
theorem M_clL {G A : Nat → Int32} (hw : WF G) {σ : fk_T} (h29 : σ.1 29 = cpG G A) (h27 : σ.1 27 = G) {p n : Nat} (hp : p < 8) (hn : n < 4000) {kf : fk_T → Option (Int32 × fk_T)} : ∀ (m v fu : Nat), v + m = 21 → m < fu → L_X5_clayFor_34 fu (nI p) (nI n) (nI v) σ (fun _ _ _ s => kf s) = if 0 ≤ clK G p n m v then some (clK G p n m v, σ) else kf σ
  | m, v, 0, _, hf => by omega
  | 0, v, fu + 1, hv9, _ => by
    have : v = 21 := by omega
    subst this
    rw [L_X5_clayFor_34, if_pos (by decide)]
    rfl
  | m + 1, v, fu + 1, hv9, hf => by
    have i1 := M_clL hw h29 h27 hp hn (kf := kf) m (v + 1) fu (by omega) (by omega)
    have hw1 : WF (upd G 3 (nI v)) := hw.set (k := 3) (by omega) (by omega) (fun _ _ => by rw [show hb 3 = 20 from rfl, nI_tI (by omega)]; omega)
    rw [L_X5_clayFor_34, clK_s, if_neg (by rw [i_lt, nI_tI (by omega), l20]; omega), fS (j := 3) (nlit 3) (by omega) (by omega), M_try h29 h27 (by omega) hw1 rfl hn (nl 53 p) (by omega), bS]
    dsimp only
    rw [M_its (a := p) (b := 5) rfl (nlit 5) hp (by omega), bS, h27, fB, nI_1]
    dsimp only
    rw [i1, show 13 + 8 * 5 + p = 53 + p by omega]
    by_cases z : daysG (upd G 3 (nI v)) n (53 + p) = G (53 + p)
    · rw [if_pos z, if_pos z, if_pos (by rw [i_le, li0, nI_tI (by omega)]; omega)]
    · rw [if_neg z, if_neg z]
theorem Q_clayFor {σ : fk_T} (hI : Inv σ) (x1 x2 : Int32) : QQ (F_X4_clayFor x1 x2) (F_X5_clayFor x1 x2) σ := by
  obtain ⟨hw, hc⟩ := hI.p
  have c1 : F_X0_has 1 x1 σ = some (hasG (σ.1 27) x1, σ) := C_has hc x1
  have c2 : ∀ τ, F_X4_within x2 0 60 τ = some (inR x2 0 60, τ) := cR x2 0 60 (by omega) (by omega)
  cases h1 : hasG (σ.1 27) x1
  · refine QQ.find hI (k := 0) (by omega) ?_ ?_
    · first | (simp only [F_X4_clayFor, c1, h1, bS, fb0, if_true, if_false, Bool.true_eq_false, Bool.false_eq_true, reduceIte]; done) | (simp only [F_X4_clayFor, c1, h1, bS, fb0, if_true, if_false, Bool.true_eq_false, Bool.false_eq_true, reduceIte]; rfl)
    · have m1 : F_X5_isPotter x1 (f25 σ 0) = some (hasG (σ.1 27) x1, (f25 σ 0)) := M_isPotter (σ := (f25 σ 0)) hw x1
      first | (simp only [F_X5_clayFor, m1, h1, bS, fb0, if_true, if_false, Bool.true_eq_false, Bool.false_eq_true, reduceIte]; done) | (simp only [F_X5_clayFor, m1, h1, bS, fb0, if_true, if_false, Bool.true_eq_false, Bool.false_eq_true, reduceIte]; rfl)
  cases h2 : inR x2 0 60
  · refine QQ.find hI (k := 0) (by omega) ?_ ?_
    · first | (simp only [F_X4_clayFor, c1, c2, h1, h2, bS, fb0, if_true, if_false, Bool.true_eq_false, Bool.false_eq_true, reduceIte]; done) | (simp only [F_X4_clayFor, c1, c2, h1, h2, bS, fb0, if_true, if_false, Bool.true_eq_false, Bool.false_eq_true, reduceIte]; rfl)
    · have m1 : F_X5_isPotter x1 (f25 σ 0) = some (hasG (σ.1 27) x1, (f25 σ 0)) := M_isPotter (σ := (f25 σ 0)) hw x1
      have m2 : ∀ τ, F_X5_isShort x2 τ = some (inR x2 0 60, τ) := M_isShort x2
      first | (simp only [F_X5_clayFor, m1, m2, h1, h2, bS, fb0, if_true, if_false, Bool.true_eq_false, Bool.false_eq_true, reduceIte]; done) | (simp only [F_X5_clayFor, m1, m2, h1, h2, bS, fb0, if_true, if_false, Bool.true_eq_false, Bool.false_eq_true, reduceIte]; rfl)
  obtain ⟨p, e1, p1, p2⟩ := hasG_of hw h1
  obtain ⟨n, e2, n1, n2, hn⟩ := inR_of h2
  obtain ⟨s1, f1, g1⟩ := C_clL hw p1 (by omega : n < 4000) (kf := fun s11 => (F_X4_found 3 s11).bind (fun q15 => some (q15.1, q15.2))) 20 1 fk_N hc (by omega) (by unfold fk_N; omega)
  refine QQ.best hI (r := clK (σ.1 27) p n 20 1) f1 (cl_ok _ _ _ _ _ (by omega)) ?_ (fun τ hτ e27 => ?_)
  · simp only [F_X4_clayFor, c1, c2, h1, h2, bS, fb0, if_true, if_false, Bool.true_eq_false, Bool.false_eq_true, reduceIte]
    rw [fB, e1, nl, e2]
    exact g1
  · have m1 : F_X5_isPotter x1 τ = some (hasG (σ.1 27) x1, τ) := by rw [M_isPotter hτ, e27]
    have m2 : ∀ τ, F_X5_isShort x2 τ = some (inR x2 0 60, τ) := M_isShort x2
    simp only [F_X5_clayFor, m1, m2, h1, h2, bS, fb0, if_true, if_false, Bool.true_eq_false, Bool.false_eq_true, reduceIte]
    rw [M_aside, bS, e1, e2]
    have a27 : (as29 τ).1 27 = σ.1 27 := by rw [as_ne _ (by omega), e27]
    have a29 : (as29 τ).1 29 = cpG (σ.1 27) (τ.1 29) := by rw [as_29, e27]
    exact M_clL hw a29 a27 p1 (by omega : n < 4000) (kf := fun s9 => (F_X5_finds 3 s9).bind (fun q13 => some (q13.1, q13.2))) 20 1 fk_N (by omega) (by unfold fk_N; omega)
