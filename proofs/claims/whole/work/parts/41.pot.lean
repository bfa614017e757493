/-! ===== a pottery as a row of 135 numbers ===== -/
def hb (k : Nat) : Int := if k = 0 then 8 else if k = 1 then 99999 else if k = 3 then 20 else if k = 4 then 99999 else if k < 7 then 9999 else if k < 21 then 6 else if k < 45 then 99 else if k < 61 then 9999 else 99
def WF (G : Nat → Int32) : Prop := (∀ k, k < 125 → k ≠ 2 → (k < 7 ∨ 13 ≤ k) → 0 ≤ (G k).toInt ∧ (G k).toInt ≤ hb k) ∧ ∀ j, j < 10 → 0 ≤ (G (125 + j)).toInt ∧ (G (125 + j)).toInt ≤ (G 0).toInt
theorem hb_nn (k : Nat) : 0 ≤ hb k := by unfold hb; repeat' split <;> omega
theorem hb_kind {p : Nat} (h : p < 8) : hb (13 + p) = 6 := by
  unfold hb; rw [if_neg (by omega), if_neg (by omega), if_neg (by omega), if_neg (by omega), if_neg (by omega), if_pos (by omega)]
theorem hb_99 {k : Nat} (h : 21 ≤ k) (h2 : k < 45 ∨ 61 ≤ k) : hb k = 99 := by
  unfold hb; rw [if_neg (by omega), if_neg (by omega), if_neg (by omega), if_neg (by omega), if_neg (by omega), if_neg (by omega)]
  split
  · rfl
  · rw [if_neg (by omega)]
theorem hb_9999 {k : Nat} (h : 45 ≤ k) (h2 : k < 61) : hb k = 9999 := by
  unfold hb; rw [if_neg (by omega), if_neg (by omega), if_neg (by omega), if_neg (by omega), if_neg (by omega), if_neg (by omega), if_neg (by omega), if_pos (by omega)]
theorem WF.n {G : Nat → Int32} (h : WF G) : 0 ≤ (G 0).toInt ∧ (G 0).toInt ≤ 8 := h.1 0 (by omega) (by omega) (by omega)
theorem WF.day {G : Nat → Int32} (h : WF G) : 0 ≤ (G 1).toInt ∧ (G 1).toInt ≤ 99999 := h.1 1 (by omega) (by omega) (by omega)
theorem WF.clay {G : Nat → Int32} (h : WF G) : 0 ≤ (G 3).toInt ∧ (G 3).toInt ≤ 20 := h.1 3 (by omega) (by omega) (by omega)
theorem WF.gold {G : Nat → Int32} (h : WF G) : 0 ≤ (G 4).toInt ∧ (G 4).toInt ≤ 99999 := h.1 4 (by omega) (by omega) (by omega)
theorem WF.round {G : Nat → Int32} (h : WF G) : 0 ≤ (G 5).toInt ∧ (G 5).toInt ≤ 9999 := h.1 5 (by omega) (by omega) (by omega)
theorem WF.rings {G : Nat → Int32} (h : WF G) : 0 ≤ (G 6).toInt ∧ (G 6).toInt ≤ 9999 := h.1 6 (by omega) (by omega) (by omega)
theorem WF.kind {G : Nat → Int32} (h : WF G) {p : Nat} (hp : p < 8) : 0 ≤ (G (13 + p)).toInt ∧ (G (13 + p)).toInt ≤ 6 := by
  have := h.1 (13 + p) (by omega) (by omega) (by omega); rw [hb_kind hp] at this; exact this
theorem WF.lev {G : Nat → Int32} (h : WF G) {k : Nat} (h1 : 21 ≤ k) (h2 : k < 45 ∨ (61 ≤ k ∧ k < 125)) : 0 ≤ (G k).toInt ∧ (G k).toInt ≤ 99 := by
  have := h.1 k (by omega) (by omega) (by omega); rw [hb_99 h1 (by omega)] at this; exact this
theorem WF.pots {G : Nat → Int32} (h : WF G) {k : Nat} (h1 : 45 ≤ k) (h2 : k < 61) : 0 ≤ (G k).toInt ∧ (G k).toInt ≤ 9999 := by
  have := h.1 k (by omega) (by omega) (by omega); rw [hb_9999 h1 h2] at this; exact this
theorem WF.set {G : Nat → Int32} (h : WF G) {k : Nat} {x : Int32} (hk : 0 < k) (hk2 : k < 125) (hx : k ≠ 2 → (k < 7 ∨ 13 ≤ k) → 0 ≤ x.toInt ∧ x.toInt ≤ hb k) : WF (upd G k x) := by
  refine ⟨fun j h1 h2 h3 => ?_, fun j hj => ?_⟩
  · by_cases e : j = k
    · subst e; rw [u_self]; exact hx h2 h3
    · rw [u_ne _ _ e]; exact h.1 j h1 h2 h3
  · rw [u_ne _ _ (by omega), u_ne _ _ (by omega)]; exact h.2 j hj
theorem WF.ga {G : Nat → Int32} (h : WF G) {k : Nat} {x most : Int32} (hk : 0 < k) (hk2 : k < 125) (hm : most.toInt = hb k) : WF (ga G k x most) := by
  refine h.set hk hk2 (fun _ _ => ?_)
  have := gh_b (G k + x) (most := most) (by rw [hm]; exact hb_nn k)
  rw [← hm]; exact this
/-- the class's fields in the row -/
def ob (i : Nat) : Nat := if i < 4 then i + 3 else if i = 4 then 1 else if i = 5 then 2 else 0
def CP (b : Nat) (σ : fk_T) (G : Nat → Int32) : Prop := (∀ i, i < 7 → σ.1 b i = G (ob i)) ∧ (∀ i, i < 6 → σ.1 (b + 1) i = G (7 + i)) ∧ (∀ i, i < 48 → σ.1 (b + 2) i = G (13 + i)) ∧ (∀ i, i < 64 → σ.1 (b + 3) i = G (61 + i)) ∧ ∀ i, i < 10 → σ.1 (b + 4) i + 1 = G (125 + i)
/-- nothing but a pottery changed -/
def FrP (b : Nat) (σ σ' : fk_T) : Prop := (∀ a, a < b ∨ b + 4 < a → σ'.1 a = σ.1 a) ∧ σ'.2 = σ.2
theorem FrP.rf (b : Nat) (σ : fk_T) : FrP b σ σ := ⟨fun _ _ => rfl, rfl⟩
theorem FrP.tr {b : Nat} {σ σ1 σ2 : fk_T} (h1 : FrP b σ σ1) (h2 : FrP b σ1 σ2) : FrP b σ σ2 := ⟨fun a ha => (h2.1 a ha).trans (h1.1 a ha), h2.2.trans h1.2⟩
theorem FrP.w {b : Nat} {σ : fk_T} {r : Nat} (g : Nat → Int32) (h : b ≤ r ∧ r ≤ b + 4) : FrP b σ (fk_w σ r g) := ⟨fun a ha => w_ne _ _ (by omega), rfl⟩
theorem CP.obj {b : Nat} {σ : fk_T} {G : Nat → Int32} (h : CP b σ G) {i : Nat} (hi : i < 7) (x : Int32) : CP b (fk_w σ b (upd (σ.1 b) i x)) (upd G (ob i) x) := by
  obtain ⟨h1, h2, h3, h4, h5⟩ := h
  have hob : ∀ j, j < 7 → ob j < 7 := fun j hj => by unfold ob; split <;> (try split) <;> (try split) <;> omega
  have hinj : ∀ j, j < 7 → ob j = ob i → j = i := by
    intro j hj e
    unfold ob at e
    repeat' split at e
    all_goals omega
  have hoi := hob i hi
  refine ⟨fun j hj => ?_, fun j hj => ?_, fun j hj => ?_, fun j hj => ?_, fun j hj => ?_⟩
  · rw [w_self]
    by_cases e : j = i
    · subst e; rw [u_self, u_self]
    · rw [u_ne _ _ e, u_ne _ _ (fun z => e (hinj j hj z))]; exact h1 j hj
  · rw [w_ne _ _ (by omega), u_ne _ _ (by omega)]; exact h2 j hj
  · rw [w_ne _ _ (by omega), u_ne _ _ (by omega)]; exact h3 j hj
  · rw [w_ne _ _ (by omega), u_ne _ _ (by omega)]; exact h4 j hj
  · rw [w_ne _ _ (by omega), u_ne _ _ (by omega)]; exact h5 j hj
theorem ob_lt {i : Nat} (hi : i < 7) : ob i < 7 := by unfold ob; split <;> (try split) <;> (try split) <;> omega
theorem CP.li {b : Nat} {σ : fk_T} {G : Nat → Int32} (h : CP b σ G) {i : Nat} (hi : i < 6) (x : Int32) : CP b (fk_w σ (b + 1) (upd (σ.1 (b + 1)) i x)) (upd G (7 + i) x) := by
  obtain ⟨h1, h2, h3, h4, h5⟩ := h
  refine ⟨fun j hj => ?_, fun j hj => ?_, fun j hj => ?_, fun j hj => ?_, fun j hj => ?_⟩
  · have := ob_lt hj; rw [w_ne _ _ (by omega), u_ne _ _ (by omega)]; exact h1 j hj
  · rw [w_self]
    by_cases e : j = i
    · subst e; rw [u_self, u_self]
    · rw [u_ne _ _ e, u_ne _ _ (by omega)]; exact h2 j hj
  · rw [w_ne _ _ (by omega), u_ne _ _ (by omega)]; exact h3 j hj
  · rw [w_ne _ _ (by omega), u_ne _ _ (by omega)]; exact h4 j hj
  · rw [w_ne _ _ (by omega), u_ne _ _ (by omega)]; exact h5 j hj
theorem CP.tr {b : Nat} {σ : fk_T} {G : Nat → Int32} (h : CP b σ G) {i : Nat} (hi : i < 48) (x : Int32) : CP b (fk_w σ (b + 2) (upd (σ.1 (b + 2)) i x)) (upd G (13 + i) x) := by
  obtain ⟨h1, h2, h3, h4, h5⟩ := h
  refine ⟨fun j hj => ?_, fun j hj => ?_, fun j hj => ?_, fun j hj => ?_, fun j hj => ?_⟩
  · have := ob_lt hj; rw [w_ne _ _ (by omega), u_ne _ _ (by omega)]; exact h1 j hj
  · rw [w_ne _ _ (by omega), u_ne _ _ (by omega)]; exact h2 j hj
  · rw [w_self]
    by_cases e : j = i
    · subst e; rw [u_self, u_self]
    · rw [u_ne _ _ e, u_ne _ _ (by omega)]; exact h3 j hj
  · rw [w_ne _ _ (by omega), u_ne _ _ (by omega)]; exact h4 j hj
  · rw [w_ne _ _ (by omega), u_ne _ _ (by omega)]; exact h5 j hj
theorem CP.ri {b : Nat} {σ : fk_T} {G : Nat → Int32} (h : CP b σ G) {i : Nat} (hi : i < 64) (x : Int32) : CP b (fk_w σ (b + 3) (upd (σ.1 (b + 3)) i x)) (upd G (61 + i) x) := by
  obtain ⟨h1, h2, h3, h4, h5⟩ := h
  refine ⟨fun j hj => ?_, fun j hj => ?_, fun j hj => ?_, fun j hj => ?_, fun j hj => ?_⟩
  · have := ob_lt hj; rw [w_ne _ _ (by omega), u_ne _ _ (by omega)]; exact h1 j hj
  · rw [w_ne _ _ (by omega), u_ne _ _ (by omega)]; exact h2 j hj
  · rw [w_ne _ _ (by omega), u_ne _ _ (by omega)]; exact h3 j hj
  · rw [w_self]
    by_cases e : j = i
    · subst e; rw [u_self, u_self]
    · rw [u_ne _ _ e, u_ne _ _ (by omega)]; exact h4 j hj
  · rw [w_ne _ _ (by omega), u_ne _ _ (by omega)]; exact h5 j hj
theorem CP.sp {b : Nat} {σ : fk_T} {G : Nat → Int32} (h : CP b σ G) {i : Nat} (hi : i < 10) (x : Int32) : CP b (fk_w σ (b + 4) (upd (σ.1 (b + 4)) i x)) (upd G (125 + i) (x + 1)) := by
  obtain ⟨h1, h2, h3, h4, h5⟩ := h
  refine ⟨fun j hj => ?_, fun j hj => ?_, fun j hj => ?_, fun j hj => ?_, fun j hj => ?_⟩
  · have := ob_lt hj; rw [w_ne _ _ (by omega), u_ne _ _ (by omega)]; exact h1 j hj
  · rw [w_ne _ _ (by omega), u_ne _ _ (by omega)]; exact h2 j hj
  · rw [w_ne _ _ (by omega), u_ne _ _ (by omega)]; exact h3 j hj
  · rw [w_ne _ _ (by omega), u_ne _ _ (by omega)]; exact h4 j hj
  · rw [w_self]
    by_cases e : j = i
    · subst e; rw [u_self, u_self]
    · rw [u_ne _ _ e, u_ne _ _ (by omega)]; exact h5 j hj
/-- the class's pottery is kept where only other rows change -/
theorem CP.fr {b : Nat} {σ σ' : fk_T} {G : Nat → Int32} (h : CP b σ G) (hf : ∀ a, b ≤ a → a ≤ b + 4 → σ'.1 a = σ.1 a) : CP b σ' G := by
  obtain ⟨h1, h2, h3, h4, h5⟩ := h
  exact ⟨fun j hj => by rw [hf _ (by omega) (by omega)]; exact h1 j hj, fun j hj => by rw [hf _ (by omega) (by omega)]; exact h2 j hj, fun j hj => by rw [hf _ (by omega) (by omega)]; exact h3 j hj, fun j hj => by rw [hf _ (by omega) (by omega)]; exact h4 j hj, fun j hj => by rw [hf _ (by omega) (by omega)]; exact h5 j hj⟩
theorem CP.c0 {b : Nat} {σ : fk_T} {G : Nat → Int32} (h : CP b σ G) : σ.1 b 0 = G 3 := h.1 0 (by omega)
theorem CP.c1 {b : Nat} {σ : fk_T} {G : Nat → Int32} (h : CP b σ G) : σ.1 b 1 = G 4 := h.1 1 (by omega)
theorem CP.c2 {b : Nat} {σ : fk_T} {G : Nat → Int32} (h : CP b σ G) : σ.1 b 2 = G 5 := h.1 2 (by omega)
theorem CP.c3 {b : Nat} {σ : fk_T} {G : Nat → Int32} (h : CP b σ G) : σ.1 b 3 = G 6 := h.1 3 (by omega)
theorem CP.c4 {b : Nat} {σ : fk_T} {G : Nat → Int32} (h : CP b σ G) : σ.1 b 4 = G 1 := h.1 4 (by omega)
theorem CP.c5 {b : Nat} {σ : fk_T} {G : Nat → Int32} (h : CP b σ G) : σ.1 b 5 = G 2 := h.1 5 (by omega)
theorem CP.c6 {b : Nat} {σ : fk_T} {G : Nat → Int32} (h : CP b σ G) : σ.1 b 6 = G 0 := h.1 6 (by omega)
/-- a trait is read -/
theorem rT {b : Nat} {σ : fk_T} {G : Nat → Int32} (h : CP b σ G) {α : Type} {x : Int32} {j : Nat} (m : Nat) {f : Int32 → Option α} (hx : x = nI j) (hj : j < 48) (hm : 13 + j = m) : fk_A (σ.1 (b + 2)) 48 x f = f (G m) := by
  rw [fA hx hj (by omega), h.2.2.1 j hj, hm]
/-! ===== what one does ===== -/
def pushG (G : Nat → Int32) (p : Nat) : Int32 := if G (13 + p) = 0 then G (21 + p) / 10 else if G (13 + p) = 1 then G (21 + p) / 10 + G (37 + p) / 10 else if G (13 + p) = 2 then 2 * (G (21 + p) / 10) else if G (13 + p) = 3 then fk_max (G (21 + p) / 10 + G (37 + p) / 10 - G (29 + p) / 10) 0 else if G (13 + p) = 4 then fk_max (G (21 + p) / 10 + G (37 + p) / 10 - G (29 + p) / 10) 0 + 2 else if G (13 + p) = 5 then 1 else if G (13 + p) = 6 then fk_max (2 * (G (21 + p) / 10) - G (29 + p) / 5) 0 else 1
def saysP (G : Nat → Int32) (p : Nat) : Int32 := if G (21 + p) < 50 then -1 else 1
def saysG (G : Nat → Int32) (p : Nat) : Int32 := if G (13 + p) = 1 then saysP G p + 1 else if G (13 + p) = 2 then saysP G p else if G (13 + p) = 3 then (if G (29 + p) < 60 then saysP G p + 1 else -3) else if G (13 + p) = 4 then -2 else if G (13 + p) = 5 then 0 else if G (13 + p) = 6 then (if 10 ≤ G (29 + p) then saysP G p else 20) else saysP G p
def coolG (G : Nat → Int32) (p : Nat) : Int32 := if G (13 + p) = 1 then 1 else if G (13 + p) = 2 then 5 else if G (13 + p) = 3 then 1 else if G (13 + p) = 4 then 2 else if G (13 + p) = 5 then 0 else if G (13 + p) = 6 then 5 else 2
def boilG (G : Nat → Int32) (p : Nat) : Int32 := if G (13 + p) = 2 then 3 else if G (13 + p) = 3 then 10 else if G (13 + p) = 4 then 10 else if G (13 + p) = 5 then 1 else if G (13 + p) = 6 then 3 else 5
theorem kind7 {x : Int32} (h : 0 ≤ x.toInt ∧ x.toInt ≤ 6) : x = 0 ∨ x = 1 ∨ x = 2 ∨ x = 3 ∨ x = 4 ∨ x = 5 ∨ x = 6 := by
  simp only [i_eq, li0, li1, show (2 : Int32).toInt = 2 by decide, show (3 : Int32).toInt = 3 by decide, show (4 : Int32).toInt = 4 by decide, show (5 : Int32).toInt = 5 by decide, show (6 : Int32).toInt = 6 by decide]
  omega
theorem C_pushes {b : Nat} {σ : fk_T} {G : Nat → Int32} (h : CP b σ G) {x : Int32} {p : Nat} (hx : x = nI p) (hp : p < 8) : F_X0_pushes b x σ = some (pushG G p, σ) := by
  subst hx
  unfold F_X0_pushes
  rw [rT h (21 + p) (nl 8 p) (by omega) (by omega)]
  simp only [fk_B]
  rw [rT h (37 + p) (nl 24 p) (by omega) (by omega), rT h (29 + p) (nl 16 p) (by omega) (by omega), rT h (13 + p) (nl 0 p) (by omega) (by omega)]
  unfold pushG
  repeat' split
  all_goals rfl
theorem C_says {b : Nat} {σ : fk_T} {G : Nat → Int32} (h : CP b σ G) {x : Int32} {p : Nat} (hx : x = nI p) (hp : p < 8) : F_X0_says b x σ = some (saysG G p, σ) := by
  subst hx
  unfold F_X0_says
  rw [rT h (21 + p) (nl 8 p) (by omega) (by omega), rT h (29 + p) (nl 16 p) (by omega) (by omega), rT h (13 + p) (nl 0 p) (by omega) (by omega), rT h (29 + p) (nl 16 p) (by omega) (by omega), rT h (13 + p) (nl 0 p) (by omega) (by omega)]
  unfold saysG saysP
  by_cases hh : G (21 + p) < 50
  · rw [if_pos hh, if_pos hh]
    repeat' split
    all_goals rfl
  · rw [if_neg hh, if_neg hh]
    repeat' split
    all_goals rfl
theorem C_cool {G : Nat → Int32} (hw : WF G) {p : Nat} (hp : p < 8) {α : Type} {f : Int32 → Option α} : fk_A fk_t0 7 (G (13 + p)) f = f (coolG G p) := by
  unfold coolG
  rcases kind7 (hw.kind hp) with e | e | e | e | e | e | e <;> rw [e] <;> rfl
theorem C_boil {G : Nat → Int32} (hw : WF G) {p : Nat} (hp : p < 8) {α : Type} {f : Int32 → Option α} : fk_A fk_t1 7 (G (13 + p)) f = f (boilG G p) := by
  unfold boilG
  rcases kind7 (hw.kind hp) with e | e | e | e | e | e | e <;> rw [e] <;> rfl
