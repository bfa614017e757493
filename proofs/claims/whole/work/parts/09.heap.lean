/-! ===== terms that methods compute: out of bounds is none ===== -/
abbrev fk_T : Type := (Nat → Nat → Int32) × Int64
def fk_w (σ : fk_T) (a : Nat) (g : Nat → Int32) : fk_T := (fun x => if x = a then g else σ.1 x, σ.2)
def fk_A {α : Type} (g : Nat → Int32) (n : Nat) (i : Int32) (k : Int32 → Option α) : Option α := if i < 0 ∨ n ≤ i.toNatClampNeg then none else k (g i.toNatClampNeg)
def fk_S {α : Type} (σ : fk_T) (a n : Nat) (i x : Int32) (k : fk_T → Option α) : Option α := if i < 0 ∨ n ≤ i.toNatClampNeg then none else k (fk_w σ a (upd (σ.1 a) i.toNatClampNeg x))
def fk_D {α : Type} (y : Int32) (k : Option α) : Option α := if y = 0 then none else k
def fk_B {α β : Type} (x : β) (k : β → Option α) : Option α := k x
def fk_b (b : Bool) : Int32 := if b then 1 else 0
/-! ===== the world of 37 cells: 26 of the class, 11 of the reference ===== -/
abbrev hp_p (b : Nat) (g : Nat → Int32) : aw_E := .inr (0, [.int (g 0), .int (g 1), .int (g 2), .int (g 3), .int (g 4), .int (g 5), .int (g 6), .ref (b + 1), .ref (b + 2), .ref (b + 3), .ref (b + 4)])
def hp_c (a : Nat) (g : Nat → Int32) (v : Int64) : aw_E := match a with
  | 0 => .inr (4, [.ref 1, .ref 6, .ref 11, .int (g 3), .ref 16, .ref 18, .ref 21, .ref 25])
  | 1 => hp_p 1 g
  | 2 => .inl (false, 6, g)
  | 3 => .inl (false, 48, g)
  | 4 => .inl (false, 64, g)
  | 5 => .inl (false, 10, g)
  | 6 => hp_p 6 g
  | 7 => .inl (false, 6, g)
  | 8 => .inl (false, 48, g)
  | 9 => .inl (false, 64, g)
  | 10 => .inl (false, 10, g)
  | 11 => hp_p 11 g
  | 12 => .inl (false, 6, g)
  | 13 => .inl (false, 48, g)
  | 14 => .inl (false, 64, g)
  | 15 => .inl (false, 10, g)
  | 16 => .inr (3, [.ref 17, .int (g 1)])
  | 17 => .inl (false, 120, g)
  | 18 => .inr (1, [.ref 16, .ref 6, .ref 19, .ref 20, .int (g 4), .int (g 5)])
  | 19 => .inl (false, 121, g)
  | 20 => .inl (false, 121, g)
  | 21 => .inr (2, [.ref 22, .ref 23, .ref 24])
  | 22 => .inl (false, 4, g)
  | 23 => .inl (false, 4, g)
  | 24 => .inl (false, 160, g)
  | 25 => .inl (false, 7, g)
  | 26 => .inr (5, [.ref 27, .ref 28, .ref 29, .ref 30, .int (g 4), .ref 31, .ref 32, .int (g 7), .int (g 8), .int (g 9), .int (g 10), .long v, .int (g 12), .ref 33, .ref 34, .ref 35, .ref 36])
  | 27 => .inl (false, 135, g)
  | 28 => .inl (false, 135, g)
  | 29 => .inl (false, 135, g)
  | 30 => .inl (false, 135, g)
  | 31 => .inl (false, 7, g)
  | 32 => .inl (true, 120, g)
  | 33 => .inl (false, 4, g)
  | 34 => .inl (false, 4, g)
  | 35 => .inl (false, 160, g)
  | _ => .inl (false, 40, g)
def hp (σ : fk_T) : aw_H := (List.range 37).map (fun a => hp_c a (σ.1 a) σ.2)
def hp_P (b : Nat) : Prop := b = 1 ∨ b = 6 ∨ b = 11
theorem hp_at (σ : fk_T) {a : Nat} (h : a < 37) : (hp σ)[a]? = some (hp_c a (σ.1 a) σ.2) := by
  simp [hp, h]
theorem hp_len (σ : fk_T) : (hp σ).length = 37 := by simp [hp]
theorem hp_set (σ : fk_T) {a : Nat} (h : a < 37) (g : Nat → Int32) : (hp σ).set a (hp_c a g σ.2) = hp (fk_w σ a g) := by
  apply List.ext_getElem?
  intro i
  by_cases hi : i < 37
  · rw [hp_at _ hi]
    by_cases ha : a = i
    · subst ha
      rw [List.getElem?_set_self (by rw [hp_len]; exact h)]
      simp [fk_w]
    · rw [List.getElem?_set_ne ha, hp_at _ hi]
      simp [fk_w, Ne.symm ha]
  · rw [List.getElem?_eq_none (by rw [List.length_set, hp_len]; omega), List.getElem?_eq_none (by rw [hp_len]; omega)]
theorem hp_setv (σ : fk_T) (v : Int64) : (hp σ).set 26 (hp_c 26 (σ.1 26) v) = hp (σ.1, v) := rfl
theorem hp_lt {b : Nat} (h : hp_P b) : b < 37 := by unfold hp_P at h; omega
theorem hp_lt1 {b : Nat} (h : hp_P b) : b + 1 < 37 := by unfold hp_P at h; omega
theorem hp_lt2 {b : Nat} (h : hp_P b) : b + 2 < 37 := by unfold hp_P at h; omega
theorem hp_lt3 {b : Nat} (h : hp_P b) : b + 3 < 37 := by unfold hp_P at h; omega
theorem hp_lt4 {b : Nat} (h : hp_P b) : b + 4 < 37 := by unfold hp_P at h; omega
theorem hp_p0 {b : Nat} (h : hp_P b) (g : Nat → Int32) (v : Int64) : hp_c b g v = hp_p b g := by rcases h with rfl | rfl | rfl <;> rfl
theorem hp_p1 {b : Nat} (h : hp_P b) (g : Nat → Int32) (v : Int64) : hp_c (b + 1) g v = .inl (false, 6, g) := by rcases h with rfl | rfl | rfl <;> rfl
theorem hp_p2 {b : Nat} (h : hp_P b) (g : Nat → Int32) (v : Int64) : hp_c (b + 2) g v = .inl (false, 48, g) := by rcases h with rfl | rfl | rfl <;> rfl
theorem hp_p3 {b : Nat} (h : hp_P b) (g : Nat → Int32) (v : Int64) : hp_c (b + 3) g v = .inl (false, 64, g) := by rcases h with rfl | rfl | rfl <;> rfl
theorem hp_p4 {b : Nat} (h : hp_P b) (g : Nat → Int32) (v : Int64) : hp_c (b + 4) g v = .inl (false, 10, g) := by rcases h with rfl | rfl | rfl <;> rfl
