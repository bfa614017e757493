/-! ===== locals: storing ===== -/
def aw_lw (lv : List (Option Value)) (i : Nat) (v : Value) : List (Option Value) := lv.mapIdx (fun j o => if j = i then some v else if j + 1 = i ∧ (o.map (fun w => w.category)) = some 2 then none else o)
def aw_lw2 (lv : List (Option Value)) (i : Nat) (v : Value) : List (Option Value) := lv.mapIdx (fun j o => if j = i then some v else if j = i + 1 then none else if j + 1 = i ∧ (o.map (fun w => w.category)) = some 2 then none else o)
def aw_lm (lv : List (Option Value)) (bs : List Bool) : List (Option Value) := List.zipWith (fun o b => if b then o else none) lv bs
/-- the values that the locals hold, as the kit lists them -/
def aw_ps (ad : Nat → Nat) (lv : List (Option Value)) : List (Nat × Value) := (lv.mapIdx (fun i o => o.map (fun v => (i, aw_v ad v)))).filterMap id
theorem aw_ps_mem {ad : Nat → Nat} {lv : List (Option Value)} {q : Nat × Value} : q ∈ aw_ps ad lv ↔ ∃ v, lv[q.1]? = some (some v) ∧ q.2 = aw_v ad v := by
  unfold aw_ps
  rw [List.mem_filterMap]
  constructor
  · rintro ⟨o, ho, he⟩
    cases he
    obtain ⟨i, hi⟩ := List.getElem?_of_mem ho
    rw [List.getElem?_mapIdx] at hi
    cases hl : lv[i]? with
    | none => rw [hl] at hi; cases hi
    | some o2 =>
      rw [hl] at hi
      cases o2 with
      | none => cases hi
      | some v => cases hi; exact ⟨v, hl, rfl⟩
  · rintro ⟨v, h1, h2⟩
    refine ⟨some q, List.mem_of_getElem? (i := q.1) ?_, rfl⟩
    rw [List.getElem?_mapIdx, h1]
    obtain ⟨a, b⟩ := q
    cases h2
    rfl
theorem aw_L.has {ad : Nat → Nat} {nL : Nat} {lv : List (Option Value)} {ls : Array Slot} (h : aw_L ad nL lv ls) : lv_has ls nL (aw_ps ad lv) := by
  refine ⟨h.1, h.2.1, fun q hq => ?_⟩
  obtain ⟨v, h1, h2⟩ := aw_ps_mem.mp hq
  rw [h2]
  exact h.2.2 _ _ h1
theorem aw_L.store {ad : Nat → Nat} {nL : Nat} {lv : List (Option Value)} {ls' : Array Slot} {i : Nat} {v : Value} (h : lv_has ls' nL ((i, aw_v ad v) :: (aw_ps ad lv).filter (fun q => !(q.1 == i) && !(q.1 + 1 == i && q.2.category == 2)))) : aw_L ad nL (aw_lw lv i v) ls' := by
  refine ⟨h.1, h.2.1, fun j w hj => ?_⟩
  unfold aw_lw at hj
  rw [List.getElem?_mapIdx] at hj
  cases hl : lv[j]? with
  | none => rw [hl] at hj; cases hj
  | some o =>
    rw [hl] at hj
    simp only [Option.map_some, Option.some.injEq] at hj
    by_cases h1 : j = i
    · rw [if_pos h1] at hj
      cases hj
      subst h1
      exact h.2.2 (j, aw_v ad v) List.mem_cons_self
    · rw [if_neg h1] at hj
      by_cases h2 : j + 1 = i ∧ o.map (fun w => w.category) = some 2
      · rw [if_pos h2] at hj; cases hj
      · rw [if_neg h2] at hj
        subst hj
        refine h.2.2 (j, aw_v ad w) (List.mem_cons_of_mem _ (List.mem_filter.mpr ⟨aw_ps_mem.mpr ⟨w, hl, rfl⟩, ?_⟩))
        simp only [Option.map_some, Option.some.injEq] at h2
        simp only [aw_cat, Bool.and_eq_true, Bool.not_eq_true', beq_eq_false_iff_ne, ne_eq, Bool.and_eq_false_iff]
        refine ⟨h1, ?_⟩
        by_cases h3 : j + 1 = i
        · exact Or.inr (fun h4 => h2 ⟨h3, h4⟩)
        · exact Or.inl h3
theorem aw_L.store2 {ad : Nat → Nat} {nL : Nat} {lv : List (Option Value)} {ls' : Array Slot} {i : Nat} {v : Value} (h : lv_has ls' nL ((i, aw_v ad v) :: (aw_ps ad lv).filter (fun q => !(q.1 == i) && (!(q.1 == i + 1) && !(q.1 + 1 == i && q.2.category == 2))))) : aw_L ad nL (aw_lw2 lv i v) ls' := by
  refine ⟨h.1, h.2.1, fun j w hj => ?_⟩
  unfold aw_lw2 at hj
  rw [List.getElem?_mapIdx] at hj
  cases hl : lv[j]? with
  | none => rw [hl] at hj; cases hj
  | some o =>
    rw [hl] at hj
    simp only [Option.map_some, Option.some.injEq] at hj
    by_cases h1 : j = i
    · rw [if_pos h1] at hj
      cases hj
      subst h1
      exact h.2.2 (j, aw_v ad v) List.mem_cons_self
    · rw [if_neg h1] at hj
      by_cases h1' : j = i + 1
      · rw [if_pos h1'] at hj; cases hj
      rw [if_neg h1'] at hj
      by_cases h2 : j + 1 = i ∧ o.map (fun w => w.category) = some 2
      · rw [if_pos h2] at hj; cases hj
      · rw [if_neg h2] at hj
        subst hj
        refine h.2.2 (j, aw_v ad w) (List.mem_cons_of_mem _ (List.mem_filter.mpr ⟨aw_ps_mem.mpr ⟨w, hl, rfl⟩, ?_⟩))
        simp only [Option.map_some, Option.some.injEq] at h2
        simp only [aw_cat, Bool.and_eq_true, Bool.not_eq_true', beq_eq_false_iff_ne, ne_eq, Bool.and_eq_false_iff]
        refine ⟨h1, h1', ?_⟩
        by_cases h3 : j + 1 = i
        · exact Or.inr (fun h4 => h2 ⟨h3, h4⟩)
        · exact Or.inl h3
theorem aw_L.mask {ad : Nat → Nat} {nL : Nat} {lv : List (Option Value)} {ls : Array Slot} (bs : List Bool) (h : aw_L ad nL lv ls) : aw_L ad nL (aw_lm lv bs) ls := by
  refine ⟨h.1, h.2.1, fun j w hj => h.2.2 j w ?_⟩
  unfold aw_lm at hj
  rw [List.getElem?_zipWith] at hj
  cases hl : lv[j]? with
  | none => rw [hl] at hj; cases hj
  | some o =>
    cases hb : bs[j]? with
    | none => rw [hl, hb] at hj; cases hj
    | some b =>
      rw [hl, hb] at hj
      simp only [Option.some.injEq] at hj
      cases b with
      | true => exact congrArg some hj
      | false => cases hj
/-- what the walk no longer needs is forgotten -/
theorem af_lm {cx : aw_C} {α : Type} {ρ : α → Option Value × aw_H} {f : Option α} {pc : Nat} {lv lv' : List (Option Value)} {st : List Value} {h : aw_H} (bs : List Bool) (e : aw_lm lv bs = lv') (k : af cx ρ pc lv' st h f) : af cx ρ pc lv st h f := by
  subst e
  obtain ⟨p, l, e, R, s, m, args, below, meth, c, Q, A, cells, slots, X, nL, Ad⟩ := cx
  exact fun q hq hr ad H locs ls h1 h2 h3 h4 h5 => k q hq hr ad H locs ls h1 h2 h3 h4 (h5.mask bs)
theorem af_istore_n {cx : aw_C} {cc : ByteArray} {own : String} {rm : Room} (K : aw_K cx cc own rm) {α : Type} {ρ : α → Option Value × aw_H} {f : Option α} {pc : Nat} {lv : List (Option Value)} {st : List Value} {h : aw_H} {i : Fin 4} {x : Int32} (n : Nat) (lv' : List (Option Value)) (d : decode cc pc = .ok (.istore_n i, 1)) (hn : pc + 1 = n) (hi : ((i : Nat)) < aw_nL cx) (e : aw_lw lv i (.int x) = lv') (k : af cx ρ n lv' st h f) : af cx ρ pc lv (.int x :: st) h f := by
  subst e
  obtain ⟨p, l, e, R, s, m, args, below, meth, c, Q, A, cells, slots, X, nL, Ad⟩ := cx
  subst hn
  intro q hq hr ad H locs ls h1 h2 h3 h4 h5
  exact lv_istore_n K.1 K.2.1 d rfl h5.has hi rfl (fun ls' hl => k q hq hr ad H locs ls' h1 h2 h3 h4 (aw_L.store hl))
theorem af_istore {cx : aw_C} {cc : ByteArray} {own : String} {rm : Room} (K : aw_K cx cc own rm) {α : Type} {ρ : α → Option Value × aw_H} {f : Option α} {pc : Nat} {lv : List (Option Value)} {st : List Value} {h : aw_H} {i : Nat} {x : Int32} (n : Nat) (lv' : List (Option Value)) (d : decode cc pc = .ok (.istore i, 2)) (hn : pc + 2 = n) (hi : i < aw_nL cx) (e : aw_lw lv i (.int x) = lv') (k : af cx ρ n lv' st h f) : af cx ρ pc lv (.int x :: st) h f := by
  subst e
  obtain ⟨p, l, e, R, s, m, args, below, meth, c, Q, A, cells, slots, X, nL, Ad⟩ := cx
  subst hn
  intro q hq hr ad H locs ls h1 h2 h3 h4 h5
  exact lv_istore K.1 K.2.1 d h5.has hi rfl (fun ls' hl => k q hq hr ad H locs ls' h1 h2 h3 h4 (aw_L.store hl))
theorem af_lstore_n {cx : aw_C} {cc : ByteArray} {own : String} {rm : Room} (K : aw_K cx cc own rm) {α : Type} {ρ : α → Option Value × aw_H} {f : Option α} {pc : Nat} {lv : List (Option Value)} {st : List Value} {h : aw_H} {i : Fin 4} {x : Int64} (n : Nat) (lv' : List (Option Value)) (d : decode cc pc = .ok (.lstore_n i, 1)) (hn : pc + 1 = n) (hi : ((i : Nat) + 1) < aw_nL cx) (e : aw_lw2 lv i (.long x) = lv') (k : af cx ρ n lv' st h f) : af cx ρ pc lv (.long x :: st) h f := by
  subst e
  obtain ⟨p, l, e, R, s, m, args, below, meth, c, Q, A, cells, slots, X, nL, Ad⟩ := cx
  subst hn
  intro q hq hr ad H locs ls h1 h2 h3 h4 h5
  exact lv_lstore_n K.1 K.2.1 d rfl h5.has hi rfl (fun ls' hl => k q hq hr ad H locs ls' h1 h2 h3 h4 (aw_L.store2 hl))
theorem af_lstore {cx : aw_C} {cc : ByteArray} {own : String} {rm : Room} (K : aw_K cx cc own rm) {α : Type} {ρ : α → Option Value × aw_H} {f : Option α} {pc : Nat} {lv : List (Option Value)} {st : List Value} {h : aw_H} {i : Nat} {x : Int64} (n : Nat) (lv' : List (Option Value)) (d : decode cc pc = .ok (.lstore i, 2)) (hn : pc + 2 = n) (hi : i + 1 < aw_nL cx) (e : aw_lw2 lv i (.long x) = lv') (k : af cx ρ n lv' st h f) : af cx ρ pc lv (.long x :: st) h f := by
  subst e
  obtain ⟨p, l, e, R, s, m, args, below, meth, c, Q, A, cells, slots, X, nL, Ad⟩ := cx
  subst hn
  intro q hq hr ad H locs ls h1 h2 h3 h4 h5
  exact lv_lstore K.1 K.2.1 d h5.has hi rfl (fun ls' hl => k q hq hr ad H locs ls' h1 h2 h3 h4 (aw_L.store2 hl))
theorem af_astore_n {cx : aw_C} {cc : ByteArray} {own : String} {rm : Room} (K : aw_K cx cc own rm) {α : Type} {ρ : α → Option Value × aw_H} {f : Option α} {pc : Nat} {lv : List (Option Value)} {st : List Value} {h : aw_H} {i : Fin 4} {x : Nat} (n : Nat) (lv' : List (Option Value)) (d : decode cc pc = .ok (.astore_n i, 1)) (hn : pc + 1 = n) (hi : ((i : Nat)) < aw_nL cx) (e : aw_lw lv i (.ref x) = lv') (k : af cx ρ n lv' st h f) : af cx ρ pc lv (.ref x :: st) h f := by
  subst e
  obtain ⟨p, l, e, R, s, m, args, below, meth, c, Q, A, cells, slots, X, nL, Ad⟩ := cx
  subst hn
  intro q hq hr ad H locs ls h1 h2 h3 h4 h5
  exact lv_astore_n K.1 K.2.1 d rfl h5.has hi rfl (fun ls' hl => k q hq hr ad H locs ls' h1 h2 h3 h4 (aw_L.store hl))
theorem af_astore {cx : aw_C} {cc : ByteArray} {own : String} {rm : Room} (K : aw_K cx cc own rm) {α : Type} {ρ : α → Option Value × aw_H} {f : Option α} {pc : Nat} {lv : List (Option Value)} {st : List Value} {h : aw_H} {i : Nat} {x : Nat} (n : Nat) (lv' : List (Option Value)) (d : decode cc pc = .ok (.astore i, 2)) (hn : pc + 2 = n) (hi : i < aw_nL cx) (e : aw_lw lv i (.ref x) = lv') (k : af cx ρ n lv' st h f) : af cx ρ pc lv (.ref x :: st) h f := by
  subst e
  obtain ⟨p, l, e, R, s, m, args, below, meth, c, Q, A, cells, slots, X, nL, Ad⟩ := cx
  subst hn
  intro q hq hr ad H locs ls h1 h2 h3 h4 h5
  exact lv_astore K.1 K.2.1 d h5.has hi rfl (fun ls' hl => k q hq hr ad H locs ls' h1 h2 h3 h4 (aw_L.store hl))
theorem af_iinc {cx : aw_C} {cc : ByteArray} {own : String} {rm : Room} (K : aw_K cx cc own rm) {α : Type} {ρ : α → Option Value × aw_H} {f : Option α} {pc : Nat} {lv : List (Option Value)} {st : List Value} {h : aw_H} {i : Nat} {z : Int} {x v : Int32} (n : Nat) (lv' : List (Option Value)) (d : decode cc pc = .ok (.iinc i z, 3)) (hn : pc + 3 = n) (hi : i < aw_nL cx) (hl : lv[i]? = some (some (.int x))) (hv : x + Int32.ofInt z = v) (e : aw_lw lv i (.int v) = lv') (k : af cx ρ n lv' st h f) : af cx ρ pc lv st h f := by
  subst e
  obtain ⟨p, l, e, R, s, m, args, below, meth, c, Q, A, cells, slots, X, nL, Ad⟩ := cx
  subst hn
  intro q hq hr ad H locs ls h1 h2 h3 h4 h5
  obtain ⟨j, hj⟩ := List.getElem?_of_mem (aw_ps_mem.mpr ⟨.int x, hl, rfl⟩ : (i, aw_v ad (.int x)) ∈ aw_ps ad lv)
  exact lv_iinc K.1 K.2.1 d h5.has hj hv hi rfl (fun ls' hl => k q hq hr ad H locs ls' h1 h2 h3 h4 (aw_L.store hl))
/-! ===== a number gets a name ===== -/
theorem af_B {cx : aw_C} {α β : Type} {ρ : α → Option Value × aw_H} {pc : Nat} {lv : List (Option Value)} {st : List Value} {h : aw_H} {x : β} {kf : β → Option α} (k : af cx ρ pc lv st h (kf x)) : af cx ρ pc lv st h (fk_B x kf) := k
theorem af_Bi {cx : aw_C} {α : Type} {ρ : α → Option Value × aw_H} {pc : Nat} {lv : List (Option Value)} {st : List Value} {h : aw_H} {x : Int32} {kf : Int32 → Option α} (k : ∀ y : Int32, af cx ρ pc lv (.int y :: st) h (kf y)) : af cx ρ pc lv (.int x :: st) h (fk_B x kf) := k x
theorem af_Bl {cx : aw_C} {α : Type} {ρ : α → Option Value × aw_H} {pc : Nat} {lv : List (Option Value)} {st : List Value} {h : aw_H} {x : Int64} {kf : Int64 → Option α} (k : ∀ y : Int64, af cx ρ pc lv (.long y :: st) h (kf y)) : af cx ρ pc lv (.long x :: st) h (fk_B x kf) := k x
theorem af_none {cx : aw_C} {α : Type} {ρ : α → Option Value × aw_H} {pc : Nat} {lv : List (Option Value)} {st : List Value} {h : aw_H} : af cx ρ pc lv st h none := fun _ hq => by cases hq
theorem af_ite {cx : aw_C} {α : Type} {ρ : α → Option Value × aw_H} {f g : Option α} {pc : Nat} {lv : List (Option Value)} {st : List Value} {h : aw_H} {c : Prop} [Decidable c] (kt : c → af cx ρ pc lv st h f) (kf : ¬ c → af cx ρ pc lv st h g) : af cx ρ pc lv st h (if c then f else g) := by
  by_cases hc : c
  · rw [if_pos hc]; exact kt hc
  · rw [if_neg hc]; exact kf hc
/-! ===== division ===== -/
theorem af_idiv {cx : aw_C} {cc : ByteArray} {own : String} {rm : Room} (K : aw_K cx cc own rm) {α : Type} {ρ : α → Option Value × aw_H} {f : Option α} {pc : Nat} {lv : List (Option Value)} {st : List Value} {h : aw_H} {x y : Int32} (n : Nat) (d : decode cc pc = .ok (.idiv, 1)) (hn : pc + 1 = n) (hy : ¬ y = 0) (k : af cx ρ n lv (.int (x / y) :: st) h f) : af cx ρ pc lv (.int y :: .int x :: st) h f := by
  obtain ⟨p, l, e, R, s, m, args, below, meth, c, Q, A, cells, slots, X, nL, Ad⟩ := cx
  subst hn
  intro q hq hr ad H locs ls h1 h2 h3 h4 h5
  exact lv_idiv K.1 K.2.1 d hy (k q hq hr ad H locs ls h1 h2 h3 h4 h5)
theorem af_idivD {cx : aw_C} {cc : ByteArray} {own : String} {rm : Room} (K : aw_K cx cc own rm) {α : Type} {ρ : α → Option Value × aw_H} {f : Option α} {pc : Nat} {lv : List (Option Value)} {st : List Value} {h : aw_H} {x y : Int32} (n : Nat) (d : decode cc pc = .ok (.idiv, 1)) (hn : pc + 1 = n) (k : af cx ρ n lv (.int (x / y) :: st) h f) : af cx ρ pc lv (.int y :: .int x :: st) h (fk_D y f) := by
  by_cases hy : y = 0
  · rw [fk_D, if_pos hy]; exact af_none
  · rw [fk_D, if_neg hy]; exact af_idiv K n d hn hy k
theorem af_irem {cx : aw_C} {cc : ByteArray} {own : String} {rm : Room} (K : aw_K cx cc own rm) {α : Type} {ρ : α → Option Value × aw_H} {f : Option α} {pc : Nat} {lv : List (Option Value)} {st : List Value} {h : aw_H} {x y : Int32} (n : Nat) (d : decode cc pc = .ok (.irem, 1)) (hn : pc + 1 = n) (hy : ¬ y = 0) (k : af cx ρ n lv (.int (x - x / y * y) :: st) h f) : af cx ρ pc lv (.int y :: .int x :: st) h f := by
  obtain ⟨p, l, e, R, s, m, args, below, meth, c, Q, A, cells, slots, X, nL, Ad⟩ := cx
  subst hn
  intro q hq hr ad H locs ls h1 h2 h3 h4 h5
  exact lv_irem K.1 K.2.1 d hy (k q hq hr ad H locs ls h1 h2 h3 h4 h5)
theorem af_iremD {cx : aw_C} {cc : ByteArray} {own : String} {rm : Room} (K : aw_K cx cc own rm) {α : Type} {ρ : α → Option Value × aw_H} {f : Option α} {pc : Nat} {lv : List (Option Value)} {st : List Value} {h : aw_H} {x y : Int32} (n : Nat) (d : decode cc pc = .ok (.irem, 1)) (hn : pc + 1 = n) (k : af cx ρ n lv (.int (x - x / y * y) :: st) h f) : af cx ρ pc lv (.int y :: .int x :: st) h (fk_D y f) := by
  by_cases hy : y = 0
  · rw [fk_D, if_pos hy]; exact af_none
  · rw [fk_D, if_neg hy]; exact af_irem K n d hn hy k
/-! ===== fields ===== -/
theorem aw_good : ∀ w ∈ aw_tb, (w.onTables && w.keeps) = true ∨ ∃ ty, w = .arrayClass ty := fun w hw => good_of_word (List.mem_filter.mp hw).2
/-- a field of a class: the link of own's pool -/
def aw_fl (own : String) (idx ci k : Nat) : Prop := ∃ (C : String) (T : u_T) (N : Nat), aw_cl[ci]? = some (C, T, N) ∧ k < N ∧ (∀ w ∈ u_ws C T N, w ∈ aw_tb) ∧ Jvm.Cond.fieldLink own idx (T k).1 (T k).2.1 (T k).2.2.1 ∈ aw_tb
/-- a field that may be written, of a type -/
def aw_fp (own : String) (idx ci k : Nat) (ty : FieldType) : Prop := ∃ (C : String) (T : u_T) (N : Nat) (t : Nat → FieldType), aw_cl[ci]? = some (C, T, N) ∧ k < N ∧ (∀ w ∈ u_ws C T N, w ∈ aw_tb) ∧ Jvm.Cond.fieldLink own idx (T k).1 (T k).2.1 (T k).2.2.1 ∈ aw_tb ∧ (∀ k, k < N → parseFieldDescriptor (T k).2.2.1 = some (t k)) ∧ (∀ a, a < N → ∀ b, b < N → a ≠ b → (T a).2.1 ≠ (T b).2.1) ∧ (T k).2.2.2 = false ∧ parseFieldDescriptor (T k).2.2.1 = some ty
theorem af_get {cx : aw_C} {cc : ByteArray} {own : String} {rm : Room} (K : aw_K cx cc own rm) {α : Type} {ρ : α → Option Value × aw_H} {f : Option α} {pc : Nat} {lv : List (Option Value)} {st : List Value} {σ : fk_T} {idx ci j a : Nat} {fs : List Value} {v : Value} (n : Nat) (d : decode cc pc = .ok (.getfield idx, 3)) (hn : pc + 3 = n) (F : aw_fl own idx ci j) (ha : a < 37) (hc : hp_c a (σ.1 a) σ.2 = .inr (ci, fs)) (hv : fs[j]? = some v) (k : af cx ρ n lv (v :: st) (hp σ) f) : af cx ρ pc lv (.ref a :: st) (hp σ) f := by
  obtain ⟨p, l, e, R, s, m, args, below, meth, c, Q, A, cells, slots, X, nL, Ad⟩ := cx
  subst hn
  intro q hq hr ad H locs ls h1 h2 h3 h4 h5
  obtain ⟨C, T, N, f1, f2, f3, f4⟩ := F
  exact va_get (D := X.1) (ci := ci) (v := aw_v ad v) (fs := fs.map (aw_v ad)) K.1 K.2.1 K.2.2.2.2.1 f3 K.2.2.2.1 K.2.2.2.2.2.1.1 h2 a (aw_w_at (by rw [hp_at _ ha, hc])) f1 j f2 (K.2.2.2.2.1 _ f4) (fun _ h9 => h9) (by rw [List.getElem?_map, hv]; rfl) d (k q hq hr ad H locs ls h1 h2 h3 h4 h5)
theorem af_putG {cx : aw_C} {cc : ByteArray} {own : String} {rm : Room} (K : aw_K cx cc own rm) {α : Type} {ρ : α → Option Value × aw_H} {f : Option α} {pc : Nat} {lv : List (Option Value)} {st : List Value} {σ : fk_T} {σ' : fk_T} {idx ci j a : Nat} {fs : List Value} {ty : FieldType} {v : Value} (n : Nat) (d : decode cc pc = .ok (.putfield idx, 3)) (hn : pc + 3 = n) (F : aw_fp own idx ci j ty) (ha : a < 37) (hc : hp_c a (σ.1 a) σ.2 = .inr (ci, fs)) (hl : j < fs.length) (hnr : ∀ ad, narrow ty (aw_v ad v) = aw_v ad v) (hft : ∀ ad, fits ty (aw_v ad v) = true) (hs : (hp σ).set a (.inr (ci, fs.set j v)) = hp σ') (k : af cx ρ n lv st (hp σ') f) : af cx ρ pc lv (v :: .ref a :: st) (hp σ) f := by
  obtain ⟨p, l, e, R, s, m, args, below, meth, c, Q, A, cells, slots, X, nL, Ad⟩ := cx
  subst hn
  intro q hq hr ad H locs ls h1 h2 h3 h4 h5
  obtain ⟨C, T, N, t, f1, f2, f3, f4, f5, f6, f7, f8⟩ := F
  refine va_put (D := X.1) (ci := ci) (v := aw_v ad v) (fs := fs.map (aw_v ad)) (ty := ty) K.1 K.2.1 K.2.2.2.2.1 f3 t f5 f6 K.2.2.2.1 K.2.2.2.2.2.1.1 h2 h3 h4 a (aw_w_at (by rw [hp_at _ ha, hc])) f1 j f2 (K.2.2.2.2.1 _ f4) (fun _ h9 => h9) f7 f8 (hnr ad) (hft ad) (by rw [List.length_map]; exact hl) d (fun H1 locs1 g1 g2 g3 => k q hq hr ad H1 locs1 ls h1 ?_ ?_ g3 h5)
  · rw [← hs, ← aw_w_set]
    rw [← List.map_set] at g1
    exact g1
  · rw [← hs, ← aw_w_set]
    rw [← List.map_set] at g2
    exact g2
theorem af_put {cx : aw_C} {cc : ByteArray} {own : String} {rm : Room} (K : aw_K cx cc own rm) {α : Type} {ρ : α → Option Value × aw_H} {kf : fk_T → Option α} {pc : Nat} {lv : List (Option Value)} {st : List Value} {σ : fk_T} {idx ci j a : Nat} {fs : List Value} {x : Int32} (n : Nat) (d : decode cc pc = .ok (.putfield idx, 3)) (hn : pc + 3 = n) (F : aw_fp own idx ci j .int) (ha : a < 37) (hc : hp_c a (σ.1 a) σ.2 = .inr (ci, fs)) (hl : j < fs.length) (hs : hp_c a (upd (σ.1 a) j x) σ.2 = .inr (ci, fs.set j (.int x))) (k : ∀ σ', af cx ρ n lv st (hp σ') (kf σ')) : af cx ρ pc lv (.int x :: .ref a :: st) (hp σ) (fk_B (fk_w σ a (upd (σ.1 a) j x)) kf) := by
  exact af_putG K n d hn F ha hc hl (fun _ => rfl) (fun _ => rfl) (by rw [← hs, hp_set _ ha]) (k _)
theorem af_putZ {cx : aw_C} {cc : ByteArray} {own : String} {rm : Room} (K : aw_K cx cc own rm) {α : Type} {ρ : α → Option Value × aw_H} {kf : fk_T → Option α} {pc : Nat} {lv : List (Option Value)} {st : List Value} {σ : fk_T} {idx ci j a : Nat} {fs : List Value} {b : Bool} {x : Int32} (hb : fk_b b = x) (n : Nat) (d : decode cc pc = .ok (.putfield idx, 3)) (hn : pc + 3 = n) (F : aw_fp own idx ci j .boolean) (ha : a < 37) (hc : hp_c a (σ.1 a) σ.2 = .inr (ci, fs)) (hl : j < fs.length) (hs : hp_c a (upd (σ.1 a) j x) σ.2 = .inr (ci, fs.set j (.int x))) (k : ∀ σ', af cx ρ n lv st (hp σ') (kf σ')) : af cx ρ pc lv (.int x :: .ref a :: st) (hp σ) (fk_B (fk_w σ a (upd (σ.1 a) j x)) kf) := by
  subst hb
  exact af_putG K n d hn F ha hc hl (fun _ => by cases b <;> rfl) (fun _ => by cases b <;> rfl) (by rw [← hs, hp_set _ ha]) (k _)
theorem af_putL {cx : aw_C} {cc : ByteArray} {own : String} {rm : Room} (K : aw_K cx cc own rm) {α : Type} {ρ : α → Option Value × aw_H} {kf : fk_T → Option α} {pc : Nat} {lv : List (Option Value)} {st : List Value} {σ : fk_T} {idx : Nat} {x : Int64} (n : Nat) (d : decode cc pc = .ok (.putfield idx, 3)) (hn : pc + 3 = n) (F : aw_fp own idx 5 11 .long) (k : ∀ σ', af cx ρ n lv st (hp σ') (kf σ')) : af cx ρ pc lv (.long x :: .ref 26 :: st) (hp σ) (fk_B ((σ.1, x) : fk_T) kf) := by
  exact af_putG K n d hn F (a := 26) (Nat.le_of_ble_eq_true rfl) rfl (Nat.le_of_ble_eq_true rfl) (fun _ => rfl) (fun _ => rfl) (by rw [← hp_setv]; rfl) (k _)
/-! ===== arrays ===== -/
theorem af_iald {cx : aw_C} {cc : ByteArray} {own : String} {rm : Room} (K : aw_K cx cc own rm) {α : Type} {ρ : α → Option Value × aw_H} {kf : Int32 → Option α} {pc : Nat} {lv : List (Option Value)} {st : List Value} {σ : fk_T} {a N : Nat} {i : Int32} (n : Nat) (d : decode cc pc = .ok (.iaload, 1)) (hn : pc + 1 = n) (ha : a < 37) (hc : hp_c a (σ.1 a) σ.2 = .inl (false, N, σ.1 a)) (k : ∀ x, af cx ρ n lv (.int x :: st) (hp σ) (kf x)) : af cx ρ pc lv (.int i :: .ref a :: st) (hp σ) (fk_A (σ.1 a) N i kf) := by
  obtain ⟨p, l, e, R, s, m, args, below, meth, c, Q, A, cells, slots, X, nL, Ad⟩ := cx
  subst hn
  intro q hq hr ad H locs ls h1 h2 h3 h4 h5
  unfold fk_A at hq
  by_cases hi : i < 0 ∨ N ≤ i.toNatClampNeg
  · rw [if_pos hi] at hq; cases hq
  · rw [if_neg hi] at hq
    exact va_iald K.1 K.2.1 K.2.2.2.2.2.1.1 h2 a 0 (aw_w_at (e := .inl (false, N, σ.1 a)) (by rw [hp_at _ ha, hc])) rfl hi d (k _ q hq hr ad H locs ls h1 h2 h3 h4 h5)
theorem af_bald {cx : aw_C} {cc : ByteArray} {own : String} {rm : Room} (K : aw_K cx cc own rm) {α : Type} {ρ : α → Option Value × aw_H} {kf : Int32 → Option α} {pc : Nat} {lv : List (Option Value)} {st : List Value} {σ : fk_T} {a N : Nat} {i : Int32} (n : Nat) (d : decode cc pc = .ok (.baload, 1)) (hn : pc + 1 = n) (ha : a < 37) (hc : hp_c a (σ.1 a) σ.2 = .inl (true, N, σ.1 a)) (k : ∀ x, af cx ρ n lv (.int x :: st) (hp σ) (kf x)) : af cx ρ pc lv (.int i :: .ref a :: st) (hp σ) (fk_A (σ.1 a) N i kf) := by
  obtain ⟨p, l, e, R, s, m, args, below, meth, c, Q, A, cells, slots, X, nL, Ad⟩ := cx
  subst hn
  intro q hq hr ad H locs ls h1 h2 h3 h4 h5
  unfold fk_A at hq
  by_cases hi : i < 0 ∨ N ≤ i.toNatClampNeg
  · rw [if_pos hi] at hq; cases hq
  · rw [if_neg hi] at hq
    exact va_bald K.1 K.2.1 K.2.2.2.2.2.1.1 h2 a 1 (aw_w_at (e := .inl (true, N, σ.1 a)) (by rw [hp_at _ ha, hc])) rfl hi d (k _ q hq hr ad H locs ls h1 h2 h3 h4 h5)
theorem af_iald_s {cx : aw_C} {cc : ByteArray} {own : String} {rm : Room} (K : aw_K cx cc own rm) {α : Type} {ρ : α → Option Value × aw_H} {kf : Int32 → Option α} {pc : Nat} {lv : List (Option Value)} {st : List Value} {h : aw_H} {i : Int32} (j : Nat) {x : Nat × String × Nat × List Int32} (hx : aw_sa[j]? = some x) (n : Nat) (d : decode cc pc = .ok (.iaload, 1)) (hn : pc + 1 = n) (h1000 : 1000 ≤ x.1) (k : ∀ y, af cx ρ n lv (.int y :: st) h (kf y)) : af cx ρ pc lv (.int i :: .ref x.1 :: st) h (fk_A (fun j => x.2.2.2.getD j 0) x.2.2.1 i kf) := by
  obtain ⟨p, l, e, R, s, m, args, below, meth, c, Q, A, cells, slots, X, nL, Ad⟩ := cx
  subst hn
  intro q hq hr ad H locs ls h1 h2 h3 h4 h5
  unfold fk_A at hq
  by_cases hi : i < 0 ∨ x.2.2.1 ≤ i.toNatClampNeg
  · rw [if_pos hi] at hq; cases hq
  · rw [if_neg hi] at hq
    have hT := (K.2.2.2.2.2.1.2.2.2.2.1 x (List.mem_of_getElem? hx)).2
    have hS : aw_S X ad := K.2.2.2.2.2.2.2.2.2.2.2 ad h1
    have ee : aw_v ad (.ref x.1) = .ref (X.2.2.2.1 x.1) := by show Value.ref (ad x.1) = _; rw [hS _ h1000]
    show W p l e R s m args below meth c H locs cells slots Q (F0 m pc ls (.int i :: aw_v ad (.ref x.1) :: st.map (aw_v ad)))
    rw [ee]
    exact va_ti K.1 K.2.1 hT h4 hi rfl d (k _ q hq hr ad H locs ls h1 h2 h3 h4 h5)
theorem af_iast {cx : aw_C} {cc : ByteArray} {own : String} {rm : Room} (K : aw_K cx cc own rm) {α : Type} {ρ : α → Option Value × aw_H} {kf : fk_T → Option α} {pc : Nat} {lv : List (Option Value)} {st : List Value} {σ : fk_T} {a N : Nat} {i x : Int32} (n : Nat) (d : decode cc pc = .ok (.iastore, 1)) (hn : pc + 1 = n) (ha : a < 37) (hc : ∀ g v, hp_c a g v = .inl (false, N, g)) (k : ∀ σ', af cx ρ n lv st (hp σ') (kf σ')) : af cx ρ pc lv (.int x :: .int i :: .ref a :: st) (hp σ) (fk_S σ a N i x kf) := by
  obtain ⟨p, l, e, R, s, m, args, below, meth, c, Q, A, cells, slots, X, nL, Ad⟩ := cx
  subst hn
  intro q hq hr ad H locs ls h1 h2 h3 h4 h5
  unfold fk_S at hq
  by_cases hi : i < 0 ∨ N ≤ i.toNatClampNeg
  · rw [if_pos hi] at hq; cases hq
  · rw [if_neg hi] at hq
    refine va_iast (f := σ.1 a) (x := x) K.1 K.2.1 K.2.2.2.2.2.1.1 h2 h3 h4 a 0 (aw_w_at (e := .inl (false, N, σ.1 a)) (by rw [hp_at _ ha, hc])) rfl hi d (fun H1 locs1 g1 g2 g3 => k _ q hq hr ad H1 locs1 ls h1 ?_ ?_ g3 h5)
    · rw [← hp_set _ ha, hc, ← aw_w_set]; exact g1
    · rw [← hp_set _ ha, hc, ← aw_w_set]; exact g2
theorem af_bast {cx : aw_C} {cc : ByteArray} {own : String} {rm : Room} (K : aw_K cx cc own rm) {α : Type} {ρ : α → Option Value × aw_H} {kf : fk_T → Option α} {pc : Nat} {lv : List (Option Value)} {st : List Value} {σ : fk_T} {a N : Nat} {i x : Int32} (n : Nat) (d : decode cc pc = .ok (.bastore, 1)) (hn : pc + 1 = n) (ha : a < 37) (hc : ∀ g v, hp_c a g v = .inl (true, N, g)) (k : ∀ σ', af cx ρ n lv st (hp σ') (kf σ')) : af cx ρ pc lv (.int x :: .int i :: .ref a :: st) (hp σ) (fk_S σ a N i x.toInt8.toInt32 kf) := by
  obtain ⟨p, l, e, R, s, m, args, below, meth, c, Q, A, cells, slots, X, nL, Ad⟩ := cx
  subst hn
  intro q hq hr ad H locs ls h1 h2 h3 h4 h5
  unfold fk_S at hq
  by_cases hi : i < 0 ∨ N ≤ i.toNatClampNeg
  · rw [if_pos hi] at hq; cases hq
  · rw [if_neg hi] at hq
    refine va_bast (f := σ.1 a) (x := x) K.1 K.2.1 K.2.2.2.2.2.1.1 h2 h3 h4 a 1 (aw_w_at (e := .inl (true, N, σ.1 a)) (by rw [hp_at _ ha, hc])) rfl hi d (fun H1 locs1 g1 g2 g3 => k _ q hq hr ad H1 locs1 ls h1 ?_ ?_ g3 h5)
    · rw [← hp_set _ ha, hc, ← aw_w_set]; rw [vp_nar_byte] at g1; exact g1
    · rw [← hp_set _ ha, hc, ← aw_w_set]; rw [vp_nar_byte] at g2; exact g2
/-! ===== statics ===== -/
theorem af_gets {cx : aw_C} {cc : ByteArray} {own : String} {rm : Room} (K : aw_K cx cc own rm) {α : Type} {ρ : α → Option Value × aw_H} {f : Option α} {pc : Nat} {lv : List (Option Value)} {st : List Value} {h : aw_H} {idx : Nat} (j : Nat) {x : Nat × String × Nat × List Int32} (hx : aw_sa[j]? = some x) (n : Nat) (d : decode cc pc = .ok (.getstatic idx, 3)) (hn : pc + 3 = n) (h1000 : 1000 ≤ x.1) (hw : Jvm.Cond.fieldLink own idx "TwoWheel" x.2.1 "[I" ∈ aw_tb) (k : af cx ρ n lv (.ref x.1 :: st) h f) : af cx ρ pc lv st h f := by
  obtain ⟨p, l, e, R, s, m, args, below, meth, c, Q, A, cells, slots, X, nL, Ad⟩ := cx
  subst hn
  intro q hq hr ad H locs ls h1 h2 h3 h4 h5
  have hZ := (K.2.2.2.2.2.1.2.2.2.2.1 x (List.mem_of_getElem? hx)).1
  have hS : aw_S X ad := K.2.2.2.2.2.2.2.2.2.2.2 ad h1
  refine va_gets K.1 K.2.1 hZ h4 K.2.2.2.1 (K.2.2.2.2.1 _ hw) (fun _ h9 => h9) d ?_
  have g := k q hq hr ad H locs ls h1 h2 h3 h4 h5
  have ee : aw_v ad (.ref x.1) = .ref (X.2.2.2.1 x.1) := by show Value.ref (ad x.1) = _; rw [hS _ h1000]
  rw [List.map_cons, ee] at g
  exact g
theorem af_getsN {cx : aw_C} {cc : ByteArray} {rm : Room} (K : aw_K cx cc "TwoWheel$Pottery" rm) {α : Type} {ρ : α → Option Value × aw_H} {f : Option α} {pc : Nat} {lv : List (Option Value)} {st : List Value} {h : aw_H} {idx : Nat} (j i : Nat) {x : Nat × String × Nat × List Int32} (hx : aw_sa[j]? = some x) (hi : aw_nF[i]? = some (idx, x.2.1)) (n : Nat) (d : decode cc pc = .ok (.getstatic idx, 3)) (hn : pc + 3 = n) (h1000 : 1000 ≤ x.1) (k : af cx ρ n lv (.ref x.1 :: st) h f) : af cx ρ pc lv st h f := by
  obtain ⟨p, l, e, R, s, m, args, below, meth, c, Q, A, cells, slots, X, nL, Ad⟩ := cx
  subst hn
  intro q hq hr ad H locs ls h1 h2 h3 h4 h5
  have hZ := (K.2.2.2.2.2.1.2.2.2.2.1 x (List.mem_of_getElem? hx)).1
  have hS : aw_S X ad := K.2.2.2.2.2.2.2.2.2.2.2 ad h1
  refine va_getsN K.1 K.2.1 hZ h4 K.2.2.2.1 (va_Nw.use rfl (K.2.2.2.2.2.1.2.1 _ (List.mem_of_getElem? hi))) (fun _ h9 => h9) d ?_
  have g := k q hq hr ad H locs ls h1 h2 h3 h4 h5
  have ee : aw_v ad (.ref x.1) = .ref (X.2.2.2.1 x.1) := by show Value.ref (ad x.1) = _; rw [hS _ h1000]
  rw [List.map_cons, ee] at g
  exact g
/-! ===== switches ===== -/
theorem af_tin {cx : aw_C} {cc : ByteArray} {own : String} {rm : Room} (K : aw_K cx cc own rm) {α : Type} {ρ : α → Option Value × aw_H} {f : Option α} {pc : Nat} {lv : List (Option Value)} {st : List Value} {h : aw_H} {x : Int32} {dflt lo hi off : Int} {offs : Array Int} {len : Nat} (t : Nat) (v : Int32) (hx : x = v) (d : decode cc pc = .ok (.tableswitch dflt lo hi offs, len)) (g1 : ¬ v.toInt < lo) (g2 : ¬ hi < v.toInt) (ho : offs[(v.toInt - lo).toNat]? = some off) (ht : (pc : Int) + off = (t : Int)) (k : af cx ρ t lv st h f) : af cx ρ pc lv (.int x :: st) h f := by
  subst hx
  obtain ⟨p, l, e, R, s, m, args, below, meth, c, Q, A, cells, slots, X, nL, Ad⟩ := cx
  intro q hq hr ad H locs ls h1 h2 h3 h4 h5
  exact lv_tableIn K.1 K.2.1 d g1 g2 ho ht (k q hq hr ad H locs ls h1 h2 h3 h4 h5)
theorem af_tout {cx : aw_C} {cc : ByteArray} {own : String} {rm : Room} (K : aw_K cx cc own rm) {α : Type} {ρ : α → Option Value × aw_H} {f : Option α} {pc : Nat} {lv : List (Option Value)} {st : List Value} {h : aw_H} {x : Int32} {dflt lo hi : Int} {offs : Array Int} {len : Nat} (t : Nat) (d : decode cc pc = .ok (.tableswitch dflt lo hi offs, len)) (hx : x.toInt < lo ∨ hi < x.toInt) (ht : (pc : Int) + dflt = (t : Int)) (k : af cx ρ t lv st h f) : af cx ρ pc lv (.int x :: st) h f := by
  obtain ⟨p, l, e, R, s, m, args, below, meth, c, Q, A, cells, slots, X, nL, Ad⟩ := cx
  intro q hq hr ad H locs ls h1 h2 h3 h4 h5
  exact lv_tableOut K.1 K.2.1 d hx ht (k q hq hr ad H locs ls h1 h2 h3 h4 h5)
theorem af_lks {cx : aw_C} {cc : ByteArray} {own : String} {rm : Room} (K : aw_K cx cc own rm) {α : Type} {ρ : α → Option Value × aw_H} {f : Option α} {pc : Nat} {lv : List (Option Value)} {st : List Value} {h : aw_H} {x : Int32} {dflt off : Int} {ps : Array (Int × Int)} {len : Nat} (t : Nat) (d : decode cc pc = .ok (.lookupswitch dflt ps, len)) (hp : (ps.toList.zip (ps.toList.drop 1)).all (fun (a, next) => a.1 < next.1) = true) (ho : Op.lookupswitch.offset ps.toList dflt x.toInt = off) (ht : (pc : Int) + off = (t : Int)) (k : af cx ρ t lv st h f) : af cx ρ pc lv (.int x :: st) h f := by
  obtain ⟨p, l, e, R, s, m, args, below, meth, c, Q, A, cells, slots, X, nL, Ad⟩ := cx
  intro q hq hr ad H locs ls h1 h2 h3 h4 h5
  exact lv_lookup K.1 K.2.1 d hp ho ht (k q hq hr ad H locs ls h1 h2 h3 h4 h5)
/-! ===== ends ===== -/
theorem af_ret {cx : aw_C} {cc : ByteArray} {own : String} {rm : Room} (K : aw_K cx cc own rm) {α : Type} {ρ : α → Option Value × aw_H}  {pc : Nat} {lv : List (Option Value)} {st : List Value} {h : aw_H} {q : α} {r : Option Value} (d : decode cc pc = .ok (aw_ri r, 1)) (hρ : ρ q = (r, h)) (hs : r.toList = st) : af cx ρ pc lv st h (some q) := by
  subst hs
  obtain ⟨p, l, e, R, s, m, args, below, meth, c, Q, A, cells, slots, X, nL, Ad⟩ := cx
  intro q' hq hr ad H locs ls h1 h2 h3 h4 h5
  cases hq
  rw [hρ] at hr
  exact hr ad H locs ls pc h1 h2 h3 h4 (by rw [K.2.1]; exact d)
