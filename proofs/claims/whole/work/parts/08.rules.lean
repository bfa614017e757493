/-! ===== rules: one an instruction ===== -/
theorem af_iadd {cx : aw_C} {cc : ByteArray} {own : String} {rm : Room} (K : aw_K cx cc own rm) {α : Type} {ρ : α → Option Value × aw_H} {f : Option α} {pc : Nat} {lv : List (Option Value)} {st : List Value} {h : aw_H} {x y : Int32} (n : Nat) (d : decode cc pc = .ok (.iadd, 1)) (hn : pc + 1 = n)  (k : af cx ρ n lv (.int (x + y) :: st) h f) : af cx ρ pc lv (.int y :: .int x :: st) h f := by
  obtain ⟨p, l, e, R, s, m, args, below, meth, c, Q, A, cells, slots, X, nL, Ad⟩ := cx
  subst hn
  intro q hq hr ad H locs ls h1 h2 h3 h4 h5
  exact lv_iadd K.1 K.2.1 d (k q hq hr ad H locs ls h1 h2 h3 h4 h5)
theorem af_isub {cx : aw_C} {cc : ByteArray} {own : String} {rm : Room} (K : aw_K cx cc own rm) {α : Type} {ρ : α → Option Value × aw_H} {f : Option α} {pc : Nat} {lv : List (Option Value)} {st : List Value} {h : aw_H} {x y : Int32} (n : Nat) (d : decode cc pc = .ok (.isub, 1)) (hn : pc + 1 = n)  (k : af cx ρ n lv (.int (x - y) :: st) h f) : af cx ρ pc lv (.int y :: .int x :: st) h f := by
  obtain ⟨p, l, e, R, s, m, args, below, meth, c, Q, A, cells, slots, X, nL, Ad⟩ := cx
  subst hn
  intro q hq hr ad H locs ls h1 h2 h3 h4 h5
  exact lv_isub K.1 K.2.1 d (k q hq hr ad H locs ls h1 h2 h3 h4 h5)
theorem af_imul {cx : aw_C} {cc : ByteArray} {own : String} {rm : Room} (K : aw_K cx cc own rm) {α : Type} {ρ : α → Option Value × aw_H} {f : Option α} {pc : Nat} {lv : List (Option Value)} {st : List Value} {h : aw_H} {x y : Int32} (n : Nat) (d : decode cc pc = .ok (.imul, 1)) (hn : pc + 1 = n)  (k : af cx ρ n lv (.int (x * y) :: st) h f) : af cx ρ pc lv (.int y :: .int x :: st) h f := by
  obtain ⟨p, l, e, R, s, m, args, below, meth, c, Q, A, cells, slots, X, nL, Ad⟩ := cx
  subst hn
  intro q hq hr ad H locs ls h1 h2 h3 h4 h5
  exact lv_imul K.1 K.2.1 d (k q hq hr ad H locs ls h1 h2 h3 h4 h5)
theorem af_iand {cx : aw_C} {cc : ByteArray} {own : String} {rm : Room} (K : aw_K cx cc own rm) {α : Type} {ρ : α → Option Value × aw_H} {f : Option α} {pc : Nat} {lv : List (Option Value)} {st : List Value} {h : aw_H} {x y : Int32} (n : Nat) (d : decode cc pc = .ok (.iand, 1)) (hn : pc + 1 = n)  (k : af cx ρ n lv (.int (x &&& y) :: st) h f) : af cx ρ pc lv (.int y :: .int x :: st) h f := by
  obtain ⟨p, l, e, R, s, m, args, below, meth, c, Q, A, cells, slots, X, nL, Ad⟩ := cx
  subst hn
  intro q hq hr ad H locs ls h1 h2 h3 h4 h5
  exact lv_iand K.1 K.2.1 d (k q hq hr ad H locs ls h1 h2 h3 h4 h5)
theorem af_ior {cx : aw_C} {cc : ByteArray} {own : String} {rm : Room} (K : aw_K cx cc own rm) {α : Type} {ρ : α → Option Value × aw_H} {f : Option α} {pc : Nat} {lv : List (Option Value)} {st : List Value} {h : aw_H} {x y : Int32} (n : Nat) (d : decode cc pc = .ok (.ior, 1)) (hn : pc + 1 = n)  (k : af cx ρ n lv (.int (x ||| y) :: st) h f) : af cx ρ pc lv (.int y :: .int x :: st) h f := by
  obtain ⟨p, l, e, R, s, m, args, below, meth, c, Q, A, cells, slots, X, nL, Ad⟩ := cx
  subst hn
  intro q hq hr ad H locs ls h1 h2 h3 h4 h5
  exact lv_ior K.1 K.2.1 d (k q hq hr ad H locs ls h1 h2 h3 h4 h5)
theorem af_ixor {cx : aw_C} {cc : ByteArray} {own : String} {rm : Room} (K : aw_K cx cc own rm) {α : Type} {ρ : α → Option Value × aw_H} {f : Option α} {pc : Nat} {lv : List (Option Value)} {st : List Value} {h : aw_H} {x y : Int32} (n : Nat) (d : decode cc pc = .ok (.ixor, 1)) (hn : pc + 1 = n)  (k : af cx ρ n lv (.int (x ^^^ y) :: st) h f) : af cx ρ pc lv (.int y :: .int x :: st) h f := by
  obtain ⟨p, l, e, R, s, m, args, below, meth, c, Q, A, cells, slots, X, nL, Ad⟩ := cx
  subst hn
  intro q hq hr ad H locs ls h1 h2 h3 h4 h5
  exact lv_ixor K.1 K.2.1 d (k q hq hr ad H locs ls h1 h2 h3 h4 h5)
theorem af_ishl {cx : aw_C} {cc : ByteArray} {own : String} {rm : Room} (K : aw_K cx cc own rm) {α : Type} {ρ : α → Option Value × aw_H} {f : Option α} {pc : Nat} {lv : List (Option Value)} {st : List Value} {h : aw_H} {x y : Int32} (n : Nat) (d : decode cc pc = .ok (.ishl, 1)) (hn : pc + 1 = n)  (k : af cx ρ n lv (.int (x <<< (y &&& 31)) :: st) h f) : af cx ρ pc lv (.int y :: .int x :: st) h f := by
  obtain ⟨p, l, e, R, s, m, args, below, meth, c, Q, A, cells, slots, X, nL, Ad⟩ := cx
  subst hn
  intro q hq hr ad H locs ls h1 h2 h3 h4 h5
  exact lv_ishl K.1 K.2.1 d (k q hq hr ad H locs ls h1 h2 h3 h4 h5)
theorem af_ishr {cx : aw_C} {cc : ByteArray} {own : String} {rm : Room} (K : aw_K cx cc own rm) {α : Type} {ρ : α → Option Value × aw_H} {f : Option α} {pc : Nat} {lv : List (Option Value)} {st : List Value} {h : aw_H} {x y : Int32} (n : Nat) (d : decode cc pc = .ok (.ishr, 1)) (hn : pc + 1 = n)  (k : af cx ρ n lv (.int (x >>> (y &&& 31)) :: st) h f) : af cx ρ pc lv (.int y :: .int x :: st) h f := by
  obtain ⟨p, l, e, R, s, m, args, below, meth, c, Q, A, cells, slots, X, nL, Ad⟩ := cx
  subst hn
  intro q hq hr ad H locs ls h1 h2 h3 h4 h5
  exact lv_ishr K.1 K.2.1 d (k q hq hr ad H locs ls h1 h2 h3 h4 h5)
theorem af_ladd {cx : aw_C} {cc : ByteArray} {own : String} {rm : Room} (K : aw_K cx cc own rm) {α : Type} {ρ : α → Option Value × aw_H} {f : Option α} {pc : Nat} {lv : List (Option Value)} {st : List Value} {h : aw_H} {x y : Int64} (n : Nat) (d : decode cc pc = .ok (.ladd, 1)) (hn : pc + 1 = n)  (k : af cx ρ n lv (.long (x + y) :: st) h f) : af cx ρ pc lv (.long y :: .long x :: st) h f := by
  obtain ⟨p, l, e, R, s, m, args, below, meth, c, Q, A, cells, slots, X, nL, Ad⟩ := cx
  subst hn
  intro q hq hr ad H locs ls h1 h2 h3 h4 h5
  exact lv_ladd K.1 K.2.1 d (k q hq hr ad H locs ls h1 h2 h3 h4 h5)
theorem af_lsub {cx : aw_C} {cc : ByteArray} {own : String} {rm : Room} (K : aw_K cx cc own rm) {α : Type} {ρ : α → Option Value × aw_H} {f : Option α} {pc : Nat} {lv : List (Option Value)} {st : List Value} {h : aw_H} {x y : Int64} (n : Nat) (d : decode cc pc = .ok (.lsub, 1)) (hn : pc + 1 = n)  (k : af cx ρ n lv (.long (x - y) :: st) h f) : af cx ρ pc lv (.long y :: .long x :: st) h f := by
  obtain ⟨p, l, e, R, s, m, args, below, meth, c, Q, A, cells, slots, X, nL, Ad⟩ := cx
  subst hn
  intro q hq hr ad H locs ls h1 h2 h3 h4 h5
  exact lv_lsub K.1 K.2.1 d (k q hq hr ad H locs ls h1 h2 h3 h4 h5)
theorem af_lmul {cx : aw_C} {cc : ByteArray} {own : String} {rm : Room} (K : aw_K cx cc own rm) {α : Type} {ρ : α → Option Value × aw_H} {f : Option α} {pc : Nat} {lv : List (Option Value)} {st : List Value} {h : aw_H} {x y : Int64} (n : Nat) (d : decode cc pc = .ok (.lmul, 1)) (hn : pc + 1 = n)  (k : af cx ρ n lv (.long (x * y) :: st) h f) : af cx ρ pc lv (.long y :: .long x :: st) h f := by
  obtain ⟨p, l, e, R, s, m, args, below, meth, c, Q, A, cells, slots, X, nL, Ad⟩ := cx
  subst hn
  intro q hq hr ad H locs ls h1 h2 h3 h4 h5
  exact lv_lmul K.1 K.2.1 d (k q hq hr ad H locs ls h1 h2 h3 h4 h5)
theorem af_ineg {cx : aw_C} {cc : ByteArray} {own : String} {rm : Room} (K : aw_K cx cc own rm) {α : Type} {ρ : α → Option Value × aw_H} {f : Option α} {pc : Nat} {lv : List (Option Value)} {st : List Value} {h : aw_H} {x : Int32} (n : Nat) (d : decode cc pc = .ok (.ineg, 1)) (hn : pc + 1 = n)  (k : af cx ρ n lv (.int (-x) :: st) h f) : af cx ρ pc lv (.int x :: st) h f := by
  obtain ⟨p, l, e, R, s, m, args, below, meth, c, Q, A, cells, slots, X, nL, Ad⟩ := cx
  subst hn
  intro q hq hr ad H locs ls h1 h2 h3 h4 h5
  exact lv_ineg K.1 K.2.1 d (k q hq hr ad H locs ls h1 h2 h3 h4 h5)
theorem af_iushr {cx : aw_C} {cc : ByteArray} {own : String} {rm : Room} (K : aw_K cx cc own rm) {α : Type} {ρ : α → Option Value × aw_H} {f : Option α} {pc : Nat} {lv : List (Option Value)} {st : List Value} {h : aw_H} {x y : Int32} (n : Nat) (d : decode cc pc = .ok (.iushr, 1)) (hn : pc + 1 = n)  (k : af cx ρ n lv (.int (x.toUInt32 >>> (y.toUInt32 &&& Int32.toUInt32 31)).toInt32 :: st) h f) : af cx ρ pc lv (.int y :: .int x :: st) h f := by
  obtain ⟨p, l, e, R, s, m, args, below, meth, c, Q, A, cells, slots, X, nL, Ad⟩ := cx
  subst hn
  intro q hq hr ad H locs ls h1 h2 h3 h4 h5
  exact lv_iushr K.1 K.2.1 d rfl (k q hq hr ad H locs ls h1 h2 h3 h4 h5)
theorem af_i2l {cx : aw_C} {cc : ByteArray} {own : String} {rm : Room} (K : aw_K cx cc own rm) {α : Type} {ρ : α → Option Value × aw_H} {f : Option α} {pc : Nat} {lv : List (Option Value)} {st : List Value} {h : aw_H} {x : Int32} (n : Nat) (d : decode cc pc = .ok (.i2l, 1)) (hn : pc + 1 = n)  (k : af cx ρ n lv (.long x.toInt64 :: st) h f) : af cx ρ pc lv (.int x :: st) h f := by
  obtain ⟨p, l, e, R, s, m, args, below, meth, c, Q, A, cells, slots, X, nL, Ad⟩ := cx
  subst hn
  intro q hq hr ad H locs ls h1 h2 h3 h4 h5
  exact lv_i2l K.1 K.2.1 d rfl (k q hq hr ad H locs ls h1 h2 h3 h4 h5)
theorem af_l2i {cx : aw_C} {cc : ByteArray} {own : String} {rm : Room} (K : aw_K cx cc own rm) {α : Type} {ρ : α → Option Value × aw_H} {f : Option α} {pc : Nat} {lv : List (Option Value)} {st : List Value} {h : aw_H} {x : Int64} (n : Nat) (d : decode cc pc = .ok (.l2i, 1)) (hn : pc + 1 = n)  (k : af cx ρ n lv (.int x.toInt32 :: st) h f) : af cx ρ pc lv (.long x :: st) h f := by
  obtain ⟨p, l, e, R, s, m, args, below, meth, c, Q, A, cells, slots, X, nL, Ad⟩ := cx
  subst hn
  intro q hq hr ad H locs ls h1 h2 h3 h4 h5
  exact lv_l2i K.1 K.2.1 d rfl (k q hq hr ad H locs ls h1 h2 h3 h4 h5)
theorem af_i2b {cx : aw_C} {cc : ByteArray} {own : String} {rm : Room} (K : aw_K cx cc own rm) {α : Type} {ρ : α → Option Value × aw_H} {f : Option α} {pc : Nat} {lv : List (Option Value)} {st : List Value} {h : aw_H} {x : Int32} (n : Nat) (d : decode cc pc = .ok (.i2b, 1)) (hn : pc + 1 = n)  (k : af cx ρ n lv (.int x.toInt8.toInt32 :: st) h f) : af cx ρ pc lv (.int x :: st) h f := by
  obtain ⟨p, l, e, R, s, m, args, below, meth, c, Q, A, cells, slots, X, nL, Ad⟩ := cx
  subst hn
  intro q hq hr ad H locs ls h1 h2 h3 h4 h5
  exact lv_i2b K.1 K.2.1 d rfl (k q hq hr ad H locs ls h1 h2 h3 h4 h5)
theorem af_i2s {cx : aw_C} {cc : ByteArray} {own : String} {rm : Room} (K : aw_K cx cc own rm) {α : Type} {ρ : α → Option Value × aw_H} {f : Option α} {pc : Nat} {lv : List (Option Value)} {st : List Value} {h : aw_H} {x : Int32} (n : Nat) (d : decode cc pc = .ok (.i2s, 1)) (hn : pc + 1 = n)  (k : af cx ρ n lv (.int x.toInt16.toInt32 :: st) h f) : af cx ρ pc lv (.int x :: st) h f := by
  obtain ⟨p, l, e, R, s, m, args, below, meth, c, Q, A, cells, slots, X, nL, Ad⟩ := cx
  subst hn
  intro q hq hr ad H locs ls h1 h2 h3 h4 h5
  exact lv_i2s K.1 K.2.1 d rfl (k q hq hr ad H locs ls h1 h2 h3 h4 h5)
theorem af_i2c {cx : aw_C} {cc : ByteArray} {own : String} {rm : Room} (K : aw_K cx cc own rm) {α : Type} {ρ : α → Option Value × aw_H} {f : Option α} {pc : Nat} {lv : List (Option Value)} {st : List Value} {h : aw_H} {x : Int32} (n : Nat) (d : decode cc pc = .ok (.i2c, 1)) (hn : pc + 1 = n)  (k : af cx ρ n lv (.int (x.toUInt32 % 65536).toInt32 :: st) h f) : af cx ρ pc lv (.int x :: st) h f := by
  obtain ⟨p, l, e, R, s, m, args, below, meth, c, Q, A, cells, slots, X, nL, Ad⟩ := cx
  subst hn
  intro q hq hr ad H locs ls h1 h2 h3 h4 h5
  exact lv_i2c K.1 K.2.1 d rfl (k q hq hr ad H locs ls h1 h2 h3 h4 h5)
theorem af_iconst {cx : aw_C} {cc : ByteArray} {own : String} {rm : Room} (K : aw_K cx cc own rm) {α : Type} {ρ : α → Option Value × aw_H} {f : Option α} {pc : Nat} {lv : List (Option Value)} {st : List Value} {h : aw_H} {i : Int} {v : Int32} (n : Nat) (d : decode cc pc = .ok (.iconst i, 1)) (hn : pc + 1 = n) (hv : Int32.ofInt i = v) (k : af cx ρ n lv (.int v :: st) h f) : af cx ρ pc lv (st) h f := by
  obtain ⟨p, l, e, R, s, m, args, below, meth, c, Q, A, cells, slots, X, nL, Ad⟩ := cx
  subst hn
  intro q hq hr ad H locs ls h1 h2 h3 h4 h5
  exact lv_iconst K.1 K.2.1 d hv (k q hq hr ad H locs ls h1 h2 h3 h4 h5)
theorem af_bipush {cx : aw_C} {cc : ByteArray} {own : String} {rm : Room} (K : aw_K cx cc own rm) {α : Type} {ρ : α → Option Value × aw_H} {f : Option α} {pc : Nat} {lv : List (Option Value)} {st : List Value} {h : aw_H} {i : Int} {v : Int32} (n : Nat) (d : decode cc pc = .ok (.bipush i, 2)) (hn : pc + 2 = n) (hv : (Int8.ofInt i).toInt32 = v) (k : af cx ρ n lv (.int v :: st) h f) : af cx ρ pc lv (st) h f := by
  obtain ⟨p, l, e, R, s, m, args, below, meth, c, Q, A, cells, slots, X, nL, Ad⟩ := cx
  subst hn
  intro q hq hr ad H locs ls h1 h2 h3 h4 h5
  exact lv_bipush K.1 K.2.1 d hv (k q hq hr ad H locs ls h1 h2 h3 h4 h5)
theorem af_sipush {cx : aw_C} {cc : ByteArray} {own : String} {rm : Room} (K : aw_K cx cc own rm) {α : Type} {ρ : α → Option Value × aw_H} {f : Option α} {pc : Nat} {lv : List (Option Value)} {st : List Value} {h : aw_H} {i : Int} {v : Int32} (n : Nat) (d : decode cc pc = .ok (.sipush i, 3)) (hn : pc + 3 = n) (hv : (Int16.ofInt i).toInt32 = v) (k : af cx ρ n lv (.int v :: st) h f) : af cx ρ pc lv (st) h f := by
  obtain ⟨p, l, e, R, s, m, args, below, meth, c, Q, A, cells, slots, X, nL, Ad⟩ := cx
  subst hn
  intro q hq hr ad H locs ls h1 h2 h3 h4 h5
  exact lv_sipush K.1 K.2.1 d hv (k q hq hr ad H locs ls h1 h2 h3 h4 h5)
theorem af_lconst {cx : aw_C} {cc : ByteArray} {own : String} {rm : Room} (K : aw_K cx cc own rm) {α : Type} {ρ : α → Option Value × aw_H} {f : Option α} {pc : Nat} {lv : List (Option Value)} {st : List Value} {h : aw_H} {i : Fin 2} {v : Int64} (n : Nat) (d : decode cc pc = .ok (.lconst i, 1)) (hn : pc + 1 = n) (hv : Int64.ofNat (i : Nat) = v) (k : af cx ρ n lv (.long v :: st) h f) : af cx ρ pc lv (st) h f := by
  obtain ⟨p, l, e, R, s, m, args, below, meth, c, Q, A, cells, slots, X, nL, Ad⟩ := cx
  subst hn
  intro q hq hr ad H locs ls h1 h2 h3 h4 h5
  exact lv_lconst K.1 K.2.1 d hv (k q hq hr ad H locs ls h1 h2 h3 h4 h5)
theorem af_iload_n {cx : aw_C} {cc : ByteArray} {own : String} {rm : Room} (K : aw_K cx cc own rm) {α : Type} {ρ : α → Option Value × aw_H} {f : Option α} {pc : Nat} {lv : List (Option Value)} {st : List Value} {h : aw_H} {i : Fin 4} {x : Int32} (n : Nat) (d : decode cc pc = .ok (.iload_n i, 1)) (hn : pc + 1 = n) (hl : lv[(i : Nat)]? = some (some (.int x))) (k : af cx ρ n lv (.int x :: st) h f) : af cx ρ pc lv st h f := by
  obtain ⟨p, l, e, R, s, m, args, below, meth, c, Q, A, cells, slots, X, nL, Ad⟩ := cx
  subst hn
  intro q hq hr ad H locs ls h1 h2 h3 h4 h5
  exact lv_iload_n K.1 K.2.1 d rfl (h5.2.2 _ _ hl) (k q hq hr ad H locs ls h1 h2 h3 h4 h5)
theorem af_iload {cx : aw_C} {cc : ByteArray} {own : String} {rm : Room} (K : aw_K cx cc own rm) {α : Type} {ρ : α → Option Value × aw_H} {f : Option α} {pc : Nat} {lv : List (Option Value)} {st : List Value} {h : aw_H} {i : Nat} {x : Int32} (n : Nat) (d : decode cc pc = .ok (.iload i, 2)) (hn : pc + 2 = n) (hl : lv[i]? = some (some (.int x))) (k : af cx ρ n lv (.int x :: st) h f) : af cx ρ pc lv st h f := by
  obtain ⟨p, l, e, R, s, m, args, below, meth, c, Q, A, cells, slots, X, nL, Ad⟩ := cx
  subst hn
  intro q hq hr ad H locs ls h1 h2 h3 h4 h5
  exact lv_iload K.1 K.2.1 d (h5.2.2 _ _ hl) (k q hq hr ad H locs ls h1 h2 h3 h4 h5)
theorem af_lload_n {cx : aw_C} {cc : ByteArray} {own : String} {rm : Room} (K : aw_K cx cc own rm) {α : Type} {ρ : α → Option Value × aw_H} {f : Option α} {pc : Nat} {lv : List (Option Value)} {st : List Value} {h : aw_H} {i : Fin 4} {x : Int64} (n : Nat) (d : decode cc pc = .ok (.lload_n i, 1)) (hn : pc + 1 = n) (hl : lv[(i : Nat)]? = some (some (.long x))) (k : af cx ρ n lv (.long x :: st) h f) : af cx ρ pc lv st h f := by
  obtain ⟨p, l, e, R, s, m, args, below, meth, c, Q, A, cells, slots, X, nL, Ad⟩ := cx
  subst hn
  intro q hq hr ad H locs ls h1 h2 h3 h4 h5
  exact lv_lload_n K.1 K.2.1 d rfl (h5.2.2 _ _ hl) (k q hq hr ad H locs ls h1 h2 h3 h4 h5)
theorem af_lload {cx : aw_C} {cc : ByteArray} {own : String} {rm : Room} (K : aw_K cx cc own rm) {α : Type} {ρ : α → Option Value × aw_H} {f : Option α} {pc : Nat} {lv : List (Option Value)} {st : List Value} {h : aw_H} {i : Nat} {x : Int64} (n : Nat) (d : decode cc pc = .ok (.lload i, 2)) (hn : pc + 2 = n) (hl : lv[i]? = some (some (.long x))) (k : af cx ρ n lv (.long x :: st) h f) : af cx ρ pc lv st h f := by
  obtain ⟨p, l, e, R, s, m, args, below, meth, c, Q, A, cells, slots, X, nL, Ad⟩ := cx
  subst hn
  intro q hq hr ad H locs ls h1 h2 h3 h4 h5
  exact lv_lload K.1 K.2.1 d (h5.2.2 _ _ hl) (k q hq hr ad H locs ls h1 h2 h3 h4 h5)
theorem af_aload_n {cx : aw_C} {cc : ByteArray} {own : String} {rm : Room} (K : aw_K cx cc own rm) {α : Type} {ρ : α → Option Value × aw_H} {f : Option α} {pc : Nat} {lv : List (Option Value)} {st : List Value} {h : aw_H} {i : Fin 4} {x : Nat} (n : Nat) (d : decode cc pc = .ok (.aload_n i, 1)) (hn : pc + 1 = n) (hl : lv[(i : Nat)]? = some (some (.ref x))) (k : af cx ρ n lv (.ref x :: st) h f) : af cx ρ pc lv st h f := by
  obtain ⟨p, l, e, R, s, m, args, below, meth, c, Q, A, cells, slots, X, nL, Ad⟩ := cx
  subst hn
  intro q hq hr ad H locs ls h1 h2 h3 h4 h5
  exact lv_aload_n K.1 K.2.1 d rfl (h5.2.2 _ _ hl) (k q hq hr ad H locs ls h1 h2 h3 h4 h5)
theorem af_aload {cx : aw_C} {cc : ByteArray} {own : String} {rm : Room} (K : aw_K cx cc own rm) {α : Type} {ρ : α → Option Value × aw_H} {f : Option α} {pc : Nat} {lv : List (Option Value)} {st : List Value} {h : aw_H} {i : Nat} {x : Nat} (n : Nat) (d : decode cc pc = .ok (.aload i, 2)) (hn : pc + 2 = n) (hl : lv[i]? = some (some (.ref x))) (k : af cx ρ n lv (.ref x :: st) h f) : af cx ρ pc lv st h f := by
  obtain ⟨p, l, e, R, s, m, args, below, meth, c, Q, A, cells, slots, X, nL, Ad⟩ := cx
  subst hn
  intro q hq hr ad H locs ls h1 h2 h3 h4 h5
  exact lv_aload K.1 K.2.1 d (h5.2.2 _ _ hl) (k q hq hr ad H locs ls h1 h2 h3 h4 h5)
theorem af_ldc {cx : aw_C} {cc : ByteArray} {own : String} {rm : Room} (K : aw_K cx cc own rm) {α : Type} {ρ : α → Option Value × aw_H} {f : Option α} {pc : Nat} {lv : List (Option Value)} {st : List Value} {h : aw_H} {i : Nat} {v : Int32} (n : Nat) (d : decode cc pc = .ok (.ldc i, 2)) (hn : pc + 2 = n) (hw : Jvm.Cond.constant own i v ∈ aw_tb) (k : af cx ρ n lv (.int v :: st) h f) : af cx ρ pc lv st h f := by
  obtain ⟨p, l, e, R, s, m, args, below, meth, c, Q, A, cells, slots, X, nL, Ad⟩ := cx
  subst hn
  intro q hq hr ad H locs ls h1 h2 h3 h4 h5
  exact lv_ldc K.1 K.2.1 K.2.2.2.1 (K.2.2.2.2.1 _ hw) d (k q hq hr ad H locs ls h1 h2 h3 h4 h5)
theorem af_ldcw {cx : aw_C} {cc : ByteArray} {own : String} {rm : Room} (K : aw_K cx cc own rm) {α : Type} {ρ : α → Option Value × aw_H} {f : Option α} {pc : Nat} {lv : List (Option Value)} {st : List Value} {h : aw_H} {i : Nat} {v : Int32} (n : Nat) (d : decode cc pc = .ok (.ldc_w i, 3)) (hn : pc + 3 = n) (hw : Jvm.Cond.constant own i v ∈ aw_tb) (k : af cx ρ n lv (.int v :: st) h f) : af cx ρ pc lv st h f := by
  obtain ⟨p, l, e, R, s, m, args, below, meth, c, Q, A, cells, slots, X, nL, Ad⟩ := cx
  subst hn
  intro q hq hr ad H locs ls h1 h2 h3 h4 h5
  exact lv_ldcw K.1 K.2.1 K.2.2.2.1 (K.2.2.2.2.1 _ hw) d (k q hq hr ad H locs ls h1 h2 h3 h4 h5)
theorem af_ldc2 {cx : aw_C} {cc : ByteArray} {own : String} {rm : Room} (K : aw_K cx cc own rm) {α : Type} {ρ : α → Option Value × aw_H} {f : Option α} {pc : Nat} {lv : List (Option Value)} {st : List Value} {h : aw_H} {i : Nat} {v : Int64} (n : Nat) (d : decode cc pc = .ok (.ldc2_w i, 3)) (hn : pc + 3 = n) (hw : Jvm.Cond.constantLong own i v ∈ aw_tb) (k : af cx ρ n lv (.long v :: st) h f) : af cx ρ pc lv st h f := by
  obtain ⟨p, l, e, R, s, m, args, below, meth, c, Q, A, cells, slots, X, nL, Ad⟩ := cx
  subst hn
  intro q hq hr ad H locs ls h1 h2 h3 h4 h5
  exact lv_ldc2 K.1 K.2.1 K.2.2.2.1 (K.2.2.2.2.1 _ hw) d (k q hq hr ad H locs ls h1 h2 h3 h4 h5)
theorem af_dup {cx : aw_C} {cc : ByteArray} {own : String} {rm : Room} (K : aw_K cx cc own rm) {α : Type} {ρ : α → Option Value × aw_H} {f : Option α} {pc : Nat} {lv : List (Option Value)} {st : List Value} {h : aw_H} {v : Value} (n : Nat) (d : decode cc pc = .ok (.dup, 1)) (hn : pc + 1 = n) (hc : v.category = 1) (k : af cx ρ n lv (v :: v :: st) h f) : af cx ρ pc lv (v :: st) h f := by
  obtain ⟨p, l, e, R, s, m, args, below, meth, c, Q, A, cells, slots, X, nL, Ad⟩ := cx
  subst hn
  intro q hq hr ad H locs ls h1 h2 h3 h4 h5
  exact lv_dup K.1 K.2.1 d (by rw [aw_cat]; exact hc) (k q hq hr ad H locs ls h1 h2 h3 h4 h5)
theorem af_pop {cx : aw_C} {cc : ByteArray} {own : String} {rm : Room} (K : aw_K cx cc own rm) {α : Type} {ρ : α → Option Value × aw_H} {f : Option α} {pc : Nat} {lv : List (Option Value)} {st : List Value} {h : aw_H} {v : Value} (n : Nat) (d : decode cc pc = .ok (.pop, 1)) (hn : pc + 1 = n) (hc : v.category = 1) (k : af cx ρ n lv st h f) : af cx ρ pc lv (v :: st) h f := by
  obtain ⟨p, l, e, R, s, m, args, below, meth, c, Q, A, cells, slots, X, nL, Ad⟩ := cx
  subst hn
  intro q hq hr ad H locs ls h1 h2 h3 h4 h5
  exact lv_pop K.1 K.2.1 d (by rw [aw_cat]; exact hc) (k q hq hr ad H locs ls h1 h2 h3 h4 h5)
theorem af_dup2 {cx : aw_C} {cc : ByteArray} {own : String} {rm : Room} (K : aw_K cx cc own rm) {α : Type} {ρ : α → Option Value × aw_H} {f : Option α} {pc : Nat} {lv : List (Option Value)} {st : List Value} {h : aw_H} {v w : Value} (n : Nat) (d : decode cc pc = .ok (.dup2, 1)) (hn : pc + 1 = n) (hc : v.category = 1) (hc2 : w.category = 1) (k : af cx ρ n lv (v :: w :: v :: w :: st) h f) : af cx ρ pc lv (v :: w :: st) h f := by
  obtain ⟨p, l, e, R, s, m, args, below, meth, c, Q, A, cells, slots, X, nL, Ad⟩ := cx
  subst hn
  intro q hq hr ad H locs ls h1 h2 h3 h4 h5
  exact lv_dup2_11 K.1 K.2.1 d (by rw [aw_cat]; exact hc) (by rw [aw_cat]; exact hc2) (k q hq hr ad H locs ls h1 h2 h3 h4 h5)
theorem af_lcmp {cx : aw_C} {cc : ByteArray} {own : String} {rm : Room} (K : aw_K cx cc own rm) {α : Type} {ρ : α → Option Value × aw_H} {f : Option α} {pc : Nat} {lv : List (Option Value)} {st : List Value} {h : aw_H} {x y : Int64} (n : Nat) (d : decode cc pc = .ok (.lcmp, 1)) (hn : pc + 1 = n) (k : af cx ρ n lv (.int (lg_cmp x y) :: st) h f) : af cx ρ pc lv (.long y :: .long x :: st) h f := by
  obtain ⟨p, l, e, R, s, m, args, below, meth, c, Q, A, cells, slots, X, nL, Ad⟩ := cx
  subst hn
  intro q hq hr ad H locs ls h1 h2 h3 h4 h5
  exact W.lcmp K.1 K.2.1 d (k q hq hr ad H locs ls h1 h2 h3 h4 h5)
theorem af_goto {cx : aw_C} {cc : ByteArray} {own : String} {rm : Room} (K : aw_K cx cc own rm) {α : Type} {ρ : α → Option Value × aw_H} {f : Option α} {pc : Nat} {lv : List (Option Value)} {st : List Value} {h : aw_H} {off : Int} (n : Nat) (d : decode cc pc = .ok (.goto off, 3)) (hn : (pc : Int) + off = (n : Int)) (k : af cx ρ n lv st h f) : af cx ρ pc lv st h f := by
  obtain ⟨p, l, e, R, s, m, args, below, meth, c, Q, A, cells, slots, X, nL, Ad⟩ := cx
  intro q hq hr ad H locs ls h1 h2 h3 h4 h5
  exact lv_goto K.1 K.2.1 d hn (k q hq hr ad H locs ls h1 h2 h3 h4 h5)
theorem af_if_eq {cx : aw_C} {cc : ByteArray} {own : String} {rm : Room} (K : aw_K cx cc own rm) {α : Type} {ρ : α → Option Value × aw_H} {f g : Option α} {pc : Nat} {lv : List (Option Value)} {st : List Value} {h : aw_H} {x : Int32} {off : Int} (n t : Nat) (d : decode cc pc = .ok (.ifCond .eq off, 3)) (hn : pc + 3 = n) (ht : (pc : Int) + off = (t : Int)) (kt : x = 0 → af cx ρ t lv st h f) (kf : ¬ (x = 0) → af cx ρ n lv st h g) : af cx ρ pc lv (.int x :: st) h (if x = 0 then f else g) := by
  obtain ⟨p, l, e, R, s, m, args, below, meth, c, Q, A, cells, slots, X, nL, Ad⟩ := cx
  subst hn
  intro q hq hr ad H locs ls h1 h2 h3 h4 h5
  by_cases hc : x = 0
  · rw [if_pos hc] at hq
    refine lv_if_eq K.1 K.2.1 d ht (fun _ => kt hc q hq hr ad H locs ls h1 h2 h3 h4 h5) (fun hc' => absurd ?_ hc')
    exact hc
  · rw [if_neg hc] at hq
    refine lv_if_eq K.1 K.2.1 d ht (fun hc' => absurd ?_ hc) (fun _ => kf hc q hq hr ad H locs ls h1 h2 h3 h4 h5)
    exact hc'
theorem af_icmp_eq {cx : aw_C} {cc : ByteArray} {own : String} {rm : Room} (K : aw_K cx cc own rm) {α : Type} {ρ : α → Option Value × aw_H} {f g : Option α} {pc : Nat} {lv : List (Option Value)} {st : List Value} {h : aw_H} {x y : Int32} {off : Int} (n t : Nat) (d : decode cc pc = .ok (.if_icmp .eq off, 3)) (hn : pc + 3 = n) (ht : (pc : Int) + off = (t : Int)) (kt : x = y → af cx ρ t lv st h f) (kf : ¬ (x = y) → af cx ρ n lv st h g) : af cx ρ pc lv (.int y :: .int x :: st) h (if x = y then f else g) := by
  obtain ⟨p, l, e, R, s, m, args, below, meth, c, Q, A, cells, slots, X, nL, Ad⟩ := cx
  subst hn
  intro q hq hr ad H locs ls h1 h2 h3 h4 h5
  by_cases hc : x = y
  · rw [if_pos hc] at hq
    refine lv_icmp_eq K.1 K.2.1 d ht (fun _ => kt hc q hq hr ad H locs ls h1 h2 h3 h4 h5) (fun hc' => absurd ?_ hc')
    exact hc
  · rw [if_neg hc] at hq
    refine lv_icmp_eq K.1 K.2.1 d ht (fun hc' => absurd ?_ hc) (fun _ => kf hc q hq hr ad H locs ls h1 h2 h3 h4 h5)
    exact hc'
theorem af_if_lt {cx : aw_C} {cc : ByteArray} {own : String} {rm : Room} (K : aw_K cx cc own rm) {α : Type} {ρ : α → Option Value × aw_H} {f g : Option α} {pc : Nat} {lv : List (Option Value)} {st : List Value} {h : aw_H} {x : Int32} {off : Int} (n t : Nat) (d : decode cc pc = .ok (.ifCond .lt off, 3)) (hn : pc + 3 = n) (ht : (pc : Int) + off = (t : Int)) (kt : x < 0 → af cx ρ t lv st h f) (kf : ¬ (x < 0) → af cx ρ n lv st h g) : af cx ρ pc lv (.int x :: st) h (if x < 0 then f else g) := by
  obtain ⟨p, l, e, R, s, m, args, below, meth, c, Q, A, cells, slots, X, nL, Ad⟩ := cx
  subst hn
  intro q hq hr ad H locs ls h1 h2 h3 h4 h5
  by_cases hc : x < 0
  · rw [if_pos hc] at hq
    refine lv_if_lt K.1 K.2.1 d ht (fun _ => kt hc q hq hr ad H locs ls h1 h2 h3 h4 h5) (fun hc' => absurd ?_ hc')
    exact hc
  · rw [if_neg hc] at hq
    refine lv_if_lt K.1 K.2.1 d ht (fun hc' => absurd ?_ hc) (fun _ => kf hc q hq hr ad H locs ls h1 h2 h3 h4 h5)
    exact hc'
theorem af_icmp_lt {cx : aw_C} {cc : ByteArray} {own : String} {rm : Room} (K : aw_K cx cc own rm) {α : Type} {ρ : α → Option Value × aw_H} {f g : Option α} {pc : Nat} {lv : List (Option Value)} {st : List Value} {h : aw_H} {x y : Int32} {off : Int} (n t : Nat) (d : decode cc pc = .ok (.if_icmp .lt off, 3)) (hn : pc + 3 = n) (ht : (pc : Int) + off = (t : Int)) (kt : x < y → af cx ρ t lv st h f) (kf : ¬ (x < y) → af cx ρ n lv st h g) : af cx ρ pc lv (.int y :: .int x :: st) h (if x < y then f else g) := by
  obtain ⟨p, l, e, R, s, m, args, below, meth, c, Q, A, cells, slots, X, nL, Ad⟩ := cx
  subst hn
  intro q hq hr ad H locs ls h1 h2 h3 h4 h5
  by_cases hc : x < y
  · rw [if_pos hc] at hq
    refine lv_icmp_lt K.1 K.2.1 d ht (fun _ => kt hc q hq hr ad H locs ls h1 h2 h3 h4 h5) (fun hc' => absurd ?_ hc')
    exact hc
  · rw [if_neg hc] at hq
    refine lv_icmp_lt K.1 K.2.1 d ht (fun hc' => absurd ?_ hc) (fun _ => kf hc q hq hr ad H locs ls h1 h2 h3 h4 h5)
    exact hc'
theorem af_if_ge {cx : aw_C} {cc : ByteArray} {own : String} {rm : Room} (K : aw_K cx cc own rm) {α : Type} {ρ : α → Option Value × aw_H} {f g : Option α} {pc : Nat} {lv : List (Option Value)} {st : List Value} {h : aw_H} {x : Int32} {off : Int} (n t : Nat) (d : decode cc pc = .ok (.ifCond .ge off, 3)) (hn : pc + 3 = n) (ht : (pc : Int) + off = (t : Int)) (kt : 0 ≤ x → af cx ρ t lv st h f) (kf : ¬ (0 ≤ x) → af cx ρ n lv st h g) : af cx ρ pc lv (.int x :: st) h (if 0 ≤ x then f else g) := by
  obtain ⟨p, l, e, R, s, m, args, below, meth, c, Q, A, cells, slots, X, nL, Ad⟩ := cx
  subst hn
  intro q hq hr ad H locs ls h1 h2 h3 h4 h5
  by_cases hc : 0 ≤ x
  · rw [if_pos hc] at hq
    refine lv_if_ge K.1 K.2.1 d ht (fun _ => kt hc q hq hr ad H locs ls h1 h2 h3 h4 h5) (fun hc' => absurd ?_ hc')
    exact hc
  · rw [if_neg hc] at hq
    refine lv_if_ge K.1 K.2.1 d ht (fun hc' => absurd ?_ hc) (fun _ => kf hc q hq hr ad H locs ls h1 h2 h3 h4 h5)
    exact hc'
theorem af_icmp_ge {cx : aw_C} {cc : ByteArray} {own : String} {rm : Room} (K : aw_K cx cc own rm) {α : Type} {ρ : α → Option Value × aw_H} {f g : Option α} {pc : Nat} {lv : List (Option Value)} {st : List Value} {h : aw_H} {x y : Int32} {off : Int} (n t : Nat) (d : decode cc pc = .ok (.if_icmp .ge off, 3)) (hn : pc + 3 = n) (ht : (pc : Int) + off = (t : Int)) (kt : y ≤ x → af cx ρ t lv st h f) (kf : ¬ (y ≤ x) → af cx ρ n lv st h g) : af cx ρ pc lv (.int y :: .int x :: st) h (if y ≤ x then f else g) := by
  obtain ⟨p, l, e, R, s, m, args, below, meth, c, Q, A, cells, slots, X, nL, Ad⟩ := cx
  subst hn
  intro q hq hr ad H locs ls h1 h2 h3 h4 h5
  by_cases hc : y ≤ x
  · rw [if_pos hc] at hq
    refine lv_icmp_ge K.1 K.2.1 d ht (fun _ => kt hc q hq hr ad H locs ls h1 h2 h3 h4 h5) (fun hc' => absurd ?_ hc')
    exact hc
  · rw [if_neg hc] at hq
    refine lv_icmp_ge K.1 K.2.1 d ht (fun hc' => absurd ?_ hc) (fun _ => kf hc q hq hr ad H locs ls h1 h2 h3 h4 h5)
    exact hc'
theorem af_if_gt {cx : aw_C} {cc : ByteArray} {own : String} {rm : Room} (K : aw_K cx cc own rm) {α : Type} {ρ : α → Option Value × aw_H} {f g : Option α} {pc : Nat} {lv : List (Option Value)} {st : List Value} {h : aw_H} {x : Int32} {off : Int} (n t : Nat) (d : decode cc pc = .ok (.ifCond .gt off, 3)) (hn : pc + 3 = n) (ht : (pc : Int) + off = (t : Int)) (kt : 0 < x → af cx ρ t lv st h f) (kf : ¬ (0 < x) → af cx ρ n lv st h g) : af cx ρ pc lv (.int x :: st) h (if 0 < x then f else g) := by
  obtain ⟨p, l, e, R, s, m, args, below, meth, c, Q, A, cells, slots, X, nL, Ad⟩ := cx
  subst hn
  intro q hq hr ad H locs ls h1 h2 h3 h4 h5
  by_cases hc : 0 < x
  · rw [if_pos hc] at hq
    refine lv_if_gt K.1 K.2.1 d ht (fun _ => kt hc q hq hr ad H locs ls h1 h2 h3 h4 h5) (fun hc' => absurd ?_ hc')
    exact hc
  · rw [if_neg hc] at hq
    refine lv_if_gt K.1 K.2.1 d ht (fun hc' => absurd ?_ hc) (fun _ => kf hc q hq hr ad H locs ls h1 h2 h3 h4 h5)
    exact hc'
theorem af_icmp_gt {cx : aw_C} {cc : ByteArray} {own : String} {rm : Room} (K : aw_K cx cc own rm) {α : Type} {ρ : α → Option Value × aw_H} {f g : Option α} {pc : Nat} {lv : List (Option Value)} {st : List Value} {h : aw_H} {x y : Int32} {off : Int} (n t : Nat) (d : decode cc pc = .ok (.if_icmp .gt off, 3)) (hn : pc + 3 = n) (ht : (pc : Int) + off = (t : Int)) (kt : y < x → af cx ρ t lv st h f) (kf : ¬ (y < x) → af cx ρ n lv st h g) : af cx ρ pc lv (.int y :: .int x :: st) h (if y < x then f else g) := by
  obtain ⟨p, l, e, R, s, m, args, below, meth, c, Q, A, cells, slots, X, nL, Ad⟩ := cx
  subst hn
  intro q hq hr ad H locs ls h1 h2 h3 h4 h5
  by_cases hc : y < x
  · rw [if_pos hc] at hq
    refine lv_icmp_gt K.1 K.2.1 d ht (fun _ => kt hc q hq hr ad H locs ls h1 h2 h3 h4 h5) (fun hc' => absurd ?_ hc')
    exact hc
  · rw [if_neg hc] at hq
    refine lv_icmp_gt K.1 K.2.1 d ht (fun hc' => absurd ?_ hc) (fun _ => kf hc q hq hr ad H locs ls h1 h2 h3 h4 h5)
    exact hc'
theorem af_if_le {cx : aw_C} {cc : ByteArray} {own : String} {rm : Room} (K : aw_K cx cc own rm) {α : Type} {ρ : α → Option Value × aw_H} {f g : Option α} {pc : Nat} {lv : List (Option Value)} {st : List Value} {h : aw_H} {x : Int32} {off : Int} (n t : Nat) (d : decode cc pc = .ok (.ifCond .le off, 3)) (hn : pc + 3 = n) (ht : (pc : Int) + off = (t : Int)) (kt : x ≤ 0 → af cx ρ t lv st h f) (kf : ¬ (x ≤ 0) → af cx ρ n lv st h g) : af cx ρ pc lv (.int x :: st) h (if x ≤ 0 then f else g) := by
  obtain ⟨p, l, e, R, s, m, args, below, meth, c, Q, A, cells, slots, X, nL, Ad⟩ := cx
  subst hn
  intro q hq hr ad H locs ls h1 h2 h3 h4 h5
  by_cases hc : x ≤ 0
  · rw [if_pos hc] at hq
    refine lv_if_le K.1 K.2.1 d ht (fun _ => kt hc q hq hr ad H locs ls h1 h2 h3 h4 h5) (fun hc' => absurd ?_ hc')
    exact hc
  · rw [if_neg hc] at hq
    refine lv_if_le K.1 K.2.1 d ht (fun hc' => absurd ?_ hc) (fun _ => kf hc q hq hr ad H locs ls h1 h2 h3 h4 h5)
    exact hc'
theorem af_icmp_le {cx : aw_C} {cc : ByteArray} {own : String} {rm : Room} (K : aw_K cx cc own rm) {α : Type} {ρ : α → Option Value × aw_H} {f g : Option α} {pc : Nat} {lv : List (Option Value)} {st : List Value} {h : aw_H} {x y : Int32} {off : Int} (n t : Nat) (d : decode cc pc = .ok (.if_icmp .le off, 3)) (hn : pc + 3 = n) (ht : (pc : Int) + off = (t : Int)) (kt : x ≤ y → af cx ρ t lv st h f) (kf : ¬ (x ≤ y) → af cx ρ n lv st h g) : af cx ρ pc lv (.int y :: .int x :: st) h (if x ≤ y then f else g) := by
  obtain ⟨p, l, e, R, s, m, args, below, meth, c, Q, A, cells, slots, X, nL, Ad⟩ := cx
  subst hn
  intro q hq hr ad H locs ls h1 h2 h3 h4 h5
  by_cases hc : x ≤ y
  · rw [if_pos hc] at hq
    refine lv_icmp_le K.1 K.2.1 d ht (fun _ => kt hc q hq hr ad H locs ls h1 h2 h3 h4 h5) (fun hc' => absurd ?_ hc')
    exact hc
  · rw [if_neg hc] at hq
    refine lv_icmp_le K.1 K.2.1 d ht (fun hc' => absurd ?_ hc) (fun _ => kf hc q hq hr ad H locs ls h1 h2 h3 h4 h5)
    exact hc'
theorem af_if_ne {cx : aw_C} {cc : ByteArray} {own : String} {rm : Room} (K : aw_K cx cc own rm) {α : Type} {ρ : α → Option Value × aw_H} {f g : Option α} {pc : Nat} {lv : List (Option Value)} {st : List Value} {h : aw_H} {x : Int32} {off : Int} (n t : Nat) (d : decode cc pc = .ok (.ifCond .ne off, 3)) (hn : pc + 3 = n) (ht : (pc : Int) + off = (t : Int)) (kt : ¬ x = 0 → af cx ρ t lv st h f) (kf : x = 0 → af cx ρ n lv st h g) : af cx ρ pc lv (.int x :: st) h (if x = 0 then g else f) := by
  obtain ⟨p, l, e, R, s, m, args, below, meth, c, Q, A, cells, slots, X, nL, Ad⟩ := cx
  subst hn
  intro q hq hr ad H locs ls h1 h2 h3 h4 h5
  by_cases hc : x = 0
  · rw [if_pos hc] at hq
    exact lv_if_ne K.1 K.2.1 d ht (fun hc' => absurd hc hc') (fun _ => kf hc q hq hr ad H locs ls h1 h2 h3 h4 h5)
  · rw [if_neg hc] at hq
    exact lv_if_ne K.1 K.2.1 d ht (fun _ => kt hc q hq hr ad H locs ls h1 h2 h3 h4 h5) (fun hc' => absurd hc' hc)
theorem af_icmp_ne {cx : aw_C} {cc : ByteArray} {own : String} {rm : Room} (K : aw_K cx cc own rm) {α : Type} {ρ : α → Option Value × aw_H} {f g : Option α} {pc : Nat} {lv : List (Option Value)} {st : List Value} {h : aw_H} {x y : Int32} {off : Int} (n t : Nat) (d : decode cc pc = .ok (.if_icmp .ne off, 3)) (hn : pc + 3 = n) (ht : (pc : Int) + off = (t : Int)) (kt : ¬ x = y → af cx ρ t lv st h f) (kf : x = y → af cx ρ n lv st h g) : af cx ρ pc lv (.int y :: .int x :: st) h (if x = y then g else f) := by
  obtain ⟨p, l, e, R, s, m, args, below, meth, c, Q, A, cells, slots, X, nL, Ad⟩ := cx
  subst hn
  intro q hq hr ad H locs ls h1 h2 h3 h4 h5
  by_cases hc : x = y
  · rw [if_pos hc] at hq
    exact lv_icmp_ne K.1 K.2.1 d ht (fun hc' => absurd hc hc') (fun _ => kf hc q hq hr ad H locs ls h1 h2 h3 h4 h5)
  · rw [if_neg hc] at hq
    exact lv_icmp_ne K.1 K.2.1 d ht (fun _ => kt hc q hq hr ad H locs ls h1 h2 h3 h4 h5) (fun hc' => absurd hc' hc)
