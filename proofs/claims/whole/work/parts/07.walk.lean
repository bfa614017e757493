/-! ===== the walk over abstract worlds: references are places of the world's list (below 1000) or statics (from 1000 on) ===== -/
abbrev aw_E : Type := (Bool × Nat × (Nat → Int32)) ⊕ (Nat × List Value)
abbrev aw_H : Type := List aw_E
/-- the classes' numbers and slots; the class of int arrays; of byte arrays; the statics' addresses; the formatter (a reference or null) -/
abbrev aw_X : Type := va_G × ClassId × ClassId × (Nat → Nat) × Value
abbrev aw_cl : List vw_C := [(RX0, TX0, 11), (RX1, TX1, 6), (RX2, TX2, 3), (RX3, TX3, 2), (RX4, TX4, 8), (RX5, TX5, 17)]
def aw_tb : List Cond := lw_tbl.filter goodWord
def aw_v (ad : Nat → Nat) (v : Value) : Value := match v with
  | .ref k => .ref (ad k)
  | w => w
def aw_e (X : aw_X) (ad : Nat → Nat) (e : aw_E) : va_E := match e with
  | .inl q => .inl (if q.1 then X.2.2.1 else X.2.1, q.2.1, .inl q.2.2)
  | .inr o => .inr (o.1, o.2.map (aw_v ad))
def aw_w (X : aw_X) (ad : Nat → Nat) (h : aw_H) : va_W := h.mapIdx (fun k e => (ad k, aw_e X ad e))
theorem aw_w_get (X : aw_X) (ad : Nat → Nat) (h : aw_H) (k : Nat) : (aw_w X ad h)[k]? = h[k]?.map (fun e => (ad k, aw_e X ad e)) := by
  simp [aw_w]
theorem aw_w_at {X : aw_X} {ad : Nat → Nat} {h : aw_H} {k : Nat} {e : aw_E} (hk : h[k]? = some e) : (aw_w X ad h)[k]? = some (ad k, aw_e X ad e) := by
  rw [aw_w_get, hk]; rfl
theorem aw_w_set {X : aw_X} {ad : Nat → Nat} {h : aw_H} {k : Nat} {e : aw_E} : (aw_w X ad h).set k (ad k, aw_e X ad e) = aw_w X ad (h.set k e) := by
  apply List.ext_getElem?
  intro i
  rw [aw_w_get]
  by_cases hk : k = i
  · subst hk
    by_cases hl : k < h.length
    · rw [List.getElem?_set_self (by simpa [aw_w] using hl), List.getElem?_set_self hl]; rfl
    · rw [List.getElem?_eq_none (by simp [aw_w]; omega), List.getElem?_eq_none (by simp; omega)]; rfl
  · rw [List.getElem?_set_ne hk, List.getElem?_set_ne hk, aw_w_get]
theorem aw_w_push {X : aw_X} {ad : Nat → Nat} {h : aw_H} {e : aw_E} : aw_w X ad (h ++ [e]) = aw_w X ad h ++ [(ad h.length, aw_e X ad e)] := by
  simp [aw_w]
theorem aw_cat (ad : Nat → Nat) (v : Value) : (aw_v ad v).category = v.category := by cases v <;> rfl
theorem aw_cats (ad : Nat → Nat) (st : List Value) : ((st.map (aw_v ad)).map fun v => v.category).sum = (st.map fun v => v.category).sum := by
  rw [List.map_map]
  congr 1
  apply List.map_congr_left
  intro v _
  exact aw_cat ad v
/-- static int arrays: place, name, length, contents -/
def aw_sa : List (Nat × String × Nat × List Int32) := [(1000, "COOLS", 7, [2, 1, 5, 1, 2, 0, 5]), (1001, "BOILS", 7, [5, 5, 3, 10, 10, 1, 3]), (1002, "UNDER", 7, [-1, 0, 0, 1, 3, 0, 2]), (1003, "MOST_OF_TRAIT", 6, [6, 99, 99, 99, 9999, 9999])]
def aw_nF : List (Nat × String) := [(69, "COOLS"), (72, "BOILS")]
def aw_nM1 : Cond := .methodLinkNest "TwoWheel$Pottery" 94 ⟨"TwoWheel", "wouldFlop", "(II)Z"⟩ "TwoWheel"
def aw_nM2 : Cond := .methodLinkNest "TwoWheel$Reader" 60 ⟨"TwoWheel", "within", "(III)Z"⟩ "TwoWheel"
/-- the words: their places in the pool of the Reader, and their texts -/
def aw_sk : List (Nat × String) := [(145, "potter"), (147, "husband"), (149, "son"), (151, "father"), (153, "partner"), (155, "stranger"), (157, "boy"), (159, "rift"), (161, "pair"), (163, "clay"), (164, "heat"), (166, "care"), (168, "years")]
def aw_sl : List Nat := [6, 7, 3, 6, 7, 8, 3, 4, 4, 4, 4, 4, 5]
def aw_sb : List (List Int32) := [[112, 111, 116, 116, 101, 114], [104, 117, 115, 98, 97, 110, 100], [115, 111, 110], [102, 97, 116, 104, 101, 114], [112, 97, 114, 116, 110, 101, 114], [115, 116, 114, 97, 110, 103, 101, 114], [98, 111, 121], [114, 105, 102, 116], [112, 97, 105, 114], [99, 108, 97, 121], [104, 101, 97, 116], [99, 97, 114, 101], [121, 101, 97, 114, 115]]
/-- what holds of the tables and the statics at a state, while only cells in A change -/
def aw_SX (X : aw_X) (A : Nat → Prop) (U : State) : Prop :=
  va_K X.1 aw_cl [(X.2.1, .int), (X.2.2.1, .byte)] U ∧
  (∀ q ∈ aw_nF, va_Nw (.fieldLinkNest "TwoWheel$Pottery" q.1 "TwoWheel" q.2 "[I" "TwoWheel") U) ∧ va_Nw aw_nM1 U ∧ va_Nw aw_nM2 U ∧
  (∀ q ∈ aw_sa, va_Z "TwoWheel" q.2.1 "[I" (.ref (X.2.2.2.1 q.1)) A U U.heap ∧ va_T .int (X.2.2.2.1 q.1) q.2.2.1 (fun j => .int (q.2.2.2.getD j 0)) A U U.heap) ∧
  va_Z "java/lang/String" "COMPACT_STRINGS" "Z" (.int 1) A U U.heap ∧
  va_Z "jdk/internal/util/Preconditions" "SIOOBE_FORMATTER" "Ljava/util/function/BiFunction;" (aw_v X.2.2.2.1 X.2.2.2.2) A U U.heap ∧
  (∀ j, j < 13 → vk_R "TwoWheel$Reader" (aw_sk.getD j (0, "")).1 (aw_sk.getD j (0, "")).2 (X.2.2.2.1 (1010 + j)) U) ∧
  vk_S 13 aw_sl aw_sb (fun j => X.2.2.2.1 (1010 + j)) (fun j => X.2.2.2.1 (1030 + j)) A U U.heap ∧ (X.2.2.2.2 = .null ∨ X.2.2.2.2 = .ref 1050)
theorem aw_SX.call {X : aw_X} {A A' : Nat → Prop} {s U : State} {H : Heap} {locs : List Loc} (h : aw_SX X A s) (hS : va_S A s.heap H locs) (hU : U.heap = H) (hW : s.WarmedH U.vm) (hA : ∀ q, A' q → A q) : aw_SX X A' U := by
  obtain ⟨h1, h2, h3, h4, h5, h6, h7, h8, h9, h10⟩ := h
  subst hU
  refine ⟨va_K.moved hW.alike h1, fun q hq => va_Nw.warmF hW (h2 q hq), va_Nw.warmM hW h3, va_Nw.warmM hW h4, fun q hq => ⟨((h5 q hq).1.moved hW.alike).kept hS.2.1 |>.narrow hA, ((h5 q hq).2.moved hW.alike).kept hS.2.1 |>.narrow hA⟩, (h6.moved hW.alike).kept hS.2.1 |>.narrow hA, (h7.moved hW.alike).kept hS.2.1 |>.narrow hA, fun j hj => (h8 j hj).warm hW, (h9.moved hW.alike).kept hS.2.1 |>.narrow hA, h10⟩
theorem aw_SX.blind {X : aw_X} {A : Nat → Prop} {U : State} {g : JFrame} {mk : MethodId} {a : Array Value} (h : aw_SX X A U) : aw_SX X A (U.calling g mk a) := by
  obtain ⟨h1, h2, h3, h4, h5, h6, h7, h8, h9, h10⟩ := h
  have hr : U.vm.Alike (U.calling g mk a).vm := Vm.Alike.refl U.vm
  refine ⟨va_K.moved hr h1, fun q hq => va_Nw.same rfl rfl (h2 q hq), va_Nw.same rfl rfl h3, va_Nw.same rfl rfl h4, fun q hq => ⟨(h5 q hq).1.moved hr, (h5 q hq).2.moved hr⟩, h6.moved hr, h7.moved hr, fun j hj => (h8 j hj).same rfl, h9.moved hr, h10⟩
/-- a method at work: program, launch, environment, room, its entry state, its own id, arguments, the stack below, method, code, where it comes to, the cells that it may change, cells and slots made, statics, its locals, which addresses are meant -/
abbrev aw_C : Type := Program × Launch × Env × Room × State × MethodId × Array Value × List Frame × Method × Code × (State → Prop) × (Nat → Prop) × Nat × Nat × aw_X × Nat × ((Nat → Nat) → Prop)
def aw_nL (cx : aw_C) : Nat := cx.2.2.2.2.2.2.2.2.2.2.2.2.2.2.2.1
def aw_xX (cx : aw_C) : aw_X := cx.2.2.2.2.2.2.2.2.2.2.2.2.2.2.1
def aw_xl (cx : aw_C) : Launch := cx.2.1
def aw_L (ad : Nat → Nat) (nL : Nat) (lv : List (Option Value)) (ls : Array Slot) : Prop := ls.size = nL ∧ lv_wf ls ∧ ∀ (i : Nat) (v : Value), lv[i]? = some (some v) → ls[i]? = some (.val (aw_v ad v))
def aw_S (X : aw_X) (ad : Nat → Nat) : Prop := ∀ k : Nat, 1000 ≤ k → ad k = X.2.2.2.1 k
def aw_R (cx : aw_C) (pc : Nat) (lv : List (Option Value)) (st : List Value) (h : aw_H) : Prop := match cx with
  | (p, l, e, R, s, m, args, below, meth, c, Q, A, cells, slots, X, nL, Ad) => ∀ (ad : Nat → Nat) (H : Heap) (locs : List Loc) (ls : Array Slot), Ad ad → va_P X.1 aw_cl (aw_w X ad h) H → va_D A (aw_w X ad h) → va_S A s.heap H locs → aw_L ad nL lv ls → W p l e R s m args below meth c H locs cells slots Q (F0 m pc ls (st.map (aw_v ad)))
/-- the instruction that ends a method with an answer -/
def aw_ri (r : Option Value) : Instr := match r with
  | none => .return_
  | some (.long _) => .lreturn
  | some (.ref _) => .areturn
  | _ => .ireturn
/-- the answer r with the world h is what the method owes -/
def aw_ret (cx : aw_C) (r : Option Value) (h : aw_H) : Prop := match cx with
  | (p, l, e, R, s, m, args, below, meth, c, Q, A, cells, slots, X, _, Ad) => ∀ (ad : Nat → Nat) (H : Heap) (locs : List Loc) (ls : Array Slot) (pc : Nat), Ad ad → va_P X.1 aw_cl (aw_w X ad h) H → va_D A (aw_w X ad h) → va_S A s.heap H locs → decode c.code pc = .ok (aw_ri r, 1) → W p l e R s m args below meth c H locs cells slots Q (F0 m pc ls (r.toList.map (aw_v ad)))
/-- what a walk knows of its method -/
def aw_K (cx : aw_C) (cc : ByteArray) (own : String) (rm : Room) : Prop := match cx with
  | (p, _, _, R, s, m, args, _, meth, c, _, A, cells, slots, X, nL, Ad) => p.tables.exec = Jvm.exec ∧ c.code = cc ∧ c.maxLocals = nL ∧ s.vm.findClass own = some m.cls ∧ (∀ w ∈ aw_tb, w.before args s = true) ∧ aw_SX X A s ∧ (∀ q, s.heap.size ≤ q → A q) ∧ meth.locks = false ∧ R = rm ∧ cells ≤ R.cells ∧ slots ≤ R.slots ∧ ∀ ad, Ad ad → aw_S X ad
/-- from here the method ends as the term f says: where f is some q, with the answer and the world of q -/
def af (cx : aw_C) {α : Type} (ρ : α → Option Value × aw_H) (pc : Nat) (lv : List (Option Value)) (st : List Value) (h : aw_H) (f : Option α) : Prop := ∀ q, f = some q → aw_ret cx (ρ q).1 (ρ q).2 → aw_R cx pc lv st h
