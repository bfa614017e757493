/-! THE CLAIM OUT OF ONE WALK OF THE LAW'S BODY. Your part is whole_start (and what it stands on); all else here is the same for every law, but numbers. -/
def R_law : String := "TwoWheelLaw"
def lw_P (b : Addr) (xs : List Int32) (args : Array Value) (s : State) : Prop := args = #[.ref b] ∧ s.IntsAt b xs ∧ xs.length ≤ 3072 ∧ (Jvm.Cond.and given_1 narrow_1).before args s = true
def lw_Q (_ : Array Value) (s : State) (o : Outcome) (t : State) : Prop := o = .returned (some (.int 1)) ∧ Framed s o t [] 37 1865
def lw_Z (below : List Frame) (a : Array Value) (s : State) : State → Prop := fun t => ∃ o, t.status = .running ∧ Ended t below o ∧ lw_Q a s o t
/-- the law's own end, with 1 on the stack, nothing written that was there before, its room as the claim has it -/
theorem lw_ret {p : Program} {l : Launch} {e : Env} {s : State} {m : MethodId} {below : List Frame} {meth : Method} {c : Code} {b : Nat} (hx : p.tables.exec = Jvm.exec) (hb : c.code = code) (hr : meth.sig.returnType = ret) (hlocks : meth.locks = false) {pc : Nat} {H : Heap} {ls : Array Slot} (hdg : decode code pc = .ok (.ireturn, 1)) : W p l e room_1 s m #[Value.ref b] below meth c H [] 37 1865 (lw_Z below #[Value.ref b] s) (F0 m pc ls [.int 1]) := by
  intro T hT X
  obtain ⟨fs, hret, hrun, hended, hW, hframe⟩ := X.leave (v := some (.int 1)) (hlocks := hlocks) (fun h => by rw [hr] at h; cases h)
  have hmeth' : T.vm.method? m = some meth := X.method'
  refine ⟨T.setFrames fs, ?_, .returned (some (.int 1)), hrun, hended, rfl, ⟨_, rfl⟩, hW, hframe⟩
  jvm_step X.here [X.here.top, hx, hb, hdg, hmeth', hr, ret, narrow_b1]
  (try refine ⟨rfl, ?_⟩); (try refine ⟨rfl, ?_⟩)
  first | (intro acts; rw [hret _ acts rfl rfl rfl]) | rw [hret _ _ rfl rfl rfl]
  exact Steps.refl _
/-- what holds at the law's entry: the machine, the code, the tables' words (any of lw_tbl by 'hts w (by decide +kernel)'), the script of L ints xs at the cell b, what the Statement gives of the start (any of its parts by flat_of_before) -/
def lw_At (p : Program) (s : State) (m : MethodId) (meth : Method) (c : Code) (b L : Nat) (xs : Nat → Int32) : Prop :=
  p.tables.exec = Jvm.exec ∧ c.code = code ∧ meth.sig.returnType = ret ∧ c.maxLocals = 4 ∧ s.vm.findClass R_law = some m.cls ∧ (∀ w ∈ lw_tbl, w.before #[Value.ref b] s = true) ∧ va_X b L xs s s.heap ∧ b < s.heap.size ∧ meth.locks = false ∧ (Jvm.Cond.and given_1 narrow_1).before #[Value.ref b] s = true

theorem lk_15 : Jvm.Cond.classLink RL 7 RX4 ∈ aw_tb := aw_in 15 (by decide +kernel) rfl
theorem lk_16 : Jvm.Cond.instantiable RX4 8 ∈ aw_tb := aw_in 16 (by decide +kernel) rfl
theorem lk_1 : Jvm.Cond.initialized RX4 ∈ aw_tb := aw_in 1 (by decide +kernel) rfl
theorem lk_17 : Jvm.Cond.methodLink RL 9 yX4_init ∈ aw_tb := aw_in 17 (by decide +kernel) rfl
theorem lk_690 : Jvm.Cond.classLink RL 10 RX5 ∈ aw_tb := aw_in 690 (by decide +kernel) rfl
theorem lk_691 : Jvm.Cond.instantiable RX5 17 ∈ aw_tb := aw_in 691 (by decide +kernel) rfl
theorem lk_7 : Jvm.Cond.initialized RX5 ∈ aw_tb := aw_in 7 (by decide +kernel) rfl
theorem lk_692 : Jvm.Cond.methodLink RL 12 yX5_init ∈ aw_tb := aw_in 692 (by decide +kernel) rfl
theorem st_tb {b : Nat} {s : State} (hts : ∀ w ∈ lw_tbl, w.before #[Value.ref b] s = true) : ∀ w ∈ aw_tb, w.before #[Value.ref b] s = true := fun w hw => hts w (List.mem_filter.mp hw).1
abbrev st_F : List Cond := flatC (Jvm.Cond.and given_1 narrow_1)
theorem st_arr {s : State} {args : Array Value} {ty : FieldType} (h : (Jvm.Cond.arrayClass ty).before args s = true) : ∃ cA, s.vm.findClass ("[" ++ ty.toString) = some cA ∧ ArrOfT s cA ty := by
  obtain ⟨c, k, comp, h1, h2, h3⟩ := Cond.arrayClass_spec (args := args) (first := s) (o := none) (idx := []) h
  exact ⟨c, h1, fun n z => ⟨fun k h => (by cases h), k, h2, comp, h3⟩⟩
/-- a static int array of the class -/
theorem st_sa {b : Nat} {s : State} {A : Nat → Prop} (hA : ∀ a : Nat, a < s.heap.size → ¬ A a) (hts : ∀ w ∈ lw_tbl, w.before #[Value.ref b] s = true) (hs : ∀ c ∈ st_F, c.before #[Value.ref b] s = true) (nm : String) (N : Nat) (vs : List Int32) (hN : N < 2 ^ 31) (w1 : Jvm.Cond.laysStatic "TwoWheel" nm "[I" ∈ lw_tbl) (w2 : Jvm.Cond.initialized "TwoWheel" ∈ lw_tbl) (m1 : Jvm.Cond.arrayOf (.static "TwoWheel" nm "[I") .int ∈ st_F) (m2 : Jvm.Cond.eq (.length (.static "TwoWheel" nm "[I")) (.int (Int32.ofNat N)) ∈ st_F) (m3 : ∀ j : Nat, j < N → Jvm.Cond.eq (.elem (.static "TwoWheel" nm "[I") (.int (Int32.ofNat j))) (.int (vs.getD j 0)) ∈ st_F) : ∃ t, va_Z "TwoWheel" nm "[I" (.ref t) A s s.heap ∧ va_T .int t N (fun j => .int (vs.getD j 0)) A s s.heap := by
  obtain ⟨t, ht, hT⟩ := va_Tof (f := fun j => .int (vs.getD j 0)) (A := A) hN (hs _ m1) (va_eqt (hs _ m2)) (fun j hj => va_eqt (hs _ (m3 j hj))) hA
  exact ⟨t, va_Zof (hts _ w1) (hts _ w2) ht hA, hT⟩
abbrev st_tm (i : Nat) : Term := .string "TwoWheel$Reader" (aw_sk.getD i (0, "")).1
set_option maxRecDepth 100000 in
set_option maxHeartbeats 4000000 in
theorem st_COOLS {b : Nat} {s : State} {A : Nat → Prop} (hA : ∀ a : Nat, a < s.heap.size → ¬ A a) (hts : ∀ w ∈ lw_tbl, w.before #[Value.ref b] s = true) (hs : ∀ c ∈ st_F, c.before #[Value.ref b] s = true) : ∃ t, va_Z "TwoWheel" "COOLS" "[I" (.ref t) A s s.heap ∧ va_T .int t 7 (fun j => .int (([2, 1, 5, 1, 2, 0, 5] : List Int32).getD j 0)) A s s.heap :=
  st_sa hA hts hs "COOLS" 7 [2, 1, 5, 1, 2, 0, 5] (by decide) (List.mem_append_right _ (List.mem_of_getElem? (i := 221) (by decide +kernel))) (List.mem_append_right _ (List.mem_of_getElem? (i := 1) (by decide +kernel))) (by decide +kernel) (by decide +kernel) (by decide +kernel)
set_option maxRecDepth 100000 in
set_option maxHeartbeats 4000000 in
theorem st_BOILS {b : Nat} {s : State} {A : Nat → Prop} (hA : ∀ a : Nat, a < s.heap.size → ¬ A a) (hts : ∀ w ∈ lw_tbl, w.before #[Value.ref b] s = true) (hs : ∀ c ∈ st_F, c.before #[Value.ref b] s = true) : ∃ t, va_Z "TwoWheel" "BOILS" "[I" (.ref t) A s s.heap ∧ va_T .int t 7 (fun j => .int (([5, 5, 3, 10, 10, 1, 3] : List Int32).getD j 0)) A s s.heap :=
  st_sa hA hts hs "BOILS" 7 [5, 5, 3, 10, 10, 1, 3] (by decide) (List.mem_append_right _ (List.mem_of_getElem? (i := 223) (by decide +kernel))) (List.mem_append_right _ (List.mem_of_getElem? (i := 1) (by decide +kernel))) (by decide +kernel) (by decide +kernel) (by decide +kernel)
set_option maxRecDepth 100000 in
set_option maxHeartbeats 4000000 in
theorem st_UNDER {b : Nat} {s : State} {A : Nat → Prop} (hA : ∀ a : Nat, a < s.heap.size → ¬ A a) (hts : ∀ w ∈ lw_tbl, w.before #[Value.ref b] s = true) (hs : ∀ c ∈ st_F, c.before #[Value.ref b] s = true) : ∃ t, va_Z "TwoWheel" "UNDER" "[I" (.ref t) A s s.heap ∧ va_T .int t 7 (fun j => .int (([-1, 0, 0, 1, 3, 0, 2] : List Int32).getD j 0)) A s s.heap :=
  st_sa hA hts hs "UNDER" 7 [-1, 0, 0, 1, 3, 0, 2] (by decide) (List.mem_append_right _ (List.mem_of_getElem? (i := 624) (by decide +kernel))) (List.mem_append_right _ (List.mem_of_getElem? (i := 1) (by decide +kernel))) (by decide +kernel) (by decide +kernel) (by decide +kernel)
set_option maxRecDepth 100000 in
set_option maxHeartbeats 4000000 in
theorem st_MOST_OF_TRAIT {b : Nat} {s : State} {A : Nat → Prop} (hA : ∀ a : Nat, a < s.heap.size → ¬ A a) (hts : ∀ w ∈ lw_tbl, w.before #[Value.ref b] s = true) (hs : ∀ c ∈ st_F, c.before #[Value.ref b] s = true) : ∃ t, va_Z "TwoWheel" "MOST_OF_TRAIT" "[I" (.ref t) A s s.heap ∧ va_T .int t 6 (fun j => .int (([6, 99, 99, 99, 9999, 9999] : List Int32).getD j 0)) A s s.heap :=
  st_sa hA hts hs "MOST_OF_TRAIT" 6 [6, 99, 99, 99, 9999, 9999] (by decide) (List.mem_append_right _ (List.mem_of_getElem? (i := 229) (by decide +kernel))) (List.mem_append_right _ (List.mem_of_getElem? (i := 1) (by decide +kernel))) (by decide +kernel) (by decide +kernel) (by decide +kernel)
set_option maxRecDepth 100000 in
set_option maxHeartbeats 4000000 in
theorem st_str1 : ∀ i : Nat, i < 13 → Jvm.Cond.exactly (st_tm i) "java/lang/String" ∈ st_F := by decide +kernel
set_option maxRecDepth 100000 in
set_option maxHeartbeats 4000000 in
theorem st_str2 : ∀ i : Nat, i < 13 → Jvm.Cond.eq (.field (st_tm i) "java/lang/String" "coder" "B") (.int 0) ∈ st_F := by decide +kernel
set_option maxRecDepth 100000 in
set_option maxHeartbeats 4000000 in
theorem st_str3 : ∀ i : Nat, i < 13 → Jvm.Cond.arrayOf (.field (st_tm i) "java/lang/String" "value" "[B") .byte ∈ st_F := by decide +kernel
set_option maxRecDepth 100000 in
set_option maxHeartbeats 4000000 in
theorem st_str4 : ∀ i : Nat, i < 13 → Jvm.Cond.eq (.length (.field (st_tm i) "java/lang/String" "value" "[B")) (.int (Int32.ofNat (aw_sl.getD i 0))) ∈ st_F := by decide +kernel
set_option maxRecDepth 100000 in
set_option maxHeartbeats 4000000 in
theorem st_str5 : ∀ i : Nat, i < 13 → ∀ j : Nat, j < aw_sl.getD i 0 → Jvm.Cond.eq (.elem (.field (st_tm i) "java/lang/String" "value" "[B") (.int (Int32.ofNat j))) (.int ((aw_sb.getD i []).getD j 0)) ∈ st_F := by decide +kernel
set_option maxRecDepth 100000 in
set_option maxHeartbeats 4000000 in
theorem st_str6 : ∀ i : Nat, i < 13 → ∀ j : Nat, j < 13 → i ≠ j → (Jvm.Cond.not (Jvm.Cond.eq (st_tm i) (st_tm j)) ∈ st_F ∨ Jvm.Cond.not (Jvm.Cond.eq (st_tm j) (st_tm i)) ∈ st_F) := by decide +kernel
set_option maxRecDepth 100000 in
set_option maxHeartbeats 4000000 in
theorem st_str7 : ∀ i : Nat, i < 13 → aw_sl.getD i 0 < 2 ^ 31 := by decide +kernel
set_option maxRecDepth 100000 in
set_option maxHeartbeats 4000000 in
theorem st_ref : ∀ i : Nat, i < 13 → Jvm.Cond.stringRef "TwoWheel$Reader" (aw_sk.getD i (0, "")).1 (aw_sk.getD i (0, "")).2 ∈ lw_tbl := by
  intro i hi
  rcases (show i = 0 ∨ i = 1 ∨ i = 2 ∨ i = 3 ∨ i = 4 ∨ i = 5 ∨ i = 6 ∨ i = 7 ∨ i = 8 ∨ i = 9 ∨ i = 10 ∨ i = 11 ∨ i = 12 by omega) with rfl | rfl | rfl | rfl | rfl | rfl | rfl | rfl | rfl | rfl | rfl | rfl | rfl
  · exact (List.mem_append_right _ (List.mem_of_getElem? (i := 493) (by decide +kernel)))
  · exact (List.mem_append_right _ (List.mem_of_getElem? (i := 494) (by decide +kernel)))
  · exact (List.mem_append_right _ (List.mem_of_getElem? (i := 495) (by decide +kernel)))
  · exact (List.mem_append_right _ (List.mem_of_getElem? (i := 496) (by decide +kernel)))
  · exact (List.mem_append_right _ (List.mem_of_getElem? (i := 497) (by decide +kernel)))
  · exact (List.mem_append_right _ (List.mem_of_getElem? (i := 498) (by decide +kernel)))
  · exact (List.mem_append_right _ (List.mem_of_getElem? (i := 499) (by decide +kernel)))
  · exact (List.mem_append_right _ (List.mem_of_getElem? (i := 500) (by decide +kernel)))
  · exact (List.mem_append_right _ (List.mem_of_getElem? (i := 501) (by decide +kernel)))
  · exact (List.mem_append_right _ (List.mem_of_getElem? (i := 502) (by decide +kernel)))
  · exact (List.mem_append_right _ (List.mem_of_getElem? (i := 503) (by decide +kernel)))
  · exact (List.mem_append_right _ (List.mem_of_getElem? (i := 504) (by decide +kernel)))
  · exact (List.mem_append_right _ (List.mem_of_getElem? (i := 505) (by decide +kernel)))
set_option maxRecDepth 100000 in
set_option maxHeartbeats 4000000 in
theorem st_SX {b : Nat} {s : State} {A : Nat → Prop} (hA : ∀ a : Nat, a < s.heap.size → ¬ A a) (hts : ∀ w ∈ lw_tbl, w.before #[Value.ref b] s = true) (hgv : (Jvm.Cond.and given_1 narrow_1).before #[Value.ref b] s = true) : ∃ X : aw_X, aw_SX X A s ∧ X.2.2.2.1 1004 = b := by
  have hs : ∀ c ∈ st_F, c.before #[Value.ref b] s = true := flat_of_before _ hgv

  obtain ⟨c0, iS0, hKn0⟩ := u_known (C := RX0) (T := TX0) (N := 11) (n := 11) hts (fun w hw => (List.mem_filter.mp (aw_in0 w hw)).1) (hts (.instantiable RX0 11) (List.mem_append_right _ (List.mem_of_getElem? (i := 24) (by decide +kernel))))
  obtain ⟨c1, iS1, hKn1⟩ := u_known (C := RX1) (T := TX1) (N := 6) (n := 6) hts (fun w hw => (List.mem_filter.mp (aw_in1 w hw)).1) (hts (.instantiable RX1 6) (List.mem_append_right _ (List.mem_of_getElem? (i := 97) (by decide +kernel))))
  obtain ⟨c2, iS2, hKn2⟩ := u_known (C := RX2) (T := TX2) (N := 3) (n := 3) hts (fun w hw => (List.mem_filter.mp (aw_in2 w hw)).1) (hts (.instantiable RX2 3) (List.mem_append_right _ (List.mem_of_getElem? (i := 123) (by decide +kernel))))
  obtain ⟨c3, iS3, hKn3⟩ := u_known (C := RX3) (T := TX3) (N := 2) (n := 2) hts (fun w hw => (List.mem_filter.mp (aw_in3 w hw)).1) (hts (.instantiable RX3 2) (List.mem_append_right _ (List.mem_of_getElem? (i := 81) (by decide +kernel))))
  obtain ⟨c4, iS4, hKn4⟩ := u_known (C := RX4) (T := TX4) (N := 8) (n := 8) hts (fun w hw => (List.mem_filter.mp (aw_in4 w hw)).1) (hts (.instantiable RX4 8) (List.mem_append_right _ (List.mem_of_getElem? (i := 16) (by decide +kernel))))
  obtain ⟨c5, iS5, hKn5⟩ := u_known (C := RX5) (T := TX5) (N := 17) (n := 17) hts (fun w hw => (List.mem_filter.mp (aw_in5 w hw)).1) (hts (.instantiable RX5 17) (List.mem_append_right _ (List.mem_of_getElem? (i := 691) (by decide +kernel))))
  obtain ⟨cI, fI, aI⟩ := st_arr (hts (.arrayClass .int) (List.mem_append_right _ (List.mem_of_getElem? (i := 79) (by decide +kernel))))
  obtain ⟨cB, fB, aB⟩ := st_arr (hts (.arrayClass .byte) (List.mem_append_right _ (List.mem_of_getElem? (i := 611) (by decide +kernel))))
  obtain ⟨t0, z0, y0⟩ := st_COOLS hA hts hs
  obtain ⟨t1, z1, y1⟩ := st_BOILS hA hts hs
  obtain ⟨t2, z2, y2⟩ := st_UNDER hA hts hs
  obtain ⟨t3, z3, y3⟩ := st_MOST_OF_TRAIT hA hts hs
  have zc := va_Zof (A := A) (hts (.laysStatic "java/lang/String" "COMPACT_STRINGS" "Z") (List.mem_append_right _ (List.mem_of_getElem? (i := 519) (by decide +kernel)))) (hts (.initialized "java/lang/String") (List.mem_append_right _ (List.mem_of_getElem? (i := 11) (by decide +kernel)))) (va_eqi (hs (.eq (.static "java/lang/String" "COMPACT_STRINGS" "Z") (.int 1)) (by decide +kernel))) hA
  obtain ⟨fv, hfv, hfr⟩ := Cond.isRef_spec (hs (.isRef (.static "jdk/internal/util/Preconditions" "SIOOBE_FORMATTER" "Ljava/util/function/BiFunction;")) (by decide +kernel))
  have zf := va_Zof (A := A) (hts (.laysStatic "jdk/internal/util/Preconditions" "SIOOBE_FORMATTER" "Ljava/util/function/BiFunction;") (List.mem_append_right _ (List.mem_of_getElem? (i := 535) (by decide +kernel)))) (hts (.initialized "jdk/internal/util/Preconditions") (List.mem_append_right _ (List.mem_of_getElem? (i := 13) (by decide +kernel)))) hfv hA
  obtain ⟨adK, adV, hS9, hT9⟩ := vk_Sof (A := A) (tm := st_tm) (len := aw_sl) (byt := aw_sb) (N := 13) st_str7 (fun i hi => hs _ (st_str1 i hi)) (fun i hi => hs _ (st_str2 i hi)) (fun i hi => hs _ (st_str3 i hi)) (fun i hi => hs _ (st_str4 i hi)) (fun i hi j hj => hs _ (st_str5 i hi j hj)) (fun i j hi hj hij => (st_str6 i hi j hj hij).imp (hs _) (hs _)) hA
  have hfm : ∃ (a : Nat) (u : Value), (u = .null ∨ u = .ref 1050) ∧ ∀ sa : Nat → Nat, sa 1050 = a → aw_v sa u = fv := by
    cases fv with
    | ref k => exact ⟨k, .ref 1050, Or.inr rfl, fun sa h => by show Value.ref (sa 1050) = _; rw [h]⟩
    | null => exact ⟨0, .null, Or.inl rfl, fun _ _ => rfl⟩
    | _ => exact absurd hfr (by simp [Value.isRef])
  obtain ⟨af0, um, hum, hum2⟩ := hfm
  obtain ⟨sa, e0, e1, e2, e3, e4, e5, e6, e7⟩ : ∃ sa : Nat → Nat, sa 1000 = t0 ∧ sa 1001 = t1 ∧ sa 1002 = t2 ∧ sa 1003 = t3 ∧ sa 1004 = b ∧ sa 1050 = af0 ∧ (∀ j, j < 13 → sa (1010 + j) = adK j) ∧ ∀ j, j < 13 → sa (1030 + j) = adV j := by
    refine ⟨fun k => if k = 1000 then t0 else if k = 1001 then t1 else if k = 1002 then t2 else if k = 1003 then t3 else if k = 1004 then b else if k = 1050 then af0 else if k < 1023 then adK (k - 1010) else adV (k - 1030), rfl, rfl, rfl, rfl, rfl, rfl, fun j hj => ?_, fun j hj => ?_⟩
    · show (if _ then _ else _) = _
      rw [if_neg (by omega), if_neg (by omega), if_neg (by omega), if_neg (by omega), if_neg (by omega), if_neg (by omega), if_pos (by omega), Nat.add_sub_cancel_left]
    · show (if _ then _ else _) = _
      rw [if_neg (by omega), if_neg (by omega), if_neg (by omega), if_neg (by omega), if_neg (by omega), if_neg (by omega), if_neg (by omega), Nat.add_sub_cancel_left]
  refine ⟨((fun k => if k = 0 then c0 else if k = 1 then c1 else if k = 2 then c2 else if k = 3 then c3 else if k = 4 then c4 else c5, fun k => if k = 0 then iS0 else if k = 1 then iS1 else if k = 2 then iS2 else if k = 3 then iS3 else if k = 4 then iS4 else iS5), cI, cB, sa, um), ⟨⟨?_, ?_⟩, ?_, ?_, ?_, ?_, zc, ?_, ?_, ?_, hum⟩, e4⟩
  · intro k q hq
    match k, hq with
    | 0, hq => cases hq; exact hKn0
    | 1, hq => cases hq; exact hKn1
    | 2, hq => cases hq; exact hKn2
    | 3, hq => cases hq; exact hKn3
    | 4, hq => cases hq; exact hKn4
    | 5, hq => cases hq; exact hKn5
    | k + 6, hq => simp [aw_cl] at hq
  · intro k q hq
    match k, hq with
    | 0, hq => cases hq; exact ⟨aI, fI⟩
    | 1, hq => cases hq; exact ⟨aB, fB⟩
    | k + 2, hq => simp at hq
  · intro q hq
    rcases List.mem_cons.mp hq with rfl | hq
    · exact va_Nw.of rfl (hts _ (List.mem_append_right _ (List.mem_of_getElem? (i := 220) (by decide +kernel))))
    · rcases List.mem_cons.mp hq with rfl | hq
      · exact va_Nw.of rfl (hts _ (List.mem_append_right _ (List.mem_of_getElem? (i := 222) (by decide +kernel))))
      · cases hq
  · exact va_Nw.of rfl (hts _ (List.mem_append_right _ (List.mem_of_getElem? (i := 285) (by decide +kernel))))
  · exact va_Nw.of rfl (hts _ (List.mem_append_right _ (List.mem_of_getElem? (i := 570) (by decide +kernel))))
  · intro q hq
    rcases List.mem_cons.mp hq with rfl | hq
    · show va_Z _ _ _ (.ref (sa 1000)) _ _ _ ∧ va_T _ (sa 1000) _ _ _ _ _
      rw [e0]; exact ⟨z0, y0⟩
    rcases List.mem_cons.mp hq with rfl | hq
    · show va_Z _ _ _ (.ref (sa 1001)) _ _ _ ∧ va_T _ (sa 1001) _ _ _ _ _
      rw [e1]; exact ⟨z1, y1⟩
    rcases List.mem_cons.mp hq with rfl | hq
    · show va_Z _ _ _ (.ref (sa 1002)) _ _ _ ∧ va_T _ (sa 1002) _ _ _ _ _
      rw [e2]; exact ⟨z2, y2⟩
    rcases List.mem_cons.mp hq with rfl | hq
    · show va_Z _ _ _ (.ref (sa 1003)) _ _ _ ∧ va_T _ (sa 1003) _ _ _ _ _
      rw [e3]; exact ⟨z3, y3⟩
    cases hq
  · show va_Z _ _ _ (aw_v sa um) _ _ _
    rw [hum2 sa e5]; exact zf
  · intro j hj
    show vk_R _ _ _ (sa (1010 + j)) s
    rw [e6 j hj]
    exact vk_R.of (A := #[Value.ref b]) (hts _ (st_ref j hj)) (hT9 j hj)
  · refine ⟨fun i hi => ?_, fun i j hi hj h => ?_⟩
    · show va_O _ (sa (1010 + i)) _ _ _ ∧ va_OF _ _ _ _ (sa (1010 + i)) _ _ _ ∧ va_OF _ _ _ (.ref (sa (1030 + i))) (sa (1010 + i)) _ _ _ ∧ va_T _ (sa (1030 + i)) _ _ _ _ _
      rw [e6 i hi, e7 i hi]
      exact hS9.1 i hi
    · have h' : sa (1010 + i) = sa (1010 + j) := h
      rw [e6 i hi, e6 j hj] at h'
      exact hS9.2 i j hi hj h'
set_option maxRecDepth 100000 in
set_option maxHeartbeats 4000000 in
/-- the law comes to its end with true, if its term does -/
theorem whole_go {p : Program} {e : Env} {s : State} {m : MethodId} {below : List Frame} {meth : Method} {c : Code} (l : Launch) {b L : Nat} {xs : Nat → Int32} (C0 : lw_At p s m meth c b L xs) {q0 q1 : fk_T} (hq0 : F_X5_init hs_1 = some q0) (hq1 : F_law xs L q0 = some (true, q1)) : W p l e room_1 s m #[Value.ref b] below meth c s.heap [] 0 0 (lw_Z below #[Value.ref b] s) (entryFrame m ([Value.ref b] : List Value).toArray 4) := by
  obtain ⟨hx, hb, hr, hml, hown, hts, hX, hbl, hlocks, hgv⟩ := C0
  obtain ⟨X, hSX, hXb⟩ := st_SX (A := fun q : Nat => s.heap.size ≤ q) (fun a h => Nat.not_le.mpr h) hts hgv
  have hS0 : aw_S X X.2.2.2.1 := fun _ _ => rfl
  obtain ⟨B, hB⟩ : ∃ B : aw_B, B = (p, l, e, room_1, s, m, #[Value.ref b], below, meth, c, lw_Z below #[Value.ref b] s, fun q : Nat => s.heap.size ≤ q, X, 4, fun ad' => aw_ag 0 X.2.2.2.1 ad') := ⟨_, rfl⟩
  have hK : ∀ c' s', c' ≤ 37 → s' ≤ 1865 → aw_K (aw_cs B c' s') cL_law RL rL_law := by
    subst hB
    exact fun c' s' g1 g2 => ⟨hx, hb, hml, hown, st_tb hts, hSX, fun q hq => hq, hlocks, rfl, g1, g2, fun ad' h9 => h9.S hS0⟩
  have hcl : aw_cl0 B 0 := by
    subst hB
    exact fun a1 a2 g1 g2 k hk => (g2 k hk).trans (g1 k hk)
  have hR0 : ∀ c' s', c' ≤ 37 → s' ≤ 1865 → ∀ h, aw_ret (aw_cs B c' s') (some (.int 1)) h := by
    subst hB
    intro c' s' g1 g2 h ad' H locs ls pc k1 k2 k3 k4 hdg
    refine W.widen g1 g2 ?_
    refine va_forget (fun q hq => k4.2.2 q hq) ?_
    rw [hb] at hdg
    exact lw_ret hx hb hr hlocks hdg
  have hR : ∀ c' s', c' ≤ 37 → s' ≤ 1865 → ∀ q, F_law xs L q0 = some q → aw_ret (aw_cs B c' s') (ρz q).1 (ρz q).2 := by
    intro c' s' g1 g2 q hq
    cases hq1.symm.trans hq
    exact hR0 c' s' g1 g2 _
  have hN : ∀ c' s', aw_nL (aw_cs B c' s') = 4 := by subst hB; exact fun _ _ => rfl
  have hXc : ∀ c' s', aw_sc (aw_cs B c' s') xs L := by
    subst hB
    intro c' s'
    show va_X (X.2.2.2.1 1004) L xs s s.heap ∧ X.2.2.2.1 1004 < s.heap.size ∧ ¬ s.heap.size ≤ X.2.2.2.1 1004
    rw [hXb]
    exact ⟨hX, hbl, Nat.not_le.mpr hbl⟩
  have go : af (aw_cs B 0 0) ρz 0 [some (.ref 1004), none, none, none] [] [] (F_law xs L q0) := by
    refine gf_new (hK 0 0 (Nat.le_of_ble_eq_true rfl) (Nat.le_of_ble_eq_true rfl)) hcl (ci := 4) tyX4 [.null, .null, .null, .int 0, .null, .null, .null, .null] 3 hk_0 dL_law_0 rfl rfl aw_in4 tyX4_ok lk_15 lk_16 lk_1 ndf_4 (fun _ => rfl) rfl rfl rfl (Nat.le_of_ble_eq_true rfl) (Nat.le_of_ble_eq_true rfl) rfl rfl rfl rfl (hR _ _ (Nat.le_of_ble_eq_true rfl) (Nat.le_of_ble_eq_true rfl)) ?_
    refine af_dup (hK 1 8 (Nat.le_of_ble_eq_true rfl) (Nat.le_of_ble_eq_true rfl)) 4 dL_law_3 rfl rfl ?_
    refine gf_callI (hK 1 8 (Nat.le_of_ble_eq_true rfl) (Nat.le_of_ble_eq_true rfl)) hcl (b := 0) (vs := []) mi_X4_init lk_17 7 hk_67 dL_law_4 rfl rfl rfl rfl rfl rfl (Nat.le_of_ble_eq_true rfl) rfl rfl (N_X4_init_0 _ _) rfl (hR _ _ (Nat.le_of_ble_eq_true rfl) (Nat.le_of_ble_eq_true rfl)) ?_
    refine af_astore_n (hK 26 973 (Nat.le_of_ble_eq_true rfl) (Nat.le_of_ble_eq_true rfl)) 8 [some (.ref 1004), some (.ref 0), none, none] dL_law_7 rfl (by rw [hN]; exact Nat.le_of_ble_eq_true rfl) rfl ?_
    refine gf_new (hK 26 973 (Nat.le_of_ble_eq_true rfl) (Nat.le_of_ble_eq_true rfl)) hcl (ci := 5) tyX5 [.null, .null, .null, .null, .int 0, .null, .null, .int 0, .int 0, .int 0, .int 0, .long 0, .int 0, .null, .null, .null, .null] 11 hk_68 dL_law_8 rfl rfl aw_in5 tyX5_ok lk_690 lk_691 lk_7 ndf_5 (fun _ => rfl) rfl rfl rfl (Nat.le_of_ble_eq_true rfl) (Nat.le_of_ble_eq_true rfl) rfl rfl rfl rfl (hR _ _ (Nat.le_of_ble_eq_true rfl) (Nat.le_of_ble_eq_true rfl)) ?_
    refine af_dup (hK 27 990 (Nat.le_of_ble_eq_true rfl) (Nat.le_of_ble_eq_true rfl)) 12 dL_law_11 rfl rfl ?_
    refine gf_callI (hK 27 990 (Nat.le_of_ble_eq_true rfl) (Nat.le_of_ble_eq_true rfl)) hcl (b := 26) (vs := []) mi_X5_init lk_692 15 (hp q0) dL_law_12 rfl rfl rfl rfl rfl rfl (Nat.le_of_ble_eq_true rfl) rfl rfl (N_X5_init_26 _ _ hq0) rfl (hR _ _ (Nat.le_of_ble_eq_true rfl) (Nat.le_of_ble_eq_true rfl)) ?_
    refine af_astore_n (hK 37 1865 (Nat.le_of_ble_eq_true rfl) (Nat.le_of_ble_eq_true rfl)) 16 [some (.ref 1004), some (.ref 0), some (.ref 26), none] dL_law_15 rfl (by rw [hN]; exact Nat.le_of_ble_eq_true rfl) rfl ?_
    refine af_iconst (hK 37 1865 (Nat.le_of_ble_eq_true rfl) (Nat.le_of_ble_eq_true rfl)) 17 dL_law_16 rfl cs_iconst_0 ?_
    refine af_istore_n (hK 37 1865 (Nat.le_of_ble_eq_true rfl) (Nat.le_of_ble_eq_true rfl)) 18 [some (.ref 1004), some (.ref 0), some (.ref 26), some (.int 0)] dL_law_17 rfl (by rw [hN]; exact Nat.le_of_ble_eq_true rfl) rfl ?_
    exact T_law (hN _ _) (hK 37 1865 (Nat.le_of_ble_eq_true rfl) (Nat.le_of_ble_eq_true rfl)) (hXc _ _) q0
  have h0 := go (true, q1) hq1 (hR0 0 0 (Nat.zero_le _) (Nat.zero_le _) _)
  subst hB
  rw [lg_entry_eq]
  have hl0 := aw_l0_L X.2.2.2.1 [.ref 1004] (n := 4) (Nat.le_of_ble_eq_true rfl)
  have ev : ([.ref 1004] : List Value).map (aw_v X.2.2.2.1) = [.ref b] := by
    show [Value.ref (X.2.2.2.1 1004)] = _
    rw [hXb]
  rw [ev] at hl0
  exact h0 X.2.2.2.1 s.heap [] _ (fun _ _ => rfl) (fun k q h => by simp [aw_w] at h) ⟨fun i j p q h => by simp [aw_w] at h, fun k q h => by simp [aw_w] at h⟩ va_S.rf hl0
