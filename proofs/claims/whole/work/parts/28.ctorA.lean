/-! ===== constructors ===== -/
def fx_0 : Nat → Int32 := fun _ => 0
def fx_fill (N : Nat) (v : Int32) (g : Nat → Int32) : Nat → Int32 := fun j => if j < N then v else g j
theorem fx_step (i : Nat) (v : Int32) (g : Nat → Int32) : upd (fx_fill i v g) i v = fx_fill (i + 1) v g := by
  funext j
  unfold upd fx_fill
  by_cases h : j = i
  · subst h; simp
  · rw [if_neg h]
    by_cases h2 : j < i
    · rw [if_pos h2, if_pos (by omega)]
    · rw [if_neg h2, if_neg (by omega)]
theorem af_h {cx : aw_C} {α : Type} {ρ : α → Option Value × aw_H} {f : Option α} {pc : Nat} {lv : List (Option Value)} {st : List Value} {h h2 : aw_H} (e : h = h2) (k : af cx ρ pc lv st h2 f) : af cx ρ pc lv st h f := by subst e; exact k
theorem gf_callS0 {cx : aw_C} {cc : ByteArray} {own : String} {rm : Room} (K : aw_K cx cc own rm) {α : Type} {ρ : α → Option Value × aw_H} {pc : Nat} {lv : List (Option Value)} {st : List Value} {h : aw_H} {f : Option α} {idx np : Nat} {M : aw_M} {vs : List Value} (V : aw_mS M np) (lk : Jvm.Cond.methodLink own idx M.1 ∈ aw_tb) (n : Nat) (h2 : aw_H) (d : decode cc pc = .ok (.invokestatic idx, 3)) (hn : pc + 3 = n) (hl : vs.length = np) (hcat : Nat.ble (st.map fun v => v.category).sum 8 = true) (hfit : aw_fit M rm = true) (G : af_M (aw_xX cx) (aw_xl cx) M vs h none h2) {stk : List Value} (hs : stk = vs.reverse ++ st) (k : af cx ρ n lv st h2 f) : af cx ρ pc lv stk h f :=
  af_callS (f := some ()) (kf := fun _ => f) (ρ' := fun _ : Unit => (none, h2)) K V lk n d hn hl hcat hfit (fun _ _ => G) hs (fun _ => k)
theorem cs_bipush_121 : (Int8.ofInt 121).toInt32 = 121 := by decide
theorem cs_sipush_160 : (Int16.ofInt 160).toInt32 = 160 := by decide
def rJ7_fill_53178 : Room := { frames := 0, cells := 0, slots := 0, locals := 0 }
def mJ7_fill_53178 : aw_M := (yJ7_fill_53178, cJ7_fill_53178, 4, none, rJ7_fill_53178)
theorem ms_J7_fill_53178 : aw_mS mJ7_fill_53178 2 := ⟨⟨aw_in 31 (by decide +kernel) rfl, aw_in 3 (by decide +kernel) rfl, rfl, rfl, by decide, by decide, by decide +kernel⟩, aw_in 30 (by decide +kernel) rfl⟩
set_option maxRecDepth 100000 in
set_option maxHeartbeats 4000000 in
theorem fill_loop {cx : aw_C} (hN : aw_nL cx = 4) (K : aw_K cx cJ7_fill_53178 RJ7 rJ7_fill_53178) {α : Type} {ρ : α → Option Value × aw_H} {q0 : α} {h : aw_H} {a N : Nat} {g : Nat → Int32} {v : Int32} (hc : h[a]? = some (.inl (false, N, g))) (hN2 : N < 2 ^ 31) (hρ : ρ q0 = (none, h.set a (.inl (false, N, fx_fill N v g)))) : ∀ (k i : Nat), i + k = N → af cx ρ 5 [some (.ref a), some (.int v), some (.int (nI i)), some (.int (nI N))] [] (h.set a (.inl (false, N, fx_fill i v g))) (some q0) := by
  intro k
  have hal : a < h.length := (List.getElem?_eq_some_iff.mp hc).1
  induction k with
  | zero =>
    intro i hi
    refine af_iload_n K 6 dJ7_fill_53178_5 rfl rfl ?_
    refine af_iload_n K 7 dJ7_fill_53178_6 rfl rfl ?_
    have hle : nI N ≤ nI i := nI_le (by omega) (by omega)
    have e : (some q0 : Option α) = if nI N ≤ nI i then some q0 else none := by rw [if_pos hle]
    rw [e]
    refine af_icmp_ge K 10 20 dJ7_fill_53178_7 rfl rfl (fun _ => ?_) (fun _ => af_none)
    have : i = N := by omega
    subst this
    exact af_ret (r := none) K dJ7_fill_53178_20 hρ rfl
  | succ k ih =>
    intro i hi
    refine af_iload_n K 6 dJ7_fill_53178_5 rfl rfl ?_
    refine af_iload_n K 7 dJ7_fill_53178_6 rfl rfl ?_
    have hle : ¬ nI N ≤ nI i := nI_ge (by omega) (by omega)
    have e : (some q0 : Option α) = if nI N ≤ nI i then none else some q0 := by rw [if_neg hle]
    rw [e]
    refine af_icmp_ge K 10 20 dJ7_fill_53178_7 rfl rfl (fun _ => af_none) (fun _ => ?_)
    refine af_aload_n K 11 dJ7_fill_53178_10 rfl rfl ?_
    refine af_iload_n K 12 dJ7_fill_53178_11 rfl rfl ?_
    refine af_iload_n K 13 dJ7_fill_53178_12 rfl rfl ?_
    refine gf_iast K 14 dJ7_fill_53178_13 rfl (N := N) (g := fx_fill i v g) (List.getElem?_set_self hal) (vp_in_nI (by omega) hN2) ?_
    rw [List.set_set, nI_clamp (by omega), fx_step]
    refine af_iinc K 17 [some (.ref a), some (.int v), some (.int (nI (i + 1))), some (.int (nI N))] dJ7_fill_53178_14 rfl (by rw [hN]; exact Nat.le_of_ble_eq_true rfl) rfl (by rw [cs_iconst_1]; exact nI_1 i) rfl ?_
    refine af_goto K 5 dJ7_fill_53178_17 rfl ?_
    exact ih (i + 1) (by omega)
set_option maxRecDepth 100000 in
set_option maxHeartbeats 4000000 in
theorem A_fill (X : aw_X) (l : Launch) {h : aw_H} {a N : Nat} {g : Nat → Int32} (v : Int32) (hc : h[a]? = some (.inl (false, N, g))) (hN2 : Nat.ble N 100000 = true) : af_M X l mJ7_fill_53178 [.ref a, .int v] h none (h.set a (.inl (false, N, fx_fill N v g))) := by
  have hN3 : N < 2 ^ 31 := by have := Nat.le_of_ble_eq_true hN2; omega
  refine (af_mk (ρ := fun _ : Unit => ((none : Option Value), h.set a (.inl (false, N, fx_fill N v g)))) (f := some ()) (by decide) rfl (fun q _ => Or.inl ⟨rfl, rfl⟩) [some (.ref a), some (.int v), none, none] rfl ?_ : af_G X l mJ7_fill_53178 [.ref a, .int v] h _ (some ())) () rfl
  rintro cx rfl rfl hN K
  replace hN : aw_nL cx = 4 := hN
  replace K : aw_K cx cJ7_fill_53178 RJ7 rJ7_fill_53178 := K
  refine af_iconst K 1 dJ7_fill_53178_0 rfl cs_iconst_0 ?_
  refine af_istore_n K 2 [some (.ref a), some (.int v), some (.int 0), none] dJ7_fill_53178_1 rfl (by rw [hN]; exact Nat.le_of_ble_eq_true rfl) rfl ?_
  refine af_aload_n K 3 dJ7_fill_53178_2 rfl rfl ?_
  refine gf_alen K 4 dJ7_fill_53178_3 rfl hc ?_
  refine af_istore_n K 5 [some (.ref a), some (.int v), some (.int 0), some (.int (nI N))] dJ7_fill_53178_4 rfl (by rw [hN]; exact Nat.le_of_ble_eq_true rfl) rfl ?_
  have e0 : h = h.set a (.inl (false, N, fx_fill 0 v g)) := by
    apply List.ext_getElem?
    intro i
    by_cases hi : a = i
    · subst hi
      rw [List.getElem?_set_self (List.getElem?_eq_some_iff.mp hc).1, hc]
      rfl
    · rw [List.getElem?_set_ne hi]
  refine af_h e0 ?_
  exact fill_loop (v := v) (q0 := ()) (ρ := fun _ : Unit => ((none : Option Value), h.set a (.inl (false, N, fx_fill N v g)))) hN K hc hN3 rfl N 0 (by omega)
theorem A_fill2 (X : aw_X) (l : Launch) {h h2 : aw_H} {a N : Nat} {g : Nat → Int32} (v : Int32) (hc : h[a]? = some (.inl (false, N, g))) (hN2 : Nat.ble N 100000 = true) (e : h.set a (.inl (false, N, fx_fill N v g)) = h2) : af_M X l mJ7_fill_53178 [.ref a, .int v] h none h2 := by
  subst e
  exact A_fill X l v hc hN2
theorem lk_oi1 : Jvm.Cond.instanceMethod Lib.objectInit ∈ aw_tb := aw_in 21 (by decide +kernel) rfl
theorem lk_oi2 : Jvm.Cond.code Lib.objectInit ⟨#[0xb1]⟩ 1 none ∈ aw_tb := aw_in 22 (by decide +kernel) rfl
theorem ndf_0 : ∀ j, j < 11 → defaultValue (tyX0 j) = vp_V [.int 0, .int 0, .int 0, .int 0, .int 0, .int 0, .int 0, .null, .null, .null, .null] j := by
  intro j hj
  rcases (show j = 0 ∨ j = 1 ∨ j = 2 ∨ j = 3 ∨ j = 4 ∨ j = 5 ∨ j = 6 ∨ j = 7 ∨ j = 8 ∨ j = 9 ∨ j = 10 by omega) with rfl | rfl | rfl | rfl | rfl | rfl | rfl | rfl | rfl | rfl | rfl <;> rfl
theorem ndf_1 : ∀ j, j < 6 → defaultValue (tyX1 j) = vp_V [.null, .null, .null, .null, .int 0, .int 0] j := by
  intro j hj
  rcases (show j = 0 ∨ j = 1 ∨ j = 2 ∨ j = 3 ∨ j = 4 ∨ j = 5 by omega) with rfl | rfl | rfl | rfl | rfl | rfl <;> rfl
theorem ndf_2 : ∀ j, j < 3 → defaultValue (tyX2 j) = vp_V [.null, .null, .null] j := by
  intro j hj
  rcases (show j = 0 ∨ j = 1 ∨ j = 2 by omega) with rfl | rfl | rfl <;> rfl
theorem ndf_3 : ∀ j, j < 2 → defaultValue (tyX3 j) = vp_V [.null, .int 0] j := by
  intro j hj
  rcases (show j = 0 ∨ j = 1 by omega) with rfl | rfl <;> rfl
theorem ndf_4 : ∀ j, j < 8 → defaultValue (tyX4 j) = vp_V [.null, .null, .null, .int 0, .null, .null, .null, .null] j := by
  intro j hj
  rcases (show j = 0 ∨ j = 1 ∨ j = 2 ∨ j = 3 ∨ j = 4 ∨ j = 5 ∨ j = 6 ∨ j = 7 by omega) with rfl | rfl | rfl | rfl | rfl | rfl | rfl | rfl <;> rfl
theorem ndf_5 : ∀ j, j < 17 → defaultValue (tyX5 j) = vp_V [.null, .null, .null, .null, .int 0, .null, .null, .int 0, .int 0, .int 0, .int 0, .long 0, .int 0, .null, .null, .null, .null] j := by
  intro j hj
  rcases (show j = 0 ∨ j = 1 ∨ j = 2 ∨ j = 3 ∨ j = 4 ∨ j = 5 ∨ j = 6 ∨ j = 7 ∨ j = 8 ∨ j = 9 ∨ j = 10 ∨ j = 11 ∨ j = 12 ∨ j = 13 ∨ j = 14 ∨ j = 15 ∨ j = 16 by omega) with rfl | rfl | rfl | rfl | rfl | rfl | rfl | rfl | rfl | rfl | rfl | rfl | rfl | rfl | rfl | rfl | rfl <;> rfl
def hk_0 : aw_H := [.inr (4, [.null, .null, .null, .int 0, .null, .null, .null, .null])]
def rX4_init : Room := { frames := 2, cells := 25, slots := 965, locals := 43 }
def mX4_init : aw_M := (yX4_init, cX4_init, 1, none, rX4_init)
theorem mi_X4_init : aw_mI mX4_init 0 25 965 := ⟨aw_in 19 (by decide +kernel) rfl, aw_in 1 (by decide +kernel) rfl, rfl, rfl, by decide, by decide, by decide +kernel, aw_in 18 (by decide +kernel) rfl, rfl, rfl⟩
theorem lk_20 : Jvm.Cond.methodLink RX4 1 Lib.objectInit ∈ aw_tb := aw_in 20 (by decide +kernel) rfl
def hk_1 : aw_H := [.inr (4, [.null, .null, .null, .int 0, .null, .null, .null, .null]), .inr (0, [.int 0, .int 0, .int 0, .int 0, .int 0, .int 0, .int 0, .null, .null, .null, .null])]
theorem lk_23 : Jvm.Cond.classLink RX4 7 RX0 ∈ aw_tb := aw_in 23 (by decide +kernel) rfl
theorem lk_24 : Jvm.Cond.instantiable RX0 11 ∈ aw_tb := aw_in 24 (by decide +kernel) rfl
theorem lk_2 : Jvm.Cond.initialized RX0 ∈ aw_tb := aw_in 2 (by decide +kernel) rfl
def rX0_init : Room := { frames := 1, cells := 4, slots := 128, locals := 23 }
def mX0_init : aw_M := (yX0_init, cX0_init, 1, none, rX0_init)
theorem mi_X0_init : aw_mI mX0_init 0 4 128 := ⟨aw_in 27 (by decide +kernel) rfl, aw_in 2 (by decide +kernel) rfl, rfl, rfl, by decide, by decide, by decide +kernel, aw_in 26 (by decide +kernel) rfl, rfl, rfl⟩
theorem lk_28 : Jvm.Cond.methodLink RX0 3 Lib.objectInit ∈ aw_tb := aw_in 28 (by decide +kernel) rfl
def hk_2 : aw_H := [.inr (4, [.null, .null, .null, .int 0, .null, .null, .null, .null]), .inr (0, [.int 10, .int 0, .int 0, .int 0, .int 0, .int 0, .int 0, .null, .null, .null, .null])]
def hk_3 : aw_H := [.inr (4, [.null, .null, .null, .int 0, .null, .null, .null, .null]), .inr (0, [.int 10, .int 0, .int 0, .int 0, .int 0, .int 1, .int 0, .null, .null, .null, .null])]
def hk_4 : aw_H := [.inr (4, [.null, .null, .null, .int 0, .null, .null, .null, .null]), .inr (0, [.int 10, .int 0, .int 0, .int 0, .int 0, .int 1, .int 0, .null, .null, .null, .null]), .inl (false, 6, fx_0)]
theorem lk_79 : Jvm.Cond.arrayClass .int ∈ aw_tb := aw_in 79 (by decide +kernel) rfl
theorem ff_X0_18 : aw_ff RX0 18 0 7 (.array .int) := ⟨RX0, TX0, 11, tyX0, rfl, (Nat.le_of_ble_eq_true rfl), aw_in0, aw_in 48 (by decide +kernel) rfl, tyX0_ok, nmX0, rfl, tyX0_ok 7 (Nat.le_of_ble_eq_true rfl), rfl⟩
def hk_5 : aw_H := [.inr (4, [.null, .null, .null, .int 0, .null, .null, .null, .null]), .inr (0, [.int 10, .int 0, .int 0, .int 0, .int 0, .int 1, .int 0, .ref 2, .null, .null, .null]), .inl (false, 6, fx_0)]
def hk_6 : aw_H := [.inr (4, [.null, .null, .null, .int 0, .null, .null, .null, .null]), .inr (0, [.int 10, .int 0, .int 0, .int 0, .int 0, .int 1, .int 0, .ref 2, .null, .null, .null]), .inl (false, 6, fx_0), .inl (false, 48, fx_0)]
theorem ff_X0_22 : aw_ff RX0 22 0 8 (.array .int) := ⟨RX0, TX0, 11, tyX0, rfl, (Nat.le_of_ble_eq_true rfl), aw_in0, aw_in 51 (by decide +kernel) rfl, tyX0_ok, nmX0, rfl, tyX0_ok 8 (Nat.le_of_ble_eq_true rfl), rfl⟩
def hk_7 : aw_H := [.inr (4, [.null, .null, .null, .int 0, .null, .null, .null, .null]), .inr (0, [.int 10, .int 0, .int 0, .int 0, .int 0, .int 1, .int 0, .ref 2, .ref 3, .null, .null]), .inl (false, 6, fx_0), .inl (false, 48, fx_0)]
def hk_8 : aw_H := [.inr (4, [.null, .null, .null, .int 0, .null, .null, .null, .null]), .inr (0, [.int 10, .int 0, .int 0, .int 0, .int 0, .int 1, .int 0, .ref 2, .ref 3, .null, .null]), .inl (false, 6, fx_0), .inl (false, 48, fx_0), .inl (false, 64, fx_0)]
theorem ff_X0_25 : aw_ff RX0 25 0 9 (.array .int) := ⟨RX0, TX0, 11, tyX0, rfl, (Nat.le_of_ble_eq_true rfl), aw_in0, aw_in 53 (by decide +kernel) rfl, tyX0_ok, nmX0, rfl, tyX0_ok 9 (Nat.le_of_ble_eq_true rfl), rfl⟩
def hk_9 : aw_H := [.inr (4, [.null, .null, .null, .int 0, .null, .null, .null, .null]), .inr (0, [.int 10, .int 0, .int 0, .int 0, .int 0, .int 1, .int 0, .ref 2, .ref 3, .ref 4, .null]), .inl (false, 6, fx_0), .inl (false, 48, fx_0), .inl (false, 64, fx_0)]
def hk_10 : aw_H := [.inr (4, [.null, .null, .null, .int 0, .null, .null, .null, .null]), .inr (0, [.int 10, .int 0, .int 0, .int 0, .int 0, .int 1, .int 0, .ref 2, .ref 3, .ref 4, .null]), .inl (false, 6, fx_0), .inl (false, 48, fx_0), .inl (false, 64, fx_0), .inl (false, 10, fx_0)]
theorem ff_X0_28 : aw_ff RX0 28 0 10 (.array .int) := ⟨RX0, TX0, 11, tyX0, rfl, (Nat.le_of_ble_eq_true rfl), aw_in0, aw_in 54 (by decide +kernel) rfl, tyX0_ok, nmX0, rfl, tyX0_ok 10 (Nat.le_of_ble_eq_true rfl), rfl⟩
def hk_11 : aw_H := [.inr (4, [.null, .null, .null, .int 0, .null, .null, .null, .null]), .inr (0, [.int 10, .int 0, .int 0, .int 0, .int 0, .int 1, .int 0, .ref 2, .ref 3, .ref 4, .ref 5]), .inl (false, 6, fx_0), .inl (false, 48, fx_0), .inl (false, 64, fx_0), .inl (false, 10, fx_0)]
def hk_12 : aw_H := [.inr (4, [.null, .null, .null, .int 0, .null, .null, .null, .null]), .inr (0, [.int 10, .int 0, .int 0, .int 0, .int 0, .int 1, .int 0, .ref 2, .ref 3, .ref 4, .ref 5]), .inl (false, 6, fx_fill 6 1 (fx_0)), .inl (false, 48, fx_0), .inl (false, 64, fx_0), .inl (false, 10, fx_0)]
theorem lk_29 : Jvm.Cond.methodLink RX0 31 yJ7_fill_53178 ∈ aw_tb := aw_in 29 (by decide +kernel) rfl
def hk_13 : aw_H := [.inr (4, [.null, .null, .null, .int 0, .null, .null, .null, .null]), .inr (0, [.int 10, .int 0, .int 0, .int 0, .int 0, .int 1, .int 0, .ref 2, .ref 3, .ref 4, .ref 5]), .inl (false, 6, fx_fill 6 1 (fx_0)), .inl (false, 48, fx_0), .inl (false, 64, fx_fill 64 20 (fx_0)), .inl (false, 10, fx_0)]
def hk_14 : aw_H := [.inr (4, [.null, .null, .null, .int 0, .null, .null, .null, .null]), .inr (0, [.int 10, .int 0, .int 0, .int 0, .int 0, .int 1, .int 0, .ref 2, .ref 3, .ref 4, .ref 5]), .inl (false, 6, fx_fill 6 1 (fx_0)), .inl (false, 48, fx_0), .inl (false, 64, fx_fill 64 20 (fx_0)), .inl (false, 10, fx_fill 10 (-1) (fx_0))]
set_option maxRecDepth 100000 in
set_option maxHeartbeats 4000000 in
theorem N_X0_init_1 (X : aw_X) (l : Launch) : af_N X l mX0_init [.ref 1] hk_1 hk_14 4 128 := by
  refine af_mkN (by decide) rfl rfl rfl rfl rfl [some (.ref 1)] rfl ?_
  intro B hX hl hN hK hI hcl hR
  obtain rfl := hX 0 0
  obtain rfl := hl 0 0
  replace hK : ∀ c s, c ≤ 4 → s ≤ 128 → aw_K (aw_cs B c s) cX0_init RX0 rX0_init := hK
  have go : af (aw_cs B 0 0) (fun _ : Unit => ((none : Option Value), hk_14)) 0 [some (.ref 1)] [] hk_1 (some ()) := by
    refine af_aload_n (hK 0 0 (Nat.le_of_ble_eq_true rfl) (Nat.le_of_ble_eq_true rfl)) 1 dX0_init_0 rfl rfl ?_
    refine gf_obj (hK 0 0 (Nat.le_of_ble_eq_true rfl) (Nat.le_of_ble_eq_true rfl)) 4 dX0_init_1 rfl lk_28 lk_oi1 lk_oi2 rfl rfl rfl ?_
    refine af_aload_n (hK 0 0 (Nat.le_of_ble_eq_true rfl) (Nat.le_of_ble_eq_true rfl)) 5 dX0_init_4 rfl rfl ?_
    refine af_bipush (hK 0 0 (Nat.le_of_ble_eq_true rfl) (Nat.le_of_ble_eq_true rfl)) 7 dX0_init_5 rfl cs_bipush_10 ?_
    refine gf_put (hK 0 0 (Nat.le_of_ble_eq_true rfl) (Nat.le_of_ble_eq_true rfl)) 10 hk_2 dX0_init_7 rfl fp_X0_9 rfl (Nat.le_of_ble_eq_true rfl) (fun _ => rfl) (fun _ => rfl) rfl ?_
    refine af_aload_n (hK 0 0 (Nat.le_of_ble_eq_true rfl) (Nat.le_of_ble_eq_true rfl)) 11 dX0_init_10 rfl rfl ?_
    refine af_iconst (hK 0 0 (Nat.le_of_ble_eq_true rfl) (Nat.le_of_ble_eq_true rfl)) 12 dX0_init_11 rfl cs_iconst_1 ?_
    refine gf_put (hK 0 0 (Nat.le_of_ble_eq_true rfl) (Nat.le_of_ble_eq_true rfl)) 15 hk_3 dX0_init_12 rfl fp_X0_15 rfl (Nat.le_of_ble_eq_true rfl) (fun _ => rfl) (fun _ => rfl) rfl ?_
    refine af_aload_n (hK 0 0 (Nat.le_of_ble_eq_true rfl) (Nat.le_of_ble_eq_true rfl)) 16 dX0_init_15 rfl rfl ?_
    refine af_bipush (hK 0 0 (Nat.le_of_ble_eq_true rfl) (Nat.le_of_ble_eq_true rfl)) 18 dX0_init_16 rfl cs_bipush_6 ?_
    refine gf_newa (hK 0 0 (Nat.le_of_ble_eq_true rfl) (Nat.le_of_ble_eq_true rfl)) hcl false 6 20 hk_4 dX0_init_18 rfl rfl lk_79 (by decide) rfl rfl rfl rfl (Nat.le_of_ble_eq_true rfl) (Nat.le_of_ble_eq_true rfl) rfl rfl rfl rfl (fun _ _ => hR _ _ (Nat.le_of_ble_eq_true rfl) (Nat.le_of_ble_eq_true rfl)) ?_
    refine gf_putF (hK 1 6 (Nat.le_of_ble_eq_true rfl) (Nat.le_of_ble_eq_true rfl)) (hI 1 6) 23 hk_5 dX0_init_20 rfl ff_X0_18 rfl (Nat.le_of_ble_eq_true rfl) (fun _ => rfl) (fun _ => rfl) rfl ?_
    refine af_aload_n (hK 1 6 (Nat.le_of_ble_eq_true rfl) (Nat.le_of_ble_eq_true rfl)) 24 dX0_init_23 rfl rfl ?_
    refine af_bipush (hK 1 6 (Nat.le_of_ble_eq_true rfl) (Nat.le_of_ble_eq_true rfl)) 26 dX0_init_24 rfl cs_bipush_48 ?_
    refine gf_newa (hK 1 6 (Nat.le_of_ble_eq_true rfl) (Nat.le_of_ble_eq_true rfl)) hcl false 48 28 hk_6 dX0_init_26 rfl rfl lk_79 (by decide) rfl rfl rfl rfl (Nat.le_of_ble_eq_true rfl) (Nat.le_of_ble_eq_true rfl) rfl rfl rfl rfl (fun _ _ => hR _ _ (Nat.le_of_ble_eq_true rfl) (Nat.le_of_ble_eq_true rfl)) ?_
    refine gf_putF (hK 2 54 (Nat.le_of_ble_eq_true rfl) (Nat.le_of_ble_eq_true rfl)) (hI 2 54) 31 hk_7 dX0_init_28 rfl ff_X0_22 rfl (Nat.le_of_ble_eq_true rfl) (fun _ => rfl) (fun _ => rfl) rfl ?_
    refine af_aload_n (hK 2 54 (Nat.le_of_ble_eq_true rfl) (Nat.le_of_ble_eq_true rfl)) 32 dX0_init_31 rfl rfl ?_
    refine af_bipush (hK 2 54 (Nat.le_of_ble_eq_true rfl) (Nat.le_of_ble_eq_true rfl)) 34 dX0_init_32 rfl cs_bipush_64 ?_
    refine gf_newa (hK 2 54 (Nat.le_of_ble_eq_true rfl) (Nat.le_of_ble_eq_true rfl)) hcl false 64 36 hk_8 dX0_init_34 rfl rfl lk_79 (by decide) rfl rfl rfl rfl (Nat.le_of_ble_eq_true rfl) (Nat.le_of_ble_eq_true rfl) rfl rfl rfl rfl (fun _ _ => hR _ _ (Nat.le_of_ble_eq_true rfl) (Nat.le_of_ble_eq_true rfl)) ?_
    refine gf_putF (hK 3 118 (Nat.le_of_ble_eq_true rfl) (Nat.le_of_ble_eq_true rfl)) (hI 3 118) 39 hk_9 dX0_init_36 rfl ff_X0_25 rfl (Nat.le_of_ble_eq_true rfl) (fun _ => rfl) (fun _ => rfl) rfl ?_
    refine af_aload_n (hK 3 118 (Nat.le_of_ble_eq_true rfl) (Nat.le_of_ble_eq_true rfl)) 40 dX0_init_39 rfl rfl ?_
    refine af_bipush (hK 3 118 (Nat.le_of_ble_eq_true rfl) (Nat.le_of_ble_eq_true rfl)) 42 dX0_init_40 rfl cs_bipush_10 ?_
    refine gf_newa (hK 3 118 (Nat.le_of_ble_eq_true rfl) (Nat.le_of_ble_eq_true rfl)) hcl false 10 44 hk_10 dX0_init_42 rfl rfl lk_79 (by decide) rfl rfl rfl rfl (Nat.le_of_ble_eq_true rfl) (Nat.le_of_ble_eq_true rfl) rfl rfl rfl rfl (fun _ _ => hR _ _ (Nat.le_of_ble_eq_true rfl) (Nat.le_of_ble_eq_true rfl)) ?_
    refine gf_putF (hK 4 128 (Nat.le_of_ble_eq_true rfl) (Nat.le_of_ble_eq_true rfl)) (hI 4 128) 47 hk_11 dX0_init_44 rfl ff_X0_28 rfl (Nat.le_of_ble_eq_true rfl) (fun _ => rfl) (fun _ => rfl) rfl ?_
    refine af_aload_n (hK 4 128 (Nat.le_of_ble_eq_true rfl) (Nat.le_of_ble_eq_true rfl)) 48 dX0_init_47 rfl rfl ?_
    refine gf_get (hK 4 128 (Nat.le_of_ble_eq_true rfl) (Nat.le_of_ble_eq_true rfl)) 51 dX0_init_48 rfl fl_X0_18 rfl rfl ?_
    refine af_iconst (hK 4 128 (Nat.le_of_ble_eq_true rfl) (Nat.le_of_ble_eq_true rfl)) 52 dX0_init_51 rfl cs_iconst_1 ?_
    refine gf_callS0 (hK 4 128 (Nat.le_of_ble_eq_true rfl) (Nat.le_of_ble_eq_true rfl)) (vs := [.ref 2, .int 1]) ms_J7_fill_53178 lk_29 55 hk_12 dX0_init_52 rfl rfl rfl rfl (A_fill2 _ _ (h := hk_11) (h2 := hk_12) (a := 2) 1 (N := 6) (g := fx_0) rfl rfl rfl) rfl ?_
    refine af_aload_n (hK 4 128 (Nat.le_of_ble_eq_true rfl) (Nat.le_of_ble_eq_true rfl)) 56 dX0_init_55 rfl rfl ?_
    refine gf_get (hK 4 128 (Nat.le_of_ble_eq_true rfl) (Nat.le_of_ble_eq_true rfl)) 59 dX0_init_56 rfl fl_X0_25 rfl rfl ?_
    refine af_bipush (hK 4 128 (Nat.le_of_ble_eq_true rfl) (Nat.le_of_ble_eq_true rfl)) 61 dX0_init_59 rfl cs_bipush_20 ?_
    refine gf_callS0 (hK 4 128 (Nat.le_of_ble_eq_true rfl) (Nat.le_of_ble_eq_true rfl)) (vs := [.ref 4, .int 20]) ms_J7_fill_53178 lk_29 64 hk_13 dX0_init_61 rfl rfl rfl rfl (A_fill2 _ _ (h := hk_12) (h2 := hk_13) (a := 4) 20 (N := 64) (g := fx_0) rfl rfl rfl) rfl ?_
    refine af_aload_n (hK 4 128 (Nat.le_of_ble_eq_true rfl) (Nat.le_of_ble_eq_true rfl)) 65 dX0_init_64 rfl rfl ?_
    refine gf_get (hK 4 128 (Nat.le_of_ble_eq_true rfl) (Nat.le_of_ble_eq_true rfl)) 68 dX0_init_65 rfl fl_X0_28 rfl rfl ?_
    refine af_iconst (hK 4 128 (Nat.le_of_ble_eq_true rfl) (Nat.le_of_ble_eq_true rfl)) 69 dX0_init_68 rfl cs_iconst_m1 ?_
    refine gf_callS0 (hK 4 128 (Nat.le_of_ble_eq_true rfl) (Nat.le_of_ble_eq_true rfl)) (vs := [.ref 5, .int (-1)]) ms_J7_fill_53178 lk_29 72 hk_14 dX0_init_69 rfl rfl rfl rfl (A_fill2 _ _ (h := hk_13) (h2 := hk_14) (a := 5) (-1) (N := 10) (g := fx_0) rfl rfl rfl) rfl ?_
    exact af_ret (r := none) (hK 4 128 (Nat.le_of_ble_eq_true rfl) (Nat.le_of_ble_eq_true rfl)) dX0_init_72 rfl rfl
  exact go () rfl (hR 0 0 (Nat.zero_le _) (Nat.zero_le _))
theorem lk_25 : Jvm.Cond.methodLink RX4 9 yX0_init ∈ aw_tb := aw_in 25 (by decide +kernel) rfl
theorem ff_X4_10 : aw_ff RX4 10 4 0 (.object "TwoWheel$Pottery") := ⟨RX4, TX4, 8, tyX4, rfl, (Nat.le_of_ble_eq_true rfl), aw_in4, aw_in 140 (by decide +kernel) rfl, tyX4_ok, nmX4, rfl, tyX4_ok 0 (Nat.le_of_ble_eq_true rfl), rfl⟩
def hk_15 : aw_H := [.inr (4, [.ref 1, .null, .null, .int 0, .null, .null, .null, .null]), .inr (0, [.int 10, .int 0, .int 0, .int 0, .int 0, .int 1, .int 0, .ref 2, .ref 3, .ref 4, .ref 5]), .inl (false, 6, fx_fill 6 1 (fx_0)), .inl (false, 48, fx_0), .inl (false, 64, fx_fill 64 20 (fx_0)), .inl (false, 10, fx_fill 10 (-1) (fx_0))]
def hk_16 : aw_H := [.inr (4, [.ref 1, .null, .null, .int 0, .null, .null, .null, .null]), .inr (0, [.int 10, .int 0, .int 0, .int 0, .int 0, .int 1, .int 0, .ref 2, .ref 3, .ref 4, .ref 5]), .inl (false, 6, fx_fill 6 1 (fx_0)), .inl (false, 48, fx_0), .inl (false, 64, fx_fill 64 20 (fx_0)), .inl (false, 10, fx_fill 10 (-1) (fx_0)), .inr (0, [.int 0, .int 0, .int 0, .int 0, .int 0, .int 0, .int 0, .null, .null, .null, .null])]
def hk_17 : aw_H := [.inr (4, [.ref 1, .null, .null, .int 0, .null, .null, .null, .null]), .inr (0, [.int 10, .int 0, .int 0, .int 0, .int 0, .int 1, .int 0, .ref 2, .ref 3, .ref 4, .ref 5]), .inl (false, 6, fx_fill 6 1 (fx_0)), .inl (false, 48, fx_0), .inl (false, 64, fx_fill 64 20 (fx_0)), .inl (false, 10, fx_fill 10 (-1) (fx_0)), .inr (0, [.int 10, .int 0, .int 0, .int 0, .int 0, .int 0, .int 0, .null, .null, .null, .null])]
def hk_18 : aw_H := [.inr (4, [.ref 1, .null, .null, .int 0, .null, .null, .null, .null]), .inr (0, [.int 10, .int 0, .int 0, .int 0, .int 0, .int 1, .int 0, .ref 2, .ref 3, .ref 4, .ref 5]), .inl (false, 6, fx_fill 6 1 (fx_0)), .inl (false, 48, fx_0), .inl (false, 64, fx_fill 64 20 (fx_0)), .inl (false, 10, fx_fill 10 (-1) (fx_0)), .inr (0, [.int 10, .int 0, .int 0, .int 0, .int 0, .int 1, .int 0, .null, .null, .null, .null])]
def hk_19 : aw_H := [.inr (4, [.ref 1, .null, .null, .int 0, .null, .null, .null, .null]), .inr (0, [.int 10, .int 0, .int 0, .int 0, .int 0, .int 1, .int 0, .ref 2, .ref 3, .ref 4, .ref 5]), .inl (false, 6, fx_fill 6 1 (fx_0)), .inl (false, 48, fx_0), .inl (false, 64, fx_fill 64 20 (fx_0)), .inl (false, 10, fx_fill 10 (-1) (fx_0)), .inr (0, [.int 10, .int 0, .int 0, .int 0, .int 0, .int 1, .int 0, .null, .null, .null, .null]), .inl (false, 6, fx_0)]
def hk_20 : aw_H := [.inr (4, [.ref 1, .null, .null, .int 0, .null, .null, .null, .null]), .inr (0, [.int 10, .int 0, .int 0, .int 0, .int 0, .int 1, .int 0, .ref 2, .ref 3, .ref 4, .ref 5]), .inl (false, 6, fx_fill 6 1 (fx_0)), .inl (false, 48, fx_0), .inl (false, 64, fx_fill 64 20 (fx_0)), .inl (false, 10, fx_fill 10 (-1) (fx_0)), .inr (0, [.int 10, .int 0, .int 0, .int 0, .int 0, .int 1, .int 0, .ref 7, .null, .null, .null]), .inl (false, 6, fx_0)]
def hk_21 : aw_H := [.inr (4, [.ref 1, .null, .null, .int 0, .null, .null, .null, .null]), .inr (0, [.int 10, .int 0, .int 0, .int 0, .int 0, .int 1, .int 0, .ref 2, .ref 3, .ref 4, .ref 5]), .inl (false, 6, fx_fill 6 1 (fx_0)), .inl (false, 48, fx_0), .inl (false, 64, fx_fill 64 20 (fx_0)), .inl (false, 10, fx_fill 10 (-1) (fx_0)), .inr (0, [.int 10, .int 0, .int 0, .int 0, .int 0, .int 1, .int 0, .ref 7, .null, .null, .null]), .inl (false, 6, fx_0), .inl (false, 48, fx_0)]
def hk_22 : aw_H := [.inr (4, [.ref 1, .null, .null, .int 0, .null, .null, .null, .null]), .inr (0, [.int 10, .int 0, .int 0, .int 0, .int 0, .int 1, .int 0, .ref 2, .ref 3, .ref 4, .ref 5]), .inl (false, 6, fx_fill 6 1 (fx_0)), .inl (false, 48, fx_0), .inl (false, 64, fx_fill 64 20 (fx_0)), .inl (false, 10, fx_fill 10 (-1) (fx_0)), .inr (0, [.int 10, .int 0, .int 0, .int 0, .int 0, .int 1, .int 0, .ref 7, .ref 8, .null, .null]), .inl (false, 6, fx_0), .inl (false, 48, fx_0)]
def hk_23 : aw_H := [.inr (4, [.ref 1, .null, .null, .int 0, .null, .null, .null, .null]), .inr (0, [.int 10, .int 0, .int 0, .int 0, .int 0, .int 1, .int 0, .ref 2, .ref 3, .ref 4, .ref 5]), .inl (false, 6, fx_fill 6 1 (fx_0)), .inl (false, 48, fx_0), .inl (false, 64, fx_fill 64 20 (fx_0)), .inl (false, 10, fx_fill 10 (-1) (fx_0)), .inr (0, [.int 10, .int 0, .int 0, .int 0, .int 0, .int 1, .int 0, .ref 7, .ref 8, .null, .null]), .inl (false, 6, fx_0), .inl (false, 48, fx_0), .inl (false, 64, fx_0)]
def hk_24 : aw_H := [.inr (4, [.ref 1, .null, .null, .int 0, .null, .null, .null, .null]), .inr (0, [.int 10, .int 0, .int 0, .int 0, .int 0, .int 1, .int 0, .ref 2, .ref 3, .ref 4, .ref 5]), .inl (false, 6, fx_fill 6 1 (fx_0)), .inl (false, 48, fx_0), .inl (false, 64, fx_fill 64 20 (fx_0)), .inl (false, 10, fx_fill 10 (-1) (fx_0)), .inr (0, [.int 10, .int 0, .int 0, .int 0, .int 0, .int 1, .int 0, .ref 7, .ref 8, .ref 9, .null]), .inl (false, 6, fx_0), .inl (false, 48, fx_0), .inl (false, 64, fx_0)]
def hk_25 : aw_H := [.inr (4, [.ref 1, .null, .null, .int 0, .null, .null, .null, .null]), .inr (0, [.int 10, .int 0, .int 0, .int 0, .int 0, .int 1, .int 0, .ref 2, .ref 3, .ref 4, .ref 5]), .inl (false, 6, fx_fill 6 1 (fx_0)), .inl (false, 48, fx_0), .inl (false, 64, fx_fill 64 20 (fx_0)), .inl (false, 10, fx_fill 10 (-1) (fx_0)), .inr (0, [.int 10, .int 0, .int 0, .int 0, .int 0, .int 1, .int 0, .ref 7, .ref 8, .ref 9, .null]), .inl (false, 6, fx_0), .inl (false, 48, fx_0), .inl (false, 64, fx_0), .inl (false, 10, fx_0)]
def hk_26 : aw_H := [.inr (4, [.ref 1, .null, .null, .int 0, .null, .null, .null, .null]), .inr (0, [.int 10, .int 0, .int 0, .int 0, .int 0, .int 1, .int 0, .ref 2, .ref 3, .ref 4, .ref 5]), .inl (false, 6, fx_fill 6 1 (fx_0)), .inl (false, 48, fx_0), .inl (false, 64, fx_fill 64 20 (fx_0)), .inl (false, 10, fx_fill 10 (-1) (fx_0)), .inr (0, [.int 10, .int 0, .int 0, .int 0, .int 0, .int 1, .int 0, .ref 7, .ref 8, .ref 9, .ref 10]), .inl (false, 6, fx_0), .inl (false, 48, fx_0), .inl (false, 64, fx_0), .inl (false, 10, fx_0)]
def hk_27 : aw_H := [.inr (4, [.ref 1, .null, .null, .int 0, .null, .null, .null, .null]), .inr (0, [.int 10, .int 0, .int 0, .int 0, .int 0, .int 1, .int 0, .ref 2, .ref 3, .ref 4, .ref 5]), .inl (false, 6, fx_fill 6 1 (fx_0)), .inl (false, 48, fx_0), .inl (false, 64, fx_fill 64 20 (fx_0)), .inl (false, 10, fx_fill 10 (-1) (fx_0)), .inr (0, [.int 10, .int 0, .int 0, .int 0, .int 0, .int 1, .int 0, .ref 7, .ref 8, .ref 9, .ref 10]), .inl (false, 6, fx_fill 6 1 (fx_0)), .inl (false, 48, fx_0), .inl (false, 64, fx_0), .inl (false, 10, fx_0)]
def hk_28 : aw_H := [.inr (4, [.ref 1, .null, .null, .int 0, .null, .null, .null, .null]), .inr (0, [.int 10, .int 0, .int 0, .int 0, .int 0, .int 1, .int 0, .ref 2, .ref 3, .ref 4, .ref 5]), .inl (false, 6, fx_fill 6 1 (fx_0)), .inl (false, 48, fx_0), .inl (false, 64, fx_fill 64 20 (fx_0)), .inl (false, 10, fx_fill 10 (-1) (fx_0)), .inr (0, [.int 10, .int 0, .int 0, .int 0, .int 0, .int 1, .int 0, .ref 7, .ref 8, .ref 9, .ref 10]), .inl (false, 6, fx_fill 6 1 (fx_0)), .inl (false, 48, fx_0), .inl (false, 64, fx_fill 64 20 (fx_0)), .inl (false, 10, fx_0)]
def hk_29 : aw_H := [.inr (4, [.ref 1, .null, .null, .int 0, .null, .null, .null, .null]), .inr (0, [.int 10, .int 0, .int 0, .int 0, .int 0, .int 1, .int 0, .ref 2, .ref 3, .ref 4, .ref 5]), .inl (false, 6, fx_fill 6 1 (fx_0)), .inl (false, 48, fx_0), .inl (false, 64, fx_fill 64 20 (fx_0)), .inl (false, 10, fx_fill 10 (-1) (fx_0)), .inr (0, [.int 10, .int 0, .int 0, .int 0, .int 0, .int 1, .int 0, .ref 7, .ref 8, .ref 9, .ref 10]), .inl (false, 6, fx_fill 6 1 (fx_0)), .inl (false, 48, fx_0), .inl (false, 64, fx_fill 64 20 (fx_0)), .inl (false, 10, fx_fill 10 (-1) (fx_0))]
set_option maxRecDepth 100000 in
set_option maxHeartbeats 4000000 in
theorem N_X0_init_6 (X : aw_X) (l : Launch) : af_N X l mX0_init [.ref 6] hk_16 hk_29 4 128 := by
  refine af_mkN (by decide) rfl rfl rfl rfl rfl [some (.ref 6)] rfl ?_
  intro B hX hl hN hK hI hcl hR
  obtain rfl := hX 0 0
  obtain rfl := hl 0 0
  replace hK : ∀ c s, c ≤ 4 → s ≤ 128 → aw_K (aw_cs B c s) cX0_init RX0 rX0_init := hK
  have go : af (aw_cs B 0 0) (fun _ : Unit => ((none : Option Value), hk_29)) 0 [some (.ref 6)] [] hk_16 (some ()) := by
    refine af_aload_n (hK 0 0 (Nat.le_of_ble_eq_true rfl) (Nat.le_of_ble_eq_true rfl)) 1 dX0_init_0 rfl rfl ?_
    refine gf_obj (hK 0 0 (Nat.le_of_ble_eq_true rfl) (Nat.le_of_ble_eq_true rfl)) 4 dX0_init_1 rfl lk_28 lk_oi1 lk_oi2 rfl rfl rfl ?_
    refine af_aload_n (hK 0 0 (Nat.le_of_ble_eq_true rfl) (Nat.le_of_ble_eq_true rfl)) 5 dX0_init_4 rfl rfl ?_
    refine af_bipush (hK 0 0 (Nat.le_of_ble_eq_true rfl) (Nat.le_of_ble_eq_true rfl)) 7 dX0_init_5 rfl cs_bipush_10 ?_
    refine gf_put (hK 0 0 (Nat.le_of_ble_eq_true rfl) (Nat.le_of_ble_eq_true rfl)) 10 hk_17 dX0_init_7 rfl fp_X0_9 rfl (Nat.le_of_ble_eq_true rfl) (fun _ => rfl) (fun _ => rfl) rfl ?_
    refine af_aload_n (hK 0 0 (Nat.le_of_ble_eq_true rfl) (Nat.le_of_ble_eq_true rfl)) 11 dX0_init_10 rfl rfl ?_
    refine af_iconst (hK 0 0 (Nat.le_of_ble_eq_true rfl) (Nat.le_of_ble_eq_true rfl)) 12 dX0_init_11 rfl cs_iconst_1 ?_
    refine gf_put (hK 0 0 (Nat.le_of_ble_eq_true rfl) (Nat.le_of_ble_eq_true rfl)) 15 hk_18 dX0_init_12 rfl fp_X0_15 rfl (Nat.le_of_ble_eq_true rfl) (fun _ => rfl) (fun _ => rfl) rfl ?_
    refine af_aload_n (hK 0 0 (Nat.le_of_ble_eq_true rfl) (Nat.le_of_ble_eq_true rfl)) 16 dX0_init_15 rfl rfl ?_
    refine af_bipush (hK 0 0 (Nat.le_of_ble_eq_true rfl) (Nat.le_of_ble_eq_true rfl)) 18 dX0_init_16 rfl cs_bipush_6 ?_
    refine gf_newa (hK 0 0 (Nat.le_of_ble_eq_true rfl) (Nat.le_of_ble_eq_true rfl)) hcl false 6 20 hk_19 dX0_init_18 rfl rfl lk_79 (by decide) rfl rfl rfl rfl (Nat.le_of_ble_eq_true rfl) (Nat.le_of_ble_eq_true rfl) rfl rfl rfl rfl (fun _ _ => hR _ _ (Nat.le_of_ble_eq_true rfl) (Nat.le_of_ble_eq_true rfl)) ?_
    refine gf_putF (hK 1 6 (Nat.le_of_ble_eq_true rfl) (Nat.le_of_ble_eq_true rfl)) (hI 1 6) 23 hk_20 dX0_init_20 rfl ff_X0_18 rfl (Nat.le_of_ble_eq_true rfl) (fun _ => rfl) (fun _ => rfl) rfl ?_
    refine af_aload_n (hK 1 6 (Nat.le_of_ble_eq_true rfl) (Nat.le_of_ble_eq_true rfl)) 24 dX0_init_23 rfl rfl ?_
    refine af_bipush (hK 1 6 (Nat.le_of_ble_eq_true rfl) (Nat.le_of_ble_eq_true rfl)) 26 dX0_init_24 rfl cs_bipush_48 ?_
    refine gf_newa (hK 1 6 (Nat.le_of_ble_eq_true rfl) (Nat.le_of_ble_eq_true rfl)) hcl false 48 28 hk_21 dX0_init_26 rfl rfl lk_79 (by decide) rfl rfl rfl rfl (Nat.le_of_ble_eq_true rfl) (Nat.le_of_ble_eq_true rfl) rfl rfl rfl rfl (fun _ _ => hR _ _ (Nat.le_of_ble_eq_true rfl) (Nat.le_of_ble_eq_true rfl)) ?_
    refine gf_putF (hK 2 54 (Nat.le_of_ble_eq_true rfl) (Nat.le_of_ble_eq_true rfl)) (hI 2 54) 31 hk_22 dX0_init_28 rfl ff_X0_22 rfl (Nat.le_of_ble_eq_true rfl) (fun _ => rfl) (fun _ => rfl) rfl ?_
    refine af_aload_n (hK 2 54 (Nat.le_of_ble_eq_true rfl) (Nat.le_of_ble_eq_true rfl)) 32 dX0_init_31 rfl rfl ?_
    refine af_bipush (hK 2 54 (Nat.le_of_ble_eq_true rfl) (Nat.le_of_ble_eq_true rfl)) 34 dX0_init_32 rfl cs_bipush_64 ?_
    refine gf_newa (hK 2 54 (Nat.le_of_ble_eq_true rfl) (Nat.le_of_ble_eq_true rfl)) hcl false 64 36 hk_23 dX0_init_34 rfl rfl lk_79 (by decide) rfl rfl rfl rfl (Nat.le_of_ble_eq_true rfl) (Nat.le_of_ble_eq_true rfl) rfl rfl rfl rfl (fun _ _ => hR _ _ (Nat.le_of_ble_eq_true rfl) (Nat.le_of_ble_eq_true rfl)) ?_
    refine gf_putF (hK 3 118 (Nat.le_of_ble_eq_true rfl) (Nat.le_of_ble_eq_true rfl)) (hI 3 118) 39 hk_24 dX0_init_36 rfl ff_X0_25 rfl (Nat.le_of_ble_eq_true rfl) (fun _ => rfl) (fun _ => rfl) rfl ?_
    refine af_aload_n (hK 3 118 (Nat.le_of_ble_eq_true rfl) (Nat.le_of_ble_eq_true rfl)) 40 dX0_init_39 rfl rfl ?_
    refine af_bipush (hK 3 118 (Nat.le_of_ble_eq_true rfl) (Nat.le_of_ble_eq_true rfl)) 42 dX0_init_40 rfl cs_bipush_10 ?_
    refine gf_newa (hK 3 118 (Nat.le_of_ble_eq_true rfl) (Nat.le_of_ble_eq_true rfl)) hcl false 10 44 hk_25 dX0_init_42 rfl rfl lk_79 (by decide) rfl rfl rfl rfl (Nat.le_of_ble_eq_true rfl) (Nat.le_of_ble_eq_true rfl) rfl rfl rfl rfl (fun _ _ => hR _ _ (Nat.le_of_ble_eq_true rfl) (Nat.le_of_ble_eq_true rfl)) ?_
    refine gf_putF (hK 4 128 (Nat.le_of_ble_eq_true rfl) (Nat.le_of_ble_eq_true rfl)) (hI 4 128) 47 hk_26 dX0_init_44 rfl ff_X0_28 rfl (Nat.le_of_ble_eq_true rfl) (fun _ => rfl) (fun _ => rfl) rfl ?_
    refine af_aload_n (hK 4 128 (Nat.le_of_ble_eq_true rfl) (Nat.le_of_ble_eq_true rfl)) 48 dX0_init_47 rfl rfl ?_
    refine gf_get (hK 4 128 (Nat.le_of_ble_eq_true rfl) (Nat.le_of_ble_eq_true rfl)) 51 dX0_init_48 rfl fl_X0_18 rfl rfl ?_
    refine af_iconst (hK 4 128 (Nat.le_of_ble_eq_true rfl) (Nat.le_of_ble_eq_true rfl)) 52 dX0_init_51 rfl cs_iconst_1 ?_
    refine gf_callS0 (hK 4 128 (Nat.le_of_ble_eq_true rfl) (Nat.le_of_ble_eq_true rfl)) (vs := [.ref 7, .int 1]) ms_J7_fill_53178 lk_29 55 hk_27 dX0_init_52 rfl rfl rfl rfl (A_fill2 _ _ (h := hk_26) (h2 := hk_27) (a := 7) 1 (N := 6) (g := fx_0) rfl rfl rfl) rfl ?_
    refine af_aload_n (hK 4 128 (Nat.le_of_ble_eq_true rfl) (Nat.le_of_ble_eq_true rfl)) 56 dX0_init_55 rfl rfl ?_
    refine gf_get (hK 4 128 (Nat.le_of_ble_eq_true rfl) (Nat.le_of_ble_eq_true rfl)) 59 dX0_init_56 rfl fl_X0_25 rfl rfl ?_
    refine af_bipush (hK 4 128 (Nat.le_of_ble_eq_true rfl) (Nat.le_of_ble_eq_true rfl)) 61 dX0_init_59 rfl cs_bipush_20 ?_
    refine gf_callS0 (hK 4 128 (Nat.le_of_ble_eq_true rfl) (Nat.le_of_ble_eq_true rfl)) (vs := [.ref 9, .int 20]) ms_J7_fill_53178 lk_29 64 hk_28 dX0_init_61 rfl rfl rfl rfl (A_fill2 _ _ (h := hk_27) (h2 := hk_28) (a := 9) 20 (N := 64) (g := fx_0) rfl rfl rfl) rfl ?_
    refine af_aload_n (hK 4 128 (Nat.le_of_ble_eq_true rfl) (Nat.le_of_ble_eq_true rfl)) 65 dX0_init_64 rfl rfl ?_
    refine gf_get (hK 4 128 (Nat.le_of_ble_eq_true rfl) (Nat.le_of_ble_eq_true rfl)) 68 dX0_init_65 rfl fl_X0_28 rfl rfl ?_
    refine af_iconst (hK 4 128 (Nat.le_of_ble_eq_true rfl) (Nat.le_of_ble_eq_true rfl)) 69 dX0_init_68 rfl cs_iconst_m1 ?_
    refine gf_callS0 (hK 4 128 (Nat.le_of_ble_eq_true rfl) (Nat.le_of_ble_eq_true rfl)) (vs := [.ref 10, .int (-1)]) ms_J7_fill_53178 lk_29 72 hk_29 dX0_init_69 rfl rfl rfl rfl (A_fill2 _ _ (h := hk_28) (h2 := hk_29) (a := 10) (-1) (N := 10) (g := fx_0) rfl rfl rfl) rfl ?_
    exact af_ret (r := none) (hK 4 128 (Nat.le_of_ble_eq_true rfl) (Nat.le_of_ble_eq_true rfl)) dX0_init_72 rfl rfl
  exact go () rfl (hR 0 0 (Nat.zero_le _) (Nat.zero_le _))
theorem ff_X4_16 : aw_ff RX4 16 4 1 (.object "TwoWheel$Pottery") := ⟨RX4, TX4, 8, tyX4, rfl, (Nat.le_of_ble_eq_true rfl), aw_in4, aw_in 141 (by decide +kernel) rfl, tyX4_ok, nmX4, rfl, tyX4_ok 1 (Nat.le_of_ble_eq_true rfl), rfl⟩
def hk_30 : aw_H := [.inr (4, [.ref 1, .ref 6, .null, .int 0, .null, .null, .null, .null]), .inr (0, [.int 10, .int 0, .int 0, .int 0, .int 0, .int 1, .int 0, .ref 2, .ref 3, .ref 4, .ref 5]), .inl (false, 6, fx_fill 6 1 (fx_0)), .inl (false, 48, fx_0), .inl (false, 64, fx_fill 64 20 (fx_0)), .inl (false, 10, fx_fill 10 (-1) (fx_0)), .inr (0, [.int 10, .int 0, .int 0, .int 0, .int 0, .int 1, .int 0, .ref 7, .ref 8, .ref 9, .ref 10]), .inl (false, 6, fx_fill 6 1 (fx_0)), .inl (false, 48, fx_0), .inl (false, 64, fx_fill 64 20 (fx_0)), .inl (false, 10, fx_fill 10 (-1) (fx_0))]
def hk_31 : aw_H := [.inr (4, [.ref 1, .ref 6, .null, .int 0, .null, .null, .null, .null]), .inr (0, [.int 10, .int 0, .int 0, .int 0, .int 0, .int 1, .int 0, .ref 2, .ref 3, .ref 4, .ref 5]), .inl (false, 6, fx_fill 6 1 (fx_0)), .inl (false, 48, fx_0), .inl (false, 64, fx_fill 64 20 (fx_0)), .inl (false, 10, fx_fill 10 (-1) (fx_0)), .inr (0, [.int 10, .int 0, .int 0, .int 0, .int 0, .int 1, .int 0, .ref 7, .ref 8, .ref 9, .ref 10]), .inl (false, 6, fx_fill 6 1 (fx_0)), .inl (false, 48, fx_0), .inl (false, 64, fx_fill 64 20 (fx_0)), .inl (false, 10, fx_fill 10 (-1) (fx_0)), .inr (0, [.int 0, .int 0, .int 0, .int 0, .int 0, .int 0, .int 0, .null, .null, .null, .null])]
def hk_32 : aw_H := [.inr (4, [.ref 1, .ref 6, .null, .int 0, .null, .null, .null, .null]), .inr (0, [.int 10, .int 0, .int 0, .int 0, .int 0, .int 1, .int 0, .ref 2, .ref 3, .ref 4, .ref 5]), .inl (false, 6, fx_fill 6 1 (fx_0)), .inl (false, 48, fx_0), .inl (false, 64, fx_fill 64 20 (fx_0)), .inl (false, 10, fx_fill 10 (-1) (fx_0)), .inr (0, [.int 10, .int 0, .int 0, .int 0, .int 0, .int 1, .int 0, .ref 7, .ref 8, .ref 9, .ref 10]), .inl (false, 6, fx_fill 6 1 (fx_0)), .inl (false, 48, fx_0), .inl (false, 64, fx_fill 64 20 (fx_0)), .inl (false, 10, fx_fill 10 (-1) (fx_0)), .inr (0, [.int 10, .int 0, .int 0, .int 0, .int 0, .int 0, .int 0, .null, .null, .null, .null])]
def hk_33 : aw_H := [.inr (4, [.ref 1, .ref 6, .null, .int 0, .null, .null, .null, .null]), .inr (0, [.int 10, .int 0, .int 0, .int 0, .int 0, .int 1, .int 0, .ref 2, .ref 3, .ref 4, .ref 5]), .inl (false, 6, fx_fill 6 1 (fx_0)), .inl (false, 48, fx_0), .inl (false, 64, fx_fill 64 20 (fx_0)), .inl (false, 10, fx_fill 10 (-1) (fx_0)), .inr (0, [.int 10, .int 0, .int 0, .int 0, .int 0, .int 1, .int 0, .ref 7, .ref 8, .ref 9, .ref 10]), .inl (false, 6, fx_fill 6 1 (fx_0)), .inl (false, 48, fx_0), .inl (false, 64, fx_fill 64 20 (fx_0)), .inl (false, 10, fx_fill 10 (-1) (fx_0)), .inr (0, [.int 10, .int 0, .int 0, .int 0, .int 0, .int 1, .int 0, .null, .null, .null, .null])]
def hk_34 : aw_H := [.inr (4, [.ref 1, .ref 6, .null, .int 0, .null, .null, .null, .null]), .inr (0, [.int 10, .int 0, .int 0, .int 0, .int 0, .int 1, .int 0, .ref 2, .ref 3, .ref 4, .ref 5]), .inl (false, 6, fx_fill 6 1 (fx_0)), .inl (false, 48, fx_0), .inl (false, 64, fx_fill 64 20 (fx_0)), .inl (false, 10, fx_fill 10 (-1) (fx_0)), .inr (0, [.int 10, .int 0, .int 0, .int 0, .int 0, .int 1, .int 0, .ref 7, .ref 8, .ref 9, .ref 10]), .inl (false, 6, fx_fill 6 1 (fx_0)), .inl (false, 48, fx_0), .inl (false, 64, fx_fill 64 20 (fx_0)), .inl (false, 10, fx_fill 10 (-1) (fx_0)), .inr (0, [.int 10, .int 0, .int 0, .int 0, .int 0, .int 1, .int 0, .null, .null, .null, .null]), .inl (false, 6, fx_0)]
def hk_35 : aw_H := [.inr (4, [.ref 1, .ref 6, .null, .int 0, .null, .null, .null, .null]), .inr (0, [.int 10, .int 0, .int 0, .int 0, .int 0, .int 1, .int 0, .ref 2, .ref 3, .ref 4, .ref 5]), .inl (false, 6, fx_fill 6 1 (fx_0)), .inl (false, 48, fx_0), .inl (false, 64, fx_fill 64 20 (fx_0)), .inl (false, 10, fx_fill 10 (-1) (fx_0)), .inr (0, [.int 10, .int 0, .int 0, .int 0, .int 0, .int 1, .int 0, .ref 7, .ref 8, .ref 9, .ref 10]), .inl (false, 6, fx_fill 6 1 (fx_0)), .inl (false, 48, fx_0), .inl (false, 64, fx_fill 64 20 (fx_0)), .inl (false, 10, fx_fill 10 (-1) (fx_0)), .inr (0, [.int 10, .int 0, .int 0, .int 0, .int 0, .int 1, .int 0, .ref 12, .null, .null, .null]), .inl (false, 6, fx_0)]
def hk_36 : aw_H := [.inr (4, [.ref 1, .ref 6, .null, .int 0, .null, .null, .null, .null]), .inr (0, [.int 10, .int 0, .int 0, .int 0, .int 0, .int 1, .int 0, .ref 2, .ref 3, .ref 4, .ref 5]), .inl (false, 6, fx_fill 6 1 (fx_0)), .inl (false, 48, fx_0), .inl (false, 64, fx_fill 64 20 (fx_0)), .inl (false, 10, fx_fill 10 (-1) (fx_0)), .inr (0, [.int 10, .int 0, .int 0, .int 0, .int 0, .int 1, .int 0, .ref 7, .ref 8, .ref 9, .ref 10]), .inl (false, 6, fx_fill 6 1 (fx_0)), .inl (false, 48, fx_0), .inl (false, 64, fx_fill 64 20 (fx_0)), .inl (false, 10, fx_fill 10 (-1) (fx_0)), .inr (0, [.int 10, .int 0, .int 0, .int 0, .int 0, .int 1, .int 0, .ref 12, .null, .null, .null]), .inl (false, 6, fx_0), .inl (false, 48, fx_0)]
def hk_37 : aw_H := [.inr (4, [.ref 1, .ref 6, .null, .int 0, .null, .null, .null, .null]), .inr (0, [.int 10, .int 0, .int 0, .int 0, .int 0, .int 1, .int 0, .ref 2, .ref 3, .ref 4, .ref 5]), .inl (false, 6, fx_fill 6 1 (fx_0)), .inl (false, 48, fx_0), .inl (false, 64, fx_fill 64 20 (fx_0)), .inl (false, 10, fx_fill 10 (-1) (fx_0)), .inr (0, [.int 10, .int 0, .int 0, .int 0, .int 0, .int 1, .int 0, .ref 7, .ref 8, .ref 9, .ref 10]), .inl (false, 6, fx_fill 6 1 (fx_0)), .inl (false, 48, fx_0), .inl (false, 64, fx_fill 64 20 (fx_0)), .inl (false, 10, fx_fill 10 (-1) (fx_0)), .inr (0, [.int 10, .int 0, .int 0, .int 0, .int 0, .int 1, .int 0, .ref 12, .ref 13, .null, .null]), .inl (false, 6, fx_0), .inl (false, 48, fx_0)]
def hk_38 : aw_H := [.inr (4, [.ref 1, .ref 6, .null, .int 0, .null, .null, .null, .null]), .inr (0, [.int 10, .int 0, .int 0, .int 0, .int 0, .int 1, .int 0, .ref 2, .ref 3, .ref 4, .ref 5]), .inl (false, 6, fx_fill 6 1 (fx_0)), .inl (false, 48, fx_0), .inl (false, 64, fx_fill 64 20 (fx_0)), .inl (false, 10, fx_fill 10 (-1) (fx_0)), .inr (0, [.int 10, .int 0, .int 0, .int 0, .int 0, .int 1, .int 0, .ref 7, .ref 8, .ref 9, .ref 10]), .inl (false, 6, fx_fill 6 1 (fx_0)), .inl (false, 48, fx_0), .inl (false, 64, fx_fill 64 20 (fx_0)), .inl (false, 10, fx_fill 10 (-1) (fx_0)), .inr (0, [.int 10, .int 0, .int 0, .int 0, .int 0, .int 1, .int 0, .ref 12, .ref 13, .null, .null]), .inl (false, 6, fx_0), .inl (false, 48, fx_0), .inl (false, 64, fx_0)]
def hk_39 : aw_H := [.inr (4, [.ref 1, .ref 6, .null, .int 0, .null, .null, .null, .null]), .inr (0, [.int 10, .int 0, .int 0, .int 0, .int 0, .int 1, .int 0, .ref 2, .ref 3, .ref 4, .ref 5]), .inl (false, 6, fx_fill 6 1 (fx_0)), .inl (false, 48, fx_0), .inl (false, 64, fx_fill 64 20 (fx_0)), .inl (false, 10, fx_fill 10 (-1) (fx_0)), .inr (0, [.int 10, .int 0, .int 0, .int 0, .int 0, .int 1, .int 0, .ref 7, .ref 8, .ref 9, .ref 10]), .inl (false, 6, fx_fill 6 1 (fx_0)), .inl (false, 48, fx_0), .inl (false, 64, fx_fill 64 20 (fx_0)), .inl (false, 10, fx_fill 10 (-1) (fx_0)), .inr (0, [.int 10, .int 0, .int 0, .int 0, .int 0, .int 1, .int 0, .ref 12, .ref 13, .ref 14, .null]), .inl (false, 6, fx_0), .inl (false, 48, fx_0), .inl (false, 64, fx_0)]
def hk_40 : aw_H := [.inr (4, [.ref 1, .ref 6, .null, .int 0, .null, .null, .null, .null]), .inr (0, [.int 10, .int 0, .int 0, .int 0, .int 0, .int 1, .int 0, .ref 2, .ref 3, .ref 4, .ref 5]), .inl (false, 6, fx_fill 6 1 (fx_0)), .inl (false, 48, fx_0), .inl (false, 64, fx_fill 64 20 (fx_0)), .inl (false, 10, fx_fill 10 (-1) (fx_0)), .inr (0, [.int 10, .int 0, .int 0, .int 0, .int 0, .int 1, .int 0, .ref 7, .ref 8, .ref 9, .ref 10]), .inl (false, 6, fx_fill 6 1 (fx_0)), .inl (false, 48, fx_0), .inl (false, 64, fx_fill 64 20 (fx_0)), .inl (false, 10, fx_fill 10 (-1) (fx_0)), .inr (0, [.int 10, .int 0, .int 0, .int 0, .int 0, .int 1, .int 0, .ref 12, .ref 13, .ref 14, .null]), .inl (false, 6, fx_0), .inl (false, 48, fx_0), .inl (false, 64, fx_0), .inl (false, 10, fx_0)]
def hk_41 : aw_H := [.inr (4, [.ref 1, .ref 6, .null, .int 0, .null, .null, .null, .null]), .inr (0, [.int 10, .int 0, .int 0, .int 0, .int 0, .int 1, .int 0, .ref 2, .ref 3, .ref 4, .ref 5]), .inl (false, 6, fx_fill 6 1 (fx_0)), .inl (false, 48, fx_0), .inl (false, 64, fx_fill 64 20 (fx_0)), .inl (false, 10, fx_fill 10 (-1) (fx_0)), .inr (0, [.int 10, .int 0, .int 0, .int 0, .int 0, .int 1, .int 0, .ref 7, .ref 8, .ref 9, .ref 10]), .inl (false, 6, fx_fill 6 1 (fx_0)), .inl (false, 48, fx_0), .inl (false, 64, fx_fill 64 20 (fx_0)), .inl (false, 10, fx_fill 10 (-1) (fx_0)), .inr (0, [.int 10, .int 0, .int 0, .int 0, .int 0, .int 1, .int 0, .ref 12, .ref 13, .ref 14, .ref 15]), .inl (false, 6, fx_0), .inl (false, 48, fx_0), .inl (false, 64, fx_0), .inl (false, 10, fx_0)]
def hk_42 : aw_H := [.inr (4, [.ref 1, .ref 6, .null, .int 0, .null, .null, .null, .null]), .inr (0, [.int 10, .int 0, .int 0, .int 0, .int 0, .int 1, .int 0, .ref 2, .ref 3, .ref 4, .ref 5]), .inl (false, 6, fx_fill 6 1 (fx_0)), .inl (false, 48, fx_0), .inl (false, 64, fx_fill 64 20 (fx_0)), .inl (false, 10, fx_fill 10 (-1) (fx_0)), .inr (0, [.int 10, .int 0, .int 0, .int 0, .int 0, .int 1, .int 0, .ref 7, .ref 8, .ref 9, .ref 10]), .inl (false, 6, fx_fill 6 1 (fx_0)), .inl (false, 48, fx_0), .inl (false, 64, fx_fill 64 20 (fx_0)), .inl (false, 10, fx_fill 10 (-1) (fx_0)), .inr (0, [.int 10, .int 0, .int 0, .int 0, .int 0, .int 1, .int 0, .ref 12, .ref 13, .ref 14, .ref 15]), .inl (false, 6, fx_fill 6 1 (fx_0)), .inl (false, 48, fx_0), .inl (false, 64, fx_0), .inl (false, 10, fx_0)]
def hk_43 : aw_H := [.inr (4, [.ref 1, .ref 6, .null, .int 0, .null, .null, .null, .null]), .inr (0, [.int 10, .int 0, .int 0, .int 0, .int 0, .int 1, .int 0, .ref 2, .ref 3, .ref 4, .ref 5]), .inl (false, 6, fx_fill 6 1 (fx_0)), .inl (false, 48, fx_0), .inl (false, 64, fx_fill 64 20 (fx_0)), .inl (false, 10, fx_fill 10 (-1) (fx_0)), .inr (0, [.int 10, .int 0, .int 0, .int 0, .int 0, .int 1, .int 0, .ref 7, .ref 8, .ref 9, .ref 10]), .inl (false, 6, fx_fill 6 1 (fx_0)), .inl (false, 48, fx_0), .inl (false, 64, fx_fill 64 20 (fx_0)), .inl (false, 10, fx_fill 10 (-1) (fx_0)), .inr (0, [.int 10, .int 0, .int 0, .int 0, .int 0, .int 1, .int 0, .ref 12, .ref 13, .ref 14, .ref 15]), .inl (false, 6, fx_fill 6 1 (fx_0)), .inl (false, 48, fx_0), .inl (false, 64, fx_fill 64 20 (fx_0)), .inl (false, 10, fx_0)]
def hk_44 : aw_H := [.inr (4, [.ref 1, .ref 6, .null, .int 0, .null, .null, .null, .null]), .inr (0, [.int 10, .int 0, .int 0, .int 0, .int 0, .int 1, .int 0, .ref 2, .ref 3, .ref 4, .ref 5]), .inl (false, 6, fx_fill 6 1 (fx_0)), .inl (false, 48, fx_0), .inl (false, 64, fx_fill 64 20 (fx_0)), .inl (false, 10, fx_fill 10 (-1) (fx_0)), .inr (0, [.int 10, .int 0, .int 0, .int 0, .int 0, .int 1, .int 0, .ref 7, .ref 8, .ref 9, .ref 10]), .inl (false, 6, fx_fill 6 1 (fx_0)), .inl (false, 48, fx_0), .inl (false, 64, fx_fill 64 20 (fx_0)), .inl (false, 10, fx_fill 10 (-1) (fx_0)), .inr (0, [.int 10, .int 0, .int 0, .int 0, .int 0, .int 1, .int 0, .ref 12, .ref 13, .ref 14, .ref 15]), .inl (false, 6, fx_fill 6 1 (fx_0)), .inl (false, 48, fx_0), .inl (false, 64, fx_fill 64 20 (fx_0)), .inl (false, 10, fx_fill 10 (-1) (fx_0))]
