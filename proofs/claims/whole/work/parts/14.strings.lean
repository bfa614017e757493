/-! ===== words: String constants at 1010 and on, their bytes at 1030 and on ===== -/
def fs_n (w : Nat) : Nat := aw_sl.getD (w - 1010) 0
def fs_row (w : Nat) (j : Nat) : Int32 := (aw_sb.getD (w - 1010) []).getD j 0
def fk_W {α : Type} (w : Nat) (k : Option α) : Option α := if 1010 ≤ w ∧ w < 1023 then k else none
theorem af_W {cx : aw_C} {α : Type} {ρ : α → Option Value × aw_H} {pc : Nat} {lv : List (Option Value)} {st : List Value} {h : aw_H} {w : Nat} {f : Option α} (k : hp_W w → af cx ρ pc lv st h f) : af cx ρ pc lv st h (fk_W w f) := by
  unfold fk_W
  exact af_ite k (fun _ => af_none)
theorem aw_ad {X : aw_X} {ad : Nat → Nat} (hS : aw_S X ad) {w : Nat} (h : 1000 ≤ w) : aw_v ad (.ref w) = .ref (X.2.2.2.1 w) := by show Value.ref (ad w) = _; rw [hS _ h]
theorem hp_W.ix {w : Nat} (h : hp_W w) : ∃ j, j < 13 ∧ w = 1010 + j := ⟨w - 1010, by unfold hp_W at h; omega, by unfold hp_W at h; omega⟩
theorem fs_n_at (j : Nat) : fs_n (1010 + j) = aw_sl.getD j 0 := by unfold fs_n; rw [Nat.add_sub_cancel_left]
theorem fs_row_at (j : Nat) : fs_row (1010 + j) = fun i => (aw_sb.getD j []).getD i 0 := by funext i; unfold fs_row; rw [Nat.add_sub_cancel_left]
theorem af_ldcS {cx : aw_C} {cc : ByteArray}  {rm : Room} (K : aw_K cx cc "TwoWheel$Reader" rm) {α : Type} {ρ : α → Option Value × aw_H} {pc : Nat} {lv : List (Option Value)} {st : List Value} {h : aw_H} {f : Option α} (j : Nat) {x : Nat × String} (hx : aw_sk[j]? = some x) (n : Nat) (d : decode cc pc = .ok (.ldc x.1, 2)) (hn : pc + 2 = n) (k : af cx ρ n lv (.ref (1010 + j) :: st) h f) : af cx ρ pc lv st h f := by
  obtain ⟨p, l, e, R, s, m, args, below, meth, c, Q, A, cells, slots, X, nL, Ad⟩ := cx
  subst hn
  intro q hq hr ad H locs ls h1 h2 h3 h4 h5
  have hj : j < 13 := (List.getElem?_eq_some_iff.mp hx).1
  have hR := K.2.2.2.2.2.1.2.2.2.2.2.2.2.1 j hj
  rw [List.getD_eq_getElem?_getD, hx] at hR
  have hS : aw_S X ad := K.2.2.2.2.2.2.2.2.2.2.2 ad h1
  refine va_ldcS K.1 K.2.1 K.2.2.2.1 hR d ?_
  have g := k q hq hr ad H locs ls h1 h2 h3 h4 h5
  rw [List.map_cons, aw_ad hS (by omega)] at g
  exact g
theorem af_getW {cx : aw_C} {cc : ByteArray} {own : String} {rm : Room} (K : aw_K cx cc own rm) {α : Type} {ρ : α → Option Value × aw_H} {pc : Nat} {lv : List (Option Value)} {st : List Value} {h : aw_H} {f : Option α} {idx w : Nat} (n : Nat) (d : decode cc pc = .ok (.getfield idx, 3)) (hn : pc + 3 = n) (lk : Jvm.Cond.fieldLink own idx "java/lang/String" "value" "[B" ∈ aw_tb) (hw : hp_W w) (k : af cx ρ n lv (.ref (w + 20) :: st) h f) : af cx ρ pc lv (.ref w :: st) h f := by
  obtain ⟨p, l, e, R, s, m, args, below, meth, c, Q, A, cells, slots, X, nL, Ad⟩ := cx
  subst hn
  intro q hq hr ad H locs ls h1 h2 h3 h4 h5
  obtain ⟨j, hj, rfl⟩ := hw.ix
  have hS : aw_S X ad := K.2.2.2.2.2.2.2.2.2.2.2 ad h1
  have hE := (K.2.2.2.2.2.1.2.2.2.2.2.2.2.2.1.1 j hj).2.2.1
  rw [List.map_cons, aw_ad hS (by omega)]
  refine vk_getf K.1 K.2.1 hE h4 K.2.2.2.1 (K.2.2.2.2.1 _ lk) (fun _ h9 => h9) d ?_
  have g := k q hq hr ad H locs ls h1 h2 h3 h4 h5
  rw [List.map_cons, aw_ad hS (by omega), show 1010 + j + 20 = 1030 + j by omega] at g
  exact g
theorem af_getWc {cx : aw_C} {cc : ByteArray} {own : String} {rm : Room} (K : aw_K cx cc own rm) {α : Type} {ρ : α → Option Value × aw_H} {pc : Nat} {lv : List (Option Value)} {st : List Value} {h : aw_H} {f : Option α} {idx w : Nat} (n : Nat) (d : decode cc pc = .ok (.getfield idx, 3)) (hn : pc + 3 = n) (lk : Jvm.Cond.fieldLink own idx "java/lang/String" "coder" "B" ∈ aw_tb) (hw : hp_W w) (k : af cx ρ n lv (.int 0 :: st) h f) : af cx ρ pc lv (.ref w :: st) h f := by
  obtain ⟨p, l, e, R, s, m, args, below, meth, c, Q, A, cells, slots, X, nL, Ad⟩ := cx
  subst hn
  intro q hq hr ad H locs ls h1 h2 h3 h4 h5
  obtain ⟨j, hj, rfl⟩ := hw.ix
  have hS : aw_S X ad := K.2.2.2.2.2.2.2.2.2.2.2 ad h1
  have hE := (K.2.2.2.2.2.1.2.2.2.2.2.2.2.2.1.1 j hj).2.1
  rw [List.map_cons, aw_ad hS (by omega)]
  refine vk_getf K.1 K.2.1 hE h4 K.2.2.2.1 (K.2.2.2.2.1 _ lk) (fun _ h9 => h9) d ?_
  have g := k q hq hr ad H locs ls h1 h2 h3 h4 h5
  exact g
theorem af_lenW {cx : aw_C} {cc : ByteArray} {own : String} {rm : Room} (K : aw_K cx cc own rm) {α : Type} {ρ : α → Option Value × aw_H} {pc : Nat} {lv : List (Option Value)} {st : List Value} {h : aw_H} {f : Option α} {w : Nat} (hw : hp_W w) (n : Nat) (d : decode cc pc = .ok (.arraylength, 1)) (hn : pc + 1 = n) (k : af cx ρ n lv (.int (Int32.ofNat (fs_n w)) :: st) h f) : af cx ρ pc lv (.ref (w + 20) :: st) h f := by
  obtain ⟨p, l, e, R, s, m, args, below, meth, c, Q, A, cells, slots, X, nL, Ad⟩ := cx
  subst hn
  intro q hq hr ad H locs ls h1 h2 h3 h4 h5
  obtain ⟨j, hj, rfl⟩ := hw.ix
  have hS : aw_S X ad := K.2.2.2.2.2.2.2.2.2.2.2 ad h1
  have hT := (K.2.2.2.2.2.1.2.2.2.2.2.2.2.2.1.1 j hj).2.2.2
  rw [List.map_cons, aw_ad hS (by omega), show 1010 + j + 20 = 1030 + j by omega]
  exact va_tlen K.1 K.2.1 hT h4 (by rw [fs_n_at]) d (k q hq hr ad H locs ls h1 h2 h3 h4 h5)
theorem af_baldW {cx : aw_C} {cc : ByteArray} {own : String} {rm : Room} (K : aw_K cx cc own rm) {α : Type} {ρ : α → Option Value × aw_H} {pc : Nat} {lv : List (Option Value)} {st : List Value} {h : aw_H} {kf : Int32 → Option α} {w : Nat} {i : Int32} (hw : hp_W w) (n : Nat) (d : decode cc pc = .ok (.baload, 1)) (hn : pc + 1 = n) (k : ∀ x, af cx ρ n lv (.int x :: st) h (kf x)) : af cx ρ pc lv (.int i :: .ref (w + 20) :: st) h (fk_A (fs_row w) (fs_n w) i kf) := by
  obtain ⟨p, l, e, R, s, m, args, below, meth, c, Q, A, cells, slots, X, nL, Ad⟩ := cx
  subst hn
  intro q hq hr ad H locs ls h1 h2 h3 h4 h5
  obtain ⟨j, hj, rfl⟩ := hw.ix
  have hS : aw_S X ad := K.2.2.2.2.2.2.2.2.2.2.2 ad h1
  have hT := (K.2.2.2.2.2.1.2.2.2.2.2.2.2.2.1.1 j hj).2.2.2
  unfold fk_A at hq
  rw [fs_n_at, fs_row_at] at hq
  by_cases hi : i < 0 ∨ aw_sl.getD j 0 ≤ i.toNatClampNeg
  · rw [if_pos hi] at hq; cases hq
  · rw [if_neg hi] at hq
    rw [List.map_cons, List.map_cons, aw_ad hS (by omega), show 1010 + j + 20 = 1030 + j by omega]
    exact va_tb K.1 K.2.1 hT h4 hi rfl d (k _ q hq hr ad H locs ls h1 h2 h3 h4 h5)
theorem af_getsC {cx : aw_C} {cc : ByteArray} {own : String} {rm : Room} (K : aw_K cx cc own rm) {α : Type} {ρ : α → Option Value × aw_H} {pc : Nat} {lv : List (Option Value)} {st : List Value} {h : aw_H} {f : Option α} {idx : Nat} (n : Nat) (d : decode cc pc = .ok (.getstatic idx, 3)) (hn : pc + 3 = n) (lk : Jvm.Cond.fieldLink own idx "java/lang/String" "COMPACT_STRINGS" "Z" ∈ aw_tb) (k : af cx ρ n lv (.int 1 :: st) h f) : af cx ρ pc lv st h f := by
  obtain ⟨p, l, e, R, s, m, args, below, meth, c, Q, A, cells, slots, X, nL, Ad⟩ := cx
  subst hn
  intro q hq hr ad H locs ls h1 h2 h3 h4 h5
  exact va_gets K.1 K.2.1 K.2.2.2.2.2.1.2.2.2.2.2.1 h4 K.2.2.2.1 (K.2.2.2.2.1 _ lk) (fun _ h9 => h9) d (k q hq hr ad H locs ls h1 h2 h3 h4 h5)
theorem af_getsF {cx : aw_C} {cc : ByteArray} {own : String} {rm : Room} (K : aw_K cx cc own rm) {α : Type} {ρ : α → Option Value × aw_H} {pc : Nat} {lv : List (Option Value)} {st : List Value} {h : aw_H} {f : Option α} {idx : Nat} (n : Nat) (d : decode cc pc = .ok (.getstatic idx, 3)) (hn : pc + 3 = n) (lk : Jvm.Cond.fieldLink own idx "jdk/internal/util/Preconditions" "SIOOBE_FORMATTER" "Ljava/util/function/BiFunction;" ∈ aw_tb) (k : af cx ρ n lv ((aw_xX cx).2.2.2.2 :: st) h f) : af cx ρ pc lv st h f := by
  obtain ⟨p, l, e, R, s, m, args, below, meth, c, Q, A, cells, slots, X, nL, Ad⟩ := cx
  subst hn
  intro q hq hr ad H locs ls h1 h2 h3 h4 h5
  have hS : aw_S X ad := K.2.2.2.2.2.2.2.2.2.2.2 ad h1
  have hf := K.2.2.2.2.2.1.2.2.2.2.2.2.2.2.2
  have g := k q hq hr ad H locs ls h1 h2 h3 h4 h5
  refine va_gets K.1 K.2.1 K.2.2.2.2.2.1.2.2.2.2.2.2.1 h4 K.2.2.2.1 (K.2.2.2.2.1 _ lk) (fun _ h9 => h9) d ?_
  have ee : aw_v ad X.2.2.2.2 = aw_v X.2.2.2.1 X.2.2.2.2 := by
    rcases hf with e1 | e1
    · rw [e1]; rfl
    · rw [e1, aw_ad hS (by omega)]; rfl
  rw [← ee]
  exact g
theorem aw_fm {cx : aw_C} {cc : ByteArray} {own : String} {rm : Room} (K : aw_K cx cc own rm) : (aw_xX cx).2.2.2.2 = .null ∨ (aw_xX cx).2.2.2.2 = .ref 1050 := by
  obtain ⟨p, l, e, R, s, m, args, below, meth, c, Q, A, cells, slots, X, nL, Ad⟩ := cx
  exact K.2.2.2.2.2.1.2.2.2.2.2.2.2.2.2
theorem af_callW {cx : aw_C} {cc : ByteArray} {own : String} {rm : Room} (K : aw_K cx cc own rm) {α : Type} {ρ : α → Option Value × aw_H} {pc : Nat} {lv : List (Option Value)} {st : List Value} {h : aw_H} {β : Type} {ρ' : β → Option Value × aw_H} {f : Option β} {kf : β → Option α} {idx np : Nat} {M : aw_M} {vs : List Value} {b : Nat} (V : aw_mV M np) (lk : Jvm.Cond.methodLink own idx M.1 ∈ aw_tb) (hb2 : hp_W b) (hcl : M.1.cls = "java/lang/String") (n : Nat) (d : decode cc pc = .ok (.invokevirtual idx, 3)) (hn : pc + 3 = n) (hl : vs.length = np) (hcat : Nat.ble (st.map fun v => v.category).sum 8 = true) (hfit : aw_fit M rm = true) (G : af_G (aw_xX cx) (aw_xl cx) M (.ref b :: vs) h ρ' f) {stk : List Value} (hs : stk = vs.reverse ++ .ref b :: st) (k : ∀ q1, af cx ρ n lv ((ρ' q1).1.toList ++ st) (ρ' q1).2 (kf q1)) : af cx ρ pc lv stk h (f.bind kf) := by
  subst hs
  obtain ⟨p, l, e, R, s, m, args, below, meth, c, Q, A, cells, slots, X, nL, Ad⟩ := cx
  subst hn
  intro q hq hr ad H locs ls h1 h2 h3 h4 h5
  obtain ⟨q1, hf1, hk1⟩ := Option.bind_eq_some_iff.mp hq
  obtain ⟨hx, hb, hml, hown, hts, hSX, hA, hlk, hR, hc0, hs0, hAd⟩ := K
  subst hR
  have hM := G q1 hf1 ad H.size (hAd ad h1)
  have hF : ∀ q, va_A (aw_w X ad h) H.size q → A q := aw_freeA h3 h4 hA
  have hrecv : ∃ cell : Cell, H[ad b]? = some cell ∧ cell.vm.isStatics = false ∧ s.vm.findClass M.1.cls = some cell.cls := by
    obtain ⟨j, hj, rfl⟩ := hb2.ix
    rw [hcl, hAd ad h1 _ (by omega : 1000 ≤ 1010 + j)]
    exact vk_recv (adK := fun j => X.2.2.2.1 (1010 + j)) (i := j) hSX.2.2.2.2.2.2.2.2.1 hj h4
  refine aw_go (A1 := va_A (aw_w X ad h) H.size) (rv := (ρ' q1).1.map (aw_v ad)) (PT := fun H1 => va_P X.1 aw_cl (aw_w X ad (ρ' q1).2) H1 ∧ va_D (va_A (aw_w X ad h) H.size) (aw_w X ad (ρ' q1).2)) (va_runV (As := vs.map (aw_v ad)) (rest := st.map (aw_v ad)) ⟨hx, hb, hml, hown, hts⟩ hM (cwV np hts (fun w hw => by
    unfold wsV at hw
    rcases List.mem_append.mp hw with hw | hw
    · have hw2 : w ∈ aw_tb := by
        simp only [List.mem_cons, List.not_mem_nil, or_false] at hw
        rcases hw with rfl | rfl | rfl | rfl
        · exact lk
        · exact V.2.1
        · exact V.2.2
        · exact V.1.2.1
      exact ⟨hw2, aw_good _ hw2⟩
    · exact aw_ws_good V.1 w hw) rfl V.1.2.2.1 V.1.2.2.2.1 ⟨rfl, V.1.2.2.2.2⟩ (aw_fit_of hfit)) ⟨aw_blind, hrecv, aw_pre hSX h2 h3 h4 hF⟩ rfl (by rw [List.length_map]; exact hl) h5.1 (by simp [aw_v]) (lv_room (by rw [aw_cats]; exact Nat.le_of_ble_eq_true hcat)) d ⟨hc0, hs0⟩) h4 (fun q _ z => hF q z) hF (fun _ _ _ z => z) (fun H1 locs1 g1 g2 => ?_)
  rw [aw_toList]
  exact k q1 q hk1 hr ad H1 locs1 ls h1 g1.1 (g1.2.weaken (fun _ _ _ z => hF _ z)) g2 h5
theorem af_callW_i {cx : aw_C} {cc : ByteArray} {own : String} {rm : Room} (K : aw_K cx cc own rm) {α : Type} {ρ : α → Option Value × aw_H} {pc : Nat} {lv : List (Option Value)} {st : List Value} {h : aw_H} {f : Option (Int32 × fk_T)} {kf : Int32 × fk_T → Option α} {idx np : Nat} {M : aw_M} {vs : List Value} {b : Nat} (V : aw_mV M np) (lk : Jvm.Cond.methodLink own idx M.1 ∈ aw_tb) (hb2 : hp_W b) (hcl : M.1.cls = "java/lang/String") (n : Nat) (d : decode cc pc = .ok (.invokevirtual idx, 3)) (hn : pc + 3 = n) (hl : vs.length = np) (hcat : Nat.ble (st.map fun v => v.category).sum 8 = true) (hfit : aw_fit M rm = true) (G : af_G (aw_xX cx) (aw_xl cx) M (.ref b :: vs) h ρi f) {stk : List Value} (hs : stk = vs.reverse ++ .ref b :: st) (k : ∀ q1, af cx ρ n lv (.int q1.1 :: st) (hp q1.2) (kf q1)) : af cx ρ pc lv stk h (f.bind kf) := af_callW K V lk hb2 hcl n d hn hl hcat hfit G hs k
theorem af_callW_z {cx : aw_C} {cc : ByteArray} {own : String} {rm : Room} (K : aw_K cx cc own rm) {α : Type} {ρ : α → Option Value × aw_H} {pc : Nat} {lv : List (Option Value)} {st : List Value} {h : aw_H} {f : Option (Bool × fk_T)} {kf : Bool × fk_T → Option α} {idx np : Nat} {M : aw_M} {vs : List Value} {b : Nat} (V : aw_mV M np) (lk : Jvm.Cond.methodLink own idx M.1 ∈ aw_tb) (hb2 : hp_W b) (hcl : M.1.cls = "java/lang/String") (n : Nat) (d : decode cc pc = .ok (.invokevirtual idx, 3)) (hn : pc + 3 = n) (hl : vs.length = np) (hcat : Nat.ble (st.map fun v => v.category).sum 8 = true) (hfit : aw_fit M rm = true) (G : af_G (aw_xX cx) (aw_xl cx) M (.ref b :: vs) h ρz f) {stk : List Value} (hs : stk = vs.reverse ++ .ref b :: st) (k : ∀ q1, af cx ρ n lv (.int (fk_b q1.1) :: st) (hp q1.2) (kf q1)) : af cx ρ pc lv stk h (f.bind kf) := af_callW K V lk hb2 hcl n d hn hl hcat hfit G hs k
def F_J6_bitCount_0f7a4 (x0 : Int32) (σ : fk_T) : Option (Int32 × fk_T) := fk_B (x0 - (((x0.toUInt32 >>> ((1 : Int32).toUInt32 &&& Int32.toUInt32 31)).toInt32) &&& 1431655765)) (fun y1 => fk_B ((y1 &&& 858993459) + (((y1.toUInt32 >>> ((2 : Int32).toUInt32 &&& Int32.toUInt32 31)).toInt32) &&& 858993459)) (fun y2 => fk_B ((y2 + ((y2.toUInt32 >>> ((4 : Int32).toUInt32 &&& Int32.toUInt32 31)).toInt32)) &&& 252645135) (fun y3 => fk_B (y3 + ((y3.toUInt32 >>> ((8 : Int32).toUInt32 &&& Int32.toUInt32 31)).toInt32)) (fun y4 => fk_B (y4 + ((y4.toUInt32 >>> ((16 : Int32).toUInt32 &&& Int32.toUInt32 31)).toInt32)) (fun y5 => some ((y5 &&& 63), σ))))))
set_option maxRecDepth 100000 in
set_option maxHeartbeats 4000000 in
theorem A_J6_bitCount_0f7a4 (X : aw_X) (l : Launch) (x0 : Int32) (σ : fk_T) : af_G X l mJ6_bitCount_0f7a4 [.int x0] (hp σ) ρi (F_J6_bitCount_0f7a4 x0 σ) := by
  refine af_mk (by decide) rfl (fun q _ => aw_oki q) [some (.int x0)] rfl ?_
  rintro cx rfl rfl hN K
  replace hN : aw_nL cx = 1 := hN
  replace K : aw_K cx cJ6_bitCount_0f7a4 RJ6 rJ6_bitCount_0f7a4 := K
  unfold F_J6_bitCount_0f7a4
  refine af_iload_n K 1 dJ6_bitCount_0f7a4_0 rfl rfl ?_
  refine af_iload_n K 2 dJ6_bitCount_0f7a4_1 rfl rfl ?_
  refine af_iconst K 3 dJ6_bitCount_0f7a4_2 rfl cs_iconst_1 ?_
  refine af_iushr K 4 dJ6_bitCount_0f7a4_3 rfl ?_
  refine af_ldcw K 7 dJ6_bitCount_0f7a4_4 rfl lk_378 ?_
  refine af_iand K 8 dJ6_bitCount_0f7a4_7 rfl ?_
  refine af_isub K 9 dJ6_bitCount_0f7a4_8 rfl ?_
  refine af_Bi (fun y1 => ?_)
  refine af_istore_n K 10 [some (.int y1)] dJ6_bitCount_0f7a4_9 rfl (by rw [hN]; exact Nat.le_of_ble_eq_true rfl) rfl ?_
  refine af_iload_n K 11 dJ6_bitCount_0f7a4_10 rfl rfl ?_
  refine af_ldcw K 14 dJ6_bitCount_0f7a4_11 rfl lk_379 ?_
  refine af_iand K 15 dJ6_bitCount_0f7a4_14 rfl ?_
  refine af_iload_n K 16 dJ6_bitCount_0f7a4_15 rfl rfl ?_
  refine af_iconst K 17 dJ6_bitCount_0f7a4_16 rfl cs_iconst_2 ?_
  refine af_iushr K 18 dJ6_bitCount_0f7a4_17 rfl ?_
  refine af_ldcw K 21 dJ6_bitCount_0f7a4_18 rfl lk_379 ?_
  refine af_iand K 22 dJ6_bitCount_0f7a4_21 rfl ?_
  refine af_iadd K 23 dJ6_bitCount_0f7a4_22 rfl ?_
  refine af_Bi (fun y2 => ?_)
  refine af_istore_n K 24 [some (.int y2)] dJ6_bitCount_0f7a4_23 rfl (by rw [hN]; exact Nat.le_of_ble_eq_true rfl) rfl ?_
  refine af_iload_n K 25 dJ6_bitCount_0f7a4_24 rfl rfl ?_
  refine af_iload_n K 26 dJ6_bitCount_0f7a4_25 rfl rfl ?_
  refine af_iconst K 27 dJ6_bitCount_0f7a4_26 rfl cs_iconst_4 ?_
  refine af_iushr K 28 dJ6_bitCount_0f7a4_27 rfl ?_
  refine af_iadd K 29 dJ6_bitCount_0f7a4_28 rfl ?_
  refine af_ldcw K 32 dJ6_bitCount_0f7a4_29 rfl lk_380 ?_
  refine af_iand K 33 dJ6_bitCount_0f7a4_32 rfl ?_
  refine af_Bi (fun y3 => ?_)
  refine af_istore_n K 34 [some (.int y3)] dJ6_bitCount_0f7a4_33 rfl (by rw [hN]; exact Nat.le_of_ble_eq_true rfl) rfl ?_
  refine af_iload_n K 35 dJ6_bitCount_0f7a4_34 rfl rfl ?_
  refine af_iload_n K 36 dJ6_bitCount_0f7a4_35 rfl rfl ?_
  refine af_bipush K 38 dJ6_bitCount_0f7a4_36 rfl cs_bipush_8 ?_
  refine af_iushr K 39 dJ6_bitCount_0f7a4_38 rfl ?_
  refine af_iadd K 40 dJ6_bitCount_0f7a4_39 rfl ?_
  refine af_Bi (fun y4 => ?_)
  refine af_istore_n K 41 [some (.int y4)] dJ6_bitCount_0f7a4_40 rfl (by rw [hN]; exact Nat.le_of_ble_eq_true rfl) rfl ?_
  refine af_iload_n K 42 dJ6_bitCount_0f7a4_41 rfl rfl ?_
  refine af_iload_n K 43 dJ6_bitCount_0f7a4_42 rfl rfl ?_
  refine af_bipush K 45 dJ6_bitCount_0f7a4_43 rfl cs_bipush_16 ?_
  refine af_iushr K 46 dJ6_bitCount_0f7a4_45 rfl ?_
  refine af_iadd K 47 dJ6_bitCount_0f7a4_46 rfl ?_
  refine af_Bi (fun y5 => ?_)
  refine af_istore_n K 48 [some (.int y5)] dJ6_bitCount_0f7a4_47 rfl (by rw [hN]; exact Nat.le_of_ble_eq_true rfl) rfl ?_
  refine af_iload_n K 49 dJ6_bitCount_0f7a4_48 rfl rfl ?_
  refine af_bipush K 51 dJ6_bitCount_0f7a4_49 rfl cs_bipush_63 ?_
  refine af_iand K 52 dJ6_bitCount_0f7a4_51 rfl ?_
  exact af_reti K dJ6_bitCount_0f7a4_52
def F_J3_checkIndex_8e157 (x0 : Int32) (x1 : Int32) (σ : fk_T) : Option (Int32 × fk_T) := if x0 < 0 then (none) else (if x0 < x1 then (some (x0, σ)) else (none))
set_option maxRecDepth 100000 in
set_option maxHeartbeats 4000000 in
theorem A_J3_checkIndex_8e157 (X : aw_X) (l : Launch) (x0 : Int32) (x1 : Int32) (u : Value) (hu : u = .null ∨ u = .ref 1050) (σ : fk_T) : af_G X l mJ3_checkIndex_8e157 [.int x0, .int x1, u] (hp σ) ρi (F_J3_checkIndex_8e157 x0 x1 σ) := by
  rcases hu with rfl | rfl
  · refine af_mk (by decide) rfl (fun q _ => aw_oki q) [some (.int x0), some (.int x1), some (.null)] rfl ?_
    rintro cx rfl rfl hN K
    replace hN : aw_nL cx = 3 := hN
    replace K : aw_K cx cJ3_checkIndex_8e157 RJ3 rJ3_checkIndex_8e157 := K
    unfold F_J3_checkIndex_8e157
    refine af_iload_n K 1 dJ3_checkIndex_8e157_0 rfl rfl ?_
    refine af_if_lt K 4 9 dJ3_checkIndex_8e157_1 rfl rfl (fun _ => ?_) (fun _ => ?_)
    · exact af_none
    · refine af_iload_n K 5 dJ3_checkIndex_8e157_4 rfl rfl ?_
      refine af_iload_n K 6 dJ3_checkIndex_8e157_5 rfl rfl ?_
      refine af_icmp_lt K 9 16 dJ3_checkIndex_8e157_6 rfl rfl (fun _ => ?_) (fun _ => ?_)
      · refine af_iload_n K 17 dJ3_checkIndex_8e157_16 rfl rfl ?_
        exact af_reti K dJ3_checkIndex_8e157_17
      · exact af_none
  · refine af_mk (by decide) rfl (fun q _ => aw_oki q) [some (.int x0), some (.int x1), some (.ref 1050)] rfl ?_
    rintro cx rfl rfl hN K
    replace hN : aw_nL cx = 3 := hN
    replace K : aw_K cx cJ3_checkIndex_8e157 RJ3 rJ3_checkIndex_8e157 := K
    unfold F_J3_checkIndex_8e157
    refine af_iload_n K 1 dJ3_checkIndex_8e157_0 rfl rfl ?_
    refine af_if_lt K 4 9 dJ3_checkIndex_8e157_1 rfl rfl (fun _ => ?_) (fun _ => ?_)
    · exact af_none
    · refine af_iload_n K 5 dJ3_checkIndex_8e157_4 rfl rfl ?_
      refine af_iload_n K 6 dJ3_checkIndex_8e157_5 rfl rfl ?_
      refine af_icmp_lt K 9 16 dJ3_checkIndex_8e157_6 rfl rfl (fun _ => ?_) (fun _ => ?_)
      · refine af_iload_n K 17 dJ3_checkIndex_8e157_16 rfl rfl ?_
        exact af_reti K dJ3_checkIndex_8e157_17
      · exact af_none
def F_J0_checkIndex_df160 (x0 : Int32) (x1 : Int32) (σ : fk_T) : Option (fk_T) := (F_J3_checkIndex_8e157 x0 x1 σ).bind (fun q1 => some q1.2)
set_option maxRecDepth 100000 in
set_option maxHeartbeats 4000000 in
theorem A_J0_checkIndex_df160 (X : aw_X) (l : Launch) (x0 : Int32) (x1 : Int32) (σ : fk_T) : af_G X l mJ0_checkIndex_df160 [.int x0, .int x1] (hp σ) ρv (F_J0_checkIndex_df160 x0 x1 σ) := by
  refine af_mk (by decide) rfl (fun q _ => aw_okv q) [some (.int x0), some (.int x1)] rfl ?_
  rintro cx rfl rfl hN K
  replace hN : aw_nL cx = 2 := hN
  replace K : aw_K cx cJ0_checkIndex_df160 RJ0 rJ0_checkIndex_df160 := K
  unfold F_J0_checkIndex_df160
  refine af_iload_n K 1 dJ0_checkIndex_df160_0 rfl rfl ?_
  refine af_iload_n K 2 dJ0_checkIndex_df160_1 rfl rfl ?_
  refine af_getsF K 5 dJ0_checkIndex_df160_2 rfl lk_534 ?_
  refine af_callS_i K (vs := [.int x0, .int x1, (aw_xX cx).2.2.2.2]) ms_J3_checkIndex_8e157 lk_536 8 dJ0_checkIndex_df160_5 rfl rfl rfl rfl (A_J3_checkIndex_8e157 _ _ x0 x1 (aw_xX cx).2.2.2.2 (aw_fm K) σ) rfl (fun q1 => ?_)
  refine af_pop K 9 dJ0_checkIndex_df160_8 rfl rfl ?_
  exact af_retv K dJ0_checkIndex_df160_9
def F_J0_coder_7d493 (w : Nat) (σ : fk_T) : Option (Int32 × fk_T) := if (1 : Int32) = 0 then (some (1, σ)) else (some (0, σ))
set_option maxRecDepth 100000 in
set_option maxHeartbeats 4000000 in
theorem A_J0_coder_7d493 (X : aw_X) (l : Launch) (w : Nat) (hw : hp_W w) (σ : fk_T) : af_G X l mJ0_coder_7d493 [.ref w] (hp σ) ρi (F_J0_coder_7d493 w σ) := by
  refine af_mk (by decide) rfl (fun q hq => by unfold F_J0_coder_7d493 at hq; rw [if_neg (by decide)] at hq; cases hq; exact Or.inr (Or.inr (Or.inr (Or.inl ⟨.byte, 0, rfl, rfl, rfl⟩)))) [some (.ref w)] rfl ?_
  rintro cx rfl rfl hN K
  replace hN : aw_nL cx = 1 := hN
  replace K : aw_K cx cJ0_coder_7d493 RJ0 rJ0_coder_7d493 := K
  unfold F_J0_coder_7d493
  refine af_getsC K 3 dJ0_coder_7d493_0 rfl lk_518 ?_
  refine af_if_eq K 6 13 dJ0_coder_7d493_3 rfl rfl (fun _ => ?_) (fun _ => ?_)
  · refine af_iconst K 14 dJ0_coder_7d493_13 rfl cs_iconst_1 ?_
    exact af_reti K dJ0_coder_7d493_14
  · refine af_aload_n K 7 dJ0_coder_7d493_6 rfl rfl ?_
    refine af_getWc K 10 dJ0_coder_7d493_7 rfl lk_1154 hw ?_
    refine af_goto K 14 dJ0_coder_7d493_10 rfl ?_
    exact af_reti K dJ0_coder_7d493_14
def F_J0_isLatin1_aae02 (w : Nat) (σ : fk_T) : Option (Bool × fk_T) := if (1 : Int32) = 0 then (some (false, σ)) else (if (0 : Int32) = 0 then (some (true, σ)) else (some (false, σ)))
set_option maxRecDepth 100000 in
set_option maxHeartbeats 4000000 in
theorem A_J0_isLatin1_aae02 (X : aw_X) (l : Launch) (w : Nat) (hw : hp_W w) (σ : fk_T) : af_G X l mJ0_isLatin1_aae02 [.ref w] (hp σ) ρz (F_J0_isLatin1_aae02 w σ) := by
  refine af_mk (by decide) rfl (fun q _ => aw_okz q) [some (.ref w)] rfl ?_
  rintro cx rfl rfl hN K
  replace hN : aw_nL cx = 1 := hN
  replace K : aw_K cx cJ0_isLatin1_aae02 RJ0 rJ0_isLatin1_aae02 := K
  unfold F_J0_isLatin1_aae02
  refine af_getsC K 3 dJ0_isLatin1_aae02_0 rfl lk_518 ?_
  refine af_if_eq K 6 17 dJ0_isLatin1_aae02_3 rfl rfl (fun _ => ?_) (fun _ => ?_)
  · refine af_iconst K 18 dJ0_isLatin1_aae02_17 rfl cs_iconst_0 ?_
    exact af_retz K rfl dJ0_isLatin1_aae02_18
  · refine af_aload_n K 7 dJ0_isLatin1_aae02_6 rfl rfl ?_
    refine af_getWc K 10 dJ0_isLatin1_aae02_7 rfl lk_1154 hw ?_
    refine af_if_ne K 13 17 dJ0_isLatin1_aae02_10 rfl rfl (fun _ => ?_) (fun _ => ?_)
    · refine af_iconst K 18 dJ0_isLatin1_aae02_17 rfl cs_iconst_0 ?_
      exact af_retz K rfl dJ0_isLatin1_aae02_18
    · refine af_iconst K 14 dJ0_isLatin1_aae02_13 rfl cs_iconst_1 ?_
      refine af_goto K 18 dJ0_isLatin1_aae02_14 rfl ?_
      exact af_retz K rfl dJ0_isLatin1_aae02_18
def F_J0_length_8abf5 (w : Nat) (σ : fk_T) : Option (Int32 × fk_T) := (F_J0_coder_7d493 w σ).bind (fun q1 => some (((Int32.ofNat (fs_n w)) >>> (q1.1 &&& 31)), q1.2))
set_option maxRecDepth 100000 in
set_option maxHeartbeats 4000000 in
theorem A_J0_length_8abf5 (X : aw_X) (l : Launch) (w : Nat) (hw : hp_W w) (σ : fk_T) : af_G X l mJ0_length_8abf5 [.ref w] (hp σ) ρi (F_J0_length_8abf5 w σ) := by
  refine af_mk (by decide) rfl (fun q _ => aw_oki q) [some (.ref w)] rfl ?_
  rintro cx rfl rfl hN K
  replace hN : aw_nL cx = 1 := hN
  replace K : aw_K cx cJ0_length_8abf5 RJ0 rJ0_length_8abf5 := K
  unfold F_J0_length_8abf5
  refine af_aload_n K 1 dJ0_length_8abf5_0 rfl rfl ?_
  refine af_getW K 4 dJ0_length_8abf5_1 rfl lk_1153 hw ?_
  refine af_lenW K hw 5 dJ0_length_8abf5_4 rfl ?_
  refine af_aload_n K 6 dJ0_length_8abf5_5 rfl rfl ?_
  refine af_callW_i K (b := w) (vs := []) mv_J0_coder_7d493 lk_514 hw rfl 9 dJ0_length_8abf5_6 rfl rfl rfl rfl (A_J0_coder_7d493 _ _ w hw σ) rfl (fun q1 => ?_)
  refine af_ishr K 10 dJ0_length_8abf5_9 rfl ?_
  exact af_reti K dJ0_length_8abf5_10
def F_J1_charAt_3b067 (w : Nat) (x1 : Int32) (σ : fk_T) : Option (Int32 × fk_T) := (F_J0_checkIndex_df160 x1 (Int32.ofNat (fs_n w)) σ).bind (fun q1 => fk_A (fs_row w) (fs_n w) x1 (fun y2 => some ((((y2 &&& 255).toUInt32 % 65536).toInt32), q1)))
theorem cr_j1 {w : Nat} {x1 : Int32} {σ : fk_T} {q : Int32 × fk_T} (hq : F_J1_charAt_3b067 w x1 σ = some q) : aw_rok (some .char) (ρi q).1 := by
  unfold F_J1_charAt_3b067 at hq
  obtain ⟨q1, -, hq⟩ := Option.bind_eq_some_iff.mp hq
  unfold fk_A at hq
  split at hq
  · cases hq
  · cases hq
    exact Or.inr (Or.inr (Or.inr (Or.inl ⟨.char, _, rfl, rfl, pk_nc _⟩)))
set_option maxRecDepth 100000 in
set_option maxHeartbeats 4000000 in
theorem A_J1_charAt_3b067 (X : aw_X) (l : Launch) (w : Nat) (hw : hp_W w) (x1 : Int32) (σ : fk_T) : af_G X l mJ1_charAt_3b067 [.ref (w + 20), .int x1] (hp σ) ρi (F_J1_charAt_3b067 w x1 σ) := by
  refine af_mk (by decide) rfl (fun q hq => cr_j1 hq) [some (.ref (w + 20)), some (.int x1)] rfl ?_
  rintro cx rfl rfl hN K
  replace hN : aw_nL cx = 2 := hN
  replace K : aw_K cx cJ1_charAt_3b067 RJ1 rJ1_charAt_3b067 := K
  unfold F_J1_charAt_3b067
  refine af_iload_n K 1 dJ1_charAt_3b067_0 rfl rfl ?_
  refine af_aload_n K 2 dJ1_charAt_3b067_1 rfl rfl ?_
  refine af_lenW K hw 3 dJ1_charAt_3b067_2 rfl ?_
  refine af_callS_v K (vs := [.int x1, .int (Int32.ofNat (fs_n w))]) ms_J0_checkIndex_df160 lk_531 6 dJ1_charAt_3b067_3 rfl rfl rfl rfl (A_J0_checkIndex_df160 _ _ x1 (Int32.ofNat (fs_n w)) σ) rfl (fun q1 => ?_)
  refine af_aload_n K 7 dJ1_charAt_3b067_6 rfl rfl ?_
  refine af_iload_n K 8 dJ1_charAt_3b067_7 rfl rfl ?_
  refine af_baldW K hw 9 dJ1_charAt_3b067_8 rfl (fun y2 => ?_)
  refine af_sipush K 12 dJ1_charAt_3b067_9 rfl cs_sipush_255 ?_
  refine af_iand K 13 dJ1_charAt_3b067_12 rfl ?_
  refine af_i2c K 14 dJ1_charAt_3b067_13 rfl ?_
  exact af_reti K dJ1_charAt_3b067_14
def F_J0_charAt_5068e (w : Nat) (x1 : Int32) (σ : fk_T) : Option (Int32 × fk_T) := (F_J0_isLatin1_aae02 w σ).bind (fun q1 => if (fk_b q1.1) = 0 then (none) else ((F_J1_charAt_3b067 w x1 q1.2).bind (fun q2 => some (q2.1, q2.2))))
theorem cr_j0 {w : Nat} {x1 : Int32} {σ : fk_T} {q : Int32 × fk_T} (hq : F_J0_charAt_5068e w x1 σ = some q) : aw_rok (some .char) (ρi q).1 := by
  unfold F_J0_charAt_5068e at hq
  obtain ⟨q1, -, hq⟩ := Option.bind_eq_some_iff.mp hq
  split at hq
  · cases hq
  · obtain ⟨q2, h2, hq⟩ := Option.bind_eq_some_iff.mp hq
    cases hq
    exact cr_j1 h2
set_option maxRecDepth 100000 in
set_option maxHeartbeats 4000000 in
theorem A_J0_charAt_5068e (X : aw_X) (l : Launch) (w : Nat) (hw : hp_W w) (x1 : Int32) (σ : fk_T) : af_G X l mJ0_charAt_5068e [.ref w, .int x1] (hp σ) ρi (F_J0_charAt_5068e w x1 σ) := by
  refine af_mk (by decide) rfl (fun q hq => cr_j0 hq) [some (.ref w), some (.int x1)] rfl ?_
  rintro cx rfl rfl hN K
  replace hN : aw_nL cx = 2 := hN
  replace K : aw_K cx cJ0_charAt_5068e RJ0 rJ0_charAt_5068e := K
  unfold F_J0_charAt_5068e
  refine af_aload_n K 1 dJ0_charAt_5068e_0 rfl rfl ?_
  refine af_callW_z K (b := w) (vs := []) mv_J0_isLatin1_aae02 lk_524 hw rfl 4 dJ0_charAt_5068e_1 rfl rfl rfl rfl (A_J0_isLatin1_aae02 _ _ w hw σ) rfl (fun q1 => ?_)
  refine af_if_eq K 7 16 dJ0_charAt_5068e_4 rfl rfl (fun _ => ?_) (fun _ => ?_)
  · exact af_none
  · refine af_aload_n K 8 dJ0_charAt_5068e_7 rfl rfl ?_
    refine af_getW K 11 dJ0_charAt_5068e_8 rfl lk_1153 hw ?_
    refine af_iload_n K 12 dJ0_charAt_5068e_11 rfl rfl ?_
    refine af_callS_i K (vs := [.ref (w + 20), .int x1]) ms_J1_charAt_3b067 lk_528 15 dJ0_charAt_5068e_12 rfl rfl rfl rfl (A_J1_charAt_3b067 _ _ w hw x1 q1.2) rfl (fun q2 => ?_)
    exact af_reti K dJ0_charAt_5068e_15
