/-! ===== the law ===== -/
def aw_sc (cx : aw_C) (xs : Nat → Int32) (L : Nat) : Prop := match cx with
  | (_, _, _, _, s, _, _, _, _, _, _, A, _, _, X, _, _) => va_X (X.2.2.2.1 1004) L xs s s.heap ∧ X.2.2.2.1 1004 < s.heap.size ∧ ¬ A (X.2.2.2.1 1004)
theorem af_sld {cx : aw_C} {cc : ByteArray} {own : String} {rm : Room} (K : aw_K cx cc own rm) {α : Type} {ρ : α → Option Value × aw_H} {pc : Nat} {lv : List (Option Value)} {st : List Value} {h : aw_H} {kf : Int32 → Option α} {xs : Nat → Int32} {L : Nat} (hX : aw_sc cx xs L) {i : Int32} (n : Nat) (d : decode cc pc = .ok (.iaload, 1)) (hn : pc + 1 = n) (k : ∀ y, af cx ρ n lv (.int y :: st) h (kf y)) : af cx ρ pc lv (.int i :: .ref 1004 :: st) h (fk_A xs L i kf) := by
  obtain ⟨p, l, e, R, s, m, args, below, meth, c, Q, A, cells, slots, X, nL, Ad⟩ := cx
  subst hn
  intro q hq hr ad H locs ls h1 h2 h3 h4 h5
  unfold fk_A at hq
  by_cases hi : i < 0 ∨ L ≤ i.toNatClampNeg
  · rw [if_pos hi] at hq; cases hq
  · rw [if_neg hi] at hq
    have hS : aw_S X ad := K.2.2.2.2.2.2.2.2.2.2.2 ad h1
    rw [List.map_cons, List.map_cons, aw_ad hS (by omega)]
    exact va_sld K.1 K.2.1 hX.1 hX.2.1 hX.2.2 h4 hi d (k _ q hq hr ad H locs ls h1 h2 h3 h4 h5)
theorem af_slen {cx : aw_C} {cc : ByteArray} {own : String} {rm : Room} (K : aw_K cx cc own rm) {α : Type} {ρ : α → Option Value × aw_H} {pc : Nat} {lv : List (Option Value)} {st : List Value} {h : aw_H} {f : Option α} {xs : Nat → Int32} {L : Nat} (hX : aw_sc cx xs L) (n : Nat) (d : decode cc pc = .ok (.arraylength, 1)) (hn : pc + 1 = n) (k : af cx ρ n lv (.int (Int32.ofNat L) :: st) h f) : af cx ρ pc lv (.ref 1004 :: st) h f := by
  obtain ⟨p, l, e, R, s, m, args, below, meth, c, Q, A, cells, slots, X, nL, Ad⟩ := cx
  subst hn
  intro q hq hr ad H locs ls h1 h2 h3 h4 h5
  have hS : aw_S X ad := K.2.2.2.2.2.2.2.2.2.2.2 ad h1
  rw [List.map_cons, aw_ad hS (by omega)]
  exact va_slen K.1 K.2.1 hX.1 hX.2.1 hX.2.2 h4 d (k q hq hr ad H locs ls h1 h2 h3 h4 h5)
abbrev rL_law : Room := room_1
theorem lk_165 : Jvm.Cond.methodLink RL 13 yX4_clay ∈ aw_tb := aw_in 165 (by decide +kernel) rfl
theorem lk_177 : Jvm.Cond.methodLink RL 18 yX4_pair ∈ aw_tb := aw_in 177 (by decide +kernel) rfl
theorem lk_181 : Jvm.Cond.methodLink RL 23 yX4_listed ∈ aw_tb := aw_in 181 (by decide +kernel) rfl
theorem lk_185 : Jvm.Cond.methodLink RL 27 yX4_potter ∈ aw_tb := aw_in 185 (by decide +kernel) rfl
theorem lk_197 : Jvm.Cond.methodLink RL 32 yX4_of ∈ aw_tb := aw_in 197 (by decide +kernel) rfl
theorem lk_224 : Jvm.Cond.methodLink RL 36 yX4_change ∈ aw_tb := aw_in 224 (by decide +kernel) rfl
theorem lk_230 : Jvm.Cond.methodLink RL 40 yX4_rift ∈ aw_tb := aw_in 230 (by decide +kernel) rfl
theorem lk_250 : Jvm.Cond.methodLink RL 44 yX4_two ∈ aw_tb := aw_in 250 (by decide +kernel) rfl
theorem lk_269 : Jvm.Cond.methodLink RL 48 yX4_go ∈ aw_tb := aw_in 269 (by decide +kernel) rfl
theorem lk_308 : Jvm.Cond.methodLink RL 52 yX4_now ∈ aw_tb := aw_in 308 (by decide +kernel) rfl
theorem lk_324 : Jvm.Cond.methodLink RL 56 yX4_ahead ∈ aw_tb := aw_in 324 (by decide +kernel) rfl
theorem lk_335 : Jvm.Cond.methodLink RL 60 yX4_terms ∈ aw_tb := aw_in 335 (by decide +kernel) rfl
theorem lk_339 : Jvm.Cond.methodLink RL 64 yX4_next ∈ aw_tb := aw_in 339 (by decide +kernel) rfl
theorem lk_343 : Jvm.Cond.methodLink RL 68 yX4_peace ∈ aw_tb := aw_in 343 (by decide +kernel) rfl
theorem lk_347 : Jvm.Cond.methodLink RL 72 yX4_when ∈ aw_tb := aw_in 347 (by decide +kernel) rfl
theorem lk_351 : Jvm.Cond.methodLink RL 76 yX4_setWith ∈ aw_tb := aw_in 351 (by decide +kernel) rfl
theorem lk_355 : Jvm.Cond.methodLink RL 80 yX4_heatFor ∈ aw_tb := aw_in 355 (by decide +kernel) rfl
theorem lk_363 : Jvm.Cond.methodLink RL 84 yX4_kindFor ∈ aw_tb := aw_in 363 (by decide +kernel) rfl
theorem lk_367 : Jvm.Cond.methodLink RL 88 yX4_clayFor ∈ aw_tb := aw_in 367 (by decide +kernel) rfl
theorem lk_371 : Jvm.Cond.methodLink RL 92 yX4_reconcile ∈ aw_tb := aw_in 371 (by decide +kernel) rfl
theorem lk_389 : Jvm.Cond.methodLink RL 96 yX4_fits ∈ aw_tb := aw_in 389 (by decide +kernel) rfl
theorem lk_405 : Jvm.Cond.methodLink RL 100 yX4_kinds ∈ aw_tb := aw_in 405 (by decide +kernel) rfl
theorem lk_413 : Jvm.Cond.methodLink RL 104 yX4_market ∈ aw_tb := aw_in 413 (by decide +kernel) rfl
theorem lk_426 : Jvm.Cond.methodLink RL 108 yX4_odds ∈ aw_tb := aw_in 426 (by decide +kernel) rfl
theorem lk_441 : Jvm.Cond.methodLink RL 113 yX4_seed ∈ aw_tb := aw_in 441 (by decide +kernel) rfl
theorem lk_445 : Jvm.Cond.methodLink RL 117 yX4_feed ∈ aw_tb := aw_in 445 (by decide +kernel) rfl
theorem lk_453 : Jvm.Cond.methodLink RL 121 yX4_wipe ∈ aw_tb := aw_in 453 (by decide +kernel) rfl
theorem lk_457 : Jvm.Cond.methodLink RL 126 yX4_text ∈ aw_tb := aw_in 457 (by decide +kernel) rfl
theorem lk_612 : Jvm.Cond.methodLink RL 130 yX4_hold ∈ aw_tb := aw_in 612 (by decide +kernel) rfl
theorem lk_616 : Jvm.Cond.methodLink RL 134 yX4_as ∈ aw_tb := aw_in 616 (by decide +kernel) rfl
theorem lk_625 : Jvm.Cond.methodLink RL 138 yX4_sheet ∈ aw_tb := aw_in 625 (by decide +kernel) rfl
theorem lk_633 : Jvm.Cond.methodLink RL 142 yX4_write ∈ aw_tb := aw_in 633 (by decide +kernel) rfl
theorem lk_644 : Jvm.Cond.methodLink RL 146 yX4_copy ∈ aw_tb := aw_in 644 (by decide +kernel) rfl
theorem lk_657 : Jvm.Cond.methodLink RL 151 yX4_load ∈ aw_tb := aw_in 657 (by decide +kernel) rfl
theorem lk_662 : Jvm.Cond.methodLink RL 155 yX4_judge ∈ aw_tb := aw_in 662 (by decide +kernel) rfl
theorem lk_666 : Jvm.Cond.methodLink RL 159 yX4_image ∈ aw_tb := aw_in 666 (by decide +kernel) rfl
theorem lk_670 : Jvm.Cond.methodLink RL 163 yX4_undo ∈ aw_tb := aw_in 670 (by decide +kernel) rfl
theorem lk_674 : Jvm.Cond.methodLink RL 167 yX4_tear ∈ aw_tb := aw_in 674 (by decide +kernel) rfl
theorem lk_678 : Jvm.Cond.methodLink RL 171 yX4_count ∈ aw_tb := aw_in 678 (by decide +kernel) rfl
theorem lk_686 : Jvm.Cond.methodLink RL 175 yX4_status ∈ aw_tb := aw_in 686 (by decide +kernel) rfl
theorem lk_748 : Jvm.Cond.methodLink RL 17 yX5_clay ∈ aw_tb := aw_in 748 (by decide +kernel) rfl
theorem lk_765 : Jvm.Cond.methodLink RL 22 yX5_pair ∈ aw_tb := aw_in 765 (by decide +kernel) rfl
theorem lk_771 : Jvm.Cond.methodLink RL 26 yX5_listed ∈ aw_tb := aw_in 771 (by decide +kernel) rfl
theorem lk_775 : Jvm.Cond.methodLink RL 31 yX5_potter ∈ aw_tb := aw_in 775 (by decide +kernel) rfl
theorem lk_789 : Jvm.Cond.methodLink RL 35 yX5_of ∈ aw_tb := aw_in 789 (by decide +kernel) rfl
theorem lk_821 : Jvm.Cond.methodLink RL 39 yX5_change ∈ aw_tb := aw_in 821 (by decide +kernel) rfl
theorem lk_828 : Jvm.Cond.methodLink RL 43 yX5_rift ∈ aw_tb := aw_in 828 (by decide +kernel) rfl
theorem lk_839 : Jvm.Cond.methodLink RL 47 yX5_two ∈ aw_tb := aw_in 839 (by decide +kernel) rfl
theorem lk_859 : Jvm.Cond.methodLink RL 51 yX5_go ∈ aw_tb := aw_in 859 (by decide +kernel) rfl
theorem lk_893 : Jvm.Cond.methodLink RL 55 yX5_now ∈ aw_tb := aw_in 893 (by decide +kernel) rfl
theorem lk_905 : Jvm.Cond.methodLink RL 59 yX5_ahead ∈ aw_tb := aw_in 905 (by decide +kernel) rfl
theorem lk_913 : Jvm.Cond.methodLink RL 63 yX5_terms ∈ aw_tb := aw_in 913 (by decide +kernel) rfl
theorem lk_921 : Jvm.Cond.methodLink RL 67 yX5_next ∈ aw_tb := aw_in 921 (by decide +kernel) rfl
theorem lk_929 : Jvm.Cond.methodLink RL 71 yX5_peace ∈ aw_tb := aw_in 929 (by decide +kernel) rfl
theorem lk_933 : Jvm.Cond.methodLink RL 75 yX5_when ∈ aw_tb := aw_in 933 (by decide +kernel) rfl
theorem lk_938 : Jvm.Cond.methodLink RL 79 yX5_setWith ∈ aw_tb := aw_in 938 (by decide +kernel) rfl
theorem lk_945 : Jvm.Cond.methodLink RL 83 yX5_heatFor ∈ aw_tb := aw_in 945 (by decide +kernel) rfl
theorem lk_953 : Jvm.Cond.methodLink RL 87 yX5_kindFor ∈ aw_tb := aw_in 953 (by decide +kernel) rfl
theorem lk_957 : Jvm.Cond.methodLink RL 91 yX5_clayFor ∈ aw_tb := aw_in 957 (by decide +kernel) rfl
theorem lk_961 : Jvm.Cond.methodLink RL 95 yX5_reconcile ∈ aw_tb := aw_in 961 (by decide +kernel) rfl
theorem lk_972 : Jvm.Cond.methodLink RL 99 yX5_fits ∈ aw_tb := aw_in 972 (by decide +kernel) rfl
theorem lk_987 : Jvm.Cond.methodLink RL 103 yX5_kinds ∈ aw_tb := aw_in 987 (by decide +kernel) rfl
theorem lk_991 : Jvm.Cond.methodLink RL 107 yX5_market ∈ aw_tb := aw_in 991 (by decide +kernel) rfl
theorem lk_1000 : Jvm.Cond.methodLink RL 112 yX5_odds ∈ aw_tb := aw_in 1000 (by decide +kernel) rfl
theorem lk_1008 : Jvm.Cond.methodLink RL 116 yX5_seed ∈ aw_tb := aw_in 1008 (by decide +kernel) rfl
theorem lk_1012 : Jvm.Cond.methodLink RL 120 yX5_feed ∈ aw_tb := aw_in 1012 (by decide +kernel) rfl
theorem lk_1017 : Jvm.Cond.methodLink RL 125 yX5_wipe ∈ aw_tb := aw_in 1017 (by decide +kernel) rfl
theorem lk_1021 : Jvm.Cond.methodLink RL 129 yX5_text ∈ aw_tb := aw_in 1021 (by decide +kernel) rfl
theorem lk_1097 : Jvm.Cond.methodLink RL 133 yX5_hold ∈ aw_tb := aw_in 1097 (by decide +kernel) rfl
theorem lk_1102 : Jvm.Cond.methodLink RL 137 yX5_as ∈ aw_tb := aw_in 1102 (by decide +kernel) rfl
theorem lk_1109 : Jvm.Cond.methodLink RL 141 yX5_sheet ∈ aw_tb := aw_in 1109 (by decide +kernel) rfl
theorem lk_1113 : Jvm.Cond.methodLink RL 145 yX5_write ∈ aw_tb := aw_in 1113 (by decide +kernel) rfl
theorem lk_1117 : Jvm.Cond.methodLink RL 150 yX5_copy ∈ aw_tb := aw_in 1117 (by decide +kernel) rfl
theorem lk_1121 : Jvm.Cond.methodLink RL 154 yX5_load ∈ aw_tb := aw_in 1121 (by decide +kernel) rfl
theorem lk_1125 : Jvm.Cond.methodLink RL 158 yX5_judge ∈ aw_tb := aw_in 1125 (by decide +kernel) rfl
theorem lk_1129 : Jvm.Cond.methodLink RL 162 yX5_image ∈ aw_tb := aw_in 1129 (by decide +kernel) rfl
theorem lk_1133 : Jvm.Cond.methodLink RL 166 yX5_undo ∈ aw_tb := aw_in 1133 (by decide +kernel) rfl
theorem lk_1137 : Jvm.Cond.methodLink RL 170 yX5_tear ∈ aw_tb := aw_in 1137 (by decide +kernel) rfl
theorem lk_1141 : Jvm.Cond.methodLink RL 174 yX5_count ∈ aw_tb := aw_in 1141 (by decide +kernel) rfl
theorem lk_1149 : Jvm.Cond.methodLink RL 178 yX5_status ∈ aw_tb := aw_in 1149 (by decide +kernel) rfl
theorem cs_iconst_6 : Int32.ofInt 6 = 6 := by decide
def L_L_law_18  (xs : Nat → Int32) (L : Nat) : Nat → Int32 → fk_T → (Int32 → fk_T → Option (Bool × fk_T)) → Option (Bool × fk_T)
  | 0, _, _, _ => none
  | fu + 1, x3, σ, k => if ((Int32.ofNat L) - 6) < x3 then (k x3 σ) else (fk_A xs L x3 (fun y1 => fk_B (y1 &&& 63) (fun y2 => if y2 = 0 then (fk_A xs L (x3 + 1) (fun y3 => (F_X4_clay y3 σ).bind (fun q4 => fk_A xs L (x3 + 1) (fun y5 => (F_X5_clay y5 q4.2).bind (fun q6 => if q4.1 = q6.1 then (fk_B (x3 + 6) (fun y7 => L_L_law_18 xs L fu y7 q6.2 k)) else (some (false, q6.2))))))) else (if y2 = 1 then (fk_A xs L (x3 + 1) (fun y8 => fk_A xs L (x3 + 2) (fun y9 => fk_A xs L (x3 + 3) (fun y10 => (F_X4_pair y8 y9 y10 σ).bind (fun q11 => fk_A xs L (x3 + 1) (fun y12 => fk_A xs L (x3 + 2) (fun y13 => fk_A xs L (x3 + 3) (fun y14 => (F_X5_pair y12 y13 y14 q11.2).bind (fun q15 => if q11.1 = q15.1 then (fk_B (x3 + 6) (fun y16 => L_L_law_18 xs L fu y16 q15.2 k)) else (some (false, q15.2))))))))))) else (if y2 = 2 then (fk_A xs L (x3 + 1) (fun y17 => (F_X4_listed y17 σ).bind (fun q18 => fk_A xs L (x3 + 1) (fun y19 => (F_X5_listed y19 q18.2).bind (fun q20 => if q18.1 = q20.1 then (fk_B (x3 + 6) (fun y21 => L_L_law_18 xs L fu y21 q20.2 k)) else (some (false, q20.2))))))) else (if y2 = 3 then (fk_A xs L (x3 + 1) (fun y22 => fk_A xs L (x3 + 2) (fun y23 => (F_X4_potter y22 y23 σ).bind (fun q24 => fk_A xs L (x3 + 1) (fun y25 => fk_A xs L (x3 + 2) (fun y26 => (F_X5_potter y25 y26 q24.2).bind (fun q27 => if q24.1 = q27.1 then (fk_B (x3 + 6) (fun y28 => L_L_law_18 xs L fu y28 q27.2 k)) else (some (false, q27.2))))))))) else (if y2 = 4 then (fk_A xs L (x3 + 1) (fun y29 => fk_A xs L (x3 + 2) (fun y30 => (F_X4_of y29 y30 σ).bind (fun q31 => fk_A xs L (x3 + 1) (fun y32 => fk_A xs L (x3 + 2) (fun y33 => (F_X5_of y32 y33 q31.2).bind (fun q34 => if q31.1 = q34.1 then (fk_B (x3 + 6) (fun y35 => L_L_law_18 xs L fu y35 q34.2 k)) else (some (false, q34.2))))))))) else (if y2 = 5 then (fk_A xs L (x3 + 1) (fun y36 => fk_A xs L (x3 + 2) (fun y37 => fk_A xs L (x3 + 3) (fun y38 => (F_X4_change y36 y37 y38 σ).bind (fun q39 => fk_A xs L (x3 + 1) (fun y40 => fk_A xs L (x3 + 2) (fun y41 => fk_A xs L (x3 + 3) (fun y42 => (F_X5_change y40 y41 y42 q39.2).bind (fun q43 => if q39.1 = q43.1 then (fk_B (x3 + 6) (fun y44 => L_L_law_18 xs L fu y44 q43.2 k)) else (some (false, q43.2))))))))))) else (if y2 = 6 then (fk_A xs L (x3 + 1) (fun y45 => fk_A xs L (x3 + 2) (fun y46 => fk_A xs L (x3 + 3) (fun y47 => (F_X4_rift y45 y46 y47 σ).bind (fun q48 => fk_A xs L (x3 + 1) (fun y49 => fk_A xs L (x3 + 2) (fun y50 => fk_A xs L (x3 + 3) (fun y51 => (F_X5_rift y49 y50 y51 q48.2).bind (fun q52 => if q48.1 = q52.1 then (fk_B (x3 + 6) (fun y53 => L_L_law_18 xs L fu y53 q52.2 k)) else (some (false, q52.2))))))))))) else (if y2 = 7 then (fk_A xs L (x3 + 1) (fun y54 => fk_A xs L (x3 + 2) (fun y55 => fk_A xs L (x3 + 3) (fun y56 => (F_X4_two y54 y55 y56 σ).bind (fun q57 => fk_A xs L (x3 + 1) (fun y58 => fk_A xs L (x3 + 2) (fun y59 => fk_A xs L (x3 + 3) (fun y60 => (F_X5_two y58 y59 y60 q57.2).bind (fun q61 => if q57.1 = q61.1 then (fk_B (x3 + 6) (fun y62 => L_L_law_18 xs L fu y62 q61.2 k)) else (some (false, q61.2))))))))))) else (if y2 = 8 then (fk_A xs L (x3 + 1) (fun y63 => (F_X4_go y63 σ).bind (fun q64 => fk_A xs L (x3 + 1) (fun y65 => (F_X5_go y65 q64.2).bind (fun q66 => if q64.1 = q66.1 then (fk_B (x3 + 6) (fun y67 => L_L_law_18 xs L fu y67 q66.2 k)) else (some (false, q66.2))))))) else (if y2 = 9 then (fk_A xs L (x3 + 1) (fun y68 => (F_X4_now y68 σ).bind (fun q69 => fk_A xs L (x3 + 1) (fun y70 => (F_X5_now y70 q69.2).bind (fun q71 => if q69.1 = q71.1 then (fk_B (x3 + 6) (fun y72 => L_L_law_18 xs L fu y72 q71.2 k)) else (some (false, q71.2))))))) else (if y2 = 10 then (fk_A xs L (x3 + 1) (fun y73 => fk_A xs L (x3 + 2) (fun y74 => fk_A xs L (x3 + 3) (fun y75 => (F_X4_ahead y73 y74 y75 σ).bind (fun q76 => fk_A xs L (x3 + 1) (fun y77 => fk_A xs L (x3 + 2) (fun y78 => fk_A xs L (x3 + 3) (fun y79 => (F_X5_ahead y77 y78 y79 q76.2).bind (fun q80 => if q76.1 = q80.1 then (fk_B (x3 + 6) (fun y81 => L_L_law_18 xs L fu y81 q80.2 k)) else (some (false, q80.2))))))))))) else (if y2 = 11 then (fk_A xs L (x3 + 1) (fun y82 => fk_A xs L (x3 + 2) (fun y83 => fk_A xs L (x3 + 3) (fun y84 => (F_X4_terms y82 y83 y84 σ).bind (fun q85 => fk_A xs L (x3 + 1) (fun y86 => fk_A xs L (x3 + 2) (fun y87 => fk_A xs L (x3 + 3) (fun y88 => (F_X5_terms y86 y87 y88 q85.2).bind (fun q89 => if q85.1 = q89.1 then (fk_B (x3 + 6) (fun y90 => L_L_law_18 xs L fu y90 q89.2 k)) else (some (false, q89.2))))))))))) else (if y2 = 12 then (fk_A xs L (x3 + 1) (fun y91 => (F_X4_next y91 σ).bind (fun q92 => fk_A xs L (x3 + 1) (fun y93 => (F_X5_next y93 q92.2).bind (fun q94 => if q92.1 = q94.1 then (fk_B (x3 + 6) (fun y95 => L_L_law_18 xs L fu y95 q94.2 k)) else (some (false, q94.2))))))) else (if y2 = 13 then (fk_A xs L (x3 + 1) (fun y96 => fk_A xs L (x3 + 2) (fun y97 => fk_A xs L (x3 + 3) (fun y98 => (F_X4_peace y96 y97 y98 σ).bind (fun q99 => fk_A xs L (x3 + 1) (fun y100 => fk_A xs L (x3 + 2) (fun y101 => fk_A xs L (x3 + 3) (fun y102 => (F_X5_peace y100 y101 y102 q99.2).bind (fun q103 => if q99.1 = q103.1 then (fk_B (x3 + 6) (fun y104 => L_L_law_18 xs L fu y104 q103.2 k)) else (some (false, q103.2))))))))))) else (if y2 = 14 then (fk_A xs L (x3 + 1) (fun y105 => fk_A xs L (x3 + 2) (fun y106 => (F_X4_when y105 y106 σ).bind (fun q107 => fk_A xs L (x3 + 1) (fun y108 => fk_A xs L (x3 + 2) (fun y109 => (F_X5_when y108 y109 q107.2).bind (fun q110 => if q107.1 = q110.1 then (fk_B (x3 + 6) (fun y111 => L_L_law_18 xs L fu y111 q110.2 k)) else (some (false, q110.2))))))))) else (if y2 = 15 then (fk_A xs L (x3 + 1) (fun y112 => fk_A xs L (x3 + 2) (fun y113 => fk_A xs L (x3 + 3) (fun y114 => (F_X4_setWith y112 y113 y114 σ).bind (fun q115 => fk_A xs L (x3 + 1) (fun y116 => fk_A xs L (x3 + 2) (fun y117 => fk_A xs L (x3 + 3) (fun y118 => (F_X5_setWith y116 y117 y118 q115.2).bind (fun q119 => if q115.1 = q119.1 then (fk_B (x3 + 6) (fun y120 => L_L_law_18 xs L fu y120 q119.2 k)) else (some (false, q119.2))))))))))) else (if y2 = 16 then (fk_A xs L (x3 + 1) (fun y121 => fk_A xs L (x3 + 2) (fun y122 => (F_X4_heatFor y121 y122 σ).bind (fun q123 => fk_A xs L (x3 + 1) (fun y124 => fk_A xs L (x3 + 2) (fun y125 => (F_X5_heatFor y124 y125 q123.2).bind (fun q126 => if q123.1 = q126.1 then (fk_B (x3 + 6) (fun y127 => L_L_law_18 xs L fu y127 q126.2 k)) else (some (false, q126.2))))))))) else (if y2 = 17 then (fk_A xs L (x3 + 1) (fun y128 => fk_A xs L (x3 + 2) (fun y129 => (F_X4_kindFor y128 y129 σ).bind (fun q130 => fk_A xs L (x3 + 1) (fun y131 => fk_A xs L (x3 + 2) (fun y132 => (F_X5_kindFor y131 y132 q130.2).bind (fun q133 => if q130.1 = q133.1 then (fk_B (x3 + 6) (fun y134 => L_L_law_18 xs L fu y134 q133.2 k)) else (some (false, q133.2))))))))) else (if y2 = 18 then (fk_A xs L (x3 + 1) (fun y135 => fk_A xs L (x3 + 2) (fun y136 => (F_X4_clayFor y135 y136 σ).bind (fun q137 => fk_A xs L (x3 + 1) (fun y138 => fk_A xs L (x3 + 2) (fun y139 => (F_X5_clayFor y138 y139 q137.2).bind (fun q140 => if q137.1 = q140.1 then (fk_B (x3 + 6) (fun y141 => L_L_law_18 xs L fu y141 q140.2 k)) else (some (false, q140.2))))))))) else (if y2 = 19 then (fk_A xs L (x3 + 1) (fun y142 => (F_X4_reconcile y142 σ).bind (fun q143 => fk_A xs L (x3 + 1) (fun y144 => (F_X5_reconcile y144 q143.2).bind (fun q145 => if q143.1 = q145.1 then (fk_B (x3 + 6) (fun y146 => L_L_law_18 xs L fu y146 q145.2 k)) else (some (false, q145.2))))))) else (if y2 = 20 then (fk_A xs L (x3 + 1) (fun y147 => fk_A xs L (x3 + 2) (fun y148 => fk_A xs L (x3 + 3) (fun y149 => (F_X4_fits y147 y148 y149 σ).bind (fun q150 => fk_A xs L (x3 + 1) (fun y151 => fk_A xs L (x3 + 2) (fun y152 => fk_A xs L (x3 + 3) (fun y153 => (F_X5_fits y151 y152 y153 q150.2).bind (fun q154 => if q150.1 = q154.1 then (fk_B (x3 + 6) (fun y155 => L_L_law_18 xs L fu y155 q154.2 k)) else (some (false, q154.2))))))))))) else (if y2 = 21 then (fk_A xs L (x3 + 1) (fun y156 => fk_A xs L (x3 + 2) (fun y157 => (F_X4_kinds y156 y157 σ).bind (fun q158 => fk_A xs L (x3 + 1) (fun y159 => fk_A xs L (x3 + 2) (fun y160 => (F_X5_kinds y159 y160 q158.2).bind (fun q161 => if q158.1 = q161.1 then (fk_B (x3 + 6) (fun y162 => L_L_law_18 xs L fu y162 q161.2 k)) else (some (false, q161.2))))))))) else (if y2 = 22 then (fk_A xs L (x3 + 1) (fun y163 => (F_X4_market y163 σ).bind (fun q164 => fk_A xs L (x3 + 1) (fun y165 => (F_X5_market y165 q164.2).bind (fun q166 => if q164.1 = q166.1 then (fk_B (x3 + 6) (fun y167 => L_L_law_18 xs L fu y167 q166.2 k)) else (some (false, q166.2))))))) else (if y2 = 23 then (fk_A xs L (x3 + 1) (fun y168 => fk_A xs L (x3 + 2) (fun y169 => fk_A xs L (x3 + 3) (fun y170 => fk_A xs L (x3 + 4) (fun y171 => (F_X4_odds y168 y169 y170 y171 σ).bind (fun q172 => fk_A xs L (x3 + 1) (fun y173 => fk_A xs L (x3 + 2) (fun y174 => fk_A xs L (x3 + 3) (fun y175 => fk_A xs L (x3 + 4) (fun y176 => (F_X5_odds y173 y174 y175 y176 q172.2).bind (fun q177 => if (lg_cmp q172.1 q177.1) = 0 then (fk_B (x3 + 6) (fun y178 => L_L_law_18 xs L fu y178 q177.2 k)) else (some (false, q177.2))))))))))))) else (if y2 = 24 then (fk_A xs L (x3 + 1) (fun y179 => (F_X4_seed y179 σ).bind (fun q180 => fk_A xs L (x3 + 1) (fun y181 => (F_X5_seed y181 q180.2).bind (fun q182 => if q180.1 = q182.1 then (fk_B (x3 + 6) (fun y183 => L_L_law_18 xs L fu y183 q182.2 k)) else (some (false, q182.2))))))) else (if y2 = 25 then (fk_A xs L (x3 + 1) (fun y184 => fk_A xs L (x3 + 2) (fun y185 => (F_X4_feed y184 y185 σ).bind (fun q186 => fk_A xs L (x3 + 1) (fun y187 => fk_A xs L (x3 + 2) (fun y188 => (F_X5_feed y187 y188 q186.2).bind (fun q189 => if q186.1 = q189.1 then (fk_B (x3 + 6) (fun y190 => L_L_law_18 xs L fu y190 q189.2 k)) else (some (false, q189.2))))))))) else (if y2 = 26 then ((F_X4_wipe  σ).bind (fun q191 => (F_X5_wipe  q191.2).bind (fun q192 => if q191.1 = q192.1 then (fk_B (x3 + 6) (fun y193 => L_L_law_18 xs L fu y193 q192.2 k)) else (some (false, q192.2))))) else (if y2 = 27 then ((F_X4_text  σ).bind (fun q194 => (F_X5_text  q194.2).bind (fun q195 => if q194.1 = q195.1 then (fk_B (x3 + 6) (fun y196 => L_L_law_18 xs L fu y196 q195.2 k)) else (some (false, q195.2))))) else (if y2 = 28 then (fk_A xs L (x3 + 1) (fun y197 => fk_A xs L (x3 + 2) (fun y198 => (F_X4_hold y197 y198 σ).bind (fun q199 => fk_A xs L (x3 + 1) (fun y200 => fk_A xs L (x3 + 2) (fun y201 => (F_X5_hold y200 y201 q199.2).bind (fun q202 => if q199.1 = q202.1 then (fk_B (x3 + 6) (fun y203 => L_L_law_18 xs L fu y203 q202.2 k)) else (some (false, q202.2))))))))) else (if y2 = 29 then (fk_A xs L (x3 + 1) (fun y204 => fk_A xs L (x3 + 2) (fun y205 => (F_X4_as y204 y205 σ).bind (fun q206 => fk_A xs L (x3 + 1) (fun y207 => fk_A xs L (x3 + 2) (fun y208 => (F_X5_as y207 y208 q206.2).bind (fun q209 => if q206.1 = q209.1 then (fk_B (x3 + 6) (fun y210 => L_L_law_18 xs L fu y210 q209.2 k)) else (some (false, q209.2))))))))) else (if y2 = 30 then (fk_A xs L (x3 + 1) (fun y211 => fk_A xs L (x3 + 2) (fun y212 => fk_A xs L (x3 + 3) (fun y213 => (F_X4_sheet y211 y212 y213 σ).bind (fun q214 => fk_A xs L (x3 + 1) (fun y215 => fk_A xs L (x3 + 2) (fun y216 => fk_A xs L (x3 + 3) (fun y217 => (F_X5_sheet y215 y216 y217 q214.2).bind (fun q218 => if q214.1 = q218.1 then (fk_B (x3 + 6) (fun y219 => L_L_law_18 xs L fu y219 q218.2 k)) else (some (false, q218.2))))))))))) else (if y2 = 31 then (fk_A xs L (x3 + 1) (fun y220 => fk_A xs L (x3 + 2) (fun y221 => fk_A xs L (x3 + 3) (fun y222 => (F_X4_write y220 y221 y222 σ).bind (fun q223 => fk_A xs L (x3 + 1) (fun y224 => fk_A xs L (x3 + 2) (fun y225 => fk_A xs L (x3 + 3) (fun y226 => (F_X5_write y224 y225 y226 q223.2).bind (fun q227 => if q223.1 = q227.1 then (fk_B (x3 + 6) (fun y228 => L_L_law_18 xs L fu y228 q227.2 k)) else (some (false, q227.2))))))))))) else (if y2 = 32 then (fk_A xs L (x3 + 1) (fun y229 => fk_A xs L (x3 + 2) (fun y230 => fk_A xs L (x3 + 3) (fun y231 => fk_A xs L (x3 + 4) (fun y232 => fk_A xs L (x3 + 5) (fun y233 => (F_X4_copy y229 y230 y231 y232 y233 σ).bind (fun q234 => fk_A xs L (x3 + 1) (fun y235 => fk_A xs L (x3 + 2) (fun y236 => fk_A xs L (x3 + 3) (fun y237 => fk_A xs L (x3 + 4) (fun y238 => fk_A xs L (x3 + 5) (fun y239 => (F_X5_copy y235 y236 y237 y238 y239 q234.2).bind (fun q240 => if q234.1 = q240.1 then (fk_B (x3 + 6) (fun y241 => L_L_law_18 xs L fu y241 q240.2 k)) else (some (false, q240.2))))))))))))))) else (if y2 = 33 then (fk_A xs L (x3 + 1) (fun y242 => (F_X4_load y242 σ).bind (fun q243 => fk_A xs L (x3 + 1) (fun y244 => (F_X5_load y244 q243.2).bind (fun q245 => if q243.1 = q245.1 then (fk_B (x3 + 6) (fun y246 => L_L_law_18 xs L fu y246 q245.2 k)) else (some (false, q245.2))))))) else (if y2 = 34 then (fk_A xs L (x3 + 1) (fun y247 => (F_X4_judge y247 σ).bind (fun q248 => fk_A xs L (x3 + 1) (fun y249 => (F_X5_judge y249 q248.2).bind (fun q250 => if q248.1 = q250.1 then (fk_B (x3 + 6) (fun y251 => L_L_law_18 xs L fu y251 q250.2 k)) else (some (false, q250.2))))))) else (if y2 = 35 then ((F_X4_image  σ).bind (fun q252 => (F_X5_image  q252.2).bind (fun q253 => if q252.1 = q253.1 then (fk_B (x3 + 6) (fun y254 => L_L_law_18 xs L fu y254 q253.2 k)) else (some (false, q253.2))))) else (if y2 = 36 then ((F_X4_undo  σ).bind (fun q255 => (F_X5_undo  q255.2).bind (fun q256 => if q255.1 = q256.1 then (fk_B (x3 + 6) (fun y257 => L_L_law_18 xs L fu y257 q256.2 k)) else (some (false, q256.2))))) else (if y2 = 37 then ((F_X4_tear  σ).bind (fun q258 => (F_X5_tear  q258.2).bind (fun q259 => if q258.1 = q259.1 then (fk_B (x3 + 6) (fun y260 => L_L_law_18 xs L fu y260 q259.2 k)) else (some (false, q259.2))))) else (if y2 = 38 then (fk_A xs L (x3 + 1) (fun y261 => (F_X4_count y261 σ).bind (fun q262 => fk_A xs L (x3 + 1) (fun y263 => (F_X5_count y263 q262.2).bind (fun q264 => if q262.1 = q264.1 then (fk_B (x3 + 6) (fun y265 => L_L_law_18 xs L fu y265 q264.2 k)) else (some (false, q264.2))))))) else (if y2 = 39 then (fk_A xs L (x3 + 1) (fun y266 => (F_X4_status y266 σ).bind (fun q267 => fk_A xs L (x3 + 1) (fun y268 => (F_X5_status y268 q267.2).bind (fun q269 => if q267.1 = q269.1 then (fk_B (x3 + 6) (fun y270 => L_L_law_18 xs L fu y270 q269.2 k)) else (some (false, q269.2))))))) else (fk_B (x3 + 6) (fun y271 => L_L_law_18 xs L fu y271 σ k))))))))))))))))))))))))))))))))))))))))))))
set_option maxRecDepth 100000 in
set_option maxHeartbeats 4000000 in
theorem W_L_law_18 {cx : aw_C} (hN : aw_nL cx = 4) (K : aw_K cx cL_law RL rL_law) {xs : Nat → Int32} {L : Nat} (hX : aw_sc cx xs L)  : ∀ (fu : Nat) (x3 : Int32) (σ : fk_T) (k : Int32 → fk_T → Option (Bool × fk_T)), (∀ (x3 : Int32) (σ : fk_T), af cx ρz 1475 [some (.ref 1004), some (.ref 0), some (.ref 26), some (.int x3)] [] (hp σ) (k x3 σ)) → af cx ρz 18 [some (.ref 1004), some (.ref 0), some (.ref 26), some (.int x3)] [] (hp σ) (L_L_law_18 xs L fu x3 σ k) := by
  intro fu
  induction fu with
  | zero => intros; exact af_none
  | succ fu ih18 =>
    intro x3 σ k hk18
    rw [L_L_law_18]
    refine af_iload_n K 19 dL_law_18 rfl rfl ?_
    refine af_aload_n K 20 dL_law_19 rfl rfl ?_
    refine af_slen K hX 21 dL_law_20 rfl ?_
    refine af_bipush K 23 dL_law_21 rfl cs_bipush_6 ?_
    refine af_isub K 24 dL_law_23 rfl ?_
    refine af_icmp_gt K 27 1475 dL_law_24 rfl rfl (fun _ => ?_) (fun _ => ?_)
    · refine af_lm [true, true, true, true] rfl ?_
      exact hk18 _ _
    · refine af_aload_n K 28 dL_law_27 rfl rfl ?_
      refine af_iload_n K 29 dL_law_28 rfl rfl ?_
      refine af_sld K hX 30 dL_law_29 rfl (fun y1 => ?_)
      refine af_bipush K 32 dL_law_30 rfl cs_bipush_63 ?_
      refine af_iand K 33 dL_law_32 rfl ?_
      refine af_Bi (fun y2 => ?_)
      refine af_ite (fun hx => ?_) (fun hx0 => ?_)
      · refine af_tin K 208 0 hx dL_law_33 (by decide) (by decide) rfl rfl ?_
        refine af_aload_n K 209 dL_law_208 rfl rfl ?_
        refine af_aload_n K 210 dL_law_209 rfl rfl ?_
        refine af_iload_n K 211 dL_law_210 rfl rfl ?_
        refine af_iconst K 212 dL_law_211 rfl cs_iconst_1 ?_
        refine af_iadd K 213 dL_law_212 rfl ?_
        refine af_sld K hX 214 dL_law_213 rfl (fun y3 => ?_)
        refine af_callV_i K (b := 0) (vs := [.int y3]) mv_X4_clay lk_165 ((hp_at _ (Nat.le_of_ble_eq_true rfl)).trans rfl) rfl 217 dL_law_214 rfl rfl rfl rfl (A_X4_clay _ _ y3 σ) rfl (fun q4 => ?_)
        refine af_aload_n K 218 dL_law_217 rfl rfl ?_
        refine af_aload_n K 219 dL_law_218 rfl rfl ?_
        refine af_iload_n K 220 dL_law_219 rfl rfl ?_
        refine af_iconst K 221 dL_law_220 rfl cs_iconst_1 ?_
        refine af_iadd K 222 dL_law_221 rfl ?_
        refine af_sld K hX 223 dL_law_222 rfl (fun y5 => ?_)
        refine af_callV_i K (b := 26) (vs := [.int y5]) mv_X5_clay lk_748 ((hp_at _ (Nat.le_of_ble_eq_true rfl)).trans rfl) rfl 226 dL_law_223 rfl rfl rfl rfl (A_X5_clay _ _ y5 q4.2) rfl (fun q6 => ?_)
        refine af_icmp_eq K 229 1469 dL_law_226 rfl rfl (fun _ => ?_) (fun _ => ?_)
        · refine af_iincB K 1472 (fun yy => [some (.ref 1004), some (.ref 0), some (.ref 26), some (.int yy)]) dL_law_1469 rfl (by rw [hN]; exact Nat.le_of_ble_eq_true rfl) rfl cs_iconst_6 (fun _ => rfl) (fun y7 => ?_)
          refine af_goto K 18 dL_law_1472 rfl ?_
          refine af_lm [true, true, true, true] rfl ?_
          exact ih18 _ _ _ hk18
        · refine af_iconst K 230 dL_law_229 rfl cs_iconst_0 ?_
          exact af_retz K rfl dL_law_230
      refine af_ite (fun hx => ?_) (fun hx1 => ?_)
      · refine af_tin K 231 1 hx dL_law_33 (by decide) (by decide) rfl rfl ?_
        refine af_aload_n K 232 dL_law_231 rfl rfl ?_
        refine af_aload_n K 233 dL_law_232 rfl rfl ?_
        refine af_iload_n K 234 dL_law_233 rfl rfl ?_
        refine af_iconst K 235 dL_law_234 rfl cs_iconst_1 ?_
        refine af_iadd K 236 dL_law_235 rfl ?_
        refine af_sld K hX 237 dL_law_236 rfl (fun y8 => ?_)
        refine af_aload_n K 238 dL_law_237 rfl rfl ?_
        refine af_iload_n K 239 dL_law_238 rfl rfl ?_
        refine af_iconst K 240 dL_law_239 rfl cs_iconst_2 ?_
        refine af_iadd K 241 dL_law_240 rfl ?_
        refine af_sld K hX 242 dL_law_241 rfl (fun y9 => ?_)
        refine af_aload_n K 243 dL_law_242 rfl rfl ?_
        refine af_iload_n K 244 dL_law_243 rfl rfl ?_
        refine af_iconst K 245 dL_law_244 rfl cs_iconst_3 ?_
        refine af_iadd K 246 dL_law_245 rfl ?_
        refine af_sld K hX 247 dL_law_246 rfl (fun y10 => ?_)
        refine af_callV_i K (b := 0) (vs := [.int y8, .int y9, .int y10]) mv_X4_pair lk_177 ((hp_at _ (Nat.le_of_ble_eq_true rfl)).trans rfl) rfl 250 dL_law_247 rfl rfl rfl rfl (A_X4_pair _ _ y8 y9 y10 σ) rfl (fun q11 => ?_)
        refine af_aload_n K 251 dL_law_250 rfl rfl ?_
        refine af_aload_n K 252 dL_law_251 rfl rfl ?_
        refine af_iload_n K 253 dL_law_252 rfl rfl ?_
        refine af_iconst K 254 dL_law_253 rfl cs_iconst_1 ?_
        refine af_iadd K 255 dL_law_254 rfl ?_
        refine af_sld K hX 256 dL_law_255 rfl (fun y12 => ?_)
        refine af_aload_n K 257 dL_law_256 rfl rfl ?_
        refine af_iload_n K 258 dL_law_257 rfl rfl ?_
        refine af_iconst K 259 dL_law_258 rfl cs_iconst_2 ?_
        refine af_iadd K 260 dL_law_259 rfl ?_
        refine af_sld K hX 261 dL_law_260 rfl (fun y13 => ?_)
        refine af_aload_n K 262 dL_law_261 rfl rfl ?_
        refine af_iload_n K 263 dL_law_262 rfl rfl ?_
        refine af_iconst K 264 dL_law_263 rfl cs_iconst_3 ?_
        refine af_iadd K 265 dL_law_264 rfl ?_
        refine af_sld K hX 266 dL_law_265 rfl (fun y14 => ?_)
        refine af_callV_i K (b := 26) (vs := [.int y12, .int y13, .int y14]) mv_X5_pair lk_765 ((hp_at _ (Nat.le_of_ble_eq_true rfl)).trans rfl) rfl 269 dL_law_266 rfl rfl rfl rfl (A_X5_pair _ _ y12 y13 y14 q11.2) rfl (fun q15 => ?_)
        refine af_icmp_eq K 272 1469 dL_law_269 rfl rfl (fun _ => ?_) (fun _ => ?_)
        · refine af_iincB K 1472 (fun yy => [some (.ref 1004), some (.ref 0), some (.ref 26), some (.int yy)]) dL_law_1469 rfl (by rw [hN]; exact Nat.le_of_ble_eq_true rfl) rfl cs_iconst_6 (fun _ => rfl) (fun y16 => ?_)
          refine af_goto K 18 dL_law_1472 rfl ?_
          refine af_lm [true, true, true, true] rfl ?_
          exact ih18 _ _ _ hk18
        · refine af_iconst K 273 dL_law_272 rfl cs_iconst_0 ?_
          exact af_retz K rfl dL_law_273
      refine af_ite (fun hx => ?_) (fun hx2 => ?_)
      · refine af_tin K 274 2 hx dL_law_33 (by decide) (by decide) rfl rfl ?_
        refine af_aload_n K 275 dL_law_274 rfl rfl ?_
        refine af_aload_n K 276 dL_law_275 rfl rfl ?_
        refine af_iload_n K 277 dL_law_276 rfl rfl ?_
        refine af_iconst K 278 dL_law_277 rfl cs_iconst_1 ?_
        refine af_iadd K 279 dL_law_278 rfl ?_
        refine af_sld K hX 280 dL_law_279 rfl (fun y17 => ?_)
        refine af_callV_i K (b := 0) (vs := [.int y17]) mv_X4_listed lk_181 ((hp_at _ (Nat.le_of_ble_eq_true rfl)).trans rfl) rfl 283 dL_law_280 rfl rfl rfl rfl (A_X4_listed _ _ y17 σ) rfl (fun q18 => ?_)
        refine af_aload_n K 284 dL_law_283 rfl rfl ?_
        refine af_aload_n K 285 dL_law_284 rfl rfl ?_
        refine af_iload_n K 286 dL_law_285 rfl rfl ?_
        refine af_iconst K 287 dL_law_286 rfl cs_iconst_1 ?_
        refine af_iadd K 288 dL_law_287 rfl ?_
        refine af_sld K hX 289 dL_law_288 rfl (fun y19 => ?_)
        refine af_callV_i K (b := 26) (vs := [.int y19]) mv_X5_listed lk_771 ((hp_at _ (Nat.le_of_ble_eq_true rfl)).trans rfl) rfl 292 dL_law_289 rfl rfl rfl rfl (A_X5_listed _ _ y19 q18.2) rfl (fun q20 => ?_)
        refine af_icmp_eq K 295 1469 dL_law_292 rfl rfl (fun _ => ?_) (fun _ => ?_)
        · refine af_iincB K 1472 (fun yy => [some (.ref 1004), some (.ref 0), some (.ref 26), some (.int yy)]) dL_law_1469 rfl (by rw [hN]; exact Nat.le_of_ble_eq_true rfl) rfl cs_iconst_6 (fun _ => rfl) (fun y21 => ?_)
          refine af_goto K 18 dL_law_1472 rfl ?_
          refine af_lm [true, true, true, true] rfl ?_
          exact ih18 _ _ _ hk18
        · refine af_iconst K 296 dL_law_295 rfl cs_iconst_0 ?_
          exact af_retz K rfl dL_law_296
      refine af_ite (fun hx => ?_) (fun hx3 => ?_)
      · refine af_tin K 297 3 hx dL_law_33 (by decide) (by decide) rfl rfl ?_
        refine af_aload_n K 298 dL_law_297 rfl rfl ?_
        refine af_aload_n K 299 dL_law_298 rfl rfl ?_
        refine af_iload_n K 300 dL_law_299 rfl rfl ?_
        refine af_iconst K 301 dL_law_300 rfl cs_iconst_1 ?_
        refine af_iadd K 302 dL_law_301 rfl ?_
        refine af_sld K hX 303 dL_law_302 rfl (fun y22 => ?_)
        refine af_aload_n K 304 dL_law_303 rfl rfl ?_
        refine af_iload_n K 305 dL_law_304 rfl rfl ?_
        refine af_iconst K 306 dL_law_305 rfl cs_iconst_2 ?_
        refine af_iadd K 307 dL_law_306 rfl ?_
        refine af_sld K hX 308 dL_law_307 rfl (fun y23 => ?_)
        refine af_callV_i K (b := 0) (vs := [.int y22, .int y23]) mv_X4_potter lk_185 ((hp_at _ (Nat.le_of_ble_eq_true rfl)).trans rfl) rfl 311 dL_law_308 rfl rfl rfl rfl (A_X4_potter _ _ y22 y23 σ) rfl (fun q24 => ?_)
        refine af_aload_n K 312 dL_law_311 rfl rfl ?_
        refine af_aload_n K 313 dL_law_312 rfl rfl ?_
        refine af_iload_n K 314 dL_law_313 rfl rfl ?_
        refine af_iconst K 315 dL_law_314 rfl cs_iconst_1 ?_
        refine af_iadd K 316 dL_law_315 rfl ?_
        refine af_sld K hX 317 dL_law_316 rfl (fun y25 => ?_)
        refine af_aload_n K 318 dL_law_317 rfl rfl ?_
        refine af_iload_n K 319 dL_law_318 rfl rfl ?_
        refine af_iconst K 320 dL_law_319 rfl cs_iconst_2 ?_
        refine af_iadd K 321 dL_law_320 rfl ?_
        refine af_sld K hX 322 dL_law_321 rfl (fun y26 => ?_)
        refine af_callV_i K (b := 26) (vs := [.int y25, .int y26]) mv_X5_potter lk_775 ((hp_at _ (Nat.le_of_ble_eq_true rfl)).trans rfl) rfl 325 dL_law_322 rfl rfl rfl rfl (A_X5_potter _ _ y25 y26 q24.2) rfl (fun q27 => ?_)
        refine af_icmp_eq K 328 1469 dL_law_325 rfl rfl (fun _ => ?_) (fun _ => ?_)
        · refine af_iincB K 1472 (fun yy => [some (.ref 1004), some (.ref 0), some (.ref 26), some (.int yy)]) dL_law_1469 rfl (by rw [hN]; exact Nat.le_of_ble_eq_true rfl) rfl cs_iconst_6 (fun _ => rfl) (fun y28 => ?_)
          refine af_goto K 18 dL_law_1472 rfl ?_
          refine af_lm [true, true, true, true] rfl ?_
          exact ih18 _ _ _ hk18
        · refine af_iconst K 329 dL_law_328 rfl cs_iconst_0 ?_
          exact af_retz K rfl dL_law_329
      refine af_ite (fun hx => ?_) (fun hx4 => ?_)
      · refine af_tin K 330 4 hx dL_law_33 (by decide) (by decide) rfl rfl ?_
        refine af_aload_n K 331 dL_law_330 rfl rfl ?_
        refine af_aload_n K 332 dL_law_331 rfl rfl ?_
        refine af_iload_n K 333 dL_law_332 rfl rfl ?_
        refine af_iconst K 334 dL_law_333 rfl cs_iconst_1 ?_
        refine af_iadd K 335 dL_law_334 rfl ?_
        refine af_sld K hX 336 dL_law_335 rfl (fun y29 => ?_)
        refine af_aload_n K 337 dL_law_336 rfl rfl ?_
        refine af_iload_n K 338 dL_law_337 rfl rfl ?_
        refine af_iconst K 339 dL_law_338 rfl cs_iconst_2 ?_
        refine af_iadd K 340 dL_law_339 rfl ?_
        refine af_sld K hX 341 dL_law_340 rfl (fun y30 => ?_)
        refine af_callV_i K (b := 0) (vs := [.int y29, .int y30]) mv_X4_of lk_197 ((hp_at _ (Nat.le_of_ble_eq_true rfl)).trans rfl) rfl 344 dL_law_341 rfl rfl rfl rfl (A_X4_of _ _ y29 y30 σ) rfl (fun q31 => ?_)
        refine af_aload_n K 345 dL_law_344 rfl rfl ?_
        refine af_aload_n K 346 dL_law_345 rfl rfl ?_
        refine af_iload_n K 347 dL_law_346 rfl rfl ?_
        refine af_iconst K 348 dL_law_347 rfl cs_iconst_1 ?_
        refine af_iadd K 349 dL_law_348 rfl ?_
        refine af_sld K hX 350 dL_law_349 rfl (fun y32 => ?_)
        refine af_aload_n K 351 dL_law_350 rfl rfl ?_
        refine af_iload_n K 352 dL_law_351 rfl rfl ?_
        refine af_iconst K 353 dL_law_352 rfl cs_iconst_2 ?_
        refine af_iadd K 354 dL_law_353 rfl ?_
        refine af_sld K hX 355 dL_law_354 rfl (fun y33 => ?_)
        refine af_callV_i K (b := 26) (vs := [.int y32, .int y33]) mv_X5_of lk_789 ((hp_at _ (Nat.le_of_ble_eq_true rfl)).trans rfl) rfl 358 dL_law_355 rfl rfl rfl rfl (A_X5_of _ _ y32 y33 q31.2) rfl (fun q34 => ?_)
        refine af_icmp_eq K 361 1469 dL_law_358 rfl rfl (fun _ => ?_) (fun _ => ?_)
        · refine af_iincB K 1472 (fun yy => [some (.ref 1004), some (.ref 0), some (.ref 26), some (.int yy)]) dL_law_1469 rfl (by rw [hN]; exact Nat.le_of_ble_eq_true rfl) rfl cs_iconst_6 (fun _ => rfl) (fun y35 => ?_)
          refine af_goto K 18 dL_law_1472 rfl ?_
          refine af_lm [true, true, true, true] rfl ?_
          exact ih18 _ _ _ hk18
        · refine af_iconst K 362 dL_law_361 rfl cs_iconst_0 ?_
          exact af_retz K rfl dL_law_362
      refine af_ite (fun hx => ?_) (fun hx5 => ?_)
      · refine af_tin K 363 5 hx dL_law_33 (by decide) (by decide) rfl rfl ?_
        refine af_aload_n K 364 dL_law_363 rfl rfl ?_
        refine af_aload_n K 365 dL_law_364 rfl rfl ?_
        refine af_iload_n K 366 dL_law_365 rfl rfl ?_
        refine af_iconst K 367 dL_law_366 rfl cs_iconst_1 ?_
        refine af_iadd K 368 dL_law_367 rfl ?_
        refine af_sld K hX 369 dL_law_368 rfl (fun y36 => ?_)
        refine af_aload_n K 370 dL_law_369 rfl rfl ?_
        refine af_iload_n K 371 dL_law_370 rfl rfl ?_
        refine af_iconst K 372 dL_law_371 rfl cs_iconst_2 ?_
        refine af_iadd K 373 dL_law_372 rfl ?_
        refine af_sld K hX 374 dL_law_373 rfl (fun y37 => ?_)
        refine af_aload_n K 375 dL_law_374 rfl rfl ?_
        refine af_iload_n K 376 dL_law_375 rfl rfl ?_
        refine af_iconst K 377 dL_law_376 rfl cs_iconst_3 ?_
        refine af_iadd K 378 dL_law_377 rfl ?_
        refine af_sld K hX 379 dL_law_378 rfl (fun y38 => ?_)
        refine af_callV_i K (b := 0) (vs := [.int y36, .int y37, .int y38]) mv_X4_change lk_224 ((hp_at _ (Nat.le_of_ble_eq_true rfl)).trans rfl) rfl 382 dL_law_379 rfl rfl rfl rfl (A_X4_change _ _ y36 y37 y38 σ) rfl (fun q39 => ?_)
        refine af_aload_n K 383 dL_law_382 rfl rfl ?_
        refine af_aload_n K 384 dL_law_383 rfl rfl ?_
        refine af_iload_n K 385 dL_law_384 rfl rfl ?_
        refine af_iconst K 386 dL_law_385 rfl cs_iconst_1 ?_
        refine af_iadd K 387 dL_law_386 rfl ?_
        refine af_sld K hX 388 dL_law_387 rfl (fun y40 => ?_)
        refine af_aload_n K 389 dL_law_388 rfl rfl ?_
        refine af_iload_n K 390 dL_law_389 rfl rfl ?_
        refine af_iconst K 391 dL_law_390 rfl cs_iconst_2 ?_
        refine af_iadd K 392 dL_law_391 rfl ?_
        refine af_sld K hX 393 dL_law_392 rfl (fun y41 => ?_)
        refine af_aload_n K 394 dL_law_393 rfl rfl ?_
        refine af_iload_n K 395 dL_law_394 rfl rfl ?_
        refine af_iconst K 396 dL_law_395 rfl cs_iconst_3 ?_
        refine af_iadd K 397 dL_law_396 rfl ?_
        refine af_sld K hX 398 dL_law_397 rfl (fun y42 => ?_)
        refine af_callV_i K (b := 26) (vs := [.int y40, .int y41, .int y42]) mv_X5_change lk_821 ((hp_at _ (Nat.le_of_ble_eq_true rfl)).trans rfl) rfl 401 dL_law_398 rfl rfl rfl rfl (A_X5_change _ _ y40 y41 y42 q39.2) rfl (fun q43 => ?_)
        refine af_icmp_eq K 404 1469 dL_law_401 rfl rfl (fun _ => ?_) (fun _ => ?_)
        · refine af_iincB K 1472 (fun yy => [some (.ref 1004), some (.ref 0), some (.ref 26), some (.int yy)]) dL_law_1469 rfl (by rw [hN]; exact Nat.le_of_ble_eq_true rfl) rfl cs_iconst_6 (fun _ => rfl) (fun y44 => ?_)
          refine af_goto K 18 dL_law_1472 rfl ?_
          refine af_lm [true, true, true, true] rfl ?_
          exact ih18 _ _ _ hk18
        · refine af_iconst K 405 dL_law_404 rfl cs_iconst_0 ?_
          exact af_retz K rfl dL_law_405
      refine af_ite (fun hx => ?_) (fun hx6 => ?_)
      · refine af_tin K 406 6 hx dL_law_33 (by decide) (by decide) rfl rfl ?_
        refine af_aload_n K 407 dL_law_406 rfl rfl ?_
        refine af_aload_n K 408 dL_law_407 rfl rfl ?_
        refine af_iload_n K 409 dL_law_408 rfl rfl ?_
        refine af_iconst K 410 dL_law_409 rfl cs_iconst_1 ?_
        refine af_iadd K 411 dL_law_410 rfl ?_
        refine af_sld K hX 412 dL_law_411 rfl (fun y45 => ?_)
        refine af_aload_n K 413 dL_law_412 rfl rfl ?_
        refine af_iload_n K 414 dL_law_413 rfl rfl ?_
        refine af_iconst K 415 dL_law_414 rfl cs_iconst_2 ?_
        refine af_iadd K 416 dL_law_415 rfl ?_
        refine af_sld K hX 417 dL_law_416 rfl (fun y46 => ?_)
        refine af_aload_n K 418 dL_law_417 rfl rfl ?_
        refine af_iload_n K 419 dL_law_418 rfl rfl ?_
        refine af_iconst K 420 dL_law_419 rfl cs_iconst_3 ?_
        refine af_iadd K 421 dL_law_420 rfl ?_
        refine af_sld K hX 422 dL_law_421 rfl (fun y47 => ?_)
        refine af_callV_i K (b := 0) (vs := [.int y45, .int y46, .int y47]) mv_X4_rift lk_230 ((hp_at _ (Nat.le_of_ble_eq_true rfl)).trans rfl) rfl 425 dL_law_422 rfl rfl rfl rfl (A_X4_rift _ _ y45 y46 y47 σ) rfl (fun q48 => ?_)
        refine af_aload_n K 426 dL_law_425 rfl rfl ?_
        refine af_aload_n K 427 dL_law_426 rfl rfl ?_
        refine af_iload_n K 428 dL_law_427 rfl rfl ?_
        refine af_iconst K 429 dL_law_428 rfl cs_iconst_1 ?_
        refine af_iadd K 430 dL_law_429 rfl ?_
        refine af_sld K hX 431 dL_law_430 rfl (fun y49 => ?_)
        refine af_aload_n K 432 dL_law_431 rfl rfl ?_
        refine af_iload_n K 433 dL_law_432 rfl rfl ?_
        refine af_iconst K 434 dL_law_433 rfl cs_iconst_2 ?_
        refine af_iadd K 435 dL_law_434 rfl ?_
        refine af_sld K hX 436 dL_law_435 rfl (fun y50 => ?_)
        refine af_aload_n K 437 dL_law_436 rfl rfl ?_
        refine af_iload_n K 438 dL_law_437 rfl rfl ?_
        refine af_iconst K 439 dL_law_438 rfl cs_iconst_3 ?_
        refine af_iadd K 440 dL_law_439 rfl ?_
        refine af_sld K hX 441 dL_law_440 rfl (fun y51 => ?_)
        refine af_callV_i K (b := 26) (vs := [.int y49, .int y50, .int y51]) mv_X5_rift lk_828 ((hp_at _ (Nat.le_of_ble_eq_true rfl)).trans rfl) rfl 444 dL_law_441 rfl rfl rfl rfl (A_X5_rift _ _ y49 y50 y51 q48.2) rfl (fun q52 => ?_)
        refine af_icmp_eq K 447 1469 dL_law_444 rfl rfl (fun _ => ?_) (fun _ => ?_)
        · refine af_iincB K 1472 (fun yy => [some (.ref 1004), some (.ref 0), some (.ref 26), some (.int yy)]) dL_law_1469 rfl (by rw [hN]; exact Nat.le_of_ble_eq_true rfl) rfl cs_iconst_6 (fun _ => rfl) (fun y53 => ?_)
          refine af_goto K 18 dL_law_1472 rfl ?_
          refine af_lm [true, true, true, true] rfl ?_
          exact ih18 _ _ _ hk18
        · refine af_iconst K 448 dL_law_447 rfl cs_iconst_0 ?_
          exact af_retz K rfl dL_law_448
      refine af_ite (fun hx => ?_) (fun hx7 => ?_)
      · refine af_tin K 449 7 hx dL_law_33 (by decide) (by decide) rfl rfl ?_
        refine af_aload_n K 450 dL_law_449 rfl rfl ?_
        refine af_aload_n K 451 dL_law_450 rfl rfl ?_
        refine af_iload_n K 452 dL_law_451 rfl rfl ?_
        refine af_iconst K 453 dL_law_452 rfl cs_iconst_1 ?_
        refine af_iadd K 454 dL_law_453 rfl ?_
        refine af_sld K hX 455 dL_law_454 rfl (fun y54 => ?_)
        refine af_aload_n K 456 dL_law_455 rfl rfl ?_
        refine af_iload_n K 457 dL_law_456 rfl rfl ?_
        refine af_iconst K 458 dL_law_457 rfl cs_iconst_2 ?_
        refine af_iadd K 459 dL_law_458 rfl ?_
        refine af_sld K hX 460 dL_law_459 rfl (fun y55 => ?_)
        refine af_aload_n K 461 dL_law_460 rfl rfl ?_
        refine af_iload_n K 462 dL_law_461 rfl rfl ?_
        refine af_iconst K 463 dL_law_462 rfl cs_iconst_3 ?_
        refine af_iadd K 464 dL_law_463 rfl ?_
        refine af_sld K hX 465 dL_law_464 rfl (fun y56 => ?_)
        refine af_callV_i K (b := 0) (vs := [.int y54, .int y55, .int y56]) mv_X4_two lk_250 ((hp_at _ (Nat.le_of_ble_eq_true rfl)).trans rfl) rfl 468 dL_law_465 rfl rfl rfl rfl (A_X4_two _ _ y54 y55 y56 σ) rfl (fun q57 => ?_)
        refine af_aload_n K 469 dL_law_468 rfl rfl ?_
        refine af_aload_n K 470 dL_law_469 rfl rfl ?_
        refine af_iload_n K 471 dL_law_470 rfl rfl ?_
        refine af_iconst K 472 dL_law_471 rfl cs_iconst_1 ?_
        refine af_iadd K 473 dL_law_472 rfl ?_
        refine af_sld K hX 474 dL_law_473 rfl (fun y58 => ?_)
        refine af_aload_n K 475 dL_law_474 rfl rfl ?_
        refine af_iload_n K 476 dL_law_475 rfl rfl ?_
        refine af_iconst K 477 dL_law_476 rfl cs_iconst_2 ?_
        refine af_iadd K 478 dL_law_477 rfl ?_
        refine af_sld K hX 479 dL_law_478 rfl (fun y59 => ?_)
        refine af_aload_n K 480 dL_law_479 rfl rfl ?_
        refine af_iload_n K 481 dL_law_480 rfl rfl ?_
        refine af_iconst K 482 dL_law_481 rfl cs_iconst_3 ?_
        refine af_iadd K 483 dL_law_482 rfl ?_
        refine af_sld K hX 484 dL_law_483 rfl (fun y60 => ?_)
        refine af_callV_i K (b := 26) (vs := [.int y58, .int y59, .int y60]) mv_X5_two lk_839 ((hp_at _ (Nat.le_of_ble_eq_true rfl)).trans rfl) rfl 487 dL_law_484 rfl rfl rfl rfl (A_X5_two _ _ y58 y59 y60 q57.2) rfl (fun q61 => ?_)
        refine af_icmp_eq K 490 1469 dL_law_487 rfl rfl (fun _ => ?_) (fun _ => ?_)
        · refine af_iincB K 1472 (fun yy => [some (.ref 1004), some (.ref 0), some (.ref 26), some (.int yy)]) dL_law_1469 rfl (by rw [hN]; exact Nat.le_of_ble_eq_true rfl) rfl cs_iconst_6 (fun _ => rfl) (fun y62 => ?_)
          refine af_goto K 18 dL_law_1472 rfl ?_
          refine af_lm [true, true, true, true] rfl ?_
          exact ih18 _ _ _ hk18
        · refine af_iconst K 491 dL_law_490 rfl cs_iconst_0 ?_
          exact af_retz K rfl dL_law_491
      refine af_ite (fun hx => ?_) (fun hx8 => ?_)
      · refine af_tin K 492 8 hx dL_law_33 (by decide) (by decide) rfl rfl ?_
        refine af_aload_n K 493 dL_law_492 rfl rfl ?_
        refine af_aload_n K 494 dL_law_493 rfl rfl ?_
        refine af_iload_n K 495 dL_law_494 rfl rfl ?_
        refine af_iconst K 496 dL_law_495 rfl cs_iconst_1 ?_
        refine af_iadd K 497 dL_law_496 rfl ?_
        refine af_sld K hX 498 dL_law_497 rfl (fun y63 => ?_)
        refine af_callV_i K (b := 0) (vs := [.int y63]) mv_X4_go lk_269 ((hp_at _ (Nat.le_of_ble_eq_true rfl)).trans rfl) rfl 501 dL_law_498 rfl rfl rfl rfl (A_X4_go _ _ y63 σ) rfl (fun q64 => ?_)
        refine af_aload_n K 502 dL_law_501 rfl rfl ?_
        refine af_aload_n K 503 dL_law_502 rfl rfl ?_
        refine af_iload_n K 504 dL_law_503 rfl rfl ?_
        refine af_iconst K 505 dL_law_504 rfl cs_iconst_1 ?_
        refine af_iadd K 506 dL_law_505 rfl ?_
        refine af_sld K hX 507 dL_law_506 rfl (fun y65 => ?_)
        refine af_callV_i K (b := 26) (vs := [.int y65]) mv_X5_go lk_859 ((hp_at _ (Nat.le_of_ble_eq_true rfl)).trans rfl) rfl 510 dL_law_507 rfl rfl rfl rfl (A_X5_go _ _ y65 q64.2) rfl (fun q66 => ?_)
        refine af_icmp_eq K 513 1469 dL_law_510 rfl rfl (fun _ => ?_) (fun _ => ?_)
        · refine af_iincB K 1472 (fun yy => [some (.ref 1004), some (.ref 0), some (.ref 26), some (.int yy)]) dL_law_1469 rfl (by rw [hN]; exact Nat.le_of_ble_eq_true rfl) rfl cs_iconst_6 (fun _ => rfl) (fun y67 => ?_)
          refine af_goto K 18 dL_law_1472 rfl ?_
          refine af_lm [true, true, true, true] rfl ?_
          exact ih18 _ _ _ hk18
        · refine af_iconst K 514 dL_law_513 rfl cs_iconst_0 ?_
          exact af_retz K rfl dL_law_514
      refine af_ite (fun hx => ?_) (fun hx9 => ?_)
      · refine af_tin K 515 9 hx dL_law_33 (by decide) (by decide) rfl rfl ?_
        refine af_aload_n K 516 dL_law_515 rfl rfl ?_
        refine af_aload_n K 517 dL_law_516 rfl rfl ?_
        refine af_iload_n K 518 dL_law_517 rfl rfl ?_
        refine af_iconst K 519 dL_law_518 rfl cs_iconst_1 ?_
        refine af_iadd K 520 dL_law_519 rfl ?_
        refine af_sld K hX 521 dL_law_520 rfl (fun y68 => ?_)
        refine af_callV_i K (b := 0) (vs := [.int y68]) mv_X4_now lk_308 ((hp_at _ (Nat.le_of_ble_eq_true rfl)).trans rfl) rfl 524 dL_law_521 rfl rfl rfl rfl (A_X4_now _ _ y68 σ) rfl (fun q69 => ?_)
        refine af_aload_n K 525 dL_law_524 rfl rfl ?_
        refine af_aload_n K 526 dL_law_525 rfl rfl ?_
        refine af_iload_n K 527 dL_law_526 rfl rfl ?_
        refine af_iconst K 528 dL_law_527 rfl cs_iconst_1 ?_
        refine af_iadd K 529 dL_law_528 rfl ?_
        refine af_sld K hX 530 dL_law_529 rfl (fun y70 => ?_)
        refine af_callV_i K (b := 26) (vs := [.int y70]) mv_X5_now lk_893 ((hp_at _ (Nat.le_of_ble_eq_true rfl)).trans rfl) rfl 533 dL_law_530 rfl rfl rfl rfl (A_X5_now _ _ y70 q69.2) rfl (fun q71 => ?_)
        refine af_icmp_eq K 536 1469 dL_law_533 rfl rfl (fun _ => ?_) (fun _ => ?_)
        · refine af_iincB K 1472 (fun yy => [some (.ref 1004), some (.ref 0), some (.ref 26), some (.int yy)]) dL_law_1469 rfl (by rw [hN]; exact Nat.le_of_ble_eq_true rfl) rfl cs_iconst_6 (fun _ => rfl) (fun y72 => ?_)
          refine af_goto K 18 dL_law_1472 rfl ?_
          refine af_lm [true, true, true, true] rfl ?_
          exact ih18 _ _ _ hk18
        · refine af_iconst K 537 dL_law_536 rfl cs_iconst_0 ?_
          exact af_retz K rfl dL_law_537
      refine af_ite (fun hx => ?_) (fun hx10 => ?_)
      · refine af_tin K 538 10 hx dL_law_33 (by decide) (by decide) rfl rfl ?_
        refine af_aload_n K 539 dL_law_538 rfl rfl ?_
        refine af_aload_n K 540 dL_law_539 rfl rfl ?_
        refine af_iload_n K 541 dL_law_540 rfl rfl ?_
        refine af_iconst K 542 dL_law_541 rfl cs_iconst_1 ?_
        refine af_iadd K 543 dL_law_542 rfl ?_
        refine af_sld K hX 544 dL_law_543 rfl (fun y73 => ?_)
        refine af_aload_n K 545 dL_law_544 rfl rfl ?_
        refine af_iload_n K 546 dL_law_545 rfl rfl ?_
        refine af_iconst K 547 dL_law_546 rfl cs_iconst_2 ?_
        refine af_iadd K 548 dL_law_547 rfl ?_
        refine af_sld K hX 549 dL_law_548 rfl (fun y74 => ?_)
        refine af_aload_n K 550 dL_law_549 rfl rfl ?_
        refine af_iload_n K 551 dL_law_550 rfl rfl ?_
        refine af_iconst K 552 dL_law_551 rfl cs_iconst_3 ?_
        refine af_iadd K 553 dL_law_552 rfl ?_
        refine af_sld K hX 554 dL_law_553 rfl (fun y75 => ?_)
        refine af_callV_i K (b := 0) (vs := [.int y73, .int y74, .int y75]) mv_X4_ahead lk_324 ((hp_at _ (Nat.le_of_ble_eq_true rfl)).trans rfl) rfl 557 dL_law_554 rfl rfl rfl rfl (A_X4_ahead _ _ y73 y74 y75 σ) rfl (fun q76 => ?_)
        refine af_aload_n K 558 dL_law_557 rfl rfl ?_
        refine af_aload_n K 559 dL_law_558 rfl rfl ?_
        refine af_iload_n K 560 dL_law_559 rfl rfl ?_
        refine af_iconst K 561 dL_law_560 rfl cs_iconst_1 ?_
        refine af_iadd K 562 dL_law_561 rfl ?_
        refine af_sld K hX 563 dL_law_562 rfl (fun y77 => ?_)
        refine af_aload_n K 564 dL_law_563 rfl rfl ?_
        refine af_iload_n K 565 dL_law_564 rfl rfl ?_
        refine af_iconst K 566 dL_law_565 rfl cs_iconst_2 ?_
        refine af_iadd K 567 dL_law_566 rfl ?_
        refine af_sld K hX 568 dL_law_567 rfl (fun y78 => ?_)
        refine af_aload_n K 569 dL_law_568 rfl rfl ?_
        refine af_iload_n K 570 dL_law_569 rfl rfl ?_
        refine af_iconst K 571 dL_law_570 rfl cs_iconst_3 ?_
        refine af_iadd K 572 dL_law_571 rfl ?_
        refine af_sld K hX 573 dL_law_572 rfl (fun y79 => ?_)
        refine af_callV_i K (b := 26) (vs := [.int y77, .int y78, .int y79]) mv_X5_ahead lk_905 ((hp_at _ (Nat.le_of_ble_eq_true rfl)).trans rfl) rfl 576 dL_law_573 rfl rfl rfl rfl (A_X5_ahead _ _ y77 y78 y79 q76.2) rfl (fun q80 => ?_)
        refine af_icmp_eq K 579 1469 dL_law_576 rfl rfl (fun _ => ?_) (fun _ => ?_)
        · refine af_iincB K 1472 (fun yy => [some (.ref 1004), some (.ref 0), some (.ref 26), some (.int yy)]) dL_law_1469 rfl (by rw [hN]; exact Nat.le_of_ble_eq_true rfl) rfl cs_iconst_6 (fun _ => rfl) (fun y81 => ?_)
          refine af_goto K 18 dL_law_1472 rfl ?_
          refine af_lm [true, true, true, true] rfl ?_
          exact ih18 _ _ _ hk18
        · refine af_iconst K 580 dL_law_579 rfl cs_iconst_0 ?_
          exact af_retz K rfl dL_law_580
      refine af_ite (fun hx => ?_) (fun hx11 => ?_)
      · refine af_tin K 581 11 hx dL_law_33 (by decide) (by decide) rfl rfl ?_
        refine af_aload_n K 582 dL_law_581 rfl rfl ?_
        refine af_aload_n K 583 dL_law_582 rfl rfl ?_
        refine af_iload_n K 584 dL_law_583 rfl rfl ?_
        refine af_iconst K 585 dL_law_584 rfl cs_iconst_1 ?_
        refine af_iadd K 586 dL_law_585 rfl ?_
        refine af_sld K hX 587 dL_law_586 rfl (fun y82 => ?_)
        refine af_aload_n K 588 dL_law_587 rfl rfl ?_
        refine af_iload_n K 589 dL_law_588 rfl rfl ?_
        refine af_iconst K 590 dL_law_589 rfl cs_iconst_2 ?_
        refine af_iadd K 591 dL_law_590 rfl ?_
        refine af_sld K hX 592 dL_law_591 rfl (fun y83 => ?_)
        refine af_aload_n K 593 dL_law_592 rfl rfl ?_
        refine af_iload_n K 594 dL_law_593 rfl rfl ?_
        refine af_iconst K 595 dL_law_594 rfl cs_iconst_3 ?_
        refine af_iadd K 596 dL_law_595 rfl ?_
        refine af_sld K hX 597 dL_law_596 rfl (fun y84 => ?_)
        refine af_callV_i K (b := 0) (vs := [.int y82, .int y83, .int y84]) mv_X4_terms lk_335 ((hp_at _ (Nat.le_of_ble_eq_true rfl)).trans rfl) rfl 600 dL_law_597 rfl rfl rfl rfl (A_X4_terms _ _ y82 y83 y84 σ) rfl (fun q85 => ?_)
        refine af_aload_n K 601 dL_law_600 rfl rfl ?_
        refine af_aload_n K 602 dL_law_601 rfl rfl ?_
        refine af_iload_n K 603 dL_law_602 rfl rfl ?_
        refine af_iconst K 604 dL_law_603 rfl cs_iconst_1 ?_
        refine af_iadd K 605 dL_law_604 rfl ?_
        refine af_sld K hX 606 dL_law_605 rfl (fun y86 => ?_)
        refine af_aload_n K 607 dL_law_606 rfl rfl ?_
        refine af_iload_n K 608 dL_law_607 rfl rfl ?_
        refine af_iconst K 609 dL_law_608 rfl cs_iconst_2 ?_
        refine af_iadd K 610 dL_law_609 rfl ?_
        refine af_sld K hX 611 dL_law_610 rfl (fun y87 => ?_)
        refine af_aload_n K 612 dL_law_611 rfl rfl ?_
        refine af_iload_n K 613 dL_law_612 rfl rfl ?_
        refine af_iconst K 614 dL_law_613 rfl cs_iconst_3 ?_
        refine af_iadd K 615 dL_law_614 rfl ?_
        refine af_sld K hX 616 dL_law_615 rfl (fun y88 => ?_)
        refine af_callV_i K (b := 26) (vs := [.int y86, .int y87, .int y88]) mv_X5_terms lk_913 ((hp_at _ (Nat.le_of_ble_eq_true rfl)).trans rfl) rfl 619 dL_law_616 rfl rfl rfl rfl (A_X5_terms _ _ y86 y87 y88 q85.2) rfl (fun q89 => ?_)
        refine af_icmp_eq K 622 1469 dL_law_619 rfl rfl (fun _ => ?_) (fun _ => ?_)
        · refine af_iincB K 1472 (fun yy => [some (.ref 1004), some (.ref 0), some (.ref 26), some (.int yy)]) dL_law_1469 rfl (by rw [hN]; exact Nat.le_of_ble_eq_true rfl) rfl cs_iconst_6 (fun _ => rfl) (fun y90 => ?_)
          refine af_goto K 18 dL_law_1472 rfl ?_
          refine af_lm [true, true, true, true] rfl ?_
          exact ih18 _ _ _ hk18
        · refine af_iconst K 623 dL_law_622 rfl cs_iconst_0 ?_
          exact af_retz K rfl dL_law_623
      refine af_ite (fun hx => ?_) (fun hx12 => ?_)
      · refine af_tin K 624 12 hx dL_law_33 (by decide) (by decide) rfl rfl ?_
        refine af_aload_n K 625 dL_law_624 rfl rfl ?_
        refine af_aload_n K 626 dL_law_625 rfl rfl ?_
        refine af_iload_n K 627 dL_law_626 rfl rfl ?_
        refine af_iconst K 628 dL_law_627 rfl cs_iconst_1 ?_
        refine af_iadd K 629 dL_law_628 rfl ?_
        refine af_sld K hX 630 dL_law_629 rfl (fun y91 => ?_)
        refine af_callV_i K (b := 0) (vs := [.int y91]) mv_X4_next lk_339 ((hp_at _ (Nat.le_of_ble_eq_true rfl)).trans rfl) rfl 633 dL_law_630 rfl rfl rfl rfl (A_X4_next _ _ y91 σ) rfl (fun q92 => ?_)
        refine af_aload_n K 634 dL_law_633 rfl rfl ?_
        refine af_aload_n K 635 dL_law_634 rfl rfl ?_
        refine af_iload_n K 636 dL_law_635 rfl rfl ?_
        refine af_iconst K 637 dL_law_636 rfl cs_iconst_1 ?_
        refine af_iadd K 638 dL_law_637 rfl ?_
        refine af_sld K hX 639 dL_law_638 rfl (fun y93 => ?_)
        refine af_callV_i K (b := 26) (vs := [.int y93]) mv_X5_next lk_921 ((hp_at _ (Nat.le_of_ble_eq_true rfl)).trans rfl) rfl 642 dL_law_639 rfl rfl rfl rfl (A_X5_next _ _ y93 q92.2) rfl (fun q94 => ?_)
        refine af_icmp_eq K 645 1469 dL_law_642 rfl rfl (fun _ => ?_) (fun _ => ?_)
        · refine af_iincB K 1472 (fun yy => [some (.ref 1004), some (.ref 0), some (.ref 26), some (.int yy)]) dL_law_1469 rfl (by rw [hN]; exact Nat.le_of_ble_eq_true rfl) rfl cs_iconst_6 (fun _ => rfl) (fun y95 => ?_)
          refine af_goto K 18 dL_law_1472 rfl ?_
          refine af_lm [true, true, true, true] rfl ?_
          exact ih18 _ _ _ hk18
        · refine af_iconst K 646 dL_law_645 rfl cs_iconst_0 ?_
          exact af_retz K rfl dL_law_646
      refine af_ite (fun hx => ?_) (fun hx13 => ?_)
      · refine af_tin K 647 13 hx dL_law_33 (by decide) (by decide) rfl rfl ?_
        refine af_aload_n K 648 dL_law_647 rfl rfl ?_
        refine af_aload_n K 649 dL_law_648 rfl rfl ?_
        refine af_iload_n K 650 dL_law_649 rfl rfl ?_
        refine af_iconst K 651 dL_law_650 rfl cs_iconst_1 ?_
        refine af_iadd K 652 dL_law_651 rfl ?_
        refine af_sld K hX 653 dL_law_652 rfl (fun y96 => ?_)
        refine af_aload_n K 654 dL_law_653 rfl rfl ?_
        refine af_iload_n K 655 dL_law_654 rfl rfl ?_
        refine af_iconst K 656 dL_law_655 rfl cs_iconst_2 ?_
        refine af_iadd K 657 dL_law_656 rfl ?_
        refine af_sld K hX 658 dL_law_657 rfl (fun y97 => ?_)
        refine af_aload_n K 659 dL_law_658 rfl rfl ?_
        refine af_iload_n K 660 dL_law_659 rfl rfl ?_
        refine af_iconst K 661 dL_law_660 rfl cs_iconst_3 ?_
        refine af_iadd K 662 dL_law_661 rfl ?_
        refine af_sld K hX 663 dL_law_662 rfl (fun y98 => ?_)
        refine af_callV_i K (b := 0) (vs := [.int y96, .int y97, .int y98]) mv_X4_peace lk_343 ((hp_at _ (Nat.le_of_ble_eq_true rfl)).trans rfl) rfl 666 dL_law_663 rfl rfl rfl rfl (A_X4_peace _ _ y96 y97 y98 σ) rfl (fun q99 => ?_)
        refine af_aload_n K 667 dL_law_666 rfl rfl ?_
        refine af_aload_n K 668 dL_law_667 rfl rfl ?_
        refine af_iload_n K 669 dL_law_668 rfl rfl ?_
        refine af_iconst K 670 dL_law_669 rfl cs_iconst_1 ?_
        refine af_iadd K 671 dL_law_670 rfl ?_
        refine af_sld K hX 672 dL_law_671 rfl (fun y100 => ?_)
        refine af_aload_n K 673 dL_law_672 rfl rfl ?_
        refine af_iload_n K 674 dL_law_673 rfl rfl ?_
        refine af_iconst K 675 dL_law_674 rfl cs_iconst_2 ?_
        refine af_iadd K 676 dL_law_675 rfl ?_
        refine af_sld K hX 677 dL_law_676 rfl (fun y101 => ?_)
        refine af_aload_n K 678 dL_law_677 rfl rfl ?_
        refine af_iload_n K 679 dL_law_678 rfl rfl ?_
        refine af_iconst K 680 dL_law_679 rfl cs_iconst_3 ?_
        refine af_iadd K 681 dL_law_680 rfl ?_
        refine af_sld K hX 682 dL_law_681 rfl (fun y102 => ?_)
        refine af_callV_i K (b := 26) (vs := [.int y100, .int y101, .int y102]) mv_X5_peace lk_929 ((hp_at _ (Nat.le_of_ble_eq_true rfl)).trans rfl) rfl 685 dL_law_682 rfl rfl rfl rfl (A_X5_peace _ _ y100 y101 y102 q99.2) rfl (fun q103 => ?_)
        refine af_icmp_eq K 688 1469 dL_law_685 rfl rfl (fun _ => ?_) (fun _ => ?_)
        · refine af_iincB K 1472 (fun yy => [some (.ref 1004), some (.ref 0), some (.ref 26), some (.int yy)]) dL_law_1469 rfl (by rw [hN]; exact Nat.le_of_ble_eq_true rfl) rfl cs_iconst_6 (fun _ => rfl) (fun y104 => ?_)
          refine af_goto K 18 dL_law_1472 rfl ?_
          refine af_lm [true, true, true, true] rfl ?_
          exact ih18 _ _ _ hk18
        · refine af_iconst K 689 dL_law_688 rfl cs_iconst_0 ?_
          exact af_retz K rfl dL_law_689
      refine af_ite (fun hx => ?_) (fun hx14 => ?_)
      · refine af_tin K 690 14 hx dL_law_33 (by decide) (by decide) rfl rfl ?_
        refine af_aload_n K 691 dL_law_690 rfl rfl ?_
        refine af_aload_n K 692 dL_law_691 rfl rfl ?_
        refine af_iload_n K 693 dL_law_692 rfl rfl ?_
        refine af_iconst K 694 dL_law_693 rfl cs_iconst_1 ?_
        refine af_iadd K 695 dL_law_694 rfl ?_
        refine af_sld K hX 696 dL_law_695 rfl (fun y105 => ?_)
        refine af_aload_n K 697 dL_law_696 rfl rfl ?_
        refine af_iload_n K 698 dL_law_697 rfl rfl ?_
        refine af_iconst K 699 dL_law_698 rfl cs_iconst_2 ?_
        refine af_iadd K 700 dL_law_699 rfl ?_
        refine af_sld K hX 701 dL_law_700 rfl (fun y106 => ?_)
        refine af_callV_i K (b := 0) (vs := [.int y105, .int y106]) mv_X4_when lk_347 ((hp_at _ (Nat.le_of_ble_eq_true rfl)).trans rfl) rfl 704 dL_law_701 rfl rfl rfl rfl (A_X4_when _ _ y105 y106 σ) rfl (fun q107 => ?_)
        refine af_aload_n K 705 dL_law_704 rfl rfl ?_
        refine af_aload_n K 706 dL_law_705 rfl rfl ?_
        refine af_iload_n K 707 dL_law_706 rfl rfl ?_
        refine af_iconst K 708 dL_law_707 rfl cs_iconst_1 ?_
        refine af_iadd K 709 dL_law_708 rfl ?_
        refine af_sld K hX 710 dL_law_709 rfl (fun y108 => ?_)
        refine af_aload_n K 711 dL_law_710 rfl rfl ?_
        refine af_iload_n K 712 dL_law_711 rfl rfl ?_
        refine af_iconst K 713 dL_law_712 rfl cs_iconst_2 ?_
        refine af_iadd K 714 dL_law_713 rfl ?_
        refine af_sld K hX 715 dL_law_714 rfl (fun y109 => ?_)
        refine af_callV_i K (b := 26) (vs := [.int y108, .int y109]) mv_X5_when lk_933 ((hp_at _ (Nat.le_of_ble_eq_true rfl)).trans rfl) rfl 718 dL_law_715 rfl rfl rfl rfl (A_X5_when _ _ y108 y109 q107.2) rfl (fun q110 => ?_)
        refine af_icmp_eq K 721 1469 dL_law_718 rfl rfl (fun _ => ?_) (fun _ => ?_)
        · refine af_iincB K 1472 (fun yy => [some (.ref 1004), some (.ref 0), some (.ref 26), some (.int yy)]) dL_law_1469 rfl (by rw [hN]; exact Nat.le_of_ble_eq_true rfl) rfl cs_iconst_6 (fun _ => rfl) (fun y111 => ?_)
          refine af_goto K 18 dL_law_1472 rfl ?_
          refine af_lm [true, true, true, true] rfl ?_
          exact ih18 _ _ _ hk18
        · refine af_iconst K 722 dL_law_721 rfl cs_iconst_0 ?_
          exact af_retz K rfl dL_law_722
      refine af_ite (fun hx => ?_) (fun hx15 => ?_)
      · refine af_tin K 723 15 hx dL_law_33 (by decide) (by decide) rfl rfl ?_
        refine af_aload_n K 724 dL_law_723 rfl rfl ?_
        refine af_aload_n K 725 dL_law_724 rfl rfl ?_
        refine af_iload_n K 726 dL_law_725 rfl rfl ?_
        refine af_iconst K 727 dL_law_726 rfl cs_iconst_1 ?_
        refine af_iadd K 728 dL_law_727 rfl ?_
        refine af_sld K hX 729 dL_law_728 rfl (fun y112 => ?_)
        refine af_aload_n K 730 dL_law_729 rfl rfl ?_
        refine af_iload_n K 731 dL_law_730 rfl rfl ?_
        refine af_iconst K 732 dL_law_731 rfl cs_iconst_2 ?_
        refine af_iadd K 733 dL_law_732 rfl ?_
        refine af_sld K hX 734 dL_law_733 rfl (fun y113 => ?_)
        refine af_aload_n K 735 dL_law_734 rfl rfl ?_
        refine af_iload_n K 736 dL_law_735 rfl rfl ?_
        refine af_iconst K 737 dL_law_736 rfl cs_iconst_3 ?_
        refine af_iadd K 738 dL_law_737 rfl ?_
        refine af_sld K hX 739 dL_law_738 rfl (fun y114 => ?_)
        refine af_callV_i K (b := 0) (vs := [.int y112, .int y113, .int y114]) mv_X4_setWith lk_351 ((hp_at _ (Nat.le_of_ble_eq_true rfl)).trans rfl) rfl 742 dL_law_739 rfl rfl rfl rfl (A_X4_setWith _ _ y112 y113 y114 σ) rfl (fun q115 => ?_)
        refine af_aload_n K 743 dL_law_742 rfl rfl ?_
        refine af_aload_n K 744 dL_law_743 rfl rfl ?_
        refine af_iload_n K 745 dL_law_744 rfl rfl ?_
        refine af_iconst K 746 dL_law_745 rfl cs_iconst_1 ?_
        refine af_iadd K 747 dL_law_746 rfl ?_
        refine af_sld K hX 748 dL_law_747 rfl (fun y116 => ?_)
        refine af_aload_n K 749 dL_law_748 rfl rfl ?_
        refine af_iload_n K 750 dL_law_749 rfl rfl ?_
        refine af_iconst K 751 dL_law_750 rfl cs_iconst_2 ?_
        refine af_iadd K 752 dL_law_751 rfl ?_
        refine af_sld K hX 753 dL_law_752 rfl (fun y117 => ?_)
        refine af_aload_n K 754 dL_law_753 rfl rfl ?_
        refine af_iload_n K 755 dL_law_754 rfl rfl ?_
        refine af_iconst K 756 dL_law_755 rfl cs_iconst_3 ?_
        refine af_iadd K 757 dL_law_756 rfl ?_
        refine af_sld K hX 758 dL_law_757 rfl (fun y118 => ?_)
        refine af_callV_i K (b := 26) (vs := [.int y116, .int y117, .int y118]) mv_X5_setWith lk_938 ((hp_at _ (Nat.le_of_ble_eq_true rfl)).trans rfl) rfl 761 dL_law_758 rfl rfl rfl rfl (A_X5_setWith _ _ y116 y117 y118 q115.2) rfl (fun q119 => ?_)
        refine af_icmp_eq K 764 1469 dL_law_761 rfl rfl (fun _ => ?_) (fun _ => ?_)
        · refine af_iincB K 1472 (fun yy => [some (.ref 1004), some (.ref 0), some (.ref 26), some (.int yy)]) dL_law_1469 rfl (by rw [hN]; exact Nat.le_of_ble_eq_true rfl) rfl cs_iconst_6 (fun _ => rfl) (fun y120 => ?_)
          refine af_goto K 18 dL_law_1472 rfl ?_
          refine af_lm [true, true, true, true] rfl ?_
          exact ih18 _ _ _ hk18
        · refine af_iconst K 765 dL_law_764 rfl cs_iconst_0 ?_
          exact af_retz K rfl dL_law_765
      refine af_ite (fun hx => ?_) (fun hx16 => ?_)
      · refine af_tin K 766 16 hx dL_law_33 (by decide) (by decide) rfl rfl ?_
        refine af_aload_n K 767 dL_law_766 rfl rfl ?_
        refine af_aload_n K 768 dL_law_767 rfl rfl ?_
        refine af_iload_n K 769 dL_law_768 rfl rfl ?_
        refine af_iconst K 770 dL_law_769 rfl cs_iconst_1 ?_
        refine af_iadd K 771 dL_law_770 rfl ?_
        refine af_sld K hX 772 dL_law_771 rfl (fun y121 => ?_)
        refine af_aload_n K 773 dL_law_772 rfl rfl ?_
        refine af_iload_n K 774 dL_law_773 rfl rfl ?_
        refine af_iconst K 775 dL_law_774 rfl cs_iconst_2 ?_
        refine af_iadd K 776 dL_law_775 rfl ?_
        refine af_sld K hX 777 dL_law_776 rfl (fun y122 => ?_)
        refine af_callV_i K (b := 0) (vs := [.int y121, .int y122]) mv_X4_heatFor lk_355 ((hp_at _ (Nat.le_of_ble_eq_true rfl)).trans rfl) rfl 780 dL_law_777 rfl rfl rfl rfl (A_X4_heatFor _ _ y121 y122 σ) rfl (fun q123 => ?_)
        refine af_aload_n K 781 dL_law_780 rfl rfl ?_
        refine af_aload_n K 782 dL_law_781 rfl rfl ?_
        refine af_iload_n K 783 dL_law_782 rfl rfl ?_
        refine af_iconst K 784 dL_law_783 rfl cs_iconst_1 ?_
        refine af_iadd K 785 dL_law_784 rfl ?_
        refine af_sld K hX 786 dL_law_785 rfl (fun y124 => ?_)
        refine af_aload_n K 787 dL_law_786 rfl rfl ?_
        refine af_iload_n K 788 dL_law_787 rfl rfl ?_
        refine af_iconst K 789 dL_law_788 rfl cs_iconst_2 ?_
        refine af_iadd K 790 dL_law_789 rfl ?_
        refine af_sld K hX 791 dL_law_790 rfl (fun y125 => ?_)
        refine af_callV_i K (b := 26) (vs := [.int y124, .int y125]) mv_X5_heatFor lk_945 ((hp_at _ (Nat.le_of_ble_eq_true rfl)).trans rfl) rfl 794 dL_law_791 rfl rfl rfl rfl (A_X5_heatFor _ _ y124 y125 q123.2) rfl (fun q126 => ?_)
        refine af_icmp_eq K 797 1469 dL_law_794 rfl rfl (fun _ => ?_) (fun _ => ?_)
        · refine af_iincB K 1472 (fun yy => [some (.ref 1004), some (.ref 0), some (.ref 26), some (.int yy)]) dL_law_1469 rfl (by rw [hN]; exact Nat.le_of_ble_eq_true rfl) rfl cs_iconst_6 (fun _ => rfl) (fun y127 => ?_)
          refine af_goto K 18 dL_law_1472 rfl ?_
          refine af_lm [true, true, true, true] rfl ?_
          exact ih18 _ _ _ hk18
        · refine af_iconst K 798 dL_law_797 rfl cs_iconst_0 ?_
          exact af_retz K rfl dL_law_798
      refine af_ite (fun hx => ?_) (fun hx17 => ?_)
      · refine af_tin K 799 17 hx dL_law_33 (by decide) (by decide) rfl rfl ?_
        refine af_aload_n K 800 dL_law_799 rfl rfl ?_
        refine af_aload_n K 801 dL_law_800 rfl rfl ?_
        refine af_iload_n K 802 dL_law_801 rfl rfl ?_
        refine af_iconst K 803 dL_law_802 rfl cs_iconst_1 ?_
        refine af_iadd K 804 dL_law_803 rfl ?_
        refine af_sld K hX 805 dL_law_804 rfl (fun y128 => ?_)
        refine af_aload_n K 806 dL_law_805 rfl rfl ?_
        refine af_iload_n K 807 dL_law_806 rfl rfl ?_
        refine af_iconst K 808 dL_law_807 rfl cs_iconst_2 ?_
        refine af_iadd K 809 dL_law_808 rfl ?_
        refine af_sld K hX 810 dL_law_809 rfl (fun y129 => ?_)
        refine af_callV_i K (b := 0) (vs := [.int y128, .int y129]) mv_X4_kindFor lk_363 ((hp_at _ (Nat.le_of_ble_eq_true rfl)).trans rfl) rfl 813 dL_law_810 rfl rfl rfl rfl (A_X4_kindFor _ _ y128 y129 σ) rfl (fun q130 => ?_)
        refine af_aload_n K 814 dL_law_813 rfl rfl ?_
        refine af_aload_n K 815 dL_law_814 rfl rfl ?_
        refine af_iload_n K 816 dL_law_815 rfl rfl ?_
        refine af_iconst K 817 dL_law_816 rfl cs_iconst_1 ?_
        refine af_iadd K 818 dL_law_817 rfl ?_
        refine af_sld K hX 819 dL_law_818 rfl (fun y131 => ?_)
        refine af_aload_n K 820 dL_law_819 rfl rfl ?_
        refine af_iload_n K 821 dL_law_820 rfl rfl ?_
        refine af_iconst K 822 dL_law_821 rfl cs_iconst_2 ?_
        refine af_iadd K 823 dL_law_822 rfl ?_
        refine af_sld K hX 824 dL_law_823 rfl (fun y132 => ?_)
        refine af_callV_i K (b := 26) (vs := [.int y131, .int y132]) mv_X5_kindFor lk_953 ((hp_at _ (Nat.le_of_ble_eq_true rfl)).trans rfl) rfl 827 dL_law_824 rfl rfl rfl rfl (A_X5_kindFor _ _ y131 y132 q130.2) rfl (fun q133 => ?_)
        refine af_icmp_eq K 830 1469 dL_law_827 rfl rfl (fun _ => ?_) (fun _ => ?_)
        · refine af_iincB K 1472 (fun yy => [some (.ref 1004), some (.ref 0), some (.ref 26), some (.int yy)]) dL_law_1469 rfl (by rw [hN]; exact Nat.le_of_ble_eq_true rfl) rfl cs_iconst_6 (fun _ => rfl) (fun y134 => ?_)
          refine af_goto K 18 dL_law_1472 rfl ?_
          refine af_lm [true, true, true, true] rfl ?_
          exact ih18 _ _ _ hk18
        · refine af_iconst K 831 dL_law_830 rfl cs_iconst_0 ?_
          exact af_retz K rfl dL_law_831
      refine af_ite (fun hx => ?_) (fun hx18 => ?_)
      · refine af_tin K 832 18 hx dL_law_33 (by decide) (by decide) rfl rfl ?_
        refine af_aload_n K 833 dL_law_832 rfl rfl ?_
        refine af_aload_n K 834 dL_law_833 rfl rfl ?_
        refine af_iload_n K 835 dL_law_834 rfl rfl ?_
        refine af_iconst K 836 dL_law_835 rfl cs_iconst_1 ?_
        refine af_iadd K 837 dL_law_836 rfl ?_
        refine af_sld K hX 838 dL_law_837 rfl (fun y135 => ?_)
        refine af_aload_n K 839 dL_law_838 rfl rfl ?_
        refine af_iload_n K 840 dL_law_839 rfl rfl ?_
        refine af_iconst K 841 dL_law_840 rfl cs_iconst_2 ?_
        refine af_iadd K 842 dL_law_841 rfl ?_
        refine af_sld K hX 843 dL_law_842 rfl (fun y136 => ?_)
        refine af_callV_i K (b := 0) (vs := [.int y135, .int y136]) mv_X4_clayFor lk_367 ((hp_at _ (Nat.le_of_ble_eq_true rfl)).trans rfl) rfl 846 dL_law_843 rfl rfl rfl rfl (A_X4_clayFor _ _ y135 y136 σ) rfl (fun q137 => ?_)
        refine af_aload_n K 847 dL_law_846 rfl rfl ?_
        refine af_aload_n K 848 dL_law_847 rfl rfl ?_
        refine af_iload_n K 849 dL_law_848 rfl rfl ?_
        refine af_iconst K 850 dL_law_849 rfl cs_iconst_1 ?_
        refine af_iadd K 851 dL_law_850 rfl ?_
        refine af_sld K hX 852 dL_law_851 rfl (fun y138 => ?_)
        refine af_aload_n K 853 dL_law_852 rfl rfl ?_
        refine af_iload_n K 854 dL_law_853 rfl rfl ?_
        refine af_iconst K 855 dL_law_854 rfl cs_iconst_2 ?_
        refine af_iadd K 856 dL_law_855 rfl ?_
        refine af_sld K hX 857 dL_law_856 rfl (fun y139 => ?_)
        refine af_callV_i K (b := 26) (vs := [.int y138, .int y139]) mv_X5_clayFor lk_957 ((hp_at _ (Nat.le_of_ble_eq_true rfl)).trans rfl) rfl 860 dL_law_857 rfl rfl rfl rfl (A_X5_clayFor _ _ y138 y139 q137.2) rfl (fun q140 => ?_)
        refine af_icmp_eq K 863 1469 dL_law_860 rfl rfl (fun _ => ?_) (fun _ => ?_)
        · refine af_iincB K 1472 (fun yy => [some (.ref 1004), some (.ref 0), some (.ref 26), some (.int yy)]) dL_law_1469 rfl (by rw [hN]; exact Nat.le_of_ble_eq_true rfl) rfl cs_iconst_6 (fun _ => rfl) (fun y141 => ?_)
          refine af_goto K 18 dL_law_1472 rfl ?_
          refine af_lm [true, true, true, true] rfl ?_
          exact ih18 _ _ _ hk18
        · refine af_iconst K 864 dL_law_863 rfl cs_iconst_0 ?_
          exact af_retz K rfl dL_law_864
      refine af_ite (fun hx => ?_) (fun hx19 => ?_)
      · refine af_tin K 865 19 hx dL_law_33 (by decide) (by decide) rfl rfl ?_
        refine af_aload_n K 866 dL_law_865 rfl rfl ?_
        refine af_aload_n K 867 dL_law_866 rfl rfl ?_
        refine af_iload_n K 868 dL_law_867 rfl rfl ?_
        refine af_iconst K 869 dL_law_868 rfl cs_iconst_1 ?_
        refine af_iadd K 870 dL_law_869 rfl ?_
        refine af_sld K hX 871 dL_law_870 rfl (fun y142 => ?_)
        refine af_callV_i K (b := 0) (vs := [.int y142]) mv_X4_reconcile lk_371 ((hp_at _ (Nat.le_of_ble_eq_true rfl)).trans rfl) rfl 874 dL_law_871 rfl rfl rfl rfl (A_X4_reconcile _ _ y142 σ) rfl (fun q143 => ?_)
        refine af_aload_n K 875 dL_law_874 rfl rfl ?_
        refine af_aload_n K 876 dL_law_875 rfl rfl ?_
        refine af_iload_n K 877 dL_law_876 rfl rfl ?_
        refine af_iconst K 878 dL_law_877 rfl cs_iconst_1 ?_
        refine af_iadd K 879 dL_law_878 rfl ?_
        refine af_sld K hX 880 dL_law_879 rfl (fun y144 => ?_)
        refine af_callV_i K (b := 26) (vs := [.int y144]) mv_X5_reconcile lk_961 ((hp_at _ (Nat.le_of_ble_eq_true rfl)).trans rfl) rfl 883 dL_law_880 rfl rfl rfl rfl (A_X5_reconcile _ _ y144 q143.2) rfl (fun q145 => ?_)
        refine af_icmp_eq K 886 1469 dL_law_883 rfl rfl (fun _ => ?_) (fun _ => ?_)
        · refine af_iincB K 1472 (fun yy => [some (.ref 1004), some (.ref 0), some (.ref 26), some (.int yy)]) dL_law_1469 rfl (by rw [hN]; exact Nat.le_of_ble_eq_true rfl) rfl cs_iconst_6 (fun _ => rfl) (fun y146 => ?_)
          refine af_goto K 18 dL_law_1472 rfl ?_
          refine af_lm [true, true, true, true] rfl ?_
          exact ih18 _ _ _ hk18
        · refine af_iconst K 887 dL_law_886 rfl cs_iconst_0 ?_
          exact af_retz K rfl dL_law_887
      refine af_ite (fun hx => ?_) (fun hx20 => ?_)
      · refine af_tin K 888 20 hx dL_law_33 (by decide) (by decide) rfl rfl ?_
        refine af_aload_n K 889 dL_law_888 rfl rfl ?_
        refine af_aload_n K 890 dL_law_889 rfl rfl ?_
        refine af_iload_n K 891 dL_law_890 rfl rfl ?_
        refine af_iconst K 892 dL_law_891 rfl cs_iconst_1 ?_
        refine af_iadd K 893 dL_law_892 rfl ?_
        refine af_sld K hX 894 dL_law_893 rfl (fun y147 => ?_)
        refine af_aload_n K 895 dL_law_894 rfl rfl ?_
        refine af_iload_n K 896 dL_law_895 rfl rfl ?_
        refine af_iconst K 897 dL_law_896 rfl cs_iconst_2 ?_
        refine af_iadd K 898 dL_law_897 rfl ?_
        refine af_sld K hX 899 dL_law_898 rfl (fun y148 => ?_)
        refine af_aload_n K 900 dL_law_899 rfl rfl ?_
        refine af_iload_n K 901 dL_law_900 rfl rfl ?_
        refine af_iconst K 902 dL_law_901 rfl cs_iconst_3 ?_
        refine af_iadd K 903 dL_law_902 rfl ?_
        refine af_sld K hX 904 dL_law_903 rfl (fun y149 => ?_)
        refine af_callV_i K (b := 0) (vs := [.int y147, .int y148, .int y149]) mv_X4_fits lk_389 ((hp_at _ (Nat.le_of_ble_eq_true rfl)).trans rfl) rfl 907 dL_law_904 rfl rfl rfl rfl (A_X4_fits _ _ y147 y148 y149 σ) rfl (fun q150 => ?_)
        refine af_aload_n K 908 dL_law_907 rfl rfl ?_
        refine af_aload_n K 909 dL_law_908 rfl rfl ?_
        refine af_iload_n K 910 dL_law_909 rfl rfl ?_
        refine af_iconst K 911 dL_law_910 rfl cs_iconst_1 ?_
        refine af_iadd K 912 dL_law_911 rfl ?_
        refine af_sld K hX 913 dL_law_912 rfl (fun y151 => ?_)
        refine af_aload_n K 914 dL_law_913 rfl rfl ?_
        refine af_iload_n K 915 dL_law_914 rfl rfl ?_
        refine af_iconst K 916 dL_law_915 rfl cs_iconst_2 ?_
        refine af_iadd K 917 dL_law_916 rfl ?_
        refine af_sld K hX 918 dL_law_917 rfl (fun y152 => ?_)
        refine af_aload_n K 919 dL_law_918 rfl rfl ?_
        refine af_iload_n K 920 dL_law_919 rfl rfl ?_
        refine af_iconst K 921 dL_law_920 rfl cs_iconst_3 ?_
        refine af_iadd K 922 dL_law_921 rfl ?_
        refine af_sld K hX 923 dL_law_922 rfl (fun y153 => ?_)
        refine af_callV_i K (b := 26) (vs := [.int y151, .int y152, .int y153]) mv_X5_fits lk_972 ((hp_at _ (Nat.le_of_ble_eq_true rfl)).trans rfl) rfl 926 dL_law_923 rfl rfl rfl rfl (A_X5_fits _ _ y151 y152 y153 q150.2) rfl (fun q154 => ?_)
        refine af_icmp_eq K 929 1469 dL_law_926 rfl rfl (fun _ => ?_) (fun _ => ?_)
        · refine af_iincB K 1472 (fun yy => [some (.ref 1004), some (.ref 0), some (.ref 26), some (.int yy)]) dL_law_1469 rfl (by rw [hN]; exact Nat.le_of_ble_eq_true rfl) rfl cs_iconst_6 (fun _ => rfl) (fun y155 => ?_)
          refine af_goto K 18 dL_law_1472 rfl ?_
          refine af_lm [true, true, true, true] rfl ?_
          exact ih18 _ _ _ hk18
        · refine af_iconst K 930 dL_law_929 rfl cs_iconst_0 ?_
          exact af_retz K rfl dL_law_930
      refine af_ite (fun hx => ?_) (fun hx21 => ?_)
      · refine af_tin K 931 21 hx dL_law_33 (by decide) (by decide) rfl rfl ?_
        refine af_aload_n K 932 dL_law_931 rfl rfl ?_
        refine af_aload_n K 933 dL_law_932 rfl rfl ?_
        refine af_iload_n K 934 dL_law_933 rfl rfl ?_
        refine af_iconst K 935 dL_law_934 rfl cs_iconst_1 ?_
        refine af_iadd K 936 dL_law_935 rfl ?_
        refine af_sld K hX 937 dL_law_936 rfl (fun y156 => ?_)
        refine af_aload_n K 938 dL_law_937 rfl rfl ?_
        refine af_iload_n K 939 dL_law_938 rfl rfl ?_
        refine af_iconst K 940 dL_law_939 rfl cs_iconst_2 ?_
        refine af_iadd K 941 dL_law_940 rfl ?_
        refine af_sld K hX 942 dL_law_941 rfl (fun y157 => ?_)
        refine af_callV_i K (b := 0) (vs := [.int y156, .int y157]) mv_X4_kinds lk_405 ((hp_at _ (Nat.le_of_ble_eq_true rfl)).trans rfl) rfl 945 dL_law_942 rfl rfl rfl rfl (A_X4_kinds _ _ y156 y157 σ) rfl (fun q158 => ?_)
        refine af_aload_n K 946 dL_law_945 rfl rfl ?_
        refine af_aload_n K 947 dL_law_946 rfl rfl ?_
        refine af_iload_n K 948 dL_law_947 rfl rfl ?_
        refine af_iconst K 949 dL_law_948 rfl cs_iconst_1 ?_
        refine af_iadd K 950 dL_law_949 rfl ?_
        refine af_sld K hX 951 dL_law_950 rfl (fun y159 => ?_)
        refine af_aload_n K 952 dL_law_951 rfl rfl ?_
        refine af_iload_n K 953 dL_law_952 rfl rfl ?_
        refine af_iconst K 954 dL_law_953 rfl cs_iconst_2 ?_
        refine af_iadd K 955 dL_law_954 rfl ?_
        refine af_sld K hX 956 dL_law_955 rfl (fun y160 => ?_)
        refine af_callV_i K (b := 26) (vs := [.int y159, .int y160]) mv_X5_kinds lk_987 ((hp_at _ (Nat.le_of_ble_eq_true rfl)).trans rfl) rfl 959 dL_law_956 rfl rfl rfl rfl (A_X5_kinds _ _ y159 y160 q158.2) rfl (fun q161 => ?_)
        refine af_icmp_eq K 962 1469 dL_law_959 rfl rfl (fun _ => ?_) (fun _ => ?_)
        · refine af_iincB K 1472 (fun yy => [some (.ref 1004), some (.ref 0), some (.ref 26), some (.int yy)]) dL_law_1469 rfl (by rw [hN]; exact Nat.le_of_ble_eq_true rfl) rfl cs_iconst_6 (fun _ => rfl) (fun y162 => ?_)
          refine af_goto K 18 dL_law_1472 rfl ?_
          refine af_lm [true, true, true, true] rfl ?_
          exact ih18 _ _ _ hk18
        · refine af_iconst K 963 dL_law_962 rfl cs_iconst_0 ?_
          exact af_retz K rfl dL_law_963
      refine af_ite (fun hx => ?_) (fun hx22 => ?_)
      · refine af_tin K 964 22 hx dL_law_33 (by decide) (by decide) rfl rfl ?_
        refine af_aload_n K 965 dL_law_964 rfl rfl ?_
        refine af_aload_n K 966 dL_law_965 rfl rfl ?_
        refine af_iload_n K 967 dL_law_966 rfl rfl ?_
        refine af_iconst K 968 dL_law_967 rfl cs_iconst_1 ?_
        refine af_iadd K 969 dL_law_968 rfl ?_
        refine af_sld K hX 970 dL_law_969 rfl (fun y163 => ?_)
        refine af_callV_i K (b := 0) (vs := [.int y163]) mv_X4_market lk_413 ((hp_at _ (Nat.le_of_ble_eq_true rfl)).trans rfl) rfl 973 dL_law_970 rfl rfl rfl rfl (A_X4_market _ _ y163 σ) rfl (fun q164 => ?_)
        refine af_aload_n K 974 dL_law_973 rfl rfl ?_
        refine af_aload_n K 975 dL_law_974 rfl rfl ?_
        refine af_iload_n K 976 dL_law_975 rfl rfl ?_
        refine af_iconst K 977 dL_law_976 rfl cs_iconst_1 ?_
        refine af_iadd K 978 dL_law_977 rfl ?_
        refine af_sld K hX 979 dL_law_978 rfl (fun y165 => ?_)
        refine af_callV_i K (b := 26) (vs := [.int y165]) mv_X5_market lk_991 ((hp_at _ (Nat.le_of_ble_eq_true rfl)).trans rfl) rfl 982 dL_law_979 rfl rfl rfl rfl (A_X5_market _ _ y165 q164.2) rfl (fun q166 => ?_)
        refine af_icmp_eq K 985 1469 dL_law_982 rfl rfl (fun _ => ?_) (fun _ => ?_)
        · refine af_iincB K 1472 (fun yy => [some (.ref 1004), some (.ref 0), some (.ref 26), some (.int yy)]) dL_law_1469 rfl (by rw [hN]; exact Nat.le_of_ble_eq_true rfl) rfl cs_iconst_6 (fun _ => rfl) (fun y167 => ?_)
          refine af_goto K 18 dL_law_1472 rfl ?_
          refine af_lm [true, true, true, true] rfl ?_
          exact ih18 _ _ _ hk18
        · refine af_iconst K 986 dL_law_985 rfl cs_iconst_0 ?_
          exact af_retz K rfl dL_law_986
      refine af_ite (fun hx => ?_) (fun hx23 => ?_)
      · refine af_tin K 987 23 hx dL_law_33 (by decide) (by decide) rfl rfl ?_
        refine af_aload_n K 988 dL_law_987 rfl rfl ?_
        refine af_aload_n K 989 dL_law_988 rfl rfl ?_
        refine af_iload_n K 990 dL_law_989 rfl rfl ?_
        refine af_iconst K 991 dL_law_990 rfl cs_iconst_1 ?_
        refine af_iadd K 992 dL_law_991 rfl ?_
        refine af_sld K hX 993 dL_law_992 rfl (fun y168 => ?_)
        refine af_aload_n K 994 dL_law_993 rfl rfl ?_
        refine af_iload_n K 995 dL_law_994 rfl rfl ?_
        refine af_iconst K 996 dL_law_995 rfl cs_iconst_2 ?_
        refine af_iadd K 997 dL_law_996 rfl ?_
        refine af_sld K hX 998 dL_law_997 rfl (fun y169 => ?_)
        refine af_aload_n K 999 dL_law_998 rfl rfl ?_
        refine af_iload_n K 1000 dL_law_999 rfl rfl ?_
        refine af_iconst K 1001 dL_law_1000 rfl cs_iconst_3 ?_
        refine af_iadd K 1002 dL_law_1001 rfl ?_
        refine af_sld K hX 1003 dL_law_1002 rfl (fun y170 => ?_)
        refine af_aload_n K 1004 dL_law_1003 rfl rfl ?_
        refine af_iload_n K 1005 dL_law_1004 rfl rfl ?_
        refine af_iconst K 1006 dL_law_1005 rfl cs_iconst_4 ?_
        refine af_iadd K 1007 dL_law_1006 rfl ?_
        refine af_sld K hX 1008 dL_law_1007 rfl (fun y171 => ?_)
        refine af_callV_l K (b := 0) (vs := [.int y168, .int y169, .int y170, .int y171]) mv_X4_odds lk_426 ((hp_at _ (Nat.le_of_ble_eq_true rfl)).trans rfl) rfl 1011 dL_law_1008 rfl rfl rfl rfl (A_X4_odds _ _ y168 y169 y170 y171 σ) rfl (fun q172 => ?_)
        refine af_aload_n K 1012 dL_law_1011 rfl rfl ?_
        refine af_aload_n K 1013 dL_law_1012 rfl rfl ?_
        refine af_iload_n K 1014 dL_law_1013 rfl rfl ?_
        refine af_iconst K 1015 dL_law_1014 rfl cs_iconst_1 ?_
        refine af_iadd K 1016 dL_law_1015 rfl ?_
        refine af_sld K hX 1017 dL_law_1016 rfl (fun y173 => ?_)
        refine af_aload_n K 1018 dL_law_1017 rfl rfl ?_
        refine af_iload_n K 1019 dL_law_1018 rfl rfl ?_
        refine af_iconst K 1020 dL_law_1019 rfl cs_iconst_2 ?_
        refine af_iadd K 1021 dL_law_1020 rfl ?_
        refine af_sld K hX 1022 dL_law_1021 rfl (fun y174 => ?_)
        refine af_aload_n K 1023 dL_law_1022 rfl rfl ?_
        refine af_iload_n K 1024 dL_law_1023 rfl rfl ?_
        refine af_iconst K 1025 dL_law_1024 rfl cs_iconst_3 ?_
        refine af_iadd K 1026 dL_law_1025 rfl ?_
        refine af_sld K hX 1027 dL_law_1026 rfl (fun y175 => ?_)
        refine af_aload_n K 1028 dL_law_1027 rfl rfl ?_
        refine af_iload_n K 1029 dL_law_1028 rfl rfl ?_
        refine af_iconst K 1030 dL_law_1029 rfl cs_iconst_4 ?_
        refine af_iadd K 1031 dL_law_1030 rfl ?_
        refine af_sld K hX 1032 dL_law_1031 rfl (fun y176 => ?_)
        refine af_callV_l K (b := 26) (vs := [.int y173, .int y174, .int y175, .int y176]) mv_X5_odds lk_1000 ((hp_at _ (Nat.le_of_ble_eq_true rfl)).trans rfl) rfl 1035 dL_law_1032 rfl rfl rfl rfl (A_X5_odds _ _ y173 y174 y175 y176 q172.2) rfl (fun q177 => ?_)
        refine af_lcmp K 1036 dL_law_1035 rfl ?_
        refine af_if_eq K 1039 1469 dL_law_1036 rfl rfl (fun _ => ?_) (fun _ => ?_)
        · refine af_iincB K 1472 (fun yy => [some (.ref 1004), some (.ref 0), some (.ref 26), some (.int yy)]) dL_law_1469 rfl (by rw [hN]; exact Nat.le_of_ble_eq_true rfl) rfl cs_iconst_6 (fun _ => rfl) (fun y178 => ?_)
          refine af_goto K 18 dL_law_1472 rfl ?_
          refine af_lm [true, true, true, true] rfl ?_
          exact ih18 _ _ _ hk18
        · refine af_iconst K 1040 dL_law_1039 rfl cs_iconst_0 ?_
          exact af_retz K rfl dL_law_1040
      refine af_ite (fun hx => ?_) (fun hx24 => ?_)
      · refine af_tin K 1041 24 hx dL_law_33 (by decide) (by decide) rfl rfl ?_
        refine af_aload_n K 1042 dL_law_1041 rfl rfl ?_
        refine af_aload_n K 1043 dL_law_1042 rfl rfl ?_
        refine af_iload_n K 1044 dL_law_1043 rfl rfl ?_
        refine af_iconst K 1045 dL_law_1044 rfl cs_iconst_1 ?_
        refine af_iadd K 1046 dL_law_1045 rfl ?_
        refine af_sld K hX 1047 dL_law_1046 rfl (fun y179 => ?_)
        refine af_callV_i K (b := 0) (vs := [.int y179]) mv_X4_seed lk_441 ((hp_at _ (Nat.le_of_ble_eq_true rfl)).trans rfl) rfl 1050 dL_law_1047 rfl rfl rfl rfl (A_X4_seed _ _ y179 σ) rfl (fun q180 => ?_)
        refine af_aload_n K 1051 dL_law_1050 rfl rfl ?_
        refine af_aload_n K 1052 dL_law_1051 rfl rfl ?_
        refine af_iload_n K 1053 dL_law_1052 rfl rfl ?_
        refine af_iconst K 1054 dL_law_1053 rfl cs_iconst_1 ?_
        refine af_iadd K 1055 dL_law_1054 rfl ?_
        refine af_sld K hX 1056 dL_law_1055 rfl (fun y181 => ?_)
        refine af_callV_i K (b := 26) (vs := [.int y181]) mv_X5_seed lk_1008 ((hp_at _ (Nat.le_of_ble_eq_true rfl)).trans rfl) rfl 1059 dL_law_1056 rfl rfl rfl rfl (A_X5_seed _ _ y181 q180.2) rfl (fun q182 => ?_)
        refine af_icmp_eq K 1062 1469 dL_law_1059 rfl rfl (fun _ => ?_) (fun _ => ?_)
        · refine af_iincB K 1472 (fun yy => [some (.ref 1004), some (.ref 0), some (.ref 26), some (.int yy)]) dL_law_1469 rfl (by rw [hN]; exact Nat.le_of_ble_eq_true rfl) rfl cs_iconst_6 (fun _ => rfl) (fun y183 => ?_)
          refine af_goto K 18 dL_law_1472 rfl ?_
          refine af_lm [true, true, true, true] rfl ?_
          exact ih18 _ _ _ hk18
        · refine af_iconst K 1063 dL_law_1062 rfl cs_iconst_0 ?_
          exact af_retz K rfl dL_law_1063
      refine af_ite (fun hx => ?_) (fun hx25 => ?_)
      · refine af_tin K 1064 25 hx dL_law_33 (by decide) (by decide) rfl rfl ?_
        refine af_aload_n K 1065 dL_law_1064 rfl rfl ?_
        refine af_aload_n K 1066 dL_law_1065 rfl rfl ?_
        refine af_iload_n K 1067 dL_law_1066 rfl rfl ?_
        refine af_iconst K 1068 dL_law_1067 rfl cs_iconst_1 ?_
        refine af_iadd K 1069 dL_law_1068 rfl ?_
        refine af_sld K hX 1070 dL_law_1069 rfl (fun y184 => ?_)
        refine af_aload_n K 1071 dL_law_1070 rfl rfl ?_
        refine af_iload_n K 1072 dL_law_1071 rfl rfl ?_
        refine af_iconst K 1073 dL_law_1072 rfl cs_iconst_2 ?_
        refine af_iadd K 1074 dL_law_1073 rfl ?_
        refine af_sld K hX 1075 dL_law_1074 rfl (fun y185 => ?_)
        refine af_callV_i K (b := 0) (vs := [.int y184, .int y185]) mv_X4_feed lk_445 ((hp_at _ (Nat.le_of_ble_eq_true rfl)).trans rfl) rfl 1078 dL_law_1075 rfl rfl rfl rfl (A_X4_feed _ _ y184 y185 σ) rfl (fun q186 => ?_)
        refine af_aload_n K 1079 dL_law_1078 rfl rfl ?_
        refine af_aload_n K 1080 dL_law_1079 rfl rfl ?_
        refine af_iload_n K 1081 dL_law_1080 rfl rfl ?_
        refine af_iconst K 1082 dL_law_1081 rfl cs_iconst_1 ?_
        refine af_iadd K 1083 dL_law_1082 rfl ?_
        refine af_sld K hX 1084 dL_law_1083 rfl (fun y187 => ?_)
        refine af_aload_n K 1085 dL_law_1084 rfl rfl ?_
        refine af_iload_n K 1086 dL_law_1085 rfl rfl ?_
        refine af_iconst K 1087 dL_law_1086 rfl cs_iconst_2 ?_
        refine af_iadd K 1088 dL_law_1087 rfl ?_
        refine af_sld K hX 1089 dL_law_1088 rfl (fun y188 => ?_)
        refine af_callV_i K (b := 26) (vs := [.int y187, .int y188]) mv_X5_feed lk_1012 ((hp_at _ (Nat.le_of_ble_eq_true rfl)).trans rfl) rfl 1092 dL_law_1089 rfl rfl rfl rfl (A_X5_feed _ _ y187 y188 q186.2) rfl (fun q189 => ?_)
        refine af_icmp_eq K 1095 1469 dL_law_1092 rfl rfl (fun _ => ?_) (fun _ => ?_)
        · refine af_iincB K 1472 (fun yy => [some (.ref 1004), some (.ref 0), some (.ref 26), some (.int yy)]) dL_law_1469 rfl (by rw [hN]; exact Nat.le_of_ble_eq_true rfl) rfl cs_iconst_6 (fun _ => rfl) (fun y190 => ?_)
          refine af_goto K 18 dL_law_1472 rfl ?_
          refine af_lm [true, true, true, true] rfl ?_
          exact ih18 _ _ _ hk18
        · refine af_iconst K 1096 dL_law_1095 rfl cs_iconst_0 ?_
          exact af_retz K rfl dL_law_1096
      refine af_ite (fun hx => ?_) (fun hx26 => ?_)
      · refine af_tin K 1097 26 hx dL_law_33 (by decide) (by decide) rfl rfl ?_
        refine af_aload_n K 1098 dL_law_1097 rfl rfl ?_
        refine af_callV_i K (b := 0) (vs := []) mv_X4_wipe lk_453 ((hp_at _ (Nat.le_of_ble_eq_true rfl)).trans rfl) rfl 1101 dL_law_1098 rfl rfl rfl rfl (A_X4_wipe _ _ σ) rfl (fun q191 => ?_)
        refine af_aload_n K 1102 dL_law_1101 rfl rfl ?_
        refine af_callV_i K (b := 26) (vs := []) mv_X5_wipe lk_1017 ((hp_at _ (Nat.le_of_ble_eq_true rfl)).trans rfl) rfl 1105 dL_law_1102 rfl rfl rfl rfl (A_X5_wipe _ _ q191.2) rfl (fun q192 => ?_)
        refine af_icmp_eq K 1108 1469 dL_law_1105 rfl rfl (fun _ => ?_) (fun _ => ?_)
        · refine af_iincB K 1472 (fun yy => [some (.ref 1004), some (.ref 0), some (.ref 26), some (.int yy)]) dL_law_1469 rfl (by rw [hN]; exact Nat.le_of_ble_eq_true rfl) rfl cs_iconst_6 (fun _ => rfl) (fun y193 => ?_)
          refine af_goto K 18 dL_law_1472 rfl ?_
          refine af_lm [true, true, true, true] rfl ?_
          exact ih18 _ _ _ hk18
        · refine af_iconst K 1109 dL_law_1108 rfl cs_iconst_0 ?_
          exact af_retz K rfl dL_law_1109
      refine af_ite (fun hx => ?_) (fun hx27 => ?_)
      · refine af_tin K 1110 27 hx dL_law_33 (by decide) (by decide) rfl rfl ?_
        refine af_aload_n K 1111 dL_law_1110 rfl rfl ?_
        refine af_callV_i K (b := 0) (vs := []) mv_X4_text lk_457 ((hp_at _ (Nat.le_of_ble_eq_true rfl)).trans rfl) rfl 1114 dL_law_1111 rfl rfl rfl rfl (A_X4_text _ _ σ) rfl (fun q194 => ?_)
        refine af_aload_n K 1115 dL_law_1114 rfl rfl ?_
        refine af_callV_i K (b := 26) (vs := []) mv_X5_text lk_1021 ((hp_at _ (Nat.le_of_ble_eq_true rfl)).trans rfl) rfl 1118 dL_law_1115 rfl rfl rfl rfl (A_X5_text _ _ q194.2) rfl (fun q195 => ?_)
        refine af_icmp_eq K 1121 1469 dL_law_1118 rfl rfl (fun _ => ?_) (fun _ => ?_)
        · refine af_iincB K 1472 (fun yy => [some (.ref 1004), some (.ref 0), some (.ref 26), some (.int yy)]) dL_law_1469 rfl (by rw [hN]; exact Nat.le_of_ble_eq_true rfl) rfl cs_iconst_6 (fun _ => rfl) (fun y196 => ?_)
          refine af_goto K 18 dL_law_1472 rfl ?_
          refine af_lm [true, true, true, true] rfl ?_
          exact ih18 _ _ _ hk18
        · refine af_iconst K 1122 dL_law_1121 rfl cs_iconst_0 ?_
          exact af_retz K rfl dL_law_1122
      refine af_ite (fun hx => ?_) (fun hx28 => ?_)
      · refine af_tin K 1123 28 hx dL_law_33 (by decide) (by decide) rfl rfl ?_
        refine af_aload_n K 1124 dL_law_1123 rfl rfl ?_
        refine af_aload_n K 1125 dL_law_1124 rfl rfl ?_
        refine af_iload_n K 1126 dL_law_1125 rfl rfl ?_
        refine af_iconst K 1127 dL_law_1126 rfl cs_iconst_1 ?_
        refine af_iadd K 1128 dL_law_1127 rfl ?_
        refine af_sld K hX 1129 dL_law_1128 rfl (fun y197 => ?_)
        refine af_aload_n K 1130 dL_law_1129 rfl rfl ?_
        refine af_iload_n K 1131 dL_law_1130 rfl rfl ?_
        refine af_iconst K 1132 dL_law_1131 rfl cs_iconst_2 ?_
        refine af_iadd K 1133 dL_law_1132 rfl ?_
        refine af_sld K hX 1134 dL_law_1133 rfl (fun y198 => ?_)
        refine af_callV_i K (b := 0) (vs := [.int y197, .int y198]) mv_X4_hold lk_612 ((hp_at _ (Nat.le_of_ble_eq_true rfl)).trans rfl) rfl 1137 dL_law_1134 rfl rfl rfl rfl (A_X4_hold _ _ y197 y198 σ) rfl (fun q199 => ?_)
        refine af_aload_n K 1138 dL_law_1137 rfl rfl ?_
        refine af_aload_n K 1139 dL_law_1138 rfl rfl ?_
        refine af_iload_n K 1140 dL_law_1139 rfl rfl ?_
        refine af_iconst K 1141 dL_law_1140 rfl cs_iconst_1 ?_
        refine af_iadd K 1142 dL_law_1141 rfl ?_
        refine af_sld K hX 1143 dL_law_1142 rfl (fun y200 => ?_)
        refine af_aload_n K 1144 dL_law_1143 rfl rfl ?_
        refine af_iload_n K 1145 dL_law_1144 rfl rfl ?_
        refine af_iconst K 1146 dL_law_1145 rfl cs_iconst_2 ?_
        refine af_iadd K 1147 dL_law_1146 rfl ?_
        refine af_sld K hX 1148 dL_law_1147 rfl (fun y201 => ?_)
        refine af_callV_i K (b := 26) (vs := [.int y200, .int y201]) mv_X5_hold lk_1097 ((hp_at _ (Nat.le_of_ble_eq_true rfl)).trans rfl) rfl 1151 dL_law_1148 rfl rfl rfl rfl (A_X5_hold _ _ y200 y201 q199.2) rfl (fun q202 => ?_)
        refine af_icmp_eq K 1154 1469 dL_law_1151 rfl rfl (fun _ => ?_) (fun _ => ?_)
        · refine af_iincB K 1472 (fun yy => [some (.ref 1004), some (.ref 0), some (.ref 26), some (.int yy)]) dL_law_1469 rfl (by rw [hN]; exact Nat.le_of_ble_eq_true rfl) rfl cs_iconst_6 (fun _ => rfl) (fun y203 => ?_)
          refine af_goto K 18 dL_law_1472 rfl ?_
          refine af_lm [true, true, true, true] rfl ?_
          exact ih18 _ _ _ hk18
        · refine af_iconst K 1155 dL_law_1154 rfl cs_iconst_0 ?_
          exact af_retz K rfl dL_law_1155
      refine af_ite (fun hx => ?_) (fun hx29 => ?_)
      · refine af_tin K 1156 29 hx dL_law_33 (by decide) (by decide) rfl rfl ?_
        refine af_aload_n K 1157 dL_law_1156 rfl rfl ?_
        refine af_aload_n K 1158 dL_law_1157 rfl rfl ?_
        refine af_iload_n K 1159 dL_law_1158 rfl rfl ?_
        refine af_iconst K 1160 dL_law_1159 rfl cs_iconst_1 ?_
        refine af_iadd K 1161 dL_law_1160 rfl ?_
        refine af_sld K hX 1162 dL_law_1161 rfl (fun y204 => ?_)
        refine af_aload_n K 1163 dL_law_1162 rfl rfl ?_
        refine af_iload_n K 1164 dL_law_1163 rfl rfl ?_
        refine af_iconst K 1165 dL_law_1164 rfl cs_iconst_2 ?_
        refine af_iadd K 1166 dL_law_1165 rfl ?_
        refine af_sld K hX 1167 dL_law_1166 rfl (fun y205 => ?_)
        refine af_callV_i K (b := 0) (vs := [.int y204, .int y205]) mv_X4_as lk_616 ((hp_at _ (Nat.le_of_ble_eq_true rfl)).trans rfl) rfl 1170 dL_law_1167 rfl rfl rfl rfl (A_X4_as _ _ y204 y205 σ) rfl (fun q206 => ?_)
        refine af_aload_n K 1171 dL_law_1170 rfl rfl ?_
        refine af_aload_n K 1172 dL_law_1171 rfl rfl ?_
        refine af_iload_n K 1173 dL_law_1172 rfl rfl ?_
        refine af_iconst K 1174 dL_law_1173 rfl cs_iconst_1 ?_
        refine af_iadd K 1175 dL_law_1174 rfl ?_
        refine af_sld K hX 1176 dL_law_1175 rfl (fun y207 => ?_)
        refine af_aload_n K 1177 dL_law_1176 rfl rfl ?_
        refine af_iload_n K 1178 dL_law_1177 rfl rfl ?_
        refine af_iconst K 1179 dL_law_1178 rfl cs_iconst_2 ?_
        refine af_iadd K 1180 dL_law_1179 rfl ?_
        refine af_sld K hX 1181 dL_law_1180 rfl (fun y208 => ?_)
        refine af_callV_i K (b := 26) (vs := [.int y207, .int y208]) mv_X5_as lk_1102 ((hp_at _ (Nat.le_of_ble_eq_true rfl)).trans rfl) rfl 1184 dL_law_1181 rfl rfl rfl rfl (A_X5_as _ _ y207 y208 q206.2) rfl (fun q209 => ?_)
        refine af_icmp_eq K 1187 1469 dL_law_1184 rfl rfl (fun _ => ?_) (fun _ => ?_)
        · refine af_iincB K 1472 (fun yy => [some (.ref 1004), some (.ref 0), some (.ref 26), some (.int yy)]) dL_law_1469 rfl (by rw [hN]; exact Nat.le_of_ble_eq_true rfl) rfl cs_iconst_6 (fun _ => rfl) (fun y210 => ?_)
          refine af_goto K 18 dL_law_1472 rfl ?_
          refine af_lm [true, true, true, true] rfl ?_
          exact ih18 _ _ _ hk18
        · refine af_iconst K 1188 dL_law_1187 rfl cs_iconst_0 ?_
          exact af_retz K rfl dL_law_1188
      refine af_ite (fun hx => ?_) (fun hx30 => ?_)
      · refine af_tin K 1189 30 hx dL_law_33 (by decide) (by decide) rfl rfl ?_
        refine af_aload_n K 1190 dL_law_1189 rfl rfl ?_
        refine af_aload_n K 1191 dL_law_1190 rfl rfl ?_
        refine af_iload_n K 1192 dL_law_1191 rfl rfl ?_
        refine af_iconst K 1193 dL_law_1192 rfl cs_iconst_1 ?_
        refine af_iadd K 1194 dL_law_1193 rfl ?_
        refine af_sld K hX 1195 dL_law_1194 rfl (fun y211 => ?_)
        refine af_aload_n K 1196 dL_law_1195 rfl rfl ?_
        refine af_iload_n K 1197 dL_law_1196 rfl rfl ?_
        refine af_iconst K 1198 dL_law_1197 rfl cs_iconst_2 ?_
        refine af_iadd K 1199 dL_law_1198 rfl ?_
        refine af_sld K hX 1200 dL_law_1199 rfl (fun y212 => ?_)
        refine af_aload_n K 1201 dL_law_1200 rfl rfl ?_
        refine af_iload_n K 1202 dL_law_1201 rfl rfl ?_
        refine af_iconst K 1203 dL_law_1202 rfl cs_iconst_3 ?_
        refine af_iadd K 1204 dL_law_1203 rfl ?_
        refine af_sld K hX 1205 dL_law_1204 rfl (fun y213 => ?_)
        refine af_callV_i K (b := 0) (vs := [.int y211, .int y212, .int y213]) mv_X4_sheet lk_625 ((hp_at _ (Nat.le_of_ble_eq_true rfl)).trans rfl) rfl 1208 dL_law_1205 rfl rfl rfl rfl (A_X4_sheet _ _ y211 y212 y213 σ) rfl (fun q214 => ?_)
        refine af_aload_n K 1209 dL_law_1208 rfl rfl ?_
        refine af_aload_n K 1210 dL_law_1209 rfl rfl ?_
        refine af_iload_n K 1211 dL_law_1210 rfl rfl ?_
        refine af_iconst K 1212 dL_law_1211 rfl cs_iconst_1 ?_
        refine af_iadd K 1213 dL_law_1212 rfl ?_
        refine af_sld K hX 1214 dL_law_1213 rfl (fun y215 => ?_)
        refine af_aload_n K 1215 dL_law_1214 rfl rfl ?_
        refine af_iload_n K 1216 dL_law_1215 rfl rfl ?_
        refine af_iconst K 1217 dL_law_1216 rfl cs_iconst_2 ?_
        refine af_iadd K 1218 dL_law_1217 rfl ?_
        refine af_sld K hX 1219 dL_law_1218 rfl (fun y216 => ?_)
        refine af_aload_n K 1220 dL_law_1219 rfl rfl ?_
        refine af_iload_n K 1221 dL_law_1220 rfl rfl ?_
        refine af_iconst K 1222 dL_law_1221 rfl cs_iconst_3 ?_
        refine af_iadd K 1223 dL_law_1222 rfl ?_
        refine af_sld K hX 1224 dL_law_1223 rfl (fun y217 => ?_)
        refine af_callV_i K (b := 26) (vs := [.int y215, .int y216, .int y217]) mv_X5_sheet lk_1109 ((hp_at _ (Nat.le_of_ble_eq_true rfl)).trans rfl) rfl 1227 dL_law_1224 rfl rfl rfl rfl (A_X5_sheet _ _ y215 y216 y217 q214.2) rfl (fun q218 => ?_)
        refine af_icmp_eq K 1230 1469 dL_law_1227 rfl rfl (fun _ => ?_) (fun _ => ?_)
        · refine af_iincB K 1472 (fun yy => [some (.ref 1004), some (.ref 0), some (.ref 26), some (.int yy)]) dL_law_1469 rfl (by rw [hN]; exact Nat.le_of_ble_eq_true rfl) rfl cs_iconst_6 (fun _ => rfl) (fun y219 => ?_)
          refine af_goto K 18 dL_law_1472 rfl ?_
          refine af_lm [true, true, true, true] rfl ?_
          exact ih18 _ _ _ hk18
        · refine af_iconst K 1231 dL_law_1230 rfl cs_iconst_0 ?_
          exact af_retz K rfl dL_law_1231
      refine af_ite (fun hx => ?_) (fun hx31 => ?_)
      · refine af_tin K 1232 31 hx dL_law_33 (by decide) (by decide) rfl rfl ?_
        refine af_aload_n K 1233 dL_law_1232 rfl rfl ?_
        refine af_aload_n K 1234 dL_law_1233 rfl rfl ?_
        refine af_iload_n K 1235 dL_law_1234 rfl rfl ?_
        refine af_iconst K 1236 dL_law_1235 rfl cs_iconst_1 ?_
        refine af_iadd K 1237 dL_law_1236 rfl ?_
        refine af_sld K hX 1238 dL_law_1237 rfl (fun y220 => ?_)
        refine af_aload_n K 1239 dL_law_1238 rfl rfl ?_
        refine af_iload_n K 1240 dL_law_1239 rfl rfl ?_
        refine af_iconst K 1241 dL_law_1240 rfl cs_iconst_2 ?_
        refine af_iadd K 1242 dL_law_1241 rfl ?_
        refine af_sld K hX 1243 dL_law_1242 rfl (fun y221 => ?_)
        refine af_aload_n K 1244 dL_law_1243 rfl rfl ?_
        refine af_iload_n K 1245 dL_law_1244 rfl rfl ?_
        refine af_iconst K 1246 dL_law_1245 rfl cs_iconst_3 ?_
        refine af_iadd K 1247 dL_law_1246 rfl ?_
        refine af_sld K hX 1248 dL_law_1247 rfl (fun y222 => ?_)
        refine af_callV_i K (b := 0) (vs := [.int y220, .int y221, .int y222]) mv_X4_write lk_633 ((hp_at _ (Nat.le_of_ble_eq_true rfl)).trans rfl) rfl 1251 dL_law_1248 rfl rfl rfl rfl (A_X4_write _ _ y220 y221 y222 σ) rfl (fun q223 => ?_)
        refine af_aload_n K 1252 dL_law_1251 rfl rfl ?_
        refine af_aload_n K 1253 dL_law_1252 rfl rfl ?_
        refine af_iload_n K 1254 dL_law_1253 rfl rfl ?_
        refine af_iconst K 1255 dL_law_1254 rfl cs_iconst_1 ?_
        refine af_iadd K 1256 dL_law_1255 rfl ?_
        refine af_sld K hX 1257 dL_law_1256 rfl (fun y224 => ?_)
        refine af_aload_n K 1258 dL_law_1257 rfl rfl ?_
        refine af_iload_n K 1259 dL_law_1258 rfl rfl ?_
        refine af_iconst K 1260 dL_law_1259 rfl cs_iconst_2 ?_
        refine af_iadd K 1261 dL_law_1260 rfl ?_
        refine af_sld K hX 1262 dL_law_1261 rfl (fun y225 => ?_)
        refine af_aload_n K 1263 dL_law_1262 rfl rfl ?_
        refine af_iload_n K 1264 dL_law_1263 rfl rfl ?_
        refine af_iconst K 1265 dL_law_1264 rfl cs_iconst_3 ?_
        refine af_iadd K 1266 dL_law_1265 rfl ?_
        refine af_sld K hX 1267 dL_law_1266 rfl (fun y226 => ?_)
        refine af_callV_i K (b := 26) (vs := [.int y224, .int y225, .int y226]) mv_X5_write lk_1113 ((hp_at _ (Nat.le_of_ble_eq_true rfl)).trans rfl) rfl 1270 dL_law_1267 rfl rfl rfl rfl (A_X5_write _ _ y224 y225 y226 q223.2) rfl (fun q227 => ?_)
        refine af_icmp_eq K 1273 1469 dL_law_1270 rfl rfl (fun _ => ?_) (fun _ => ?_)
        · refine af_iincB K 1472 (fun yy => [some (.ref 1004), some (.ref 0), some (.ref 26), some (.int yy)]) dL_law_1469 rfl (by rw [hN]; exact Nat.le_of_ble_eq_true rfl) rfl cs_iconst_6 (fun _ => rfl) (fun y228 => ?_)
          refine af_goto K 18 dL_law_1472 rfl ?_
          refine af_lm [true, true, true, true] rfl ?_
          exact ih18 _ _ _ hk18
        · refine af_iconst K 1274 dL_law_1273 rfl cs_iconst_0 ?_
          exact af_retz K rfl dL_law_1274
      refine af_ite (fun hx => ?_) (fun hx32 => ?_)
      · refine af_tin K 1275 32 hx dL_law_33 (by decide) (by decide) rfl rfl ?_
        refine af_aload_n K 1276 dL_law_1275 rfl rfl ?_
        refine af_aload_n K 1277 dL_law_1276 rfl rfl ?_
        refine af_iload_n K 1278 dL_law_1277 rfl rfl ?_
        refine af_iconst K 1279 dL_law_1278 rfl cs_iconst_1 ?_
        refine af_iadd K 1280 dL_law_1279 rfl ?_
        refine af_sld K hX 1281 dL_law_1280 rfl (fun y229 => ?_)
        refine af_aload_n K 1282 dL_law_1281 rfl rfl ?_
        refine af_iload_n K 1283 dL_law_1282 rfl rfl ?_
        refine af_iconst K 1284 dL_law_1283 rfl cs_iconst_2 ?_
        refine af_iadd K 1285 dL_law_1284 rfl ?_
        refine af_sld K hX 1286 dL_law_1285 rfl (fun y230 => ?_)
        refine af_aload_n K 1287 dL_law_1286 rfl rfl ?_
        refine af_iload_n K 1288 dL_law_1287 rfl rfl ?_
        refine af_iconst K 1289 dL_law_1288 rfl cs_iconst_3 ?_
        refine af_iadd K 1290 dL_law_1289 rfl ?_
        refine af_sld K hX 1291 dL_law_1290 rfl (fun y231 => ?_)
        refine af_aload_n K 1292 dL_law_1291 rfl rfl ?_
        refine af_iload_n K 1293 dL_law_1292 rfl rfl ?_
        refine af_iconst K 1294 dL_law_1293 rfl cs_iconst_4 ?_
        refine af_iadd K 1295 dL_law_1294 rfl ?_
        refine af_sld K hX 1296 dL_law_1295 rfl (fun y232 => ?_)
        refine af_aload_n K 1297 dL_law_1296 rfl rfl ?_
        refine af_iload_n K 1298 dL_law_1297 rfl rfl ?_
        refine af_iconst K 1299 dL_law_1298 rfl cs_iconst_5 ?_
        refine af_iadd K 1300 dL_law_1299 rfl ?_
        refine af_sld K hX 1301 dL_law_1300 rfl (fun y233 => ?_)
        refine af_callV_i K (b := 0) (vs := [.int y229, .int y230, .int y231, .int y232, .int y233]) mv_X4_copy lk_644 ((hp_at _ (Nat.le_of_ble_eq_true rfl)).trans rfl) rfl 1304 dL_law_1301 rfl rfl rfl rfl (A_X4_copy _ _ y229 y230 y231 y232 y233 σ) rfl (fun q234 => ?_)
        refine af_aload_n K 1305 dL_law_1304 rfl rfl ?_
        refine af_aload_n K 1306 dL_law_1305 rfl rfl ?_
        refine af_iload_n K 1307 dL_law_1306 rfl rfl ?_
        refine af_iconst K 1308 dL_law_1307 rfl cs_iconst_1 ?_
        refine af_iadd K 1309 dL_law_1308 rfl ?_
        refine af_sld K hX 1310 dL_law_1309 rfl (fun y235 => ?_)
        refine af_aload_n K 1311 dL_law_1310 rfl rfl ?_
        refine af_iload_n K 1312 dL_law_1311 rfl rfl ?_
        refine af_iconst K 1313 dL_law_1312 rfl cs_iconst_2 ?_
        refine af_iadd K 1314 dL_law_1313 rfl ?_
        refine af_sld K hX 1315 dL_law_1314 rfl (fun y236 => ?_)
        refine af_aload_n K 1316 dL_law_1315 rfl rfl ?_
        refine af_iload_n K 1317 dL_law_1316 rfl rfl ?_
        refine af_iconst K 1318 dL_law_1317 rfl cs_iconst_3 ?_
        refine af_iadd K 1319 dL_law_1318 rfl ?_
        refine af_sld K hX 1320 dL_law_1319 rfl (fun y237 => ?_)
        refine af_aload_n K 1321 dL_law_1320 rfl rfl ?_
        refine af_iload_n K 1322 dL_law_1321 rfl rfl ?_
        refine af_iconst K 1323 dL_law_1322 rfl cs_iconst_4 ?_
        refine af_iadd K 1324 dL_law_1323 rfl ?_
        refine af_sld K hX 1325 dL_law_1324 rfl (fun y238 => ?_)
        refine af_aload_n K 1326 dL_law_1325 rfl rfl ?_
        refine af_iload_n K 1327 dL_law_1326 rfl rfl ?_
        refine af_iconst K 1328 dL_law_1327 rfl cs_iconst_5 ?_
        refine af_iadd K 1329 dL_law_1328 rfl ?_
        refine af_sld K hX 1330 dL_law_1329 rfl (fun y239 => ?_)
        refine af_callV_i K (b := 26) (vs := [.int y235, .int y236, .int y237, .int y238, .int y239]) mv_X5_copy lk_1117 ((hp_at _ (Nat.le_of_ble_eq_true rfl)).trans rfl) rfl 1333 dL_law_1330 rfl rfl rfl rfl (A_X5_copy _ _ y235 y236 y237 y238 y239 q234.2) rfl (fun q240 => ?_)
        refine af_icmp_eq K 1336 1469 dL_law_1333 rfl rfl (fun _ => ?_) (fun _ => ?_)
        · refine af_iincB K 1472 (fun yy => [some (.ref 1004), some (.ref 0), some (.ref 26), some (.int yy)]) dL_law_1469 rfl (by rw [hN]; exact Nat.le_of_ble_eq_true rfl) rfl cs_iconst_6 (fun _ => rfl) (fun y241 => ?_)
          refine af_goto K 18 dL_law_1472 rfl ?_
          refine af_lm [true, true, true, true] rfl ?_
          exact ih18 _ _ _ hk18
        · refine af_iconst K 1337 dL_law_1336 rfl cs_iconst_0 ?_
          exact af_retz K rfl dL_law_1337
      refine af_ite (fun hx => ?_) (fun hx33 => ?_)
      · refine af_tin K 1338 33 hx dL_law_33 (by decide) (by decide) rfl rfl ?_
        refine af_aload_n K 1339 dL_law_1338 rfl rfl ?_
        refine af_aload_n K 1340 dL_law_1339 rfl rfl ?_
        refine af_iload_n K 1341 dL_law_1340 rfl rfl ?_
        refine af_iconst K 1342 dL_law_1341 rfl cs_iconst_1 ?_
        refine af_iadd K 1343 dL_law_1342 rfl ?_
        refine af_sld K hX 1344 dL_law_1343 rfl (fun y242 => ?_)
        refine af_callV_i K (b := 0) (vs := [.int y242]) mv_X4_load lk_657 ((hp_at _ (Nat.le_of_ble_eq_true rfl)).trans rfl) rfl 1347 dL_law_1344 rfl rfl rfl rfl (A_X4_load _ _ y242 σ) rfl (fun q243 => ?_)
        refine af_aload_n K 1348 dL_law_1347 rfl rfl ?_
        refine af_aload_n K 1349 dL_law_1348 rfl rfl ?_
        refine af_iload_n K 1350 dL_law_1349 rfl rfl ?_
        refine af_iconst K 1351 dL_law_1350 rfl cs_iconst_1 ?_
        refine af_iadd K 1352 dL_law_1351 rfl ?_
        refine af_sld K hX 1353 dL_law_1352 rfl (fun y244 => ?_)
        refine af_callV_i K (b := 26) (vs := [.int y244]) mv_X5_load lk_1121 ((hp_at _ (Nat.le_of_ble_eq_true rfl)).trans rfl) rfl 1356 dL_law_1353 rfl rfl rfl rfl (A_X5_load _ _ y244 q243.2) rfl (fun q245 => ?_)
        refine af_icmp_eq K 1359 1469 dL_law_1356 rfl rfl (fun _ => ?_) (fun _ => ?_)
        · refine af_iincB K 1472 (fun yy => [some (.ref 1004), some (.ref 0), some (.ref 26), some (.int yy)]) dL_law_1469 rfl (by rw [hN]; exact Nat.le_of_ble_eq_true rfl) rfl cs_iconst_6 (fun _ => rfl) (fun y246 => ?_)
          refine af_goto K 18 dL_law_1472 rfl ?_
          refine af_lm [true, true, true, true] rfl ?_
          exact ih18 _ _ _ hk18
        · refine af_iconst K 1360 dL_law_1359 rfl cs_iconst_0 ?_
          exact af_retz K rfl dL_law_1360
      refine af_ite (fun hx => ?_) (fun hx34 => ?_)
      · refine af_tin K 1361 34 hx dL_law_33 (by decide) (by decide) rfl rfl ?_
        refine af_aload_n K 1362 dL_law_1361 rfl rfl ?_
        refine af_aload_n K 1363 dL_law_1362 rfl rfl ?_
        refine af_iload_n K 1364 dL_law_1363 rfl rfl ?_
        refine af_iconst K 1365 dL_law_1364 rfl cs_iconst_1 ?_
        refine af_iadd K 1366 dL_law_1365 rfl ?_
        refine af_sld K hX 1367 dL_law_1366 rfl (fun y247 => ?_)
        refine af_callV_i K (b := 0) (vs := [.int y247]) mv_X4_judge lk_662 ((hp_at _ (Nat.le_of_ble_eq_true rfl)).trans rfl) rfl 1370 dL_law_1367 rfl rfl rfl rfl (A_X4_judge _ _ y247 σ) rfl (fun q248 => ?_)
        refine af_aload_n K 1371 dL_law_1370 rfl rfl ?_
        refine af_aload_n K 1372 dL_law_1371 rfl rfl ?_
        refine af_iload_n K 1373 dL_law_1372 rfl rfl ?_
        refine af_iconst K 1374 dL_law_1373 rfl cs_iconst_1 ?_
        refine af_iadd K 1375 dL_law_1374 rfl ?_
        refine af_sld K hX 1376 dL_law_1375 rfl (fun y249 => ?_)
        refine af_callV_i K (b := 26) (vs := [.int y249]) mv_X5_judge lk_1125 ((hp_at _ (Nat.le_of_ble_eq_true rfl)).trans rfl) rfl 1379 dL_law_1376 rfl rfl rfl rfl (A_X5_judge _ _ y249 q248.2) rfl (fun q250 => ?_)
        refine af_icmp_eq K 1382 1469 dL_law_1379 rfl rfl (fun _ => ?_) (fun _ => ?_)
        · refine af_iincB K 1472 (fun yy => [some (.ref 1004), some (.ref 0), some (.ref 26), some (.int yy)]) dL_law_1469 rfl (by rw [hN]; exact Nat.le_of_ble_eq_true rfl) rfl cs_iconst_6 (fun _ => rfl) (fun y251 => ?_)
          refine af_goto K 18 dL_law_1472 rfl ?_
          refine af_lm [true, true, true, true] rfl ?_
          exact ih18 _ _ _ hk18
        · refine af_iconst K 1383 dL_law_1382 rfl cs_iconst_0 ?_
          exact af_retz K rfl dL_law_1383
      refine af_ite (fun hx => ?_) (fun hx35 => ?_)
      · refine af_tin K 1384 35 hx dL_law_33 (by decide) (by decide) rfl rfl ?_
        refine af_aload_n K 1385 dL_law_1384 rfl rfl ?_
        refine af_callV_i K (b := 0) (vs := []) mv_X4_image lk_666 ((hp_at _ (Nat.le_of_ble_eq_true rfl)).trans rfl) rfl 1388 dL_law_1385 rfl rfl rfl rfl (A_X4_image _ _ σ) rfl (fun q252 => ?_)
        refine af_aload_n K 1389 dL_law_1388 rfl rfl ?_
        refine af_callV_i K (b := 26) (vs := []) mv_X5_image lk_1129 ((hp_at _ (Nat.le_of_ble_eq_true rfl)).trans rfl) rfl 1392 dL_law_1389 rfl rfl rfl rfl (A_X5_image _ _ q252.2) rfl (fun q253 => ?_)
        refine af_icmp_eq K 1395 1469 dL_law_1392 rfl rfl (fun _ => ?_) (fun _ => ?_)
        · refine af_iincB K 1472 (fun yy => [some (.ref 1004), some (.ref 0), some (.ref 26), some (.int yy)]) dL_law_1469 rfl (by rw [hN]; exact Nat.le_of_ble_eq_true rfl) rfl cs_iconst_6 (fun _ => rfl) (fun y254 => ?_)
          refine af_goto K 18 dL_law_1472 rfl ?_
          refine af_lm [true, true, true, true] rfl ?_
          exact ih18 _ _ _ hk18
        · refine af_iconst K 1396 dL_law_1395 rfl cs_iconst_0 ?_
          exact af_retz K rfl dL_law_1396
      refine af_ite (fun hx => ?_) (fun hx36 => ?_)
      · refine af_tin K 1397 36 hx dL_law_33 (by decide) (by decide) rfl rfl ?_
        refine af_aload_n K 1398 dL_law_1397 rfl rfl ?_
        refine af_callV_i K (b := 0) (vs := []) mv_X4_undo lk_670 ((hp_at _ (Nat.le_of_ble_eq_true rfl)).trans rfl) rfl 1401 dL_law_1398 rfl rfl rfl rfl (A_X4_undo _ _ σ) rfl (fun q255 => ?_)
        refine af_aload_n K 1402 dL_law_1401 rfl rfl ?_
        refine af_callV_i K (b := 26) (vs := []) mv_X5_undo lk_1133 ((hp_at _ (Nat.le_of_ble_eq_true rfl)).trans rfl) rfl 1405 dL_law_1402 rfl rfl rfl rfl (A_X5_undo _ _ q255.2) rfl (fun q256 => ?_)
        refine af_icmp_eq K 1408 1469 dL_law_1405 rfl rfl (fun _ => ?_) (fun _ => ?_)
        · refine af_iincB K 1472 (fun yy => [some (.ref 1004), some (.ref 0), some (.ref 26), some (.int yy)]) dL_law_1469 rfl (by rw [hN]; exact Nat.le_of_ble_eq_true rfl) rfl cs_iconst_6 (fun _ => rfl) (fun y257 => ?_)
          refine af_goto K 18 dL_law_1472 rfl ?_
          refine af_lm [true, true, true, true] rfl ?_
          exact ih18 _ _ _ hk18
        · refine af_iconst K 1409 dL_law_1408 rfl cs_iconst_0 ?_
          exact af_retz K rfl dL_law_1409
      refine af_ite (fun hx => ?_) (fun hx37 => ?_)
      · refine af_tin K 1410 37 hx dL_law_33 (by decide) (by decide) rfl rfl ?_
        refine af_aload_n K 1411 dL_law_1410 rfl rfl ?_
        refine af_callV_i K (b := 0) (vs := []) mv_X4_tear lk_674 ((hp_at _ (Nat.le_of_ble_eq_true rfl)).trans rfl) rfl 1414 dL_law_1411 rfl rfl rfl rfl (A_X4_tear _ _ σ) rfl (fun q258 => ?_)
        refine af_aload_n K 1415 dL_law_1414 rfl rfl ?_
        refine af_callV_i K (b := 26) (vs := []) mv_X5_tear lk_1137 ((hp_at _ (Nat.le_of_ble_eq_true rfl)).trans rfl) rfl 1418 dL_law_1415 rfl rfl rfl rfl (A_X5_tear _ _ q258.2) rfl (fun q259 => ?_)
        refine af_icmp_eq K 1421 1469 dL_law_1418 rfl rfl (fun _ => ?_) (fun _ => ?_)
        · refine af_iincB K 1472 (fun yy => [some (.ref 1004), some (.ref 0), some (.ref 26), some (.int yy)]) dL_law_1469 rfl (by rw [hN]; exact Nat.le_of_ble_eq_true rfl) rfl cs_iconst_6 (fun _ => rfl) (fun y260 => ?_)
          refine af_goto K 18 dL_law_1472 rfl ?_
          refine af_lm [true, true, true, true] rfl ?_
          exact ih18 _ _ _ hk18
        · refine af_iconst K 1422 dL_law_1421 rfl cs_iconst_0 ?_
          exact af_retz K rfl dL_law_1422
      refine af_ite (fun hx => ?_) (fun hx38 => ?_)
      · refine af_tin K 1423 38 hx dL_law_33 (by decide) (by decide) rfl rfl ?_
        refine af_aload_n K 1424 dL_law_1423 rfl rfl ?_
        refine af_aload_n K 1425 dL_law_1424 rfl rfl ?_
        refine af_iload_n K 1426 dL_law_1425 rfl rfl ?_
        refine af_iconst K 1427 dL_law_1426 rfl cs_iconst_1 ?_
        refine af_iadd K 1428 dL_law_1427 rfl ?_
        refine af_sld K hX 1429 dL_law_1428 rfl (fun y261 => ?_)
        refine af_callV_i K (b := 0) (vs := [.int y261]) mv_X4_count lk_678 ((hp_at _ (Nat.le_of_ble_eq_true rfl)).trans rfl) rfl 1432 dL_law_1429 rfl rfl rfl rfl (A_X4_count _ _ y261 σ) rfl (fun q262 => ?_)
        refine af_aload_n K 1433 dL_law_1432 rfl rfl ?_
        refine af_aload_n K 1434 dL_law_1433 rfl rfl ?_
        refine af_iload_n K 1435 dL_law_1434 rfl rfl ?_
        refine af_iconst K 1436 dL_law_1435 rfl cs_iconst_1 ?_
        refine af_iadd K 1437 dL_law_1436 rfl ?_
        refine af_sld K hX 1438 dL_law_1437 rfl (fun y263 => ?_)
        refine af_callV_i K (b := 26) (vs := [.int y263]) mv_X5_count lk_1141 ((hp_at _ (Nat.le_of_ble_eq_true rfl)).trans rfl) rfl 1441 dL_law_1438 rfl rfl rfl rfl (A_X5_count _ _ y263 q262.2) rfl (fun q264 => ?_)
        refine af_icmp_eq K 1444 1469 dL_law_1441 rfl rfl (fun _ => ?_) (fun _ => ?_)
        · refine af_iincB K 1472 (fun yy => [some (.ref 1004), some (.ref 0), some (.ref 26), some (.int yy)]) dL_law_1469 rfl (by rw [hN]; exact Nat.le_of_ble_eq_true rfl) rfl cs_iconst_6 (fun _ => rfl) (fun y265 => ?_)
          refine af_goto K 18 dL_law_1472 rfl ?_
          refine af_lm [true, true, true, true] rfl ?_
          exact ih18 _ _ _ hk18
        · refine af_iconst K 1445 dL_law_1444 rfl cs_iconst_0 ?_
          exact af_retz K rfl dL_law_1445
      refine af_ite (fun hx => ?_) (fun hx39 => ?_)
      · refine af_tin K 1446 39 hx dL_law_33 (by decide) (by decide) rfl rfl ?_
        refine af_aload_n K 1447 dL_law_1446 rfl rfl ?_
        refine af_aload_n K 1448 dL_law_1447 rfl rfl ?_
        refine af_iload_n K 1449 dL_law_1448 rfl rfl ?_
        refine af_iconst K 1450 dL_law_1449 rfl cs_iconst_1 ?_
        refine af_iadd K 1451 dL_law_1450 rfl ?_
        refine af_sld K hX 1452 dL_law_1451 rfl (fun y266 => ?_)
        refine af_callV_i K (b := 0) (vs := [.int y266]) mv_X4_status lk_686 ((hp_at _ (Nat.le_of_ble_eq_true rfl)).trans rfl) rfl 1455 dL_law_1452 rfl rfl rfl rfl (A_X4_status _ _ y266 σ) rfl (fun q267 => ?_)
        refine af_aload_n K 1456 dL_law_1455 rfl rfl ?_
        refine af_aload_n K 1457 dL_law_1456 rfl rfl ?_
        refine af_iload_n K 1458 dL_law_1457 rfl rfl ?_
        refine af_iconst K 1459 dL_law_1458 rfl cs_iconst_1 ?_
        refine af_iadd K 1460 dL_law_1459 rfl ?_
        refine af_sld K hX 1461 dL_law_1460 rfl (fun y268 => ?_)
        refine af_callV_i K (b := 26) (vs := [.int y268]) mv_X5_status lk_1149 ((hp_at _ (Nat.le_of_ble_eq_true rfl)).trans rfl) rfl 1464 dL_law_1461 rfl rfl rfl rfl (A_X5_status _ _ y268 q267.2) rfl (fun q269 => ?_)
        refine af_icmp_eq K 1467 1469 dL_law_1464 rfl rfl (fun _ => ?_) (fun _ => ?_)
        · refine af_iincB K 1472 (fun yy => [some (.ref 1004), some (.ref 0), some (.ref 26), some (.int yy)]) dL_law_1469 rfl (by rw [hN]; exact Nat.le_of_ble_eq_true rfl) rfl cs_iconst_6 (fun _ => rfl) (fun y270 => ?_)
          refine af_goto K 18 dL_law_1472 rfl ?_
          refine af_lm [true, true, true, true] rfl ?_
          exact ih18 _ _ _ hk18
        · refine af_iconst K 1468 dL_law_1467 rfl cs_iconst_0 ?_
          exact af_retz K rfl dL_law_1468
      refine af_tout K 1469 dL_law_33 (tsw_0_39 hx0 hx1 hx2 hx3 hx4 hx5 hx6 hx7 hx8 hx9 hx10 hx11 hx12 hx13 hx14 hx15 hx16 hx17 hx18 hx19 hx20 hx21 hx22 hx23 hx24 hx25 hx26 hx27 hx28 hx29 hx30 hx31 hx32 hx33 hx34 hx35 hx36 hx37 hx38 hx39) rfl ?_
      refine af_iincB K 1472 (fun yy => [some (.ref 1004), some (.ref 0), some (.ref 26), some (.int yy)]) dL_law_1469 rfl (by rw [hN]; exact Nat.le_of_ble_eq_true rfl) rfl cs_iconst_6 (fun _ => rfl) (fun y271 => ?_)
      refine af_goto K 18 dL_law_1472 rfl ?_
      refine af_lm [true, true, true, true] rfl ?_
      exact ih18 _ _ _ hk18
/-- the law as a term, from the state behind the constructors -/
def F_law (xs : Nat → Int32) (L : Nat) (σ : fk_T) : Option (Bool × fk_T) := L_L_law_18 xs L fk_N 0 σ (fun y273 s272 => some (true, s272))
set_option maxRecDepth 100000 in
set_option maxHeartbeats 4000000 in
theorem T_law {cx : aw_C} (hN : aw_nL cx = 4) (K : aw_K cx cL_law RL rL_law) {xs : Nat → Int32} {L : Nat} (hX : aw_sc cx xs L) (σ : fk_T) : af cx ρz 18 [some (.ref 1004), some (.ref 0), some (.ref 26), some (.int 0)] [] (hp σ) (F_law xs L σ) := by
  unfold F_law
  refine af_lm [true, true, true, true] rfl ?_
  refine W_L_law_18 hN K hX  fk_N _ _ _ (fun y273 s272 => ?_)
  refine af_iconst K 1476 dL_law_1475 rfl cs_iconst_1 ?_
  exact af_retz K rfl dL_law_1476
