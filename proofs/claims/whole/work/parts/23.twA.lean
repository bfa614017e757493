def F_X4_found (x1 : Int32) (σ : fk_T) : Option (Int32 × fk_T) := fk_A (σ.1 25) 7 x1 (fun y1 => fk_S σ 25 7 x1 (y1 + 1) (fun s2 => some (((-1000001) - x1), s2)))
set_option maxRecDepth 100000 in
set_option maxHeartbeats 4000000 in
theorem A_X4_found (X : aw_X) (l : Launch) (x1 : Int32) (σ : fk_T) : af_G X l mX4_found [.ref 0, .int x1] (hp σ) ρi (F_X4_found x1 σ) := by
  refine af_mk (by decide) rfl (fun q _ => aw_oki q) [some (.ref 0), some (.int x1)] rfl ?_
  rintro cx rfl rfl hN K
  replace hN : aw_nL cx = 2 := hN
  replace K : aw_K cx cX4_found RX4 rX4_found := K
  unfold F_X4_found
  refine af_aload_n K 1 dX4_found_0 rfl rfl ?_
  refine af_get K 4 dX4_found_1 rfl fl_X4_49 (Nat.le_of_ble_eq_true rfl) rfl rfl ?_
  refine af_iload_n K 5 dX4_found_4 rfl rfl ?_
  refine af_dup2 K 6 dX4_found_5 rfl rfl rfl ?_
  refine af_iald K 7 dX4_found_6 rfl (Nat.le_of_ble_eq_true rfl) rfl (fun y1 => ?_)
  refine af_iconst K 8 dX4_found_7 rfl cs_iconst_1 ?_
  refine af_iadd K 9 dX4_found_8 rfl ?_
  refine af_iast K 10 dX4_found_9 rfl (Nat.le_of_ble_eq_true rfl) (fun _ _ => rfl) (fun s2 => ?_)
  refine af_ldc K 12 dX4_found_10 rfl lk_176 ?_
  refine af_iload_n K 13 dX4_found_12 rfl rfl ?_
  refine af_isub K 14 dX4_found_13 rfl ?_
  exact af_reti K dX4_found_14
def F_X4_clay (x1 : Int32) (σ : fk_T) : Option (Int32 × fk_T) := (F_X4_within x1 1 20 σ).bind (fun q1 => if (fk_b q1.1) = 0 then ((F_X4_found 0 q1.2).bind (fun q4 => some (q4.1, q4.2))) else (fk_B (q1.2.1 1 0) (fun y2 => fk_B (fk_w q1.2 1 (upd (q1.2.1 1) 0 x1)) (fun s3 => some (y2, s3)))))
set_option maxRecDepth 100000 in
set_option maxHeartbeats 4000000 in
theorem A_X4_clay (X : aw_X) (l : Launch) (x1 : Int32) (σ : fk_T) : af_G X l mX4_clay [.ref 0, .int x1] (hp σ) ρi (F_X4_clay x1 σ) := by
  refine af_mk (by decide) rfl (fun q _ => aw_oki q) [some (.ref 0), some (.int x1), none] rfl ?_
  rintro cx rfl rfl hN K
  replace hN : aw_nL cx = 3 := hN
  replace K : aw_K cx cX4_clay RX4 rX4_clay := K
  unfold F_X4_clay
  refine af_iload_n K 1 dX4_clay_0 rfl rfl ?_
  refine af_iconst K 2 dX4_clay_1 rfl cs_iconst_1 ?_
  refine af_bipush K 4 dX4_clay_2 rfl cs_bipush_20 ?_
  refine af_callS_z K (vs := [.int x1, .int 1, .int 20]) ms_X4_within lk_169 7 dX4_clay_4 rfl rfl rfl rfl (A_X4_within _ _ x1 1 20 σ) rfl (fun q1 => ?_)
  refine af_if_ne K 10 16 dX4_clay_7 rfl rfl (fun _ => ?_) (fun _ => ?_)
  · refine af_aload_n K 17 dX4_clay_16 rfl rfl ?_
    refine af_get K 20 dX4_clay_17 rfl fl_X4_10 (Nat.le_of_ble_eq_true rfl) rfl rfl ?_
    refine af_get K 23 dX4_clay_20 rfl fl_X4_61 (Nat.le_of_ble_eq_true rfl) rfl rfl ?_
    refine af_Bi (fun y2 => ?_)
    refine af_istore_n K 24 [some (.ref 0), some (.int x1), some (.int y2)] dX4_clay_23 rfl (by rw [hN]; exact Nat.le_of_ble_eq_true rfl) rfl ?_
    refine af_aload_n K 25 dX4_clay_24 rfl rfl ?_
    refine af_get K 28 dX4_clay_25 rfl fl_X4_10 (Nat.le_of_ble_eq_true rfl) rfl rfl ?_
    refine af_iload_n K 29 dX4_clay_28 rfl rfl ?_
    refine af_put K 32 dX4_clay_29 rfl fp_X4_61 (Nat.le_of_ble_eq_true rfl) rfl (Nat.le_of_ble_eq_true rfl) rfl (fun s3 => ?_)
    refine af_iload_n K 33 dX4_clay_32 rfl rfl ?_
    exact af_reti K dX4_clay_33
  · refine af_aload_n K 11 dX4_clay_10 rfl rfl ?_
    refine af_iconst K 12 dX4_clay_11 rfl cs_iconst_0 ?_
    refine af_callV_i K (b := 0) (vs := [.int 0]) mv_X4_found lk_172 ((hp_at _ (Nat.le_of_ble_eq_true rfl)).trans rfl) rfl 15 dX4_clay_12 rfl rfl rfl rfl (A_X4_found _ _ 0 q1.2) rfl (fun q4 => ?_)
    exact af_reti K dX4_clay_15
def F_X4_pair (x1 : Int32) (x2 : Int32) (x3 : Int32) (σ : fk_T) : Option (Int32 × fk_T) := (F_X4_within x1 0 5 σ).bind (fun q1 => if (fk_b q1.1) = 0 then ((F_X4_found 0 q1.2).bind (fun q2 => some (q2.1, q2.2))) else ((F_X4_within x2 0 7 q1.2).bind (fun q3 => if (fk_b q3.1) = 0 then ((F_X4_found 0 q3.2).bind (fun q4 => some (q4.1, q4.2))) else ((F_X4_within x3 0 7 q3.2).bind (fun q5 => if (fk_b q5.1) = 0 then ((F_X4_found 0 q5.2).bind (fun q8 => some (q8.1, q8.2))) else (fk_A (q5.2.1 2) 6 x1 (fun y6 => fk_S q5.2 2 6 x1 ((10 * x2) + x3) (fun s7 => some (y6, s7)))))))))
set_option maxRecDepth 100000 in
set_option maxHeartbeats 4000000 in
theorem A_X4_pair (X : aw_X) (l : Launch) (x1 : Int32) (x2 : Int32) (x3 : Int32) (σ : fk_T) : af_G X l mX4_pair [.ref 0, .int x1, .int x2, .int x3] (hp σ) ρi (F_X4_pair x1 x2 x3 σ) := by
  refine af_mk (by decide) rfl (fun q _ => aw_oki q) [some (.ref 0), some (.int x1), some (.int x2), some (.int x3), none] rfl ?_
  rintro cx rfl rfl hN K
  replace hN : aw_nL cx = 5 := hN
  replace K : aw_K cx cX4_pair RX4 rX4_pair := K
  unfold F_X4_pair
  refine af_iload_n K 1 dX4_pair_0 rfl rfl ?_
  refine af_iconst K 2 dX4_pair_1 rfl cs_iconst_0 ?_
  refine af_iconst K 3 dX4_pair_2 rfl cs_iconst_5 ?_
  refine af_callS_z K (vs := [.int x1, .int 0, .int 5]) ms_X4_within lk_169 6 dX4_pair_3 rfl rfl rfl rfl (A_X4_within _ _ x1 0 5 σ) rfl (fun q1 => ?_)
  refine af_if_eq K 9 29 dX4_pair_6 rfl rfl (fun _ => ?_) (fun _ => ?_)
  · refine af_aload_n K 30 dX4_pair_29 rfl rfl ?_
    refine af_iconst K 31 dX4_pair_30 rfl cs_iconst_0 ?_
    refine af_callV_i K (b := 0) (vs := [.int 0]) mv_X4_found lk_172 ((hp_at _ (Nat.le_of_ble_eq_true rfl)).trans rfl) rfl 34 dX4_pair_31 rfl rfl rfl rfl (A_X4_found _ _ 0 q1.2) rfl (fun q2 => ?_)
    exact af_reti K dX4_pair_34
  · refine af_iload_n K 10 dX4_pair_9 rfl rfl ?_
    refine af_iconst K 11 dX4_pair_10 rfl cs_iconst_0 ?_
    refine af_bipush K 13 dX4_pair_11 rfl cs_bipush_7 ?_
    refine af_callS_z K (vs := [.int x2, .int 0, .int 7]) ms_X4_within lk_169 16 dX4_pair_13 rfl rfl rfl rfl (A_X4_within _ _ x2 0 7 q1.2) rfl (fun q3 => ?_)
    refine af_if_eq K 19 29 dX4_pair_16 rfl rfl (fun _ => ?_) (fun _ => ?_)
    · refine af_aload_n K 30 dX4_pair_29 rfl rfl ?_
      refine af_iconst K 31 dX4_pair_30 rfl cs_iconst_0 ?_
      refine af_callV_i K (b := 0) (vs := [.int 0]) mv_X4_found lk_172 ((hp_at _ (Nat.le_of_ble_eq_true rfl)).trans rfl) rfl 34 dX4_pair_31 rfl rfl rfl rfl (A_X4_found _ _ 0 q3.2) rfl (fun q4 => ?_)
      exact af_reti K dX4_pair_34
    · refine af_iload_n K 20 dX4_pair_19 rfl rfl ?_
      refine af_iconst K 21 dX4_pair_20 rfl cs_iconst_0 ?_
      refine af_bipush K 23 dX4_pair_21 rfl cs_bipush_7 ?_
      refine af_callS_z K (vs := [.int x3, .int 0, .int 7]) ms_X4_within lk_169 26 dX4_pair_23 rfl rfl rfl rfl (A_X4_within _ _ x3 0 7 q3.2) rfl (fun q5 => ?_)
      refine af_if_ne K 29 35 dX4_pair_26 rfl rfl (fun _ => ?_) (fun _ => ?_)
      · refine af_aload_n K 36 dX4_pair_35 rfl rfl ?_
        refine af_get K 39 dX4_pair_36 rfl fl_X4_10 (Nat.le_of_ble_eq_true rfl) rfl rfl ?_
        refine af_get K 42 dX4_pair_39 rfl fl_X4_65 (Nat.le_of_ble_eq_true rfl) rfl rfl ?_
        refine af_iload_n K 43 dX4_pair_42 rfl rfl ?_
        refine af_iald K 44 dX4_pair_43 rfl (Nat.le_of_ble_eq_true rfl) rfl (fun y6 => ?_)
        refine af_istore K 46 [some (.ref 0), some (.int x1), some (.int x2), some (.int x3), some (.int y6)] dX4_pair_44 rfl (by rw [hN]; exact Nat.le_of_ble_eq_true rfl) rfl ?_
        refine af_aload_n K 47 dX4_pair_46 rfl rfl ?_
        refine af_get K 50 dX4_pair_47 rfl fl_X4_10 (Nat.le_of_ble_eq_true rfl) rfl rfl ?_
        refine af_get K 53 dX4_pair_50 rfl fl_X4_65 (Nat.le_of_ble_eq_true rfl) rfl rfl ?_
        refine af_iload_n K 54 dX4_pair_53 rfl rfl ?_
        refine af_bipush K 56 dX4_pair_54 rfl cs_bipush_10 ?_
        refine af_iload_n K 57 dX4_pair_56 rfl rfl ?_
        refine af_imul K 58 dX4_pair_57 rfl ?_
        refine af_iload_n K 59 dX4_pair_58 rfl rfl ?_
        refine af_iadd K 60 dX4_pair_59 rfl ?_
        refine af_iast K 61 dX4_pair_60 rfl (Nat.le_of_ble_eq_true rfl) (fun _ _ => rfl) (fun s7 => ?_)
        refine af_iload K 63 dX4_pair_61 rfl rfl ?_
        exact af_reti K dX4_pair_63
      · refine af_aload_n K 30 dX4_pair_29 rfl rfl ?_
        refine af_iconst K 31 dX4_pair_30 rfl cs_iconst_0 ?_
        refine af_callV_i K (b := 0) (vs := [.int 0]) mv_X4_found lk_172 ((hp_at _ (Nat.le_of_ble_eq_true rfl)).trans rfl) rfl 34 dX4_pair_31 rfl rfl rfl rfl (A_X4_found _ _ 0 q5.2) rfl (fun q8 => ?_)
        exact af_reti K dX4_pair_34
def F_X4_listed (x1 : Int32) (σ : fk_T) : Option (Int32 × fk_T) := (F_X4_within x1 0 5 σ).bind (fun q1 => if (fk_b q1.1) = 0 then ((F_X4_found 0 q1.2).bind (fun q3 => some (q3.1, q3.2))) else (fk_A (q1.2.1 2) 6 x1 (fun y2 => some (y2, q1.2))))
set_option maxRecDepth 100000 in
set_option maxHeartbeats 4000000 in
theorem A_X4_listed (X : aw_X) (l : Launch) (x1 : Int32) (σ : fk_T) : af_G X l mX4_listed [.ref 0, .int x1] (hp σ) ρi (F_X4_listed x1 σ) := by
  refine af_mk (by decide) rfl (fun q _ => aw_oki q) [some (.ref 0), some (.int x1)] rfl ?_
  rintro cx rfl rfl hN K
  replace hN : aw_nL cx = 2 := hN
  replace K : aw_K cx cX4_listed RX4 rX4_listed := K
  unfold F_X4_listed
  refine af_iload_n K 1 dX4_listed_0 rfl rfl ?_
  refine af_iconst K 2 dX4_listed_1 rfl cs_iconst_0 ?_
  refine af_iconst K 3 dX4_listed_2 rfl cs_iconst_5 ?_
  refine af_callS_z K (vs := [.int x1, .int 0, .int 5]) ms_X4_within lk_169 6 dX4_listed_3 rfl rfl rfl rfl (A_X4_within _ _ x1 0 5 σ) rfl (fun q1 => ?_)
  refine af_if_ne K 9 15 dX4_listed_6 rfl rfl (fun _ => ?_) (fun _ => ?_)
  · refine af_aload_n K 16 dX4_listed_15 rfl rfl ?_
    refine af_get K 19 dX4_listed_16 rfl fl_X4_10 (Nat.le_of_ble_eq_true rfl) rfl rfl ?_
    refine af_get K 22 dX4_listed_19 rfl fl_X4_65 (Nat.le_of_ble_eq_true rfl) rfl rfl ?_
    refine af_iload_n K 23 dX4_listed_22 rfl rfl ?_
    refine af_iald K 24 dX4_listed_23 rfl (Nat.le_of_ble_eq_true rfl) rfl (fun y2 => ?_)
    exact af_reti K dX4_listed_24
  · refine af_aload_n K 10 dX4_listed_9 rfl rfl ?_
    refine af_iconst K 11 dX4_listed_10 rfl cs_iconst_0 ?_
    refine af_callV_i K (b := 0) (vs := [.int 0]) mv_X4_found lk_172 ((hp_at _ (Nat.le_of_ble_eq_true rfl)).trans rfl) rfl 14 dX4_listed_11 rfl rfl rfl rfl (A_X4_found _ _ 0 q1.2) rfl (fun q3 => ?_)
    exact af_reti K dX4_listed_14
def F_X4_potter (x1 : Int32) (x2 : Int32) (σ : fk_T) : Option (Int32 × fk_T) := (F_X4_within x1 0 6 σ).bind (fun q1 => if (fk_b q1.1) = 0 then ((F_X4_found 0 q1.2).bind (fun q2 => some (q2.1, q2.2))) else ((F_X4_within x2 0 99 q1.2).bind (fun q3 => if (fk_b q3.1) = 0 then ((F_X4_found 0 q3.2).bind (fun q7 => some (q7.1, q7.2))) else ((F_X0_isFull 1 q3.2).bind (fun q4 => if (fk_b q4.1) = 0 then ((F_X0_addPotter 1 x1 x2 20 0 q4.2).bind (fun q5 => some (q5.1, q5.2))) else ((F_X4_found 1 q4.2).bind (fun q6 => some (q6.1, q6.2))))))))
set_option maxRecDepth 100000 in
set_option maxHeartbeats 4000000 in
theorem A_X4_potter (X : aw_X) (l : Launch) (x1 : Int32) (x2 : Int32) (σ : fk_T) : af_G X l mX4_potter [.ref 0, .int x1, .int x2] (hp σ) ρi (F_X4_potter x1 x2 σ) := by
  refine af_mk (by decide) rfl (fun q _ => aw_oki q) [some (.ref 0), some (.int x1), some (.int x2)] rfl ?_
  rintro cx rfl rfl hN K
  replace hN : aw_nL cx = 3 := hN
  replace K : aw_K cx cX4_potter RX4 rX4_potter := K
  unfold F_X4_potter
  refine af_iload_n K 1 dX4_potter_0 rfl rfl ?_
  refine af_iconst K 2 dX4_potter_1 rfl cs_iconst_0 ?_
  refine af_bipush K 4 dX4_potter_2 rfl cs_bipush_6 ?_
  refine af_callS_z K (vs := [.int x1, .int 0, .int 6]) ms_X4_within lk_169 7 dX4_potter_4 rfl rfl rfl rfl (A_X4_within _ _ x1 0 6 σ) rfl (fun q1 => ?_)
  refine af_if_eq K 10 20 dX4_potter_7 rfl rfl (fun _ => ?_) (fun _ => ?_)
  · refine af_aload_n K 21 dX4_potter_20 rfl rfl ?_
    refine af_iconst K 22 dX4_potter_21 rfl cs_iconst_0 ?_
    refine af_callV_i K (b := 0) (vs := [.int 0]) mv_X4_found lk_172 ((hp_at _ (Nat.le_of_ble_eq_true rfl)).trans rfl) rfl 25 dX4_potter_22 rfl rfl rfl rfl (A_X4_found _ _ 0 q1.2) rfl (fun q2 => ?_)
    exact af_reti K dX4_potter_25
  · refine af_iload_n K 11 dX4_potter_10 rfl rfl ?_
    refine af_iconst K 12 dX4_potter_11 rfl cs_iconst_0 ?_
    refine af_bipush K 14 dX4_potter_12 rfl cs_bipush_99 ?_
    refine af_callS_z K (vs := [.int x2, .int 0, .int 99]) ms_X4_within lk_169 17 dX4_potter_14 rfl rfl rfl rfl (A_X4_within _ _ x2 0 99 q1.2) rfl (fun q3 => ?_)
    refine af_if_ne K 20 26 dX4_potter_17 rfl rfl (fun _ => ?_) (fun _ => ?_)
    · refine af_aload_n K 27 dX4_potter_26 rfl rfl ?_
      refine af_get K 30 dX4_potter_27 rfl fl_X4_10 (Nat.le_of_ble_eq_true rfl) rfl rfl ?_
      refine af_callV_z K (b := 1) (vs := []) mv_X0_isFull lk_189 ((hp_at _ (Nat.le_of_ble_eq_true rfl)).trans rfl) rfl 33 dX4_potter_30 rfl rfl rfl rfl (A_X0_isFull _ _ 1 (Or.inl rfl) q3.2) rfl (fun q4 => ?_)
      refine af_if_eq K 36 42 dX4_potter_33 rfl rfl (fun _ => ?_) (fun _ => ?_)
      · refine af_aload_n K 43 dX4_potter_42 rfl rfl ?_
        refine af_get K 46 dX4_potter_43 rfl fl_X4_10 (Nat.le_of_ble_eq_true rfl) rfl rfl ?_
        refine af_iload_n K 47 dX4_potter_46 rfl rfl ?_
        refine af_iload_n K 48 dX4_potter_47 rfl rfl ?_
        refine af_bipush K 50 dX4_potter_48 rfl cs_bipush_20 ?_
        refine af_iconst K 51 dX4_potter_50 rfl cs_iconst_0 ?_
        refine af_callV_i K (b := 1) (vs := [.int x1, .int x2, .int 20, .int 0]) mv_X0_addPotter lk_193 ((hp_at _ (Nat.le_of_ble_eq_true rfl)).trans rfl) rfl 54 dX4_potter_51 rfl rfl rfl rfl (A_X0_addPotter _ _ 1 (Or.inl rfl) x1 x2 20 0 q4.2) rfl (fun q5 => ?_)
        exact af_reti K dX4_potter_54
      · refine af_aload_n K 37 dX4_potter_36 rfl rfl ?_
        refine af_iconst K 38 dX4_potter_37 rfl cs_iconst_1 ?_
        refine af_callV_i K (b := 0) (vs := [.int 1]) mv_X4_found lk_172 ((hp_at _ (Nat.le_of_ble_eq_true rfl)).trans rfl) rfl 41 dX4_potter_38 rfl rfl rfl rfl (A_X4_found _ _ 1 q4.2) rfl (fun q6 => ?_)
        exact af_reti K dX4_potter_41
    · refine af_aload_n K 21 dX4_potter_20 rfl rfl ?_
      refine af_iconst K 22 dX4_potter_21 rfl cs_iconst_0 ?_
      refine af_callV_i K (b := 0) (vs := [.int 0]) mv_X4_found lk_172 ((hp_at _ (Nat.le_of_ble_eq_true rfl)).trans rfl) rfl 25 dX4_potter_22 rfl rfl rfl rfl (A_X4_found _ _ 0 q3.2) rfl (fun q7 => ?_)
      exact af_reti K dX4_potter_25
def F_X4_of (x1 : Int32) (x2 : Int32) (σ : fk_T) : Option (Int32 × fk_T) := (F_X0_has 1 x1 σ).bind (fun q1 => if (fk_b q1.1) = 0 then ((F_X4_found 0 q1.2).bind (fun q2 => some (q2.1, q2.2))) else ((F_X4_within x2 0 9 q1.2).bind (fun q3 => if (fk_b q3.1) = 0 then ((F_X4_found 0 q3.2).bind (fun q5 => some (q5.1, q5.2))) else ((F_X0_tell 1 x1 x2 q3.2).bind (fun q4 => some (q4.1, q4.2))))))
set_option maxRecDepth 100000 in
set_option maxHeartbeats 4000000 in
theorem A_X4_of (X : aw_X) (l : Launch) (x1 : Int32) (x2 : Int32) (σ : fk_T) : af_G X l mX4_of [.ref 0, .int x1, .int x2] (hp σ) ρi (F_X4_of x1 x2 σ) := by
  refine af_mk (by decide) rfl (fun q _ => aw_oki q) [some (.ref 0), some (.int x1), some (.int x2)] rfl ?_
  rintro cx rfl rfl hN K
  replace hN : aw_nL cx = 3 := hN
  replace K : aw_K cx cX4_of RX4 rX4_of := K
  unfold F_X4_of
  refine af_aload_n K 1 dX4_of_0 rfl rfl ?_
  refine af_get K 4 dX4_of_1 rfl fl_X4_10 (Nat.le_of_ble_eq_true rfl) rfl rfl ?_
  refine af_iload_n K 5 dX4_of_4 rfl rfl ?_
  refine af_callV_z K (b := 1) (vs := [.int x1]) mv_X0_has lk_201 ((hp_at _ (Nat.le_of_ble_eq_true rfl)).trans rfl) rfl 8 dX4_of_5 rfl rfl rfl rfl (A_X0_has _ _ 1 (Or.inl rfl) x1 σ) rfl (fun q1 => ?_)
  refine af_if_eq K 11 21 dX4_of_8 rfl rfl (fun _ => ?_) (fun _ => ?_)
  · refine af_aload_n K 22 dX4_of_21 rfl rfl ?_
    refine af_iconst K 23 dX4_of_22 rfl cs_iconst_0 ?_
    refine af_callV_i K (b := 0) (vs := [.int 0]) mv_X4_found lk_172 ((hp_at _ (Nat.le_of_ble_eq_true rfl)).trans rfl) rfl 26 dX4_of_23 rfl rfl rfl rfl (A_X4_found _ _ 0 q1.2) rfl (fun q2 => ?_)
    exact af_reti K dX4_of_26
  · refine af_iload_n K 12 dX4_of_11 rfl rfl ?_
    refine af_iconst K 13 dX4_of_12 rfl cs_iconst_0 ?_
    refine af_bipush K 15 dX4_of_13 rfl cs_bipush_9 ?_
    refine af_callS_z K (vs := [.int x2, .int 0, .int 9]) ms_X4_within lk_169 18 dX4_of_15 rfl rfl rfl rfl (A_X4_within _ _ x2 0 9 q1.2) rfl (fun q3 => ?_)
    refine af_if_ne K 21 27 dX4_of_18 rfl rfl (fun _ => ?_) (fun _ => ?_)
    · refine af_aload_n K 28 dX4_of_27 rfl rfl ?_
      refine af_get K 31 dX4_of_28 rfl fl_X4_10 (Nat.le_of_ble_eq_true rfl) rfl rfl ?_
      refine af_iload_n K 32 dX4_of_31 rfl rfl ?_
      refine af_iload_n K 33 dX4_of_32 rfl rfl ?_
      refine af_callV_i K (b := 1) (vs := [.int x1, .int x2]) mv_X0_tell lk_205 ((hp_at _ (Nat.le_of_ble_eq_true rfl)).trans rfl) rfl 36 dX4_of_33 rfl rfl rfl rfl (A_X0_tell _ _ 1 (Or.inl rfl) x1 x2 q3.2) rfl (fun q4 => ?_)
      exact af_reti K dX4_of_36
    · refine af_aload_n K 22 dX4_of_21 rfl rfl ?_
      refine af_iconst K 23 dX4_of_22 rfl cs_iconst_0 ?_
      refine af_callV_i K (b := 0) (vs := [.int 0]) mv_X4_found lk_172 ((hp_at _ (Nat.le_of_ble_eq_true rfl)).trans rfl) rfl 26 dX4_of_23 rfl rfl rfl rfl (A_X4_found _ _ 0 q3.2) rfl (fun q5 => ?_)
      exact af_reti K dX4_of_26
def F_X4_change (x1 : Int32) (x2 : Int32) (x3 : Int32) (σ : fk_T) : Option (Int32 × fk_T) := (F_X0_has 1 x1 σ).bind (fun q1 => if (fk_b q1.1) = 0 then ((F_X4_found 0 q1.2).bind (fun q2 => some (q2.1, q2.2))) else ((F_X4_within x2 0 5 q1.2).bind (fun q3 => if (fk_b q3.1) = 0 then ((F_X4_found 0 q3.2).bind (fun q4 => some (q4.1, q4.2))) else (fk_A fk_t3 6 x2 (fun y5 => (F_X4_within x3 0 y5 q3.2).bind (fun q6 => if (fk_b q6.1) = 0 then ((F_X4_found 0 q6.2).bind (fun q10 => some (q10.1, q10.2))) else (fk_B ((8 * x2) + x1) (fun y7 => fk_A (q6.2.1 3) 48 y7 (fun y8 => fk_S q6.2 3 48 y7 x3 (fun s9 => some (y8, s9)))))))))))
set_option maxRecDepth 100000 in
set_option maxHeartbeats 4000000 in
theorem A_X4_change (X : aw_X) (l : Launch) (x1 : Int32) (x2 : Int32) (x3 : Int32) (σ : fk_T) : af_G X l mX4_change [.ref 0, .int x1, .int x2, .int x3] (hp σ) ρi (F_X4_change x1 x2 x3 σ) := by
  refine af_mk (by decide) rfl (fun q _ => aw_oki q) [some (.ref 0), some (.int x1), some (.int x2), some (.int x3), none, none] rfl ?_
  rintro cx rfl rfl hN K
  replace hN : aw_nL cx = 6 := hN
  replace K : aw_K cx cX4_change RX4 rX4_change := K
  unfold F_X4_change
  refine af_aload_n K 1 dX4_change_0 rfl rfl ?_
  refine af_get K 4 dX4_change_1 rfl fl_X4_10 (Nat.le_of_ble_eq_true rfl) rfl rfl ?_
  refine af_iload_n K 5 dX4_change_4 rfl rfl ?_
  refine af_callV_z K (b := 1) (vs := [.int x1]) mv_X0_has lk_201 ((hp_at _ (Nat.le_of_ble_eq_true rfl)).trans rfl) rfl 8 dX4_change_5 rfl rfl rfl rfl (A_X0_has _ _ 1 (Or.inl rfl) x1 σ) rfl (fun q1 => ?_)
  refine af_if_eq K 11 33 dX4_change_8 rfl rfl (fun _ => ?_) (fun _ => ?_)
  · refine af_aload_n K 34 dX4_change_33 rfl rfl ?_
    refine af_iconst K 35 dX4_change_34 rfl cs_iconst_0 ?_
    refine af_callV_i K (b := 0) (vs := [.int 0]) mv_X4_found lk_172 ((hp_at _ (Nat.le_of_ble_eq_true rfl)).trans rfl) rfl 38 dX4_change_35 rfl rfl rfl rfl (A_X4_found _ _ 0 q1.2) rfl (fun q2 => ?_)
    exact af_reti K dX4_change_38
  · refine af_iload_n K 12 dX4_change_11 rfl rfl ?_
    refine af_iconst K 13 dX4_change_12 rfl cs_iconst_0 ?_
    refine af_iconst K 14 dX4_change_13 rfl cs_iconst_5 ?_
    refine af_callS_z K (vs := [.int x2, .int 0, .int 5]) ms_X4_within lk_169 17 dX4_change_14 rfl rfl rfl rfl (A_X4_within _ _ x2 0 5 q1.2) rfl (fun q3 => ?_)
    refine af_if_eq K 20 33 dX4_change_17 rfl rfl (fun _ => ?_) (fun _ => ?_)
    · refine af_aload_n K 34 dX4_change_33 rfl rfl ?_
      refine af_iconst K 35 dX4_change_34 rfl cs_iconst_0 ?_
      refine af_callV_i K (b := 0) (vs := [.int 0]) mv_X4_found lk_172 ((hp_at _ (Nat.le_of_ble_eq_true rfl)).trans rfl) rfl 38 dX4_change_35 rfl rfl rfl rfl (A_X4_found _ _ 0 q3.2) rfl (fun q4 => ?_)
      exact af_reti K dX4_change_38
    · refine af_iload_n K 21 dX4_change_20 rfl rfl ?_
      refine af_iconst K 22 dX4_change_21 rfl cs_iconst_0 ?_
      refine af_gets K 3 rfl 25 dX4_change_22 rfl (Nat.le_of_ble_eq_true rfl) lk_228 ?_
      refine af_iload_n K 26 dX4_change_25 rfl rfl ?_
      refine af_iald_s K 3 rfl 27 dX4_change_26 rfl (Nat.le_of_ble_eq_true rfl) (fun y5 => ?_)
      refine af_callS_z K (vs := [.int x3, .int 0, .int y5]) ms_X4_within lk_169 30 dX4_change_27 rfl rfl rfl rfl (A_X4_within _ _ x3 0 y5 q3.2) rfl (fun q6 => ?_)
      refine af_if_ne K 33 39 dX4_change_30 rfl rfl (fun _ => ?_) (fun _ => ?_)
      · refine af_bipush K 41 dX4_change_39 rfl cs_bipush_8 ?_
        refine af_iload_n K 42 dX4_change_41 rfl rfl ?_
        refine af_imul K 43 dX4_change_42 rfl ?_
        refine af_iload_n K 44 dX4_change_43 rfl rfl ?_
        refine af_iadd K 45 dX4_change_44 rfl ?_
        refine af_Bi (fun y7 => ?_)
        refine af_istore K 47 [some (.ref 0), some (.int x1), some (.int x2), some (.int x3), some (.int y7), none] dX4_change_45 rfl (by rw [hN]; exact Nat.le_of_ble_eq_true rfl) rfl ?_
        refine af_aload_n K 48 dX4_change_47 rfl rfl ?_
        refine af_get K 51 dX4_change_48 rfl fl_X4_10 (Nat.le_of_ble_eq_true rfl) rfl rfl ?_
        refine af_get K 54 dX4_change_51 rfl fl_X4_87 (Nat.le_of_ble_eq_true rfl) rfl rfl ?_
        refine af_iload K 56 dX4_change_54 rfl rfl ?_
        refine af_iald K 57 dX4_change_56 rfl (Nat.le_of_ble_eq_true rfl) rfl (fun y8 => ?_)
        refine af_istore K 59 [some (.ref 0), some (.int x1), some (.int x2), some (.int x3), some (.int y7), some (.int y8)] dX4_change_57 rfl (by rw [hN]; exact Nat.le_of_ble_eq_true rfl) rfl ?_
        refine af_aload_n K 60 dX4_change_59 rfl rfl ?_
        refine af_get K 63 dX4_change_60 rfl fl_X4_10 (Nat.le_of_ble_eq_true rfl) rfl rfl ?_
        refine af_get K 66 dX4_change_63 rfl fl_X4_87 (Nat.le_of_ble_eq_true rfl) rfl rfl ?_
        refine af_iload K 68 dX4_change_66 rfl rfl ?_
        refine af_iload_n K 69 dX4_change_68 rfl rfl ?_
        refine af_iast K 70 dX4_change_69 rfl (Nat.le_of_ble_eq_true rfl) (fun _ _ => rfl) (fun s9 => ?_)
        refine af_iload K 72 dX4_change_70 rfl rfl ?_
        exact af_reti K dX4_change_72
      · refine af_aload_n K 34 dX4_change_33 rfl rfl ?_
        refine af_iconst K 35 dX4_change_34 rfl cs_iconst_0 ?_
        refine af_callV_i K (b := 0) (vs := [.int 0]) mv_X4_found lk_172 ((hp_at _ (Nat.le_of_ble_eq_true rfl)).trans rfl) rfl 38 dX4_change_35 rfl rfl rfl rfl (A_X4_found _ _ 0 q6.2) rfl (fun q10 => ?_)
        exact af_reti K dX4_change_38
def F_X4_rift (x1 : Int32) (x2 : Int32) (x3 : Int32) (σ : fk_T) : Option (Int32 × fk_T) := (F_X0_hasTwo 1 x1 x2 σ).bind (fun q1 => if (fk_b q1.1) = 0 then ((F_X4_found 0 q1.2).bind (fun q2 => some (q2.1, q2.2))) else ((F_X4_within x3 0 99 q1.2).bind (fun q3 => if (fk_b q3.1) = 0 then ((F_X4_found 0 q3.2).bind (fun q6 => some (q6.1, q6.2))) else ((F_X0_riftOf 1 x1 x2 q3.2).bind (fun q4 => (F_X0_setRift 1 x1 x2 x3 q4.2).bind (fun q5 => some (q4.1, q5)))))))
set_option maxRecDepth 100000 in
set_option maxHeartbeats 4000000 in
theorem A_X4_rift (X : aw_X) (l : Launch) (x1 : Int32) (x2 : Int32) (x3 : Int32) (σ : fk_T) : af_G X l mX4_rift [.ref 0, .int x1, .int x2, .int x3] (hp σ) ρi (F_X4_rift x1 x2 x3 σ) := by
  refine af_mk (by decide) rfl (fun q _ => aw_oki q) [some (.ref 0), some (.int x1), some (.int x2), some (.int x3), none] rfl ?_
  rintro cx rfl rfl hN K
  replace hN : aw_nL cx = 5 := hN
  replace K : aw_K cx cX4_rift RX4 rX4_rift := K
  unfold F_X4_rift
  refine af_aload_n K 1 dX4_rift_0 rfl rfl ?_
  refine af_get K 4 dX4_rift_1 rfl fl_X4_10 (Nat.le_of_ble_eq_true rfl) rfl rfl ?_
  refine af_iload_n K 5 dX4_rift_4 rfl rfl ?_
  refine af_iload_n K 6 dX4_rift_5 rfl rfl ?_
  refine af_callV_z K (b := 1) (vs := [.int x1, .int x2]) mv_X0_hasTwo lk_234 ((hp_at _ (Nat.le_of_ble_eq_true rfl)).trans rfl) rfl 9 dX4_rift_6 rfl rfl rfl rfl (A_X0_hasTwo _ _ 1 (Or.inl rfl) x1 x2 σ) rfl (fun q1 => ?_)
  refine af_if_eq K 12 22 dX4_rift_9 rfl rfl (fun _ => ?_) (fun _ => ?_)
  · refine af_aload_n K 23 dX4_rift_22 rfl rfl ?_
    refine af_iconst K 24 dX4_rift_23 rfl cs_iconst_0 ?_
    refine af_callV_i K (b := 0) (vs := [.int 0]) mv_X4_found lk_172 ((hp_at _ (Nat.le_of_ble_eq_true rfl)).trans rfl) rfl 27 dX4_rift_24 rfl rfl rfl rfl (A_X4_found _ _ 0 q1.2) rfl (fun q2 => ?_)
    exact af_reti K dX4_rift_27
  · refine af_iload_n K 13 dX4_rift_12 rfl rfl ?_
    refine af_iconst K 14 dX4_rift_13 rfl cs_iconst_0 ?_
    refine af_bipush K 16 dX4_rift_14 rfl cs_bipush_99 ?_
    refine af_callS_z K (vs := [.int x3, .int 0, .int 99]) ms_X4_within lk_169 19 dX4_rift_16 rfl rfl rfl rfl (A_X4_within _ _ x3 0 99 q1.2) rfl (fun q3 => ?_)
    refine af_if_ne K 22 28 dX4_rift_19 rfl rfl (fun _ => ?_) (fun _ => ?_)
    · refine af_aload_n K 29 dX4_rift_28 rfl rfl ?_
      refine af_get K 32 dX4_rift_29 rfl fl_X4_10 (Nat.le_of_ble_eq_true rfl) rfl rfl ?_
      refine af_iload_n K 33 dX4_rift_32 rfl rfl ?_
      refine af_iload_n K 34 dX4_rift_33 rfl rfl ?_
      refine af_callV_i K (b := 1) (vs := [.int x1, .int x2]) mv_X0_riftOf lk_239 ((hp_at _ (Nat.le_of_ble_eq_true rfl)).trans rfl) rfl 37 dX4_rift_34 rfl rfl rfl rfl (A_X0_riftOf _ _ 1 (Or.inl rfl) x1 x2 q3.2) rfl (fun q4 => ?_)
      refine af_istore K 39 [some (.ref 0), some (.int x1), some (.int x2), some (.int x3), some (.int q4.1)] dX4_rift_37 rfl (by rw [hN]; exact Nat.le_of_ble_eq_true rfl) rfl ?_
      refine af_aload_n K 40 dX4_rift_39 rfl rfl ?_
      refine af_get K 43 dX4_rift_40 rfl fl_X4_10 (Nat.le_of_ble_eq_true rfl) rfl rfl ?_
      refine af_iload_n K 44 dX4_rift_43 rfl rfl ?_
      refine af_iload_n K 45 dX4_rift_44 rfl rfl ?_
      refine af_iload_n K 46 dX4_rift_45 rfl rfl ?_
      refine af_callV_v K (b := 1) (vs := [.int x1, .int x2, .int x3]) mv_X0_setRift lk_246 ((hp_at _ (Nat.le_of_ble_eq_true rfl)).trans rfl) rfl 49 dX4_rift_46 rfl rfl rfl rfl (A_X0_setRift _ _ 1 (Or.inl rfl) x1 x2 x3 q4.2) rfl (fun q5 => ?_)
      refine af_iload K 51 dX4_rift_49 rfl rfl ?_
      exact af_reti K dX4_rift_51
    · refine af_aload_n K 23 dX4_rift_22 rfl rfl ?_
      refine af_iconst K 24 dX4_rift_23 rfl cs_iconst_0 ?_
      refine af_callV_i K (b := 0) (vs := [.int 0]) mv_X4_found lk_172 ((hp_at _ (Nat.le_of_ble_eq_true rfl)).trans rfl) rfl 27 dX4_rift_24 rfl rfl rfl rfl (A_X4_found _ _ 0 q3.2) rfl (fun q6 => ?_)
      exact af_reti K dX4_rift_27
def F_X4_two (x1 : Int32) (x2 : Int32) (x3 : Int32) (σ : fk_T) : Option (Int32 × fk_T) := (F_X0_hasTwo 1 x1 x2 σ).bind (fun q1 => if (fk_b q1.1) = 0 then ((F_X4_found 0 q1.2).bind (fun q2 => some (q2.1, q2.2))) else ((F_X4_within x3 0 3 q1.2).bind (fun q3 => if (fk_b q3.1) = 0 then ((F_X4_found 0 q3.2).bind (fun q10 => some (q10.1, q10.2))) else (if x3 = 0 then ((F_X0_riftOf 1 x1 x2 q3.2).bind (fun q4 => some (q4.1, q4.2))) else (if x3 = 1 then ((F_X0_rises 1 x1 x2 (q3.2.1 1 0) q3.2).bind (fun q5 => some (q5.1, q5.2))) else (if x3 = 2 then ((F_X0_leans 1 x1 x2 q3.2).bind (fun q6 => some (q6.1, q6.2))) else ((F_X0_rises 1 x1 x2 (q3.2.1 1 0) q3.2).bind (fun q7 => (F_X0_leans 1 x1 x2 q7.2).bind (fun q8 => (F_X4_wouldFlop q7.1 q8.1 q8.2).bind (fun q9 => if (fk_b q9.1) = 0 then (some (0, q9.2)) else (some (1, q9.2))))))))))))
set_option maxRecDepth 100000 in
set_option maxHeartbeats 4000000 in
theorem A_X4_two (X : aw_X) (l : Launch) (x1 : Int32) (x2 : Int32) (x3 : Int32) (σ : fk_T) : af_G X l mX4_two [.ref 0, .int x1, .int x2, .int x3] (hp σ) ρi (F_X4_two x1 x2 x3 σ) := by
  refine af_mk (by decide) rfl (fun q _ => aw_oki q) [some (.ref 0), some (.int x1), some (.int x2), some (.int x3)] rfl ?_
  rintro cx rfl rfl hN K
  replace hN : aw_nL cx = 4 := hN
  replace K : aw_K cx cX4_two RX4 rX4_two := K
  unfold F_X4_two
  refine af_aload_n K 1 dX4_two_0 rfl rfl ?_
  refine af_get K 4 dX4_two_1 rfl fl_X4_10 (Nat.le_of_ble_eq_true rfl) rfl rfl ?_
  refine af_iload_n K 5 dX4_two_4 rfl rfl ?_
  refine af_iload_n K 6 dX4_two_5 rfl rfl ?_
  refine af_callV_z K (b := 1) (vs := [.int x1, .int x2]) mv_X0_hasTwo lk_234 ((hp_at _ (Nat.le_of_ble_eq_true rfl)).trans rfl) rfl 9 dX4_two_6 rfl rfl rfl rfl (A_X0_hasTwo _ _ 1 (Or.inl rfl) x1 x2 σ) rfl (fun q1 => ?_)
  refine af_if_eq K 12 21 dX4_two_9 rfl rfl (fun _ => ?_) (fun _ => ?_)
  · refine af_aload_n K 22 dX4_two_21 rfl rfl ?_
    refine af_iconst K 23 dX4_two_22 rfl cs_iconst_0 ?_
    refine af_callV_i K (b := 0) (vs := [.int 0]) mv_X4_found lk_172 ((hp_at _ (Nat.le_of_ble_eq_true rfl)).trans rfl) rfl 26 dX4_two_23 rfl rfl rfl rfl (A_X4_found _ _ 0 q1.2) rfl (fun q2 => ?_)
    exact af_reti K dX4_two_26
  · refine af_iload_n K 13 dX4_two_12 rfl rfl ?_
    refine af_iconst K 14 dX4_two_13 rfl cs_iconst_0 ?_
    refine af_iconst K 15 dX4_two_14 rfl cs_iconst_3 ?_
    refine af_callS_z K (vs := [.int x3, .int 0, .int 3]) ms_X4_within lk_169 18 dX4_two_15 rfl rfl rfl rfl (A_X4_within _ _ x3 0 3 q1.2) rfl (fun q3 => ?_)
    refine af_if_ne K 21 27 dX4_two_18 rfl rfl (fun _ => ?_) (fun _ => ?_)
    · refine af_iload_n K 28 dX4_two_27 rfl rfl ?_
      refine af_ite (fun hx => ?_) (fun hx0 => ?_)
      · refine af_tin K 56 0 hx dX4_two_28 (by decide) (by decide) rfl rfl ?_
        refine af_aload_n K 57 dX4_two_56 rfl rfl ?_
        refine af_get K 60 dX4_two_57 rfl fl_X4_10 (Nat.le_of_ble_eq_true rfl) rfl rfl ?_
        refine af_iload_n K 61 dX4_two_60 rfl rfl ?_
        refine af_iload_n K 62 dX4_two_61 rfl rfl ?_
        refine af_callV_i K (b := 1) (vs := [.int x1, .int x2]) mv_X0_riftOf lk_239 ((hp_at _ (Nat.le_of_ble_eq_true rfl)).trans rfl) rfl 65 dX4_two_62 rfl rfl rfl rfl (A_X0_riftOf _ _ 1 (Or.inl rfl) x1 x2 q3.2) rfl (fun q4 => ?_)
        exact af_reti K dX4_two_65
      refine af_ite (fun hx => ?_) (fun hx1 => ?_)
      · refine af_tin K 66 1 hx dX4_two_28 (by decide) (by decide) rfl rfl ?_
        refine af_aload_n K 67 dX4_two_66 rfl rfl ?_
        refine af_get K 70 dX4_two_67 rfl fl_X4_10 (Nat.le_of_ble_eq_true rfl) rfl rfl ?_
        refine af_iload_n K 71 dX4_two_70 rfl rfl ?_
        refine af_iload_n K 72 dX4_two_71 rfl rfl ?_
        refine af_aload_n K 73 dX4_two_72 rfl rfl ?_
        refine af_get K 76 dX4_two_73 rfl fl_X4_10 (Nat.le_of_ble_eq_true rfl) rfl rfl ?_
        refine af_get K 79 dX4_two_76 rfl fl_X4_61 (Nat.le_of_ble_eq_true rfl) rfl rfl ?_
        refine af_callV_i K (b := 1) (vs := [.int x1, .int x2, .int (q3.2.1 1 0)]) mv_X0_rises lk_254 ((hp_at _ (Nat.le_of_ble_eq_true rfl)).trans rfl) rfl 82 dX4_two_79 rfl rfl rfl rfl (A_X0_rises _ _ 1 (Or.inl rfl) x1 x2 (q3.2.1 1 0) q3.2) rfl (fun q5 => ?_)
        exact af_reti K dX4_two_82
      refine af_ite (fun hx => ?_) (fun hx2 => ?_)
      · refine af_tin K 83 2 hx dX4_two_28 (by decide) (by decide) rfl rfl ?_
        refine af_aload_n K 84 dX4_two_83 rfl rfl ?_
        refine af_get K 87 dX4_two_84 rfl fl_X4_10 (Nat.le_of_ble_eq_true rfl) rfl rfl ?_
        refine af_iload_n K 88 dX4_two_87 rfl rfl ?_
        refine af_iload_n K 89 dX4_two_88 rfl rfl ?_
        refine af_callV_i K (b := 1) (vs := [.int x1, .int x2]) mv_X0_leans lk_259 ((hp_at _ (Nat.le_of_ble_eq_true rfl)).trans rfl) rfl 92 dX4_two_89 rfl rfl rfl rfl (A_X0_leans _ _ 1 (Or.inl rfl) x1 x2 q3.2) rfl (fun q6 => ?_)
        exact af_reti K dX4_two_92
      refine af_tout K 93 dX4_two_28 (tsw_0_2 hx0 hx1 hx2) rfl ?_
      refine af_aload_n K 94 dX4_two_93 rfl rfl ?_
      refine af_get K 97 dX4_two_94 rfl fl_X4_10 (Nat.le_of_ble_eq_true rfl) rfl rfl ?_
      refine af_iload_n K 98 dX4_two_97 rfl rfl ?_
      refine af_iload_n K 99 dX4_two_98 rfl rfl ?_
      refine af_aload_n K 100 dX4_two_99 rfl rfl ?_
      refine af_get K 103 dX4_two_100 rfl fl_X4_10 (Nat.le_of_ble_eq_true rfl) rfl rfl ?_
      refine af_get K 106 dX4_two_103 rfl fl_X4_61 (Nat.le_of_ble_eq_true rfl) rfl rfl ?_
      refine af_callV_i K (b := 1) (vs := [.int x1, .int x2, .int (q3.2.1 1 0)]) mv_X0_rises lk_254 ((hp_at _ (Nat.le_of_ble_eq_true rfl)).trans rfl) rfl 109 dX4_two_106 rfl rfl rfl rfl (A_X0_rises _ _ 1 (Or.inl rfl) x1 x2 (q3.2.1 1 0) q3.2) rfl (fun q7 => ?_)
      refine af_aload_n K 110 dX4_two_109 rfl rfl ?_
      refine af_get K 113 dX4_two_110 rfl fl_X4_10 (Nat.le_of_ble_eq_true rfl) rfl rfl ?_
      refine af_iload_n K 114 dX4_two_113 rfl rfl ?_
      refine af_iload_n K 115 dX4_two_114 rfl rfl ?_
      refine af_callV_i K (b := 1) (vs := [.int x1, .int x2]) mv_X0_leans lk_259 ((hp_at _ (Nat.le_of_ble_eq_true rfl)).trans rfl) rfl 118 dX4_two_115 rfl rfl rfl rfl (A_X0_leans _ _ 1 (Or.inl rfl) x1 x2 q7.2) rfl (fun q8 => ?_)
      refine af_callS_z K (vs := [.int q7.1, .int q8.1]) ms_X4_wouldFlop lk_263 121 dX4_two_118 rfl rfl rfl rfl (A_X4_wouldFlop _ _ q7.1 q8.1 q8.2) rfl (fun q9 => ?_)
      refine af_if_eq K 124 128 dX4_two_121 rfl rfl (fun _ => ?_) (fun _ => ?_)
      · refine af_iconst K 129 dX4_two_128 rfl cs_iconst_0 ?_
        exact af_reti K dX4_two_129
      · refine af_iconst K 125 dX4_two_124 rfl cs_iconst_1 ?_
        refine af_goto K 129 dX4_two_125 rfl ?_
        exact af_reti K dX4_two_129
    · refine af_aload_n K 22 dX4_two_21 rfl rfl ?_
      refine af_iconst K 23 dX4_two_22 rfl cs_iconst_0 ?_
      refine af_callV_i K (b := 0) (vs := [.int 0]) mv_X4_found lk_172 ((hp_at _ (Nat.le_of_ble_eq_true rfl)).trans rfl) rfl 26 dX4_two_23 rfl rfl rfl rfl (A_X4_found _ _ 0 q3.2) rfl (fun q10 => ?_)
      exact af_reti K dX4_two_26
def F_X4_go (x1 : Int32) (σ : fk_T) : Option (Int32 × fk_T) := (F_X4_within x1 1 60 σ).bind (fun q1 => if (fk_b q1.1) = 0 then ((F_X4_found 0 q1.2).bind (fun q4 => some (q4.1, q4.2))) else (if ((q1.2.1 1 4) + x1) ≤ 99999 then ((F_X0_passDays 1 x1 q1.2).bind (fun q2 => some ((q2.1 1 1), q2))) else ((F_X4_found 4 q1.2).bind (fun q3 => some (q3.1, q3.2)))))
set_option maxRecDepth 100000 in
set_option maxHeartbeats 4000000 in
theorem A_X4_go (X : aw_X) (l : Launch) (x1 : Int32) (σ : fk_T) : af_G X l mX4_go [.ref 0, .int x1] (hp σ) ρi (F_X4_go x1 σ) := by
  refine af_mk (by decide) rfl (fun q _ => aw_oki q) [some (.ref 0), some (.int x1)] rfl ?_
  rintro cx rfl rfl hN K
  replace hN : aw_nL cx = 2 := hN
  replace K : aw_K cx cX4_go RX4 rX4_go := K
  unfold F_X4_go
  refine af_iload_n K 1 dX4_go_0 rfl rfl ?_
  refine af_iconst K 2 dX4_go_1 rfl cs_iconst_1 ?_
  refine af_bipush K 4 dX4_go_2 rfl cs_bipush_60 ?_
  refine af_callS_z K (vs := [.int x1, .int 1, .int 60]) ms_X4_within lk_169 7 dX4_go_4 rfl rfl rfl rfl (A_X4_within _ _ x1 1 60 σ) rfl (fun q1 => ?_)
  refine af_if_ne K 10 16 dX4_go_7 rfl rfl (fun _ => ?_) (fun _ => ?_)
  · refine af_aload_n K 17 dX4_go_16 rfl rfl ?_
    refine af_get K 20 dX4_go_17 rfl fl_X4_10 (Nat.le_of_ble_eq_true rfl) rfl rfl ?_
    refine af_get K 23 dX4_go_20 rfl fl_X4_111 (Nat.le_of_ble_eq_true rfl) rfl rfl ?_
    refine af_iload_n K 24 dX4_go_23 rfl rfl ?_
    refine af_iadd K 25 dX4_go_24 rfl ?_
    refine af_ldc K 27 dX4_go_25 rfl lk_273 ?_
    refine af_icmp_le K 30 36 dX4_go_27 rfl rfl (fun _ => ?_) (fun _ => ?_)
    · refine af_aload_n K 37 dX4_go_36 rfl rfl ?_
      refine af_get K 40 dX4_go_37 rfl fl_X4_10 (Nat.le_of_ble_eq_true rfl) rfl rfl ?_
      refine af_iload_n K 41 dX4_go_40 rfl rfl ?_
      refine af_callV_v K (b := 1) (vs := [.int x1]) mv_X0_passDays lk_274 ((hp_at _ (Nat.le_of_ble_eq_true rfl)).trans rfl) rfl 44 dX4_go_41 rfl rfl rfl rfl (A_X0_passDays _ _ 1 (Or.inl rfl) x1 q1.2) rfl (fun q2 => ?_)
      refine af_aload_n K 45 dX4_go_44 rfl rfl ?_
      refine af_get K 48 dX4_go_45 rfl fl_X4_10 (Nat.le_of_ble_eq_true rfl) rfl rfl ?_
      refine af_get K 51 dX4_go_48 rfl fl_X4_119 (Nat.le_of_ble_eq_true rfl) rfl rfl ?_
      exact af_reti K dX4_go_51
    · refine af_aload_n K 31 dX4_go_30 rfl rfl ?_
      refine af_iconst K 32 dX4_go_31 rfl cs_iconst_4 ?_
      refine af_callV_i K (b := 0) (vs := [.int 4]) mv_X4_found lk_172 ((hp_at _ (Nat.le_of_ble_eq_true rfl)).trans rfl) rfl 35 dX4_go_32 rfl rfl rfl rfl (A_X4_found _ _ 4 q1.2) rfl (fun q3 => ?_)
      exact af_reti K dX4_go_35
  · refine af_aload_n K 11 dX4_go_10 rfl rfl ?_
    refine af_iconst K 12 dX4_go_11 rfl cs_iconst_0 ?_
    refine af_callV_i K (b := 0) (vs := [.int 0]) mv_X4_found lk_172 ((hp_at _ (Nat.le_of_ble_eq_true rfl)).trans rfl) rfl 15 dX4_go_12 rfl rfl rfl rfl (A_X4_found _ _ 0 q1.2) rfl (fun q4 => ?_)
    exact af_reti K dX4_go_15
def F_X4_now (x1 : Int32) (σ : fk_T) : Option (Int32 × fk_T) := if x1 = 0 then (some ((σ.1 1 4), σ)) else (if x1 = 1 then (some ((σ.1 1 1), σ)) else (if x1 = 2 then (some ((σ.1 1 2), σ)) else (if x1 = 3 then (some ((σ.1 1 3), σ)) else (if x1 = 4 then ((F_X0_sumOf 1 8 σ).bind (fun q1 => some (q1.1, q1.2))) else (if x1 = 5 then ((F_X0_widestTwo 1 σ).bind (fun q2 => some (q2.1, q2.2))) else (if x1 = 6 then ((F_X0_sumOf 1 40 σ).bind (fun q3 => some (q3.1, q3.2))) else (if x1 = 7 then ((F_X0_throwsToday 1 σ).bind (fun q4 => if (fk_b q4.1) = 0 then (some (0, q4.2)) else (some (1, q4.2)))) else ((F_X4_found 0 σ).bind (fun q5 => some (q5.1, q5.2))))))))))
set_option maxRecDepth 100000 in
set_option maxHeartbeats 4000000 in
theorem A_X4_now (X : aw_X) (l : Launch) (x1 : Int32) (σ : fk_T) : af_G X l mX4_now [.ref 0, .int x1] (hp σ) ρi (F_X4_now x1 σ) := by
  refine af_mk (by decide) rfl (fun q _ => aw_oki q) [some (.ref 0), some (.int x1)] rfl ?_
  rintro cx rfl rfl hN K
  replace hN : aw_nL cx = 2 := hN
  replace K : aw_K cx cX4_now RX4 rX4_now := K
  unfold F_X4_now
  refine af_iload_n K 1 dX4_now_0 rfl rfl ?_
  refine af_ite (fun hx => ?_) (fun hx0 => ?_)
  · refine af_tin K 48 0 hx dX4_now_1 (by decide) (by decide) rfl rfl ?_
    refine af_aload_n K 49 dX4_now_48 rfl rfl ?_
    refine af_get K 52 dX4_now_49 rfl fl_X4_10 (Nat.le_of_ble_eq_true rfl) rfl rfl ?_
    refine af_get K 55 dX4_now_52 rfl fl_X4_111 (Nat.le_of_ble_eq_true rfl) rfl rfl ?_
    exact af_reti K dX4_now_55
  refine af_ite (fun hx => ?_) (fun hx1 => ?_)
  · refine af_tin K 56 1 hx dX4_now_1 (by decide) (by decide) rfl rfl ?_
    refine af_aload_n K 57 dX4_now_56 rfl rfl ?_
    refine af_get K 60 dX4_now_57 rfl fl_X4_10 (Nat.le_of_ble_eq_true rfl) rfl rfl ?_
    refine af_get K 63 dX4_now_60 rfl fl_X4_119 (Nat.le_of_ble_eq_true rfl) rfl rfl ?_
    exact af_reti K dX4_now_63
  refine af_ite (fun hx => ?_) (fun hx2 => ?_)
  · refine af_tin K 64 2 hx dX4_now_1 (by decide) (by decide) rfl rfl ?_
    refine af_aload_n K 65 dX4_now_64 rfl rfl ?_
    refine af_get K 68 dX4_now_65 rfl fl_X4_10 (Nat.le_of_ble_eq_true rfl) rfl rfl ?_
    refine af_get K 71 dX4_now_68 rfl fl_X4_122 (Nat.le_of_ble_eq_true rfl) rfl rfl ?_
    exact af_reti K dX4_now_71
  refine af_ite (fun hx => ?_) (fun hx3 => ?_)
  · refine af_tin K 72 3 hx dX4_now_1 (by decide) (by decide) rfl rfl ?_
    refine af_aload_n K 73 dX4_now_72 rfl rfl ?_
    refine af_get K 76 dX4_now_73 rfl fl_X4_10 (Nat.le_of_ble_eq_true rfl) rfl rfl ?_
    refine af_get K 79 dX4_now_76 rfl fl_X4_125 (Nat.le_of_ble_eq_true rfl) rfl rfl ?_
    exact af_reti K dX4_now_79
  refine af_ite (fun hx => ?_) (fun hx4 => ?_)
  · refine af_tin K 80 4 hx dX4_now_1 (by decide) (by decide) rfl rfl ?_
    refine af_aload_n K 81 dX4_now_80 rfl rfl ?_
    refine af_get K 84 dX4_now_81 rfl fl_X4_10 (Nat.le_of_ble_eq_true rfl) rfl rfl ?_
    refine af_bipush K 86 dX4_now_84 rfl cs_bipush_8 ?_
    refine af_callV_i K (b := 1) (vs := [.int 8]) mv_X0_sumOf lk_312 ((hp_at _ (Nat.le_of_ble_eq_true rfl)).trans rfl) rfl 89 dX4_now_86 rfl rfl rfl rfl (A_X0_sumOf _ _ 1 (Or.inl rfl) 8 σ) rfl (fun q1 => ?_)
    exact af_reti K dX4_now_89
  refine af_ite (fun hx => ?_) (fun hx5 => ?_)
  · refine af_tin K 90 5 hx dX4_now_1 (by decide) (by decide) rfl rfl ?_
    refine af_aload_n K 91 dX4_now_90 rfl rfl ?_
    refine af_get K 94 dX4_now_91 rfl fl_X4_10 (Nat.le_of_ble_eq_true rfl) rfl rfl ?_
    refine af_callV_i K (b := 1) (vs := []) mv_X0_widestTwo lk_316 ((hp_at _ (Nat.le_of_ble_eq_true rfl)).trans rfl) rfl 97 dX4_now_94 rfl rfl rfl rfl (A_X0_widestTwo _ _ 1 (Or.inl rfl) σ) rfl (fun q2 => ?_)
    exact af_reti K dX4_now_97
  refine af_ite (fun hx => ?_) (fun hx6 => ?_)
  · refine af_tin K 98 6 hx dX4_now_1 (by decide) (by decide) rfl rfl ?_
    refine af_aload_n K 99 dX4_now_98 rfl rfl ?_
    refine af_get K 102 dX4_now_99 rfl fl_X4_10 (Nat.le_of_ble_eq_true rfl) rfl rfl ?_
    refine af_bipush K 104 dX4_now_102 rfl cs_bipush_40 ?_
    refine af_callV_i K (b := 1) (vs := [.int 40]) mv_X0_sumOf lk_312 ((hp_at _ (Nat.le_of_ble_eq_true rfl)).trans rfl) rfl 107 dX4_now_104 rfl rfl rfl rfl (A_X0_sumOf _ _ 1 (Or.inl rfl) 40 σ) rfl (fun q3 => ?_)
    exact af_reti K dX4_now_107
  refine af_ite (fun hx => ?_) (fun hx7 => ?_)
  · refine af_tin K 108 7 hx dX4_now_1 (by decide) (by decide) rfl rfl ?_
    refine af_aload_n K 109 dX4_now_108 rfl rfl ?_
    refine af_get K 112 dX4_now_109 rfl fl_X4_10 (Nat.le_of_ble_eq_true rfl) rfl rfl ?_
    refine af_callV_z K (b := 1) (vs := []) mv_X0_throwsToday lk_320 ((hp_at _ (Nat.le_of_ble_eq_true rfl)).trans rfl) rfl 115 dX4_now_112 rfl rfl rfl rfl (A_X0_throwsToday _ _ 1 (Or.inl rfl) σ) rfl (fun q4 => ?_)
    refine af_if_eq K 118 122 dX4_now_115 rfl rfl (fun _ => ?_) (fun _ => ?_)
    · refine af_iconst K 123 dX4_now_122 rfl cs_iconst_0 ?_
      exact af_reti K dX4_now_123
    · refine af_iconst K 119 dX4_now_118 rfl cs_iconst_1 ?_
      refine af_goto K 123 dX4_now_119 rfl ?_
      exact af_reti K dX4_now_123
  refine af_tout K 124 dX4_now_1 (tsw_0_7 hx0 hx1 hx2 hx3 hx4 hx5 hx6 hx7) rfl ?_
  refine af_aload_n K 125 dX4_now_124 rfl rfl ?_
  refine af_iconst K 126 dX4_now_125 rfl cs_iconst_0 ?_
  refine af_callV_i K (b := 0) (vs := [.int 0]) mv_X4_found lk_172 ((hp_at _ (Nat.le_of_ble_eq_true rfl)).trans rfl) rfl 129 dX4_now_126 rfl rfl rfl rfl (A_X4_found _ _ 0 σ) rfl (fun q5 => ?_)
  exact af_reti K dX4_now_129
def F_X4_ahead (x1 : Int32) (x2 : Int32) (x3 : Int32) (σ : fk_T) : Option (Int32 × fk_T) := if x2 = 1 then ((F_X0_has 1 x1 σ).bind (fun q1 => if (fk_b q1.1) = 0 then ((F_X4_found 0 q1.2).bind (fun q2 => some (q2.1, q2.2))) else (if (1 : Int32) = 0 then ((F_X4_found 0 q1.2).bind (fun q3 => some (q3.1, q3.2))) else ((F_X4_within x3 0 100 q1.2).bind (fun q4 => if (fk_b q4.1) = 0 then ((F_X4_found 0 q4.2).bind (fun q8 => some (q8.1, q8.2))) else ((F_X0_become 6 1 q4.2).bind (fun q5 => (F_X0_passDays 6 x3 q5).bind (fun q6 => (F_X0_tell 6 x1 x2 q6).bind (fun q7 => some (q7.1, q7.2)))))))))) else ((F_X4_within x2 3 6 σ).bind (fun q9 => if (fk_b q9.1) = 0 then ((F_X0_has 1 x1 q9.2).bind (fun q10 => if (fk_b q10.1) = 0 then ((F_X4_found 0 q10.2).bind (fun q11 => some (q11.1, q11.2))) else (if (0 : Int32) = 0 then ((F_X4_found 0 q10.2).bind (fun q12 => some (q12.1, q12.2))) else ((F_X4_within x3 0 100 q10.2).bind (fun q13 => if (fk_b q13.1) = 0 then ((F_X4_found 0 q13.2).bind (fun q17 => some (q17.1, q17.2))) else ((F_X0_become 6 1 q13.2).bind (fun q14 => (F_X0_passDays 6 x3 q14).bind (fun q15 => (F_X0_tell 6 x1 x2 q15).bind (fun q16 => some (q16.1, q16.2)))))))))) else ((F_X0_has 1 x1 q9.2).bind (fun q18 => if (fk_b q18.1) = 0 then ((F_X4_found 0 q18.2).bind (fun q19 => some (q19.1, q19.2))) else (if (1 : Int32) = 0 then ((F_X4_found 0 q18.2).bind (fun q20 => some (q20.1, q20.2))) else ((F_X4_within x3 0 100 q18.2).bind (fun q21 => if (fk_b q21.1) = 0 then ((F_X4_found 0 q21.2).bind (fun q25 => some (q25.1, q25.2))) else ((F_X0_become 6 1 q21.2).bind (fun q22 => (F_X0_passDays 6 x3 q22).bind (fun q23 => (F_X0_tell 6 x1 x2 q23).bind (fun q24 => some (q24.1, q24.2))))))))))))
set_option maxRecDepth 100000 in
set_option maxHeartbeats 4000000 in
theorem A_X4_ahead (X : aw_X) (l : Launch) (x1 : Int32) (x2 : Int32) (x3 : Int32) (σ : fk_T) : af_G X l mX4_ahead [.ref 0, .int x1, .int x2, .int x3] (hp σ) ρi (F_X4_ahead x1 x2 x3 σ) := by
  refine af_mk (by decide) rfl (fun q _ => aw_oki q) [some (.ref 0), some (.int x1), some (.int x2), some (.int x3), none] rfl ?_
  rintro cx rfl rfl hN K
  replace hN : aw_nL cx = 5 := hN
  replace K : aw_K cx cX4_ahead RX4 rX4_ahead := K
  unfold F_X4_ahead
  refine af_iload_n K 1 dX4_ahead_0 rfl rfl ?_
  refine af_iconst K 2 dX4_ahead_1 rfl cs_iconst_1 ?_
  refine af_icmp_eq K 5 15 dX4_ahead_2 rfl rfl (fun _ => ?_) (fun _ => ?_)
  · refine af_iconst K 16 dX4_ahead_15 rfl cs_iconst_1 ?_
    refine af_goto K 20 dX4_ahead_16 rfl ?_
    refine af_istore K 22 [some (.ref 0), some (.int x1), some (.int x2), some (.int x3), some (.int 1)] dX4_ahead_20 rfl (by rw [hN]; exact Nat.le_of_ble_eq_true rfl) rfl ?_
    refine af_aload_n K 23 dX4_ahead_22 rfl rfl ?_
    refine af_get K 26 dX4_ahead_23 rfl fl_X4_10 (Nat.le_of_ble_eq_true rfl) rfl rfl ?_
    refine af_iload_n K 27 dX4_ahead_26 rfl rfl ?_
    refine af_callV_z K (b := 1) (vs := [.int x1]) mv_X0_has lk_201 ((hp_at _ (Nat.le_of_ble_eq_true rfl)).trans rfl) rfl 30 dX4_ahead_27 rfl rfl rfl rfl (A_X0_has _ _ 1 (Or.inl rfl) x1 σ) rfl (fun q1 => ?_)
    refine af_if_eq K 33 48 dX4_ahead_30 rfl rfl (fun _ => ?_) (fun _ => ?_)
    · refine af_aload_n K 49 dX4_ahead_48 rfl rfl ?_
      refine af_iconst K 50 dX4_ahead_49 rfl cs_iconst_0 ?_
      refine af_callV_i K (b := 0) (vs := [.int 0]) mv_X4_found lk_172 ((hp_at _ (Nat.le_of_ble_eq_true rfl)).trans rfl) rfl 53 dX4_ahead_50 rfl rfl rfl rfl (A_X4_found _ _ 0 q1.2) rfl (fun q2 => ?_)
      exact af_reti K dX4_ahead_53
    · refine af_iload K 35 dX4_ahead_33 rfl rfl ?_
      refine af_if_eq K 38 48 dX4_ahead_35 rfl rfl (fun _ => ?_) (fun _ => ?_)
      · refine af_aload_n K 49 dX4_ahead_48 rfl rfl ?_
        refine af_iconst K 50 dX4_ahead_49 rfl cs_iconst_0 ?_
        refine af_callV_i K (b := 0) (vs := [.int 0]) mv_X4_found lk_172 ((hp_at _ (Nat.le_of_ble_eq_true rfl)).trans rfl) rfl 53 dX4_ahead_50 rfl rfl rfl rfl (A_X4_found _ _ 0 q1.2) rfl (fun q3 => ?_)
        exact af_reti K dX4_ahead_53
      · refine af_iload_n K 39 dX4_ahead_38 rfl rfl ?_
        refine af_iconst K 40 dX4_ahead_39 rfl cs_iconst_0 ?_
        refine af_bipush K 42 dX4_ahead_40 rfl cs_bipush_100 ?_
        refine af_callS_z K (vs := [.int x3, .int 0, .int 100]) ms_X4_within lk_169 45 dX4_ahead_42 rfl rfl rfl rfl (A_X4_within _ _ x3 0 100 q1.2) rfl (fun q4 => ?_)
        refine af_if_ne K 48 54 dX4_ahead_45 rfl rfl (fun _ => ?_) (fun _ => ?_)
        · refine af_aload_n K 55 dX4_ahead_54 rfl rfl ?_
          refine af_get K 58 dX4_ahead_55 rfl fl_X4_16 (Nat.le_of_ble_eq_true rfl) rfl rfl ?_
          refine af_aload_n K 59 dX4_ahead_58 rfl rfl ?_
          refine af_get K 62 dX4_ahead_59 rfl fl_X4_10 (Nat.le_of_ble_eq_true rfl) rfl rfl ?_
          refine af_callV_v K (b := 6) (vs := [.ref 1]) mv_X0_become lk_328 ((hp_at _ (Nat.le_of_ble_eq_true rfl)).trans rfl) rfl 65 dX4_ahead_62 rfl rfl rfl rfl (A_X0_become _ _ 6 (Or.inr (Or.inl rfl)) 1 (Or.inl rfl) q4.2) rfl (fun q5 => ?_)
          refine af_aload_n K 66 dX4_ahead_65 rfl rfl ?_
          refine af_get K 69 dX4_ahead_66 rfl fl_X4_16 (Nat.le_of_ble_eq_true rfl) rfl rfl ?_
          refine af_iload_n K 70 dX4_ahead_69 rfl rfl ?_
          refine af_callV_v K (b := 6) (vs := [.int x3]) mv_X0_passDays lk_274 ((hp_at _ (Nat.le_of_ble_eq_true rfl)).trans rfl) rfl 73 dX4_ahead_70 rfl rfl rfl rfl (A_X0_passDays _ _ 6 (Or.inr (Or.inl rfl)) x3 q5) rfl (fun q6 => ?_)
          refine af_aload_n K 74 dX4_ahead_73 rfl rfl ?_
          refine af_get K 77 dX4_ahead_74 rfl fl_X4_16 (Nat.le_of_ble_eq_true rfl) rfl rfl ?_
          refine af_iload_n K 78 dX4_ahead_77 rfl rfl ?_
          refine af_iload_n K 79 dX4_ahead_78 rfl rfl ?_
          refine af_callV_i K (b := 6) (vs := [.int x1, .int x2]) mv_X0_tell lk_205 ((hp_at _ (Nat.le_of_ble_eq_true rfl)).trans rfl) rfl 82 dX4_ahead_79 rfl rfl rfl rfl (A_X0_tell _ _ 6 (Or.inr (Or.inl rfl)) x1 x2 q6) rfl (fun q7 => ?_)
          exact af_reti K dX4_ahead_82
        · refine af_aload_n K 49 dX4_ahead_48 rfl rfl ?_
          refine af_iconst K 50 dX4_ahead_49 rfl cs_iconst_0 ?_
          refine af_callV_i K (b := 0) (vs := [.int 0]) mv_X4_found lk_172 ((hp_at _ (Nat.le_of_ble_eq_true rfl)).trans rfl) rfl 53 dX4_ahead_50 rfl rfl rfl rfl (A_X4_found _ _ 0 q4.2) rfl (fun q8 => ?_)
          exact af_reti K dX4_ahead_53
  · refine af_iload_n K 6 dX4_ahead_5 rfl rfl ?_
    refine af_iconst K 7 dX4_ahead_6 rfl cs_iconst_3 ?_
    refine af_bipush K 9 dX4_ahead_7 rfl cs_bipush_6 ?_
    refine af_callS_z K (vs := [.int x2, .int 3, .int 6]) ms_X4_within lk_169 12 dX4_ahead_9 rfl rfl rfl rfl (A_X4_within _ _ x2 3 6 σ) rfl (fun q9 => ?_)
    refine af_if_eq K 15 19 dX4_ahead_12 rfl rfl (fun _ => ?_) (fun _ => ?_)
    · refine af_iconst K 20 dX4_ahead_19 rfl cs_iconst_0 ?_
      refine af_istore K 22 [some (.ref 0), some (.int x1), some (.int x2), some (.int x3), some (.int 0)] dX4_ahead_20 rfl (by rw [hN]; exact Nat.le_of_ble_eq_true rfl) rfl ?_
      refine af_aload_n K 23 dX4_ahead_22 rfl rfl ?_
      refine af_get K 26 dX4_ahead_23 rfl fl_X4_10 (Nat.le_of_ble_eq_true rfl) rfl rfl ?_
      refine af_iload_n K 27 dX4_ahead_26 rfl rfl ?_
      refine af_callV_z K (b := 1) (vs := [.int x1]) mv_X0_has lk_201 ((hp_at _ (Nat.le_of_ble_eq_true rfl)).trans rfl) rfl 30 dX4_ahead_27 rfl rfl rfl rfl (A_X0_has _ _ 1 (Or.inl rfl) x1 q9.2) rfl (fun q10 => ?_)
      refine af_if_eq K 33 48 dX4_ahead_30 rfl rfl (fun _ => ?_) (fun _ => ?_)
      · refine af_aload_n K 49 dX4_ahead_48 rfl rfl ?_
        refine af_iconst K 50 dX4_ahead_49 rfl cs_iconst_0 ?_
        refine af_callV_i K (b := 0) (vs := [.int 0]) mv_X4_found lk_172 ((hp_at _ (Nat.le_of_ble_eq_true rfl)).trans rfl) rfl 53 dX4_ahead_50 rfl rfl rfl rfl (A_X4_found _ _ 0 q10.2) rfl (fun q11 => ?_)
        exact af_reti K dX4_ahead_53
      · refine af_iload K 35 dX4_ahead_33 rfl rfl ?_
        refine af_if_eq K 38 48 dX4_ahead_35 rfl rfl (fun _ => ?_) (fun _ => ?_)
        · refine af_aload_n K 49 dX4_ahead_48 rfl rfl ?_
          refine af_iconst K 50 dX4_ahead_49 rfl cs_iconst_0 ?_
          refine af_callV_i K (b := 0) (vs := [.int 0]) mv_X4_found lk_172 ((hp_at _ (Nat.le_of_ble_eq_true rfl)).trans rfl) rfl 53 dX4_ahead_50 rfl rfl rfl rfl (A_X4_found _ _ 0 q10.2) rfl (fun q12 => ?_)
          exact af_reti K dX4_ahead_53
        · refine af_iload_n K 39 dX4_ahead_38 rfl rfl ?_
          refine af_iconst K 40 dX4_ahead_39 rfl cs_iconst_0 ?_
          refine af_bipush K 42 dX4_ahead_40 rfl cs_bipush_100 ?_
          refine af_callS_z K (vs := [.int x3, .int 0, .int 100]) ms_X4_within lk_169 45 dX4_ahead_42 rfl rfl rfl rfl (A_X4_within _ _ x3 0 100 q10.2) rfl (fun q13 => ?_)
          refine af_if_ne K 48 54 dX4_ahead_45 rfl rfl (fun _ => ?_) (fun _ => ?_)
          · refine af_aload_n K 55 dX4_ahead_54 rfl rfl ?_
            refine af_get K 58 dX4_ahead_55 rfl fl_X4_16 (Nat.le_of_ble_eq_true rfl) rfl rfl ?_
            refine af_aload_n K 59 dX4_ahead_58 rfl rfl ?_
            refine af_get K 62 dX4_ahead_59 rfl fl_X4_10 (Nat.le_of_ble_eq_true rfl) rfl rfl ?_
            refine af_callV_v K (b := 6) (vs := [.ref 1]) mv_X0_become lk_328 ((hp_at _ (Nat.le_of_ble_eq_true rfl)).trans rfl) rfl 65 dX4_ahead_62 rfl rfl rfl rfl (A_X0_become _ _ 6 (Or.inr (Or.inl rfl)) 1 (Or.inl rfl) q13.2) rfl (fun q14 => ?_)
            refine af_aload_n K 66 dX4_ahead_65 rfl rfl ?_
            refine af_get K 69 dX4_ahead_66 rfl fl_X4_16 (Nat.le_of_ble_eq_true rfl) rfl rfl ?_
            refine af_iload_n K 70 dX4_ahead_69 rfl rfl ?_
            refine af_callV_v K (b := 6) (vs := [.int x3]) mv_X0_passDays lk_274 ((hp_at _ (Nat.le_of_ble_eq_true rfl)).trans rfl) rfl 73 dX4_ahead_70 rfl rfl rfl rfl (A_X0_passDays _ _ 6 (Or.inr (Or.inl rfl)) x3 q14) rfl (fun q15 => ?_)
            refine af_aload_n K 74 dX4_ahead_73 rfl rfl ?_
            refine af_get K 77 dX4_ahead_74 rfl fl_X4_16 (Nat.le_of_ble_eq_true rfl) rfl rfl ?_
            refine af_iload_n K 78 dX4_ahead_77 rfl rfl ?_
            refine af_iload_n K 79 dX4_ahead_78 rfl rfl ?_
            refine af_callV_i K (b := 6) (vs := [.int x1, .int x2]) mv_X0_tell lk_205 ((hp_at _ (Nat.le_of_ble_eq_true rfl)).trans rfl) rfl 82 dX4_ahead_79 rfl rfl rfl rfl (A_X0_tell _ _ 6 (Or.inr (Or.inl rfl)) x1 x2 q15) rfl (fun q16 => ?_)
            exact af_reti K dX4_ahead_82
          · refine af_aload_n K 49 dX4_ahead_48 rfl rfl ?_
            refine af_iconst K 50 dX4_ahead_49 rfl cs_iconst_0 ?_
            refine af_callV_i K (b := 0) (vs := [.int 0]) mv_X4_found lk_172 ((hp_at _ (Nat.le_of_ble_eq_true rfl)).trans rfl) rfl 53 dX4_ahead_50 rfl rfl rfl rfl (A_X4_found _ _ 0 q13.2) rfl (fun q17 => ?_)
            exact af_reti K dX4_ahead_53
    · refine af_iconst K 16 dX4_ahead_15 rfl cs_iconst_1 ?_
      refine af_goto K 20 dX4_ahead_16 rfl ?_
      refine af_istore K 22 [some (.ref 0), some (.int x1), some (.int x2), some (.int x3), some (.int 1)] dX4_ahead_20 rfl (by rw [hN]; exact Nat.le_of_ble_eq_true rfl) rfl ?_
      refine af_aload_n K 23 dX4_ahead_22 rfl rfl ?_
      refine af_get K 26 dX4_ahead_23 rfl fl_X4_10 (Nat.le_of_ble_eq_true rfl) rfl rfl ?_
      refine af_iload_n K 27 dX4_ahead_26 rfl rfl ?_
      refine af_callV_z K (b := 1) (vs := [.int x1]) mv_X0_has lk_201 ((hp_at _ (Nat.le_of_ble_eq_true rfl)).trans rfl) rfl 30 dX4_ahead_27 rfl rfl rfl rfl (A_X0_has _ _ 1 (Or.inl rfl) x1 q9.2) rfl (fun q18 => ?_)
      refine af_if_eq K 33 48 dX4_ahead_30 rfl rfl (fun _ => ?_) (fun _ => ?_)
      · refine af_aload_n K 49 dX4_ahead_48 rfl rfl ?_
        refine af_iconst K 50 dX4_ahead_49 rfl cs_iconst_0 ?_
        refine af_callV_i K (b := 0) (vs := [.int 0]) mv_X4_found lk_172 ((hp_at _ (Nat.le_of_ble_eq_true rfl)).trans rfl) rfl 53 dX4_ahead_50 rfl rfl rfl rfl (A_X4_found _ _ 0 q18.2) rfl (fun q19 => ?_)
        exact af_reti K dX4_ahead_53
      · refine af_iload K 35 dX4_ahead_33 rfl rfl ?_
        refine af_if_eq K 38 48 dX4_ahead_35 rfl rfl (fun _ => ?_) (fun _ => ?_)
        · refine af_aload_n K 49 dX4_ahead_48 rfl rfl ?_
          refine af_iconst K 50 dX4_ahead_49 rfl cs_iconst_0 ?_
          refine af_callV_i K (b := 0) (vs := [.int 0]) mv_X4_found lk_172 ((hp_at _ (Nat.le_of_ble_eq_true rfl)).trans rfl) rfl 53 dX4_ahead_50 rfl rfl rfl rfl (A_X4_found _ _ 0 q18.2) rfl (fun q20 => ?_)
          exact af_reti K dX4_ahead_53
        · refine af_iload_n K 39 dX4_ahead_38 rfl rfl ?_
          refine af_iconst K 40 dX4_ahead_39 rfl cs_iconst_0 ?_
          refine af_bipush K 42 dX4_ahead_40 rfl cs_bipush_100 ?_
          refine af_callS_z K (vs := [.int x3, .int 0, .int 100]) ms_X4_within lk_169 45 dX4_ahead_42 rfl rfl rfl rfl (A_X4_within _ _ x3 0 100 q18.2) rfl (fun q21 => ?_)
          refine af_if_ne K 48 54 dX4_ahead_45 rfl rfl (fun _ => ?_) (fun _ => ?_)
          · refine af_aload_n K 55 dX4_ahead_54 rfl rfl ?_
            refine af_get K 58 dX4_ahead_55 rfl fl_X4_16 (Nat.le_of_ble_eq_true rfl) rfl rfl ?_
            refine af_aload_n K 59 dX4_ahead_58 rfl rfl ?_
            refine af_get K 62 dX4_ahead_59 rfl fl_X4_10 (Nat.le_of_ble_eq_true rfl) rfl rfl ?_
            refine af_callV_v K (b := 6) (vs := [.ref 1]) mv_X0_become lk_328 ((hp_at _ (Nat.le_of_ble_eq_true rfl)).trans rfl) rfl 65 dX4_ahead_62 rfl rfl rfl rfl (A_X0_become _ _ 6 (Or.inr (Or.inl rfl)) 1 (Or.inl rfl) q21.2) rfl (fun q22 => ?_)
            refine af_aload_n K 66 dX4_ahead_65 rfl rfl ?_
            refine af_get K 69 dX4_ahead_66 rfl fl_X4_16 (Nat.le_of_ble_eq_true rfl) rfl rfl ?_
            refine af_iload_n K 70 dX4_ahead_69 rfl rfl ?_
            refine af_callV_v K (b := 6) (vs := [.int x3]) mv_X0_passDays lk_274 ((hp_at _ (Nat.le_of_ble_eq_true rfl)).trans rfl) rfl 73 dX4_ahead_70 rfl rfl rfl rfl (A_X0_passDays _ _ 6 (Or.inr (Or.inl rfl)) x3 q22) rfl (fun q23 => ?_)
            refine af_aload_n K 74 dX4_ahead_73 rfl rfl ?_
            refine af_get K 77 dX4_ahead_74 rfl fl_X4_16 (Nat.le_of_ble_eq_true rfl) rfl rfl ?_
            refine af_iload_n K 78 dX4_ahead_77 rfl rfl ?_
            refine af_iload_n K 79 dX4_ahead_78 rfl rfl ?_
            refine af_callV_i K (b := 6) (vs := [.int x1, .int x2]) mv_X0_tell lk_205 ((hp_at _ (Nat.le_of_ble_eq_true rfl)).trans rfl) rfl 82 dX4_ahead_79 rfl rfl rfl rfl (A_X0_tell _ _ 6 (Or.inr (Or.inl rfl)) x1 x2 q23) rfl (fun q24 => ?_)
            exact af_reti K dX4_ahead_82
          · refine af_aload_n K 49 dX4_ahead_48 rfl rfl ?_
            refine af_iconst K 50 dX4_ahead_49 rfl cs_iconst_0 ?_
            refine af_callV_i K (b := 0) (vs := [.int 0]) mv_X4_found lk_172 ((hp_at _ (Nat.le_of_ble_eq_true rfl)).trans rfl) rfl 53 dX4_ahead_50 rfl rfl rfl rfl (A_X4_found _ _ 0 q21.2) rfl (fun q25 => ?_)
            exact af_reti K dX4_ahead_53
def F_X4_terms (x1 : Int32) (x2 : Int32) (x3 : Int32) (σ : fk_T) : Option (Int32 × fk_T) := (F_X0_hasTwo 1 x1 x2 σ).bind (fun q1 => if (fk_b q1.1) = 0 then ((F_X4_found 0 q1.2).bind (fun q2 => some (q2.1, q2.2))) else ((F_X4_within x3 0 100 q1.2).bind (fun q3 => if (fk_b q3.1) = 0 then ((F_X4_found 0 q3.2).bind (fun q7 => some (q7.1, q7.2))) else ((F_X0_become 6 1 q3.2).bind (fun q4 => (F_X0_passDays 6 x3 q4).bind (fun q5 => (F_X0_riftOf 6 x1 x2 q5).bind (fun q6 => some (q6.1, q6.2))))))))
set_option maxRecDepth 100000 in
set_option maxHeartbeats 4000000 in
theorem A_X4_terms (X : aw_X) (l : Launch) (x1 : Int32) (x2 : Int32) (x3 : Int32) (σ : fk_T) : af_G X l mX4_terms [.ref 0, .int x1, .int x2, .int x3] (hp σ) ρi (F_X4_terms x1 x2 x3 σ) := by
  refine af_mk (by decide) rfl (fun q _ => aw_oki q) [some (.ref 0), some (.int x1), some (.int x2), some (.int x3)] rfl ?_
  rintro cx rfl rfl hN K
  replace hN : aw_nL cx = 4 := hN
  replace K : aw_K cx cX4_terms RX4 rX4_terms := K
  unfold F_X4_terms
  refine af_aload_n K 1 dX4_terms_0 rfl rfl ?_
  refine af_get K 4 dX4_terms_1 rfl fl_X4_10 (Nat.le_of_ble_eq_true rfl) rfl rfl ?_
  refine af_iload_n K 5 dX4_terms_4 rfl rfl ?_
  refine af_iload_n K 6 dX4_terms_5 rfl rfl ?_
  refine af_callV_z K (b := 1) (vs := [.int x1, .int x2]) mv_X0_hasTwo lk_234 ((hp_at _ (Nat.le_of_ble_eq_true rfl)).trans rfl) rfl 9 dX4_terms_6 rfl rfl rfl rfl (A_X0_hasTwo _ _ 1 (Or.inl rfl) x1 x2 σ) rfl (fun q1 => ?_)
  refine af_if_eq K 12 22 dX4_terms_9 rfl rfl (fun _ => ?_) (fun _ => ?_)
  · refine af_aload_n K 23 dX4_terms_22 rfl rfl ?_
    refine af_iconst K 24 dX4_terms_23 rfl cs_iconst_0 ?_
    refine af_callV_i K (b := 0) (vs := [.int 0]) mv_X4_found lk_172 ((hp_at _ (Nat.le_of_ble_eq_true rfl)).trans rfl) rfl 27 dX4_terms_24 rfl rfl rfl rfl (A_X4_found _ _ 0 q1.2) rfl (fun q2 => ?_)
    exact af_reti K dX4_terms_27
  · refine af_iload_n K 13 dX4_terms_12 rfl rfl ?_
    refine af_iconst K 14 dX4_terms_13 rfl cs_iconst_0 ?_
    refine af_bipush K 16 dX4_terms_14 rfl cs_bipush_100 ?_
    refine af_callS_z K (vs := [.int x3, .int 0, .int 100]) ms_X4_within lk_169 19 dX4_terms_16 rfl rfl rfl rfl (A_X4_within _ _ x3 0 100 q1.2) rfl (fun q3 => ?_)
    refine af_if_ne K 22 28 dX4_terms_19 rfl rfl (fun _ => ?_) (fun _ => ?_)
    · refine af_aload_n K 29 dX4_terms_28 rfl rfl ?_
      refine af_get K 32 dX4_terms_29 rfl fl_X4_16 (Nat.le_of_ble_eq_true rfl) rfl rfl ?_
      refine af_aload_n K 33 dX4_terms_32 rfl rfl ?_
      refine af_get K 36 dX4_terms_33 rfl fl_X4_10 (Nat.le_of_ble_eq_true rfl) rfl rfl ?_
      refine af_callV_v K (b := 6) (vs := [.ref 1]) mv_X0_become lk_328 ((hp_at _ (Nat.le_of_ble_eq_true rfl)).trans rfl) rfl 39 dX4_terms_36 rfl rfl rfl rfl (A_X0_become _ _ 6 (Or.inr (Or.inl rfl)) 1 (Or.inl rfl) q3.2) rfl (fun q4 => ?_)
      refine af_aload_n K 40 dX4_terms_39 rfl rfl ?_
      refine af_get K 43 dX4_terms_40 rfl fl_X4_16 (Nat.le_of_ble_eq_true rfl) rfl rfl ?_
      refine af_iload_n K 44 dX4_terms_43 rfl rfl ?_
      refine af_callV_v K (b := 6) (vs := [.int x3]) mv_X0_passDays lk_274 ((hp_at _ (Nat.le_of_ble_eq_true rfl)).trans rfl) rfl 47 dX4_terms_44 rfl rfl rfl rfl (A_X0_passDays _ _ 6 (Or.inr (Or.inl rfl)) x3 q4) rfl (fun q5 => ?_)
      refine af_aload_n K 48 dX4_terms_47 rfl rfl ?_
      refine af_get K 51 dX4_terms_48 rfl fl_X4_16 (Nat.le_of_ble_eq_true rfl) rfl rfl ?_
      refine af_iload_n K 52 dX4_terms_51 rfl rfl ?_
      refine af_iload_n K 53 dX4_terms_52 rfl rfl ?_
      refine af_callV_i K (b := 6) (vs := [.int x1, .int x2]) mv_X0_riftOf lk_239 ((hp_at _ (Nat.le_of_ble_eq_true rfl)).trans rfl) rfl 56 dX4_terms_53 rfl rfl rfl rfl (A_X0_riftOf _ _ 6 (Or.inr (Or.inl rfl)) x1 x2 q5) rfl (fun q6 => ?_)
      exact af_reti K dX4_terms_56
    · refine af_aload_n K 23 dX4_terms_22 rfl rfl ?_
      refine af_iconst K 24 dX4_terms_23 rfl cs_iconst_0 ?_
      refine af_callV_i K (b := 0) (vs := [.int 0]) mv_X4_found lk_172 ((hp_at _ (Nat.le_of_ble_eq_true rfl)).trans rfl) rfl 27 dX4_terms_24 rfl rfl rfl rfl (A_X4_found _ _ 0 q3.2) rfl (fun q7 => ?_)
      exact af_reti K dX4_terms_27
def L_X4_next_28  : Nat → Int32 → Int32 → fk_T → (Int32 → Int32 → fk_T → Option (Int32 × fk_T)) → Option (Int32 × fk_T)
  | 0, _, _, _, _ => none
  | fu + 1, x1, x2, σ, k => if 200 < x2 then (k x1 x2 σ) else ((F_X0_passDays 6 1 σ).bind (fun q3 => if x1 = 0 then (if (q3.1 6 2) ≤ (q3.1 1 2) then (if (0 : Int32) = 0 then (fk_B (x2 + 1) (fun y6 => L_X4_next_28 fu x1 y6 q3 k)) else (some (x2, q3))) else (if (1 : Int32) = 0 then (fk_B (x2 + 1) (fun y7 => L_X4_next_28 fu x1 y7 q3 k)) else (some (x2, q3)))) else (if (q3.1 6 3) ≤ (q3.1 1 3) then (if (0 : Int32) = 0 then (fk_B (x2 + 1) (fun y4 => L_X4_next_28 fu x1 y4 q3 k)) else (some (x2, q3))) else (if (1 : Int32) = 0 then (fk_B (x2 + 1) (fun y5 => L_X4_next_28 fu x1 y5 q3 k)) else (some (x2, q3))))))
def F_X4_next (x1 : Int32) (σ : fk_T) : Option (Int32 × fk_T) := (F_X4_within x1 0 1 σ).bind (fun q1 => if (fk_b q1.1) = 0 then ((F_X4_found 0 q1.2).bind (fun q12 => some (q12.1, q12.2))) else ((F_X0_become 6 1 q1.2).bind (fun q2 => L_X4_next_28 fk_N x1 1 q2 (fun y9 y10 s8 => (F_X4_found 3 s8).bind (fun q11 => some (q11.1, q11.2))))))
set_option maxRecDepth 100000 in
set_option maxHeartbeats 4000000 in
theorem W_X4_next_28 {cx : aw_C} (hN : aw_nL cx = 4) (K : aw_K cx cX4_next RX4 rX4_next)  : ∀ (fu : Nat) (x1 : Int32) (x2 : Int32) (σ : fk_T) (k : Int32 → Int32 → fk_T → Option (Int32 × fk_T)), (∀ (x1 : Int32) (x2 : Int32) (σ : fk_T), af cx ρi 107 [some (.ref 0), some (.int x1), some (.int x2), none] [] (hp σ) (k x1 x2 σ)) → af cx ρi 28 [some (.ref 0), some (.int x1), some (.int x2), none] [] (hp σ) (L_X4_next_28 fu x1 x2 σ k) := by
  intro fu
  induction fu with
  | zero => intros; exact af_none
  | succ fu ih28 =>
    intro x1 x2 σ k hk28
    rw [L_X4_next_28]
    refine af_iload_n K 29 dX4_next_28 rfl rfl ?_
    refine af_sipush K 32 dX4_next_29 rfl cs_sipush_200 ?_
    refine af_icmp_gt K 35 107 dX4_next_32 rfl rfl (fun _ => ?_) (fun _ => ?_)
    · refine af_lm [true, true, true, false] rfl ?_
      exact hk28 _ _ _
    · refine af_aload_n K 36 dX4_next_35 rfl rfl ?_
      refine af_get K 39 dX4_next_36 rfl fl_X4_16 (Nat.le_of_ble_eq_true rfl) rfl rfl ?_
      refine af_iconst K 40 dX4_next_39 rfl cs_iconst_1 ?_
      refine af_callV_v K (b := 6) (vs := [.int 1]) mv_X0_passDays lk_274 ((hp_at _ (Nat.le_of_ble_eq_true rfl)).trans rfl) rfl 43 dX4_next_40 rfl rfl rfl rfl (A_X0_passDays _ _ 6 (Or.inr (Or.inl rfl)) 1 σ) rfl (fun q3 => ?_)
      refine af_iload_n K 44 dX4_next_43 rfl rfl ?_
      refine af_if_ne K 47 72 dX4_next_44 rfl rfl (fun _ => ?_) (fun _ => ?_)
      · refine af_aload_n K 73 dX4_next_72 rfl rfl ?_
        refine af_get K 76 dX4_next_73 rfl fl_X4_16 (Nat.le_of_ble_eq_true rfl) rfl rfl ?_
        refine af_get K 79 dX4_next_76 rfl fl_X4_125 (Nat.le_of_ble_eq_true rfl) rfl rfl ?_
        refine af_aload_n K 80 dX4_next_79 rfl rfl ?_
        refine af_get K 83 dX4_next_80 rfl fl_X4_10 (Nat.le_of_ble_eq_true rfl) rfl rfl ?_
        refine af_get K 86 dX4_next_83 rfl fl_X4_125 (Nat.le_of_ble_eq_true rfl) rfl rfl ?_
        refine af_icmp_le K 89 93 dX4_next_86 rfl rfl (fun _ => ?_) (fun _ => ?_)
        · refine af_iconst K 94 dX4_next_93 rfl cs_iconst_0 ?_
          refine af_istore_n K 95 [some (.ref 0), some (.int x1), some (.int x2), some (.int 0)] dX4_next_94 rfl (by rw [hN]; exact Nat.le_of_ble_eq_true rfl) rfl ?_
          refine af_iload_n K 96 dX4_next_95 rfl rfl ?_
          refine af_if_eq K 99 101 dX4_next_96 rfl rfl (fun _ => ?_) (fun _ => ?_)
          · refine af_iincB K 104 (fun yy => [some (.ref 0), some (.int x1), some (.int yy), some (.int 0)]) dX4_next_101 rfl (by rw [hN]; exact Nat.le_of_ble_eq_true rfl) rfl cs_iconst_1 (fun _ => rfl) (fun y4 => ?_)
            refine af_goto K 28 dX4_next_104 rfl ?_
            refine af_lm [true, true, true, false] rfl ?_
            exact ih28 _ _ _ _ hk28
          · refine af_iload_n K 100 dX4_next_99 rfl rfl ?_
            exact af_reti K dX4_next_100
        · refine af_iconst K 90 dX4_next_89 rfl cs_iconst_1 ?_
          refine af_goto K 94 dX4_next_90 rfl ?_
          refine af_istore_n K 95 [some (.ref 0), some (.int x1), some (.int x2), some (.int 1)] dX4_next_94 rfl (by rw [hN]; exact Nat.le_of_ble_eq_true rfl) rfl ?_
          refine af_iload_n K 96 dX4_next_95 rfl rfl ?_
          refine af_if_eq K 99 101 dX4_next_96 rfl rfl (fun _ => ?_) (fun _ => ?_)
          · refine af_iincB K 104 (fun yy => [some (.ref 0), some (.int x1), some (.int yy), some (.int 1)]) dX4_next_101 rfl (by rw [hN]; exact Nat.le_of_ble_eq_true rfl) rfl cs_iconst_1 (fun _ => rfl) (fun y5 => ?_)
            refine af_goto K 28 dX4_next_104 rfl ?_
            refine af_lm [true, true, true, false] rfl ?_
            exact ih28 _ _ _ _ hk28
          · refine af_iload_n K 100 dX4_next_99 rfl rfl ?_
            exact af_reti K dX4_next_100
      · refine af_aload_n K 48 dX4_next_47 rfl rfl ?_
        refine af_get K 51 dX4_next_48 rfl fl_X4_16 (Nat.le_of_ble_eq_true rfl) rfl rfl ?_
        refine af_get K 54 dX4_next_51 rfl fl_X4_122 (Nat.le_of_ble_eq_true rfl) rfl rfl ?_
        refine af_aload_n K 55 dX4_next_54 rfl rfl ?_
        refine af_get K 58 dX4_next_55 rfl fl_X4_10 (Nat.le_of_ble_eq_true rfl) rfl rfl ?_
        refine af_get K 61 dX4_next_58 rfl fl_X4_122 (Nat.le_of_ble_eq_true rfl) rfl rfl ?_
        refine af_icmp_le K 64 68 dX4_next_61 rfl rfl (fun _ => ?_) (fun _ => ?_)
        · refine af_iconst K 69 dX4_next_68 rfl cs_iconst_0 ?_
          refine af_goto K 94 dX4_next_69 rfl ?_
          refine af_istore_n K 95 [some (.ref 0), some (.int x1), some (.int x2), some (.int 0)] dX4_next_94 rfl (by rw [hN]; exact Nat.le_of_ble_eq_true rfl) rfl ?_
          refine af_iload_n K 96 dX4_next_95 rfl rfl ?_
          refine af_if_eq K 99 101 dX4_next_96 rfl rfl (fun _ => ?_) (fun _ => ?_)
          · refine af_iincB K 104 (fun yy => [some (.ref 0), some (.int x1), some (.int yy), some (.int 0)]) dX4_next_101 rfl (by rw [hN]; exact Nat.le_of_ble_eq_true rfl) rfl cs_iconst_1 (fun _ => rfl) (fun y6 => ?_)
            refine af_goto K 28 dX4_next_104 rfl ?_
            refine af_lm [true, true, true, false] rfl ?_
            exact ih28 _ _ _ _ hk28
          · refine af_iload_n K 100 dX4_next_99 rfl rfl ?_
            exact af_reti K dX4_next_100
        · refine af_iconst K 65 dX4_next_64 rfl cs_iconst_1 ?_
          refine af_goto K 94 dX4_next_65 rfl ?_
          refine af_istore_n K 95 [some (.ref 0), some (.int x1), some (.int x2), some (.int 1)] dX4_next_94 rfl (by rw [hN]; exact Nat.le_of_ble_eq_true rfl) rfl ?_
          refine af_iload_n K 96 dX4_next_95 rfl rfl ?_
          refine af_if_eq K 99 101 dX4_next_96 rfl rfl (fun _ => ?_) (fun _ => ?_)
          · refine af_iincB K 104 (fun yy => [some (.ref 0), some (.int x1), some (.int yy), some (.int 1)]) dX4_next_101 rfl (by rw [hN]; exact Nat.le_of_ble_eq_true rfl) rfl cs_iconst_1 (fun _ => rfl) (fun y7 => ?_)
            refine af_goto K 28 dX4_next_104 rfl ?_
            refine af_lm [true, true, true, false] rfl ?_
            exact ih28 _ _ _ _ hk28
          · refine af_iload_n K 100 dX4_next_99 rfl rfl ?_
            exact af_reti K dX4_next_100
set_option maxRecDepth 100000 in
set_option maxHeartbeats 4000000 in
theorem A_X4_next (X : aw_X) (l : Launch) (x1 : Int32) (σ : fk_T) : af_G X l mX4_next [.ref 0, .int x1] (hp σ) ρi (F_X4_next x1 σ) := by
  refine af_mk (by decide) rfl (fun q _ => aw_oki q) [some (.ref 0), some (.int x1), none, none] rfl ?_
  rintro cx rfl rfl hN K
  replace hN : aw_nL cx = 4 := hN
  replace K : aw_K cx cX4_next RX4 rX4_next := K
  unfold F_X4_next
  refine af_iload_n K 1 dX4_next_0 rfl rfl ?_
  refine af_iconst K 2 dX4_next_1 rfl cs_iconst_0 ?_
  refine af_iconst K 3 dX4_next_2 rfl cs_iconst_1 ?_
  refine af_callS_z K (vs := [.int x1, .int 0, .int 1]) ms_X4_within lk_169 6 dX4_next_3 rfl rfl rfl rfl (A_X4_within _ _ x1 0 1 σ) rfl (fun q1 => ?_)
  refine af_if_ne K 9 15 dX4_next_6 rfl rfl (fun _ => ?_) (fun _ => ?_)
  · refine af_aload_n K 16 dX4_next_15 rfl rfl ?_
    refine af_get K 19 dX4_next_16 rfl fl_X4_16 (Nat.le_of_ble_eq_true rfl) rfl rfl ?_
    refine af_aload_n K 20 dX4_next_19 rfl rfl ?_
    refine af_get K 23 dX4_next_20 rfl fl_X4_10 (Nat.le_of_ble_eq_true rfl) rfl rfl ?_
    refine af_callV_v K (b := 6) (vs := [.ref 1]) mv_X0_become lk_328 ((hp_at _ (Nat.le_of_ble_eq_true rfl)).trans rfl) rfl 26 dX4_next_23 rfl rfl rfl rfl (A_X0_become _ _ 6 (Or.inr (Or.inl rfl)) 1 (Or.inl rfl) q1.2) rfl (fun q2 => ?_)
    refine af_iconst K 27 dX4_next_26 rfl cs_iconst_1 ?_
    refine af_istore_n K 28 [some (.ref 0), some (.int x1), some (.int 1), none] dX4_next_27 rfl (by rw [hN]; exact Nat.le_of_ble_eq_true rfl) rfl ?_
    refine af_lm [true, true, true, false] rfl ?_
    refine W_X4_next_28 hN K  fk_N _ _ _ _ (fun y9 y10 s8 => ?_)
    refine af_aload_n K 108 dX4_next_107 rfl rfl ?_
    refine af_iconst K 109 dX4_next_108 rfl cs_iconst_3 ?_
    refine af_callV_i K (b := 0) (vs := [.int 3]) mv_X4_found lk_172 ((hp_at _ (Nat.le_of_ble_eq_true rfl)).trans rfl) rfl 112 dX4_next_109 rfl rfl rfl rfl (A_X4_found _ _ 3 s8) rfl (fun q11 => ?_)
    exact af_reti K dX4_next_112
  · refine af_aload_n K 10 dX4_next_9 rfl rfl ?_
    refine af_iconst K 11 dX4_next_10 rfl cs_iconst_0 ?_
    refine af_callV_i K (b := 0) (vs := [.int 0]) mv_X4_found lk_172 ((hp_at _ (Nat.le_of_ble_eq_true rfl)).trans rfl) rfl 14 dX4_next_11 rfl rfl rfl rfl (A_X4_found _ _ 0 q1.2) rfl (fun q12 => ?_)
    exact af_reti K dX4_next_14
def L_X4_peace_42  : Nat → Int32 → Int32 → Int32 → Int32 → fk_T → (Int32 → Int32 → Int32 → Int32 → fk_T → Option (Int32 × fk_T)) → Option (Int32 × fk_T)
  | 0, _, _, _, _, _, _ => none
  | fu + 1, x1, x2, x3, x4, σ, k => if 200 < x4 then (k x1 x2 x3 x4 σ) else ((F_X0_riftOf 6 x1 x2 σ).bind (fun q5 => if x3 < q5.1 then ((F_X0_passDays 6 1 q5.2).bind (fun q6 => fk_B (x4 + 1) (fun y7 => L_X4_peace_42 fu x1 x2 x3 y7 q6 k))) else (some (x4, q5.2))))
def F_X4_peace (x1 : Int32) (x2 : Int32) (x3 : Int32) (σ : fk_T) : Option (Int32 × fk_T) := (F_X0_hasTwo 1 x1 x2 σ).bind (fun q1 => if (fk_b q1.1) = 0 then ((F_X4_found 0 q1.2).bind (fun q2 => some (q2.1, q2.2))) else ((F_X4_within x3 0 99 q1.2).bind (fun q3 => if (fk_b q3.1) = 0 then ((F_X4_found 0 q3.2).bind (fun q14 => some (q14.1, q14.2))) else ((F_X0_become 6 1 q3.2).bind (fun q4 => L_X4_peace_42 fk_N x1 x2 x3 0 q4 (fun y9 y10 y11 y12 s8 => (F_X4_found 3 s8).bind (fun q13 => some (q13.1, q13.2))))))))
set_option maxRecDepth 100000 in
set_option maxHeartbeats 4000000 in
theorem W_X4_peace_42 {cx : aw_C} (hN : aw_nL cx = 5) (K : aw_K cx cX4_peace RX4 rX4_peace)  : ∀ (fu : Nat) (x1 : Int32) (x2 : Int32) (x3 : Int32) (x4 : Int32) (σ : fk_T) (k : Int32 → Int32 → Int32 → Int32 → fk_T → Option (Int32 × fk_T)), (∀ (x1 : Int32) (x2 : Int32) (x3 : Int32) (x4 : Int32) (σ : fk_T), af cx ρi 80 [some (.ref 0), some (.int x1), some (.int x2), some (.int x3), some (.int x4)] [] (hp σ) (k x1 x2 x3 x4 σ)) → af cx ρi 42 [some (.ref 0), some (.int x1), some (.int x2), some (.int x3), some (.int x4)] [] (hp σ) (L_X4_peace_42 fu x1 x2 x3 x4 σ k) := by
  intro fu
  induction fu with
  | zero => intros; exact af_none
  | succ fu ih42 =>
    intro x1 x2 x3 x4 σ k hk42
    rw [L_X4_peace_42]
    refine af_iload K 44 dX4_peace_42 rfl rfl ?_
    refine af_sipush K 47 dX4_peace_44 rfl cs_sipush_200 ?_
    refine af_icmp_gt K 50 80 dX4_peace_47 rfl rfl (fun _ => ?_) (fun _ => ?_)
    · refine af_lm [true, true, true, true, true] rfl ?_
      exact hk42 _ _ _ _ _
    · refine af_aload_n K 51 dX4_peace_50 rfl rfl ?_
      refine af_get K 54 dX4_peace_51 rfl fl_X4_16 (Nat.le_of_ble_eq_true rfl) rfl rfl ?_
      refine af_iload_n K 55 dX4_peace_54 rfl rfl ?_
      refine af_iload_n K 56 dX4_peace_55 rfl rfl ?_
      refine af_callV_i K (b := 6) (vs := [.int x1, .int x2]) mv_X0_riftOf lk_239 ((hp_at _ (Nat.le_of_ble_eq_true rfl)).trans rfl) rfl 59 dX4_peace_56 rfl rfl rfl rfl (A_X0_riftOf _ _ 6 (Or.inr (Or.inl rfl)) x1 x2 σ) rfl (fun q5 => ?_)
      refine af_iload_n K 60 dX4_peace_59 rfl rfl ?_
      refine af_icmp_gt K 63 66 dX4_peace_60 rfl rfl (fun _ => ?_) (fun _ => ?_)
      · refine af_aload_n K 67 dX4_peace_66 rfl rfl ?_
        refine af_get K 70 dX4_peace_67 rfl fl_X4_16 (Nat.le_of_ble_eq_true rfl) rfl rfl ?_
        refine af_iconst K 71 dX4_peace_70 rfl cs_iconst_1 ?_
        refine af_callV_v K (b := 6) (vs := [.int 1]) mv_X0_passDays lk_274 ((hp_at _ (Nat.le_of_ble_eq_true rfl)).trans rfl) rfl 74 dX4_peace_71 rfl rfl rfl rfl (A_X0_passDays _ _ 6 (Or.inr (Or.inl rfl)) 1 q5.2) rfl (fun q6 => ?_)
        refine af_iincB K 77 (fun yy => [some (.ref 0), some (.int x1), some (.int x2), some (.int x3), some (.int yy)]) dX4_peace_74 rfl (by rw [hN]; exact Nat.le_of_ble_eq_true rfl) rfl cs_iconst_1 (fun _ => rfl) (fun y7 => ?_)
        refine af_goto K 42 dX4_peace_77 rfl ?_
        refine af_lm [true, true, true, true, true] rfl ?_
        exact ih42 _ _ _ _ _ _ hk42
      · refine af_iload K 65 dX4_peace_63 rfl rfl ?_
        exact af_reti K dX4_peace_65
set_option maxRecDepth 100000 in
set_option maxHeartbeats 4000000 in
theorem A_X4_peace (X : aw_X) (l : Launch) (x1 : Int32) (x2 : Int32) (x3 : Int32) (σ : fk_T) : af_G X l mX4_peace [.ref 0, .int x1, .int x2, .int x3] (hp σ) ρi (F_X4_peace x1 x2 x3 σ) := by
  refine af_mk (by decide) rfl (fun q _ => aw_oki q) [some (.ref 0), some (.int x1), some (.int x2), some (.int x3), none] rfl ?_
  rintro cx rfl rfl hN K
  replace hN : aw_nL cx = 5 := hN
  replace K : aw_K cx cX4_peace RX4 rX4_peace := K
  unfold F_X4_peace
  refine af_aload_n K 1 dX4_peace_0 rfl rfl ?_
  refine af_get K 4 dX4_peace_1 rfl fl_X4_10 (Nat.le_of_ble_eq_true rfl) rfl rfl ?_
  refine af_iload_n K 5 dX4_peace_4 rfl rfl ?_
  refine af_iload_n K 6 dX4_peace_5 rfl rfl ?_
  refine af_callV_z K (b := 1) (vs := [.int x1, .int x2]) mv_X0_hasTwo lk_234 ((hp_at _ (Nat.le_of_ble_eq_true rfl)).trans rfl) rfl 9 dX4_peace_6 rfl rfl rfl rfl (A_X0_hasTwo _ _ 1 (Or.inl rfl) x1 x2 σ) rfl (fun q1 => ?_)
  refine af_if_eq K 12 22 dX4_peace_9 rfl rfl (fun _ => ?_) (fun _ => ?_)
  · refine af_aload_n K 23 dX4_peace_22 rfl rfl ?_
    refine af_iconst K 24 dX4_peace_23 rfl cs_iconst_0 ?_
    refine af_callV_i K (b := 0) (vs := [.int 0]) mv_X4_found lk_172 ((hp_at _ (Nat.le_of_ble_eq_true rfl)).trans rfl) rfl 27 dX4_peace_24 rfl rfl rfl rfl (A_X4_found _ _ 0 q1.2) rfl (fun q2 => ?_)
    exact af_reti K dX4_peace_27
  · refine af_iload_n K 13 dX4_peace_12 rfl rfl ?_
    refine af_iconst K 14 dX4_peace_13 rfl cs_iconst_0 ?_
    refine af_bipush K 16 dX4_peace_14 rfl cs_bipush_99 ?_
    refine af_callS_z K (vs := [.int x3, .int 0, .int 99]) ms_X4_within lk_169 19 dX4_peace_16 rfl rfl rfl rfl (A_X4_within _ _ x3 0 99 q1.2) rfl (fun q3 => ?_)
    refine af_if_ne K 22 28 dX4_peace_19 rfl rfl (fun _ => ?_) (fun _ => ?_)
    · refine af_aload_n K 29 dX4_peace_28 rfl rfl ?_
      refine af_get K 32 dX4_peace_29 rfl fl_X4_16 (Nat.le_of_ble_eq_true rfl) rfl rfl ?_
      refine af_aload_n K 33 dX4_peace_32 rfl rfl ?_
      refine af_get K 36 dX4_peace_33 rfl fl_X4_10 (Nat.le_of_ble_eq_true rfl) rfl rfl ?_
      refine af_callV_v K (b := 6) (vs := [.ref 1]) mv_X0_become lk_328 ((hp_at _ (Nat.le_of_ble_eq_true rfl)).trans rfl) rfl 39 dX4_peace_36 rfl rfl rfl rfl (A_X0_become _ _ 6 (Or.inr (Or.inl rfl)) 1 (Or.inl rfl) q3.2) rfl (fun q4 => ?_)
      refine af_iconst K 40 dX4_peace_39 rfl cs_iconst_0 ?_
      refine af_istore K 42 [some (.ref 0), some (.int x1), some (.int x2), some (.int x3), some (.int 0)] dX4_peace_40 rfl (by rw [hN]; exact Nat.le_of_ble_eq_true rfl) rfl ?_
      refine af_lm [true, true, true, true, true] rfl ?_
      refine W_X4_peace_42 hN K  fk_N _ _ _ _ _ _ (fun y9 y10 y11 y12 s8 => ?_)
      refine af_aload_n K 81 dX4_peace_80 rfl rfl ?_
      refine af_iconst K 82 dX4_peace_81 rfl cs_iconst_3 ?_
      refine af_callV_i K (b := 0) (vs := [.int 3]) mv_X4_found lk_172 ((hp_at _ (Nat.le_of_ble_eq_true rfl)).trans rfl) rfl 85 dX4_peace_82 rfl rfl rfl rfl (A_X4_found _ _ 3 s8) rfl (fun q13 => ?_)
      exact af_reti K dX4_peace_85
    · refine af_aload_n K 23 dX4_peace_22 rfl rfl ?_
      refine af_iconst K 24 dX4_peace_23 rfl cs_iconst_0 ?_
      refine af_callV_i K (b := 0) (vs := [.int 0]) mv_X4_found lk_172 ((hp_at _ (Nat.le_of_ble_eq_true rfl)).trans rfl) rfl 27 dX4_peace_24 rfl rfl rfl rfl (A_X4_found _ _ 0 q3.2) rfl (fun q14 => ?_)
      exact af_reti K dX4_peace_27
def L_X4_when_41  : Nat → Int32 → Int32 → Int32 → fk_T → (Int32 → Int32 → Int32 → fk_T → Option (Int32 × fk_T)) → Option (Int32 × fk_T)
  | 0, _, _, _, _, _ => none
  | fu + 1, x1, x2, x3, σ, k => if 200 < x3 then (k x1 x2 x3 σ) else (fk_A (σ.1 8) 48 (32 + x1) (fun y5 => if y5 < x2 then ((F_X0_passDays 6 1 σ).bind (fun q6 => fk_B (x3 + 1) (fun y7 => L_X4_when_41 fu x1 x2 y7 q6 k))) else (some (x3, σ))))
def F_X4_when (x1 : Int32) (x2 : Int32) (σ : fk_T) : Option (Int32 × fk_T) := (F_X0_has 1 x1 σ).bind (fun q1 => if (fk_b q1.1) = 0 then ((F_X4_found 0 q1.2).bind (fun q2 => some (q2.1, q2.2))) else ((F_X4_within x2 0 9999 q1.2).bind (fun q3 => if (fk_b q3.1) = 0 then ((F_X4_found 0 q3.2).bind (fun q13 => some (q13.1, q13.2))) else ((F_X0_become 6 1 q3.2).bind (fun q4 => L_X4_when_41 fk_N x1 x2 0 q4 (fun y9 y10 y11 s8 => (F_X4_found 3 s8).bind (fun q12 => some (q12.1, q12.2))))))))
set_option maxRecDepth 100000 in
set_option maxHeartbeats 4000000 in
theorem W_X4_when_41 {cx : aw_C} (hN : aw_nL cx = 4) (K : aw_K cx cX4_when RX4 rX4_when)  : ∀ (fu : Nat) (x1 : Int32) (x2 : Int32) (x3 : Int32) (σ : fk_T) (k : Int32 → Int32 → Int32 → fk_T → Option (Int32 × fk_T)), (∀ (x1 : Int32) (x2 : Int32) (x3 : Int32) (σ : fk_T), af cx ρi 80 [some (.ref 0), some (.int x1), some (.int x2), some (.int x3)] [] (hp σ) (k x1 x2 x3 σ)) → af cx ρi 41 [some (.ref 0), some (.int x1), some (.int x2), some (.int x3)] [] (hp σ) (L_X4_when_41 fu x1 x2 x3 σ k) := by
  intro fu
  induction fu with
  | zero => intros; exact af_none
  | succ fu ih41 =>
    intro x1 x2 x3 σ k hk41
    rw [L_X4_when_41]
    refine af_iload_n K 42 dX4_when_41 rfl rfl ?_
    refine af_sipush K 45 dX4_when_42 rfl cs_sipush_200 ?_
    refine af_icmp_gt K 48 80 dX4_when_45 rfl rfl (fun _ => ?_) (fun _ => ?_)
    · refine af_lm [true, true, true, true] rfl ?_
      exact hk41 _ _ _ _
    · refine af_aload_n K 49 dX4_when_48 rfl rfl ?_
      refine af_get K 52 dX4_when_49 rfl fl_X4_16 (Nat.le_of_ble_eq_true rfl) rfl rfl ?_
      refine af_get K 55 dX4_when_52 rfl fl_X4_87 (Nat.le_of_ble_eq_true rfl) rfl rfl ?_
      refine af_bipush K 57 dX4_when_55 rfl cs_bipush_32 ?_
      refine af_iload_n K 58 dX4_when_57 rfl rfl ?_
      refine af_iadd K 59 dX4_when_58 rfl ?_
      refine af_iald K 60 dX4_when_59 rfl (Nat.le_of_ble_eq_true rfl) rfl (fun y5 => ?_)
      refine af_iload_n K 61 dX4_when_60 rfl rfl ?_
      refine af_icmp_lt K 64 66 dX4_when_61 rfl rfl (fun _ => ?_) (fun _ => ?_)
      · refine af_aload_n K 67 dX4_when_66 rfl rfl ?_
        refine af_get K 70 dX4_when_67 rfl fl_X4_16 (Nat.le_of_ble_eq_true rfl) rfl rfl ?_
        refine af_iconst K 71 dX4_when_70 rfl cs_iconst_1 ?_
        refine af_callV_v K (b := 6) (vs := [.int 1]) mv_X0_passDays lk_274 ((hp_at _ (Nat.le_of_ble_eq_true rfl)).trans rfl) rfl 74 dX4_when_71 rfl rfl rfl rfl (A_X0_passDays _ _ 6 (Or.inr (Or.inl rfl)) 1 σ) rfl (fun q6 => ?_)
        refine af_iincB K 77 (fun yy => [some (.ref 0), some (.int x1), some (.int x2), some (.int yy)]) dX4_when_74 rfl (by rw [hN]; exact Nat.le_of_ble_eq_true rfl) rfl cs_iconst_1 (fun _ => rfl) (fun y7 => ?_)
        refine af_goto K 41 dX4_when_77 rfl ?_
        refine af_lm [true, true, true, true] rfl ?_
        exact ih41 _ _ _ _ _ hk41
      · refine af_iload_n K 65 dX4_when_64 rfl rfl ?_
        exact af_reti K dX4_when_65
set_option maxRecDepth 100000 in
set_option maxHeartbeats 4000000 in
theorem A_X4_when (X : aw_X) (l : Launch) (x1 : Int32) (x2 : Int32) (σ : fk_T) : af_G X l mX4_when [.ref 0, .int x1, .int x2] (hp σ) ρi (F_X4_when x1 x2 σ) := by
  refine af_mk (by decide) rfl (fun q _ => aw_oki q) [some (.ref 0), some (.int x1), some (.int x2), none] rfl ?_
  rintro cx rfl rfl hN K
  replace hN : aw_nL cx = 4 := hN
  replace K : aw_K cx cX4_when RX4 rX4_when := K
  unfold F_X4_when
  refine af_aload_n K 1 dX4_when_0 rfl rfl ?_
  refine af_get K 4 dX4_when_1 rfl fl_X4_10 (Nat.le_of_ble_eq_true rfl) rfl rfl ?_
  refine af_iload_n K 5 dX4_when_4 rfl rfl ?_
  refine af_callV_z K (b := 1) (vs := [.int x1]) mv_X0_has lk_201 ((hp_at _ (Nat.le_of_ble_eq_true rfl)).trans rfl) rfl 8 dX4_when_5 rfl rfl rfl rfl (A_X0_has _ _ 1 (Or.inl rfl) x1 σ) rfl (fun q1 => ?_)
  refine af_if_eq K 11 22 dX4_when_8 rfl rfl (fun _ => ?_) (fun _ => ?_)
  · refine af_aload_n K 23 dX4_when_22 rfl rfl ?_
    refine af_iconst K 24 dX4_when_23 rfl cs_iconst_0 ?_
    refine af_callV_i K (b := 0) (vs := [.int 0]) mv_X4_found lk_172 ((hp_at _ (Nat.le_of_ble_eq_true rfl)).trans rfl) rfl 27 dX4_when_24 rfl rfl rfl rfl (A_X4_found _ _ 0 q1.2) rfl (fun q2 => ?_)
    exact af_reti K dX4_when_27
  · refine af_iload_n K 12 dX4_when_11 rfl rfl ?_
    refine af_iconst K 13 dX4_when_12 rfl cs_iconst_0 ?_
    refine af_sipush K 16 dX4_when_13 rfl cs_sipush_9999 ?_
    refine af_callS_z K (vs := [.int x2, .int 0, .int 9999]) ms_X4_within lk_169 19 dX4_when_16 rfl rfl rfl rfl (A_X4_within _ _ x2 0 9999 q1.2) rfl (fun q3 => ?_)
    refine af_if_ne K 22 28 dX4_when_19 rfl rfl (fun _ => ?_) (fun _ => ?_)
    · refine af_aload_n K 29 dX4_when_28 rfl rfl ?_
      refine af_get K 32 dX4_when_29 rfl fl_X4_16 (Nat.le_of_ble_eq_true rfl) rfl rfl ?_
      refine af_aload_n K 33 dX4_when_32 rfl rfl ?_
      refine af_get K 36 dX4_when_33 rfl fl_X4_10 (Nat.le_of_ble_eq_true rfl) rfl rfl ?_
      refine af_callV_v K (b := 6) (vs := [.ref 1]) mv_X0_become lk_328 ((hp_at _ (Nat.le_of_ble_eq_true rfl)).trans rfl) rfl 39 dX4_when_36 rfl rfl rfl rfl (A_X0_become _ _ 6 (Or.inr (Or.inl rfl)) 1 (Or.inl rfl) q3.2) rfl (fun q4 => ?_)
      refine af_iconst K 40 dX4_when_39 rfl cs_iconst_0 ?_
      refine af_istore_n K 41 [some (.ref 0), some (.int x1), some (.int x2), some (.int 0)] dX4_when_40 rfl (by rw [hN]; exact Nat.le_of_ble_eq_true rfl) rfl ?_
      refine af_lm [true, true, true, true] rfl ?_
      refine W_X4_when_41 hN K  fk_N _ _ _ _ _ (fun y9 y10 y11 s8 => ?_)
      refine af_aload_n K 81 dX4_when_80 rfl rfl ?_
      refine af_iconst K 82 dX4_when_81 rfl cs_iconst_3 ?_
      refine af_callV_i K (b := 0) (vs := [.int 3]) mv_X4_found lk_172 ((hp_at _ (Nat.le_of_ble_eq_true rfl)).trans rfl) rfl 85 dX4_when_82 rfl rfl rfl rfl (A_X4_found _ _ 3 s8) rfl (fun q12 => ?_)
      exact af_reti K dX4_when_85
    · refine af_aload_n K 23 dX4_when_22 rfl rfl ?_
      refine af_iconst K 24 dX4_when_23 rfl cs_iconst_0 ?_
      refine af_callV_i K (b := 0) (vs := [.int 0]) mv_X4_found lk_172 ((hp_at _ (Nat.le_of_ble_eq_true rfl)).trans rfl) rfl 27 dX4_when_24 rfl rfl rfl rfl (A_X4_found _ _ 0 q3.2) rfl (fun q13 => ?_)
      exact af_reti K dX4_when_27
def L_X4_setWith_45  : Nat → Int32 → Int32 → Int32 → Int32 → Int32 → Int32 → fk_T → (Int32 → Int32 → Int32 → Int32 → Int32 → Int32 → fk_T → Option (Int32 × fk_T)) → Option (Int32 × fk_T)
  | 0, _, _, _, _, _, _, _, _ => none
  | fu + 1, x1, x2, x3, x4, x5, x6, σ, k => if (σ.1 1 6) ≤ x6 then (k x1 x2 x3 x4 x5 x6 σ) else (if x6 = x2 then (fk_B (x6 + 1) (fun y12 => L_X4_setWith_45 fu x1 x2 x3 x4 x5 y12 σ k)) else ((F_X0_become 6 1 σ).bind (fun q6 => fk_S q6 7 6 x1 ((10 * x2) + x6) (fun s7 => (F_X0_passDays 6 x3 s7).bind (fun q8 => if (q8.1 6 1) ≤ x5 then (fk_B (x6 + 1) (fun y9 => L_X4_setWith_45 fu x1 x2 x3 x4 x5 y9 q8 k)) else (fk_B (q8.1 6 1) (fun y10 => fk_B (x6 + 1) (fun y11 => L_X4_setWith_45 fu x1 x2 x3 x6 y10 y11 q8 k))))))))
def F_X4_setWith (x1 : Int32) (x2 : Int32) (x3 : Int32) (σ : fk_T) : Option (Int32 × fk_T) := (F_X4_within x1 0 5 σ).bind (fun q1 => if (fk_b q1.1) = 0 then ((F_X4_found 0 q1.2).bind (fun q2 => some (q2.1, q2.2))) else ((F_X0_has 1 x2 q1.2).bind (fun q3 => if (fk_b q3.1) = 0 then ((F_X4_found 0 q3.2).bind (fun q4 => some (q4.1, q4.2))) else ((F_X4_within x3 0 60 q3.2).bind (fun q5 => if (fk_b q5.1) = 0 then ((F_X4_found 0 q5.2).bind (fun q21 => some (q21.1, q21.2))) else (L_X4_setWith_45 fk_N x1 x2 x3 (-1) (-1) 0 q5.2 (fun y14 y15 y16 y17 y18 y19 s13 => if y17 = (-1) then ((F_X4_found 3 s13).bind (fun q20 => some (q20.1, q20.2))) else (some (y17, s13)))))))))
set_option maxRecDepth 100000 in
set_option maxHeartbeats 4000000 in
theorem W_X4_setWith_45 {cx : aw_C} (hN : aw_nL cx = 7) (K : aw_K cx cX4_setWith RX4 rX4_setWith)  : ∀ (fu : Nat) (x1 : Int32) (x2 : Int32) (x3 : Int32) (x4 : Int32) (x5 : Int32) (x6 : Int32) (σ : fk_T) (k : Int32 → Int32 → Int32 → Int32 → Int32 → Int32 → fk_T → Option (Int32 × fk_T)), (∀ (x1 : Int32) (x2 : Int32) (x3 : Int32) (x4 : Int32) (x5 : Int32) (x6 : Int32) (σ : fk_T), af cx ρi 132 [some (.ref 0), some (.int x1), some (.int x2), some (.int x3), some (.int x4), some (.int x5), some (.int x6)] [] (hp σ) (k x1 x2 x3 x4 x5 x6 σ)) → af cx ρi 45 [some (.ref 0), some (.int x1), some (.int x2), some (.int x3), some (.int x4), some (.int x5), some (.int x6)] [] (hp σ) (L_X4_setWith_45 fu x1 x2 x3 x4 x5 x6 σ k) := by
  intro fu
  induction fu with
  | zero => intros; exact af_none
  | succ fu ih45 =>
    intro x1 x2 x3 x4 x5 x6 σ k hk45
    rw [L_X4_setWith_45]
    refine af_iload K 47 dX4_setWith_45 rfl rfl ?_
    refine af_aload_n K 48 dX4_setWith_47 rfl rfl ?_
    refine af_get K 51 dX4_setWith_48 rfl fl_X4_10 (Nat.le_of_ble_eq_true rfl) rfl rfl ?_
    refine af_get K 54 dX4_setWith_51 rfl fl_X4_142 (Nat.le_of_ble_eq_true rfl) rfl rfl ?_
    refine af_icmp_ge K 57 132 dX4_setWith_54 rfl rfl (fun _ => ?_) (fun _ => ?_)
    · refine af_lm [true, true, true, true, true, true, true] rfl ?_
      exact hk45 _ _ _ _ _ _ _
    · refine af_iload K 59 dX4_setWith_57 rfl rfl ?_
      refine af_iload_n K 60 dX4_setWith_59 rfl rfl ?_
      refine af_icmp_ne K 63 66 dX4_setWith_60 rfl rfl (fun _ => ?_) (fun _ => ?_)
      · refine af_aload_n K 67 dX4_setWith_66 rfl rfl ?_
        refine af_get K 70 dX4_setWith_67 rfl fl_X4_16 (Nat.le_of_ble_eq_true rfl) rfl rfl ?_
        refine af_aload_n K 71 dX4_setWith_70 rfl rfl ?_
        refine af_get K 74 dX4_setWith_71 rfl fl_X4_10 (Nat.le_of_ble_eq_true rfl) rfl rfl ?_
        refine af_callV_v K (b := 6) (vs := [.ref 1]) mv_X0_become lk_328 ((hp_at _ (Nat.le_of_ble_eq_true rfl)).trans rfl) rfl 77 dX4_setWith_74 rfl rfl rfl rfl (A_X0_become _ _ 6 (Or.inr (Or.inl rfl)) 1 (Or.inl rfl) σ) rfl (fun q6 => ?_)
        refine af_aload_n K 78 dX4_setWith_77 rfl rfl ?_
        refine af_get K 81 dX4_setWith_78 rfl fl_X4_16 (Nat.le_of_ble_eq_true rfl) rfl rfl ?_
        refine af_get K 84 dX4_setWith_81 rfl fl_X4_65 (Nat.le_of_ble_eq_true rfl) rfl rfl ?_
        refine af_iload_n K 85 dX4_setWith_84 rfl rfl ?_
        refine af_bipush K 87 dX4_setWith_85 rfl cs_bipush_10 ?_
        refine af_iload_n K 88 dX4_setWith_87 rfl rfl ?_
        refine af_imul K 89 dX4_setWith_88 rfl ?_
        refine af_iload K 91 dX4_setWith_89 rfl rfl ?_
        refine af_iadd K 92 dX4_setWith_91 rfl ?_
        refine af_iast K 93 dX4_setWith_92 rfl (Nat.le_of_ble_eq_true rfl) (fun _ _ => rfl) (fun s7 => ?_)
        refine af_aload_n K 94 dX4_setWith_93 rfl rfl ?_
        refine af_get K 97 dX4_setWith_94 rfl fl_X4_16 (Nat.le_of_ble_eq_true rfl) rfl rfl ?_
        refine af_iload_n K 98 dX4_setWith_97 rfl rfl ?_
        refine af_callV_v K (b := 6) (vs := [.int x3]) mv_X0_passDays lk_274 ((hp_at _ (Nat.le_of_ble_eq_true rfl)).trans rfl) rfl 101 dX4_setWith_98 rfl rfl rfl rfl (A_X0_passDays _ _ 6 (Or.inr (Or.inl rfl)) x3 s7) rfl (fun q8 => ?_)
        refine af_aload_n K 102 dX4_setWith_101 rfl rfl ?_
        refine af_get K 105 dX4_setWith_102 rfl fl_X4_16 (Nat.le_of_ble_eq_true rfl) rfl rfl ?_
        refine af_get K 108 dX4_setWith_105 rfl fl_X4_119 (Nat.le_of_ble_eq_true rfl) rfl rfl ?_
        refine af_iload K 110 dX4_setWith_108 rfl rfl ?_
        refine af_icmp_le K 113 126 dX4_setWith_110 rfl rfl (fun _ => ?_) (fun _ => ?_)
        · refine af_iincB K 129 (fun yy => [some (.ref 0), some (.int x1), some (.int x2), some (.int x3), some (.int x4), some (.int x5), some (.int yy)]) dX4_setWith_126 rfl (by rw [hN]; exact Nat.le_of_ble_eq_true rfl) rfl cs_iconst_1 (fun _ => rfl) (fun y9 => ?_)
          refine af_goto K 45 dX4_setWith_129 rfl ?_
          refine af_lm [true, true, true, true, true, true, true] rfl ?_
          exact ih45 _ _ _ _ _ _ _ _ hk45
        · refine af_aload_n K 114 dX4_setWith_113 rfl rfl ?_
          refine af_get K 117 dX4_setWith_114 rfl fl_X4_16 (Nat.le_of_ble_eq_true rfl) rfl rfl ?_
          refine af_get K 120 dX4_setWith_117 rfl fl_X4_119 (Nat.le_of_ble_eq_true rfl) rfl rfl ?_
          refine af_Bi (fun y10 => ?_)
          refine af_istore K 122 [some (.ref 0), some (.int x1), some (.int x2), some (.int x3), some (.int x4), some (.int y10), some (.int x6)] dX4_setWith_120 rfl (by rw [hN]; exact Nat.le_of_ble_eq_true rfl) rfl ?_
          refine af_iload K 124 dX4_setWith_122 rfl rfl ?_
          refine af_istore K 126 [some (.ref 0), some (.int x1), some (.int x2), some (.int x3), some (.int x6), some (.int y10), some (.int x6)] dX4_setWith_124 rfl (by rw [hN]; exact Nat.le_of_ble_eq_true rfl) rfl ?_
          refine af_iincB K 129 (fun yy => [some (.ref 0), some (.int x1), some (.int x2), some (.int x3), some (.int x6), some (.int y10), some (.int yy)]) dX4_setWith_126 rfl (by rw [hN]; exact Nat.le_of_ble_eq_true rfl) rfl cs_iconst_1 (fun _ => rfl) (fun y11 => ?_)
          refine af_goto K 45 dX4_setWith_129 rfl ?_
          refine af_lm [true, true, true, true, true, true, true] rfl ?_
          exact ih45 _ _ _ _ _ _ _ _ hk45
      · refine af_goto K 126 dX4_setWith_63 rfl ?_
        refine af_iincB K 129 (fun yy => [some (.ref 0), some (.int x1), some (.int x2), some (.int x3), some (.int x4), some (.int x5), some (.int yy)]) dX4_setWith_126 rfl (by rw [hN]; exact Nat.le_of_ble_eq_true rfl) rfl cs_iconst_1 (fun _ => rfl) (fun y12 => ?_)
        refine af_goto K 45 dX4_setWith_129 rfl ?_
        refine af_lm [true, true, true, true, true, true, true] rfl ?_
        exact ih45 _ _ _ _ _ _ _ _ hk45
set_option maxRecDepth 100000 in
set_option maxHeartbeats 4000000 in
theorem A_X4_setWith (X : aw_X) (l : Launch) (x1 : Int32) (x2 : Int32) (x3 : Int32) (σ : fk_T) : af_G X l mX4_setWith [.ref 0, .int x1, .int x2, .int x3] (hp σ) ρi (F_X4_setWith x1 x2 x3 σ) := by
  refine af_mk (by decide) rfl (fun q _ => aw_oki q) [some (.ref 0), some (.int x1), some (.int x2), some (.int x3), none, none, none] rfl ?_
  rintro cx rfl rfl hN K
  replace hN : aw_nL cx = 7 := hN
  replace K : aw_K cx cX4_setWith RX4 rX4_setWith := K
  unfold F_X4_setWith
  refine af_iload_n K 1 dX4_setWith_0 rfl rfl ?_
  refine af_iconst K 2 dX4_setWith_1 rfl cs_iconst_0 ?_
  refine af_iconst K 3 dX4_setWith_2 rfl cs_iconst_5 ?_
  refine af_callS_z K (vs := [.int x1, .int 0, .int 5]) ms_X4_within lk_169 6 dX4_setWith_3 rfl rfl rfl rfl (A_X4_within _ _ x1 0 5 σ) rfl (fun q1 => ?_)
  refine af_if_eq K 9 30 dX4_setWith_6 rfl rfl (fun _ => ?_) (fun _ => ?_)
  · refine af_aload_n K 31 dX4_setWith_30 rfl rfl ?_
    refine af_iconst K 32 dX4_setWith_31 rfl cs_iconst_0 ?_
    refine af_callV_i K (b := 0) (vs := [.int 0]) mv_X4_found lk_172 ((hp_at _ (Nat.le_of_ble_eq_true rfl)).trans rfl) rfl 35 dX4_setWith_32 rfl rfl rfl rfl (A_X4_found _ _ 0 q1.2) rfl (fun q2 => ?_)
    exact af_reti K dX4_setWith_35
  · refine af_aload_n K 10 dX4_setWith_9 rfl rfl ?_
    refine af_get K 13 dX4_setWith_10 rfl fl_X4_10 (Nat.le_of_ble_eq_true rfl) rfl rfl ?_
    refine af_iload_n K 14 dX4_setWith_13 rfl rfl ?_
    refine af_callV_z K (b := 1) (vs := [.int x2]) mv_X0_has lk_201 ((hp_at _ (Nat.le_of_ble_eq_true rfl)).trans rfl) rfl 17 dX4_setWith_14 rfl rfl rfl rfl (A_X0_has _ _ 1 (Or.inl rfl) x2 q1.2) rfl (fun q3 => ?_)
    refine af_if_eq K 20 30 dX4_setWith_17 rfl rfl (fun _ => ?_) (fun _ => ?_)
    · refine af_aload_n K 31 dX4_setWith_30 rfl rfl ?_
      refine af_iconst K 32 dX4_setWith_31 rfl cs_iconst_0 ?_
      refine af_callV_i K (b := 0) (vs := [.int 0]) mv_X4_found lk_172 ((hp_at _ (Nat.le_of_ble_eq_true rfl)).trans rfl) rfl 35 dX4_setWith_32 rfl rfl rfl rfl (A_X4_found _ _ 0 q3.2) rfl (fun q4 => ?_)
      exact af_reti K dX4_setWith_35
    · refine af_iload_n K 21 dX4_setWith_20 rfl rfl ?_
      refine af_iconst K 22 dX4_setWith_21 rfl cs_iconst_0 ?_
      refine af_bipush K 24 dX4_setWith_22 rfl cs_bipush_60 ?_
      refine af_callS_z K (vs := [.int x3, .int 0, .int 60]) ms_X4_within lk_169 27 dX4_setWith_24 rfl rfl rfl rfl (A_X4_within _ _ x3 0 60 q3.2) rfl (fun q5 => ?_)
      refine af_if_ne K 30 36 dX4_setWith_27 rfl rfl (fun _ => ?_) (fun _ => ?_)
      · refine af_iconst K 37 dX4_setWith_36 rfl cs_iconst_m1 ?_
        refine af_istore K 39 [some (.ref 0), some (.int x1), some (.int x2), some (.int x3), some (.int (-1)), none, none] dX4_setWith_37 rfl (by rw [hN]; exact Nat.le_of_ble_eq_true rfl) rfl ?_
        refine af_iconst K 40 dX4_setWith_39 rfl cs_iconst_m1 ?_
        refine af_istore K 42 [some (.ref 0), some (.int x1), some (.int x2), some (.int x3), some (.int (-1)), some (.int (-1)), none] dX4_setWith_40 rfl (by rw [hN]; exact Nat.le_of_ble_eq_true rfl) rfl ?_
        refine af_iconst K 43 dX4_setWith_42 rfl cs_iconst_0 ?_
        refine af_istore K 45 [some (.ref 0), some (.int x1), some (.int x2), some (.int x3), some (.int (-1)), some (.int (-1)), some (.int 0)] dX4_setWith_43 rfl (by rw [hN]; exact Nat.le_of_ble_eq_true rfl) rfl ?_
        refine af_lm [true, true, true, true, true, true, true] rfl ?_
        refine W_X4_setWith_45 hN K  fk_N _ _ _ _ _ _ _ _ (fun y14 y15 y16 y17 y18 y19 s13 => ?_)
        refine af_iload K 134 dX4_setWith_132 rfl rfl ?_
        refine af_iconst K 135 dX4_setWith_134 rfl cs_iconst_m1 ?_
        refine af_icmp_ne K 138 146 dX4_setWith_135 rfl rfl (fun _ => ?_) (fun _ => ?_)
        · refine af_iload K 148 dX4_setWith_146 rfl rfl ?_
          exact af_reti K dX4_setWith_148
        · refine af_aload_n K 139 dX4_setWith_138 rfl rfl ?_
          refine af_iconst K 140 dX4_setWith_139 rfl cs_iconst_3 ?_
          refine af_callV_i K (b := 0) (vs := [.int 3]) mv_X4_found lk_172 ((hp_at _ (Nat.le_of_ble_eq_true rfl)).trans rfl) rfl 143 dX4_setWith_140 rfl rfl rfl rfl (A_X4_found _ _ 3 s13) rfl (fun q20 => ?_)
          refine af_goto K 148 dX4_setWith_143 rfl ?_
          exact af_reti K dX4_setWith_148
      · refine af_aload_n K 31 dX4_setWith_30 rfl rfl ?_
        refine af_iconst K 32 dX4_setWith_31 rfl cs_iconst_0 ?_
        refine af_callV_i K (b := 0) (vs := [.int 0]) mv_X4_found lk_172 ((hp_at _ (Nat.le_of_ble_eq_true rfl)).trans rfl) rfl 35 dX4_setWith_32 rfl rfl rfl rfl (A_X4_found _ _ 0 q5.2) rfl (fun q21 => ?_)
        exact af_reti K dX4_setWith_35
def L_X4_dearestTrait_9  : Nat → Int32 → Int32 → Int32 → Int32 → Int32 → Int32 → fk_T → (Int32 → Int32 → Int32 → Int32 → Int32 → Int32 → fk_T → Option (Int32 × fk_T)) → Option (Int32 × fk_T)
  | 0, _, _, _, _, _, _, _, _ => none
  | fu + 1, x1, x2, x3, x4, x5, x6, σ, k => if x2 < x6 then (k x1 x2 x3 x4 x5 x6 σ) else ((F_X0_become 6 1 σ).bind (fun q1 => fk_S q1 8 48 x1 x6 (fun s2 => (F_X0_passDays 6 x3 s2).bind (fun q3 => if (q3.1 6 1) ≤ x5 then (fk_B (x6 + 1) (fun y4 => L_X4_dearestTrait_9 fu x1 x2 x3 x4 x5 y4 q3 k)) else (fk_B (q3.1 6 1) (fun y5 => fk_B (x6 + 1) (fun y6 => L_X4_dearestTrait_9 fu x1 x2 x3 x6 y5 y6 q3 k)))))))
def F_X4_dearestTrait (x1 : Int32) (x2 : Int32) (x3 : Int32) (σ : fk_T) : Option (Int32 × fk_T) := L_X4_dearestTrait_9 fk_N x1 x2 x3 0 (-1) 0 σ (fun y8 y9 y10 y11 y12 y13 s7 => some (y11, s7))
set_option maxRecDepth 100000 in
set_option maxHeartbeats 4000000 in
theorem W_X4_dearestTrait_9 {cx : aw_C} (hN : aw_nL cx = 7) (K : aw_K cx cX4_dearestTrait RX4 rX4_dearestTrait)  : ∀ (fu : Nat) (x1 : Int32) (x2 : Int32) (x3 : Int32) (x4 : Int32) (x5 : Int32) (x6 : Int32) (σ : fk_T) (k : Int32 → Int32 → Int32 → Int32 → Int32 → Int32 → fk_T → Option (Int32 × fk_T)), (∀ (x1 : Int32) (x2 : Int32) (x3 : Int32) (x4 : Int32) (x5 : Int32) (x6 : Int32) (σ : fk_T), af cx ρi 76 [some (.ref 0), some (.int x1), some (.int x2), some (.int x3), some (.int x4), some (.int x5), some (.int x6)] [] (hp σ) (k x1 x2 x3 x4 x5 x6 σ)) → af cx ρi 9 [some (.ref 0), some (.int x1), some (.int x2), some (.int x3), some (.int x4), some (.int x5), some (.int x6)] [] (hp σ) (L_X4_dearestTrait_9 fu x1 x2 x3 x4 x5 x6 σ k) := by
  intro fu
  induction fu with
  | zero => intros; exact af_none
  | succ fu ih9 =>
    intro x1 x2 x3 x4 x5 x6 σ k hk9
    rw [L_X4_dearestTrait_9]
    refine af_iload K 11 dX4_dearestTrait_9 rfl rfl ?_
    refine af_iload_n K 12 dX4_dearestTrait_11 rfl rfl ?_
    refine af_icmp_gt K 15 76 dX4_dearestTrait_12 rfl rfl (fun _ => ?_) (fun _ => ?_)
    · refine af_lm [true, true, true, true, true, true, true] rfl ?_
      exact hk9 _ _ _ _ _ _ _
    · refine af_aload_n K 16 dX4_dearestTrait_15 rfl rfl ?_
      refine af_get K 19 dX4_dearestTrait_16 rfl fl_X4_16 (Nat.le_of_ble_eq_true rfl) rfl rfl ?_
      refine af_aload_n K 20 dX4_dearestTrait_19 rfl rfl ?_
      refine af_get K 23 dX4_dearestTrait_20 rfl fl_X4_10 (Nat.le_of_ble_eq_true rfl) rfl rfl ?_
      refine af_callV_v K (b := 6) (vs := [.ref 1]) mv_X0_become lk_328 ((hp_at _ (Nat.le_of_ble_eq_true rfl)).trans rfl) rfl 26 dX4_dearestTrait_23 rfl rfl rfl rfl (A_X0_become _ _ 6 (Or.inr (Or.inl rfl)) 1 (Or.inl rfl) σ) rfl (fun q1 => ?_)
      refine af_aload_n K 27 dX4_dearestTrait_26 rfl rfl ?_
      refine af_get K 30 dX4_dearestTrait_27 rfl fl_X4_16 (Nat.le_of_ble_eq_true rfl) rfl rfl ?_
      refine af_get K 33 dX4_dearestTrait_30 rfl fl_X4_87 (Nat.le_of_ble_eq_true rfl) rfl rfl ?_
      refine af_iload_n K 34 dX4_dearestTrait_33 rfl rfl ?_
      refine af_iload K 36 dX4_dearestTrait_34 rfl rfl ?_
      refine af_iast K 37 dX4_dearestTrait_36 rfl (Nat.le_of_ble_eq_true rfl) (fun _ _ => rfl) (fun s2 => ?_)
      refine af_aload_n K 38 dX4_dearestTrait_37 rfl rfl ?_
      refine af_get K 41 dX4_dearestTrait_38 rfl fl_X4_16 (Nat.le_of_ble_eq_true rfl) rfl rfl ?_
      refine af_iload_n K 42 dX4_dearestTrait_41 rfl rfl ?_
      refine af_callV_v K (b := 6) (vs := [.int x3]) mv_X0_passDays lk_274 ((hp_at _ (Nat.le_of_ble_eq_true rfl)).trans rfl) rfl 45 dX4_dearestTrait_42 rfl rfl rfl rfl (A_X0_passDays _ _ 6 (Or.inr (Or.inl rfl)) x3 s2) rfl (fun q3 => ?_)
      refine af_aload_n K 46 dX4_dearestTrait_45 rfl rfl ?_
      refine af_get K 49 dX4_dearestTrait_46 rfl fl_X4_16 (Nat.le_of_ble_eq_true rfl) rfl rfl ?_
      refine af_get K 52 dX4_dearestTrait_49 rfl fl_X4_119 (Nat.le_of_ble_eq_true rfl) rfl rfl ?_
      refine af_iload K 54 dX4_dearestTrait_52 rfl rfl ?_
      refine af_icmp_le K 57 70 dX4_dearestTrait_54 rfl rfl (fun _ => ?_) (fun _ => ?_)
      · refine af_iincB K 73 (fun yy => [some (.ref 0), some (.int x1), some (.int x2), some (.int x3), some (.int x4), some (.int x5), some (.int yy)]) dX4_dearestTrait_70 rfl (by rw [hN]; exact Nat.le_of_ble_eq_true rfl) rfl cs_iconst_1 (fun _ => rfl) (fun y4 => ?_)
        refine af_goto K 9 dX4_dearestTrait_73 rfl ?_
        refine af_lm [true, true, true, true, true, true, true] rfl ?_
        exact ih9 _ _ _ _ _ _ _ _ hk9
      · refine af_aload_n K 58 dX4_dearestTrait_57 rfl rfl ?_
        refine af_get K 61 dX4_dearestTrait_58 rfl fl_X4_16 (Nat.le_of_ble_eq_true rfl) rfl rfl ?_
        refine af_get K 64 dX4_dearestTrait_61 rfl fl_X4_119 (Nat.le_of_ble_eq_true rfl) rfl rfl ?_
        refine af_Bi (fun y5 => ?_)
        refine af_istore K 66 [some (.ref 0), some (.int x1), some (.int x2), some (.int x3), some (.int x4), some (.int y5), some (.int x6)] dX4_dearestTrait_64 rfl (by rw [hN]; exact Nat.le_of_ble_eq_true rfl) rfl ?_
        refine af_iload K 68 dX4_dearestTrait_66 rfl rfl ?_
        refine af_istore K 70 [some (.ref 0), some (.int x1), some (.int x2), some (.int x3), some (.int x6), some (.int y5), some (.int x6)] dX4_dearestTrait_68 rfl (by rw [hN]; exact Nat.le_of_ble_eq_true rfl) rfl ?_
        refine af_iincB K 73 (fun yy => [some (.ref 0), some (.int x1), some (.int x2), some (.int x3), some (.int x6), some (.int y5), some (.int yy)]) dX4_dearestTrait_70 rfl (by rw [hN]; exact Nat.le_of_ble_eq_true rfl) rfl cs_iconst_1 (fun _ => rfl) (fun y6 => ?_)
        refine af_goto K 9 dX4_dearestTrait_73 rfl ?_
        refine af_lm [true, true, true, true, true, true, true] rfl ?_
        exact ih9 _ _ _ _ _ _ _ _ hk9
set_option maxRecDepth 100000 in
set_option maxHeartbeats 4000000 in
theorem A_X4_dearestTrait (X : aw_X) (l : Launch) (x1 : Int32) (x2 : Int32) (x3 : Int32) (σ : fk_T) : af_G X l mX4_dearestTrait [.ref 0, .int x1, .int x2, .int x3] (hp σ) ρi (F_X4_dearestTrait x1 x2 x3 σ) := by
  refine af_mk (by decide) rfl (fun q _ => aw_oki q) [some (.ref 0), some (.int x1), some (.int x2), some (.int x3), none, none, none] rfl ?_
  rintro cx rfl rfl hN K
  replace hN : aw_nL cx = 7 := hN
  replace K : aw_K cx cX4_dearestTrait RX4 rX4_dearestTrait := K
  unfold F_X4_dearestTrait
  refine af_iconst K 1 dX4_dearestTrait_0 rfl cs_iconst_0 ?_
  refine af_istore K 3 [some (.ref 0), some (.int x1), some (.int x2), some (.int x3), some (.int 0), none, none] dX4_dearestTrait_1 rfl (by rw [hN]; exact Nat.le_of_ble_eq_true rfl) rfl ?_
  refine af_iconst K 4 dX4_dearestTrait_3 rfl cs_iconst_m1 ?_
  refine af_istore K 6 [some (.ref 0), some (.int x1), some (.int x2), some (.int x3), some (.int 0), some (.int (-1)), none] dX4_dearestTrait_4 rfl (by rw [hN]; exact Nat.le_of_ble_eq_true rfl) rfl ?_
  refine af_iconst K 7 dX4_dearestTrait_6 rfl cs_iconst_0 ?_
  refine af_istore K 9 [some (.ref 0), some (.int x1), some (.int x2), some (.int x3), some (.int 0), some (.int (-1)), some (.int 0)] dX4_dearestTrait_7 rfl (by rw [hN]; exact Nat.le_of_ble_eq_true rfl) rfl ?_
  refine af_lm [true, true, true, true, true, true, true] rfl ?_
  refine W_X4_dearestTrait_9 hN K  fk_N _ _ _ _ _ _ _ _ (fun y8 y9 y10 y11 y12 y13 s7 => ?_)
  refine af_iload K 78 dX4_dearestTrait_76 rfl rfl ?_
  exact af_reti K dX4_dearestTrait_78
def F_X4_heatFor (x1 : Int32) (x2 : Int32) (σ : fk_T) : Option (Int32 × fk_T) := (F_X0_has 1 x1 σ).bind (fun q1 => if (fk_b q1.1) = 0 then ((F_X4_found 0 q1.2).bind (fun q2 => some (q2.1, q2.2))) else ((F_X4_within x2 0 60 q1.2).bind (fun q3 => if (fk_b q3.1) = 0 then ((F_X4_found 0 q3.2).bind (fun q5 => some (q5.1, q5.2))) else ((F_X4_dearestTrait (8 + x1) 99 x2 q3.2).bind (fun q4 => some (q4.1, q4.2))))))
set_option maxRecDepth 100000 in
set_option maxHeartbeats 4000000 in
theorem A_X4_heatFor (X : aw_X) (l : Launch) (x1 : Int32) (x2 : Int32) (σ : fk_T) : af_G X l mX4_heatFor [.ref 0, .int x1, .int x2] (hp σ) ρi (F_X4_heatFor x1 x2 σ) := by
  refine af_mk (by decide) rfl (fun q _ => aw_oki q) [some (.ref 0), some (.int x1), some (.int x2)] rfl ?_
  rintro cx rfl rfl hN K
  replace hN : aw_nL cx = 3 := hN
  replace K : aw_K cx cX4_heatFor RX4 rX4_heatFor := K
  unfold F_X4_heatFor
  refine af_aload_n K 1 dX4_heatFor_0 rfl rfl ?_
  refine af_get K 4 dX4_heatFor_1 rfl fl_X4_10 (Nat.le_of_ble_eq_true rfl) rfl rfl ?_
  refine af_iload_n K 5 dX4_heatFor_4 rfl rfl ?_
  refine af_callV_z K (b := 1) (vs := [.int x1]) mv_X0_has lk_201 ((hp_at _ (Nat.le_of_ble_eq_true rfl)).trans rfl) rfl 8 dX4_heatFor_5 rfl rfl rfl rfl (A_X0_has _ _ 1 (Or.inl rfl) x1 σ) rfl (fun q1 => ?_)
  refine af_if_eq K 11 21 dX4_heatFor_8 rfl rfl (fun _ => ?_) (fun _ => ?_)
  · refine af_aload_n K 22 dX4_heatFor_21 rfl rfl ?_
    refine af_iconst K 23 dX4_heatFor_22 rfl cs_iconst_0 ?_
    refine af_callV_i K (b := 0) (vs := [.int 0]) mv_X4_found lk_172 ((hp_at _ (Nat.le_of_ble_eq_true rfl)).trans rfl) rfl 26 dX4_heatFor_23 rfl rfl rfl rfl (A_X4_found _ _ 0 q1.2) rfl (fun q2 => ?_)
    exact af_reti K dX4_heatFor_26
  · refine af_iload_n K 12 dX4_heatFor_11 rfl rfl ?_
    refine af_iconst K 13 dX4_heatFor_12 rfl cs_iconst_0 ?_
    refine af_bipush K 15 dX4_heatFor_13 rfl cs_bipush_60 ?_
    refine af_callS_z K (vs := [.int x2, .int 0, .int 60]) ms_X4_within lk_169 18 dX4_heatFor_15 rfl rfl rfl rfl (A_X4_within _ _ x2 0 60 q1.2) rfl (fun q3 => ?_)
    refine af_if_ne K 21 27 dX4_heatFor_18 rfl rfl (fun _ => ?_) (fun _ => ?_)
    · refine af_aload_n K 28 dX4_heatFor_27 rfl rfl ?_
      refine af_bipush K 30 dX4_heatFor_28 rfl cs_bipush_8 ?_
      refine af_iload_n K 31 dX4_heatFor_30 rfl rfl ?_
      refine af_iadd K 32 dX4_heatFor_31 rfl ?_
      refine af_bipush K 34 dX4_heatFor_32 rfl cs_bipush_99 ?_
      refine af_iload_n K 35 dX4_heatFor_34 rfl rfl ?_
      refine af_callV_i K (b := 0) (vs := [.int (8 + x1), .int 99, .int x2]) mv_X4_dearestTrait lk_359 ((hp_at _ (Nat.le_of_ble_eq_true rfl)).trans rfl) rfl 38 dX4_heatFor_35 rfl rfl rfl rfl (A_X4_dearestTrait _ _ (8 + x1) 99 x2 q3.2) rfl (fun q4 => ?_)
      exact af_reti K dX4_heatFor_38
    · refine af_aload_n K 22 dX4_heatFor_21 rfl rfl ?_
      refine af_iconst K 23 dX4_heatFor_22 rfl cs_iconst_0 ?_
      refine af_callV_i K (b := 0) (vs := [.int 0]) mv_X4_found lk_172 ((hp_at _ (Nat.le_of_ble_eq_true rfl)).trans rfl) rfl 26 dX4_heatFor_23 rfl rfl rfl rfl (A_X4_found _ _ 0 q3.2) rfl (fun q5 => ?_)
      exact af_reti K dX4_heatFor_26
def F_X4_kindFor (x1 : Int32) (x2 : Int32) (σ : fk_T) : Option (Int32 × fk_T) := (F_X0_has 1 x1 σ).bind (fun q1 => if (fk_b q1.1) = 0 then ((F_X4_found 0 q1.2).bind (fun q2 => some (q2.1, q2.2))) else ((F_X4_within x2 0 60 q1.2).bind (fun q3 => if (fk_b q3.1) = 0 then ((F_X4_found 0 q3.2).bind (fun q5 => some (q5.1, q5.2))) else ((F_X4_dearestTrait (0 + x1) 6 x2 q3.2).bind (fun q4 => some (q4.1, q4.2))))))
set_option maxRecDepth 100000 in
set_option maxHeartbeats 4000000 in
theorem A_X4_kindFor (X : aw_X) (l : Launch) (x1 : Int32) (x2 : Int32) (σ : fk_T) : af_G X l mX4_kindFor [.ref 0, .int x1, .int x2] (hp σ) ρi (F_X4_kindFor x1 x2 σ) := by
  refine af_mk (by decide) rfl (fun q _ => aw_oki q) [some (.ref 0), some (.int x1), some (.int x2)] rfl ?_
  rintro cx rfl rfl hN K
  replace hN : aw_nL cx = 3 := hN
  replace K : aw_K cx cX4_kindFor RX4 rX4_kindFor := K
  unfold F_X4_kindFor
  refine af_aload_n K 1 dX4_kindFor_0 rfl rfl ?_
  refine af_get K 4 dX4_kindFor_1 rfl fl_X4_10 (Nat.le_of_ble_eq_true rfl) rfl rfl ?_
  refine af_iload_n K 5 dX4_kindFor_4 rfl rfl ?_
  refine af_callV_z K (b := 1) (vs := [.int x1]) mv_X0_has lk_201 ((hp_at _ (Nat.le_of_ble_eq_true rfl)).trans rfl) rfl 8 dX4_kindFor_5 rfl rfl rfl rfl (A_X0_has _ _ 1 (Or.inl rfl) x1 σ) rfl (fun q1 => ?_)
  refine af_if_eq K 11 21 dX4_kindFor_8 rfl rfl (fun _ => ?_) (fun _ => ?_)
  · refine af_aload_n K 22 dX4_kindFor_21 rfl rfl ?_
    refine af_iconst K 23 dX4_kindFor_22 rfl cs_iconst_0 ?_
    refine af_callV_i K (b := 0) (vs := [.int 0]) mv_X4_found lk_172 ((hp_at _ (Nat.le_of_ble_eq_true rfl)).trans rfl) rfl 26 dX4_kindFor_23 rfl rfl rfl rfl (A_X4_found _ _ 0 q1.2) rfl (fun q2 => ?_)
    exact af_reti K dX4_kindFor_26
  · refine af_iload_n K 12 dX4_kindFor_11 rfl rfl ?_
    refine af_iconst K 13 dX4_kindFor_12 rfl cs_iconst_0 ?_
    refine af_bipush K 15 dX4_kindFor_13 rfl cs_bipush_60 ?_
    refine af_callS_z K (vs := [.int x2, .int 0, .int 60]) ms_X4_within lk_169 18 dX4_kindFor_15 rfl rfl rfl rfl (A_X4_within _ _ x2 0 60 q1.2) rfl (fun q3 => ?_)
    refine af_if_ne K 21 27 dX4_kindFor_18 rfl rfl (fun _ => ?_) (fun _ => ?_)
    · refine af_aload_n K 28 dX4_kindFor_27 rfl rfl ?_
      refine af_iconst K 29 dX4_kindFor_28 rfl cs_iconst_0 ?_
      refine af_iload_n K 30 dX4_kindFor_29 rfl rfl ?_
      refine af_iadd K 31 dX4_kindFor_30 rfl ?_
      refine af_bipush K 33 dX4_kindFor_31 rfl cs_bipush_6 ?_
      refine af_iload_n K 34 dX4_kindFor_33 rfl rfl ?_
      refine af_callV_i K (b := 0) (vs := [.int (0 + x1), .int 6, .int x2]) mv_X4_dearestTrait lk_359 ((hp_at _ (Nat.le_of_ble_eq_true rfl)).trans rfl) rfl 37 dX4_kindFor_34 rfl rfl rfl rfl (A_X4_dearestTrait _ _ (0 + x1) 6 x2 q3.2) rfl (fun q4 => ?_)
      exact af_reti K dX4_kindFor_37
    · refine af_aload_n K 22 dX4_kindFor_21 rfl rfl ?_
      refine af_iconst K 23 dX4_kindFor_22 rfl cs_iconst_0 ?_
      refine af_callV_i K (b := 0) (vs := [.int 0]) mv_X4_found lk_172 ((hp_at _ (Nat.le_of_ble_eq_true rfl)).trans rfl) rfl 26 dX4_kindFor_23 rfl rfl rfl rfl (A_X4_found _ _ 0 q3.2) rfl (fun q5 => ?_)
      exact af_reti K dX4_kindFor_26
def L_X4_clayFor_35  : Nat → Int32 → Int32 → Int32 → fk_T → (Int32 → Int32 → Int32 → fk_T → Option (Int32 × fk_T)) → Option (Int32 × fk_T)
  | 0, _, _, _, _, _ => none
  | fu + 1, x2, x3, x4, σ, k => if 20 < x4 then (k x2 x3 x4 σ) else ((F_X0_become 6 1 σ).bind (fun q5 => fk_B (fk_w q5 6 (upd (q5.1 6) 0 x4)) (fun s6 => (F_X0_passDays 6 x2 s6).bind (fun q7 => fk_A (q7.1 8) 48 x3 (fun y8 => fk_A (q7.1 3) 48 x3 (fun y9 => if y8 = y9 then (some (x4, q7)) else (fk_B (x4 + 1) (fun y10 => L_X4_clayFor_35 fu x2 x3 y10 q7 k))))))))
def F_X4_clayFor (x1 : Int32) (x2 : Int32) (σ : fk_T) : Option (Int32 × fk_T) := (F_X0_has 1 x1 σ).bind (fun q1 => if (fk_b q1.1) = 0 then ((F_X4_found 0 q1.2).bind (fun q2 => some (q2.1, q2.2))) else ((F_X4_within x2 0 60 q1.2).bind (fun q3 => if (fk_b q3.1) = 0 then ((F_X4_found 0 q3.2).bind (fun q16 => some (q16.1, q16.2))) else (fk_B (40 + x1) (fun y4 => L_X4_clayFor_35 fk_N x2 y4 1 q3.2 (fun y12 y13 y14 s11 => (F_X4_found 3 s11).bind (fun q15 => some (q15.1, q15.2))))))))
set_option maxRecDepth 100000 in
set_option maxHeartbeats 4000000 in
theorem W_X4_clayFor_35 {cx : aw_C} (hN : aw_nL cx = 5) (K : aw_K cx cX4_clayFor RX4 rX4_clayFor)  : ∀ (fu : Nat) (x2 : Int32) (x3 : Int32) (x4 : Int32) (σ : fk_T) (k : Int32 → Int32 → Int32 → fk_T → Option (Int32 × fk_T)), (∀ (x2 : Int32) (x3 : Int32) (x4 : Int32) (σ : fk_T), af cx ρi 100 [some (.ref 0), none, some (.int x2), some (.int x3), some (.int x4)] [] (hp σ) (k x2 x3 x4 σ)) → af cx ρi 35 [some (.ref 0), none, some (.int x2), some (.int x3), some (.int x4)] [] (hp σ) (L_X4_clayFor_35 fu x2 x3 x4 σ k) := by
  intro fu
  induction fu with
  | zero => intros; exact af_none
  | succ fu ih35 =>
    intro x2 x3 x4 σ k hk35
    rw [L_X4_clayFor_35]
    refine af_iload K 37 dX4_clayFor_35 rfl rfl ?_
    refine af_bipush K 39 dX4_clayFor_37 rfl cs_bipush_20 ?_
    refine af_icmp_gt K 42 100 dX4_clayFor_39 rfl rfl (fun _ => ?_) (fun _ => ?_)
    · refine af_lm [true, false, true, true, true] rfl ?_
      exact hk35 _ _ _ _
    · refine af_aload_n K 43 dX4_clayFor_42 rfl rfl ?_
      refine af_get K 46 dX4_clayFor_43 rfl fl_X4_16 (Nat.le_of_ble_eq_true rfl) rfl rfl ?_
      refine af_aload_n K 47 dX4_clayFor_46 rfl rfl ?_
      refine af_get K 50 dX4_clayFor_47 rfl fl_X4_10 (Nat.le_of_ble_eq_true rfl) rfl rfl ?_
      refine af_callV_v K (b := 6) (vs := [.ref 1]) mv_X0_become lk_328 ((hp_at _ (Nat.le_of_ble_eq_true rfl)).trans rfl) rfl 53 dX4_clayFor_50 rfl rfl rfl rfl (A_X0_become _ _ 6 (Or.inr (Or.inl rfl)) 1 (Or.inl rfl) σ) rfl (fun q5 => ?_)
      refine af_aload_n K 54 dX4_clayFor_53 rfl rfl ?_
      refine af_get K 57 dX4_clayFor_54 rfl fl_X4_16 (Nat.le_of_ble_eq_true rfl) rfl rfl ?_
      refine af_iload K 59 dX4_clayFor_57 rfl rfl ?_
      refine af_put K 62 dX4_clayFor_59 rfl fp_X4_61 (Nat.le_of_ble_eq_true rfl) rfl (Nat.le_of_ble_eq_true rfl) rfl (fun s6 => ?_)
      refine af_aload_n K 63 dX4_clayFor_62 rfl rfl ?_
      refine af_get K 66 dX4_clayFor_63 rfl fl_X4_16 (Nat.le_of_ble_eq_true rfl) rfl rfl ?_
      refine af_iload_n K 67 dX4_clayFor_66 rfl rfl ?_
      refine af_callV_v K (b := 6) (vs := [.int x2]) mv_X0_passDays lk_274 ((hp_at _ (Nat.le_of_ble_eq_true rfl)).trans rfl) rfl 70 dX4_clayFor_67 rfl rfl rfl rfl (A_X0_passDays _ _ 6 (Or.inr (Or.inl rfl)) x2 s6) rfl (fun q7 => ?_)
      refine af_aload_n K 71 dX4_clayFor_70 rfl rfl ?_
      refine af_get K 74 dX4_clayFor_71 rfl fl_X4_16 (Nat.le_of_ble_eq_true rfl) rfl rfl ?_
      refine af_get K 77 dX4_clayFor_74 rfl fl_X4_87 (Nat.le_of_ble_eq_true rfl) rfl rfl ?_
      refine af_iload_n K 78 dX4_clayFor_77 rfl rfl ?_
      refine af_iald K 79 dX4_clayFor_78 rfl (Nat.le_of_ble_eq_true rfl) rfl (fun y8 => ?_)
      refine af_aload_n K 80 dX4_clayFor_79 rfl rfl ?_
      refine af_get K 83 dX4_clayFor_80 rfl fl_X4_10 (Nat.le_of_ble_eq_true rfl) rfl rfl ?_
      refine af_get K 86 dX4_clayFor_83 rfl fl_X4_87 (Nat.le_of_ble_eq_true rfl) rfl rfl ?_
      refine af_iload_n K 87 dX4_clayFor_86 rfl rfl ?_
      refine af_iald K 88 dX4_clayFor_87 rfl (Nat.le_of_ble_eq_true rfl) rfl (fun y9 => ?_)
      refine af_icmp_ne K 91 94 dX4_clayFor_88 rfl rfl (fun _ => ?_) (fun _ => ?_)
      · refine af_iincB K 97 (fun yy => [some (.ref 0), none, some (.int x2), some (.int x3), some (.int yy)]) dX4_clayFor_94 rfl (by rw [hN]; exact Nat.le_of_ble_eq_true rfl) rfl cs_iconst_1 (fun _ => rfl) (fun y10 => ?_)
        refine af_goto K 35 dX4_clayFor_97 rfl ?_
        refine af_lm [true, false, true, true, true] rfl ?_
        exact ih35 _ _ _ _ _ hk35
      · refine af_iload K 93 dX4_clayFor_91 rfl rfl ?_
        exact af_reti K dX4_clayFor_93
set_option maxRecDepth 100000 in
set_option maxHeartbeats 4000000 in
theorem A_X4_clayFor (X : aw_X) (l : Launch) (x1 : Int32) (x2 : Int32) (σ : fk_T) : af_G X l mX4_clayFor [.ref 0, .int x1, .int x2] (hp σ) ρi (F_X4_clayFor x1 x2 σ) := by
  refine af_mk (by decide) rfl (fun q _ => aw_oki q) [some (.ref 0), some (.int x1), some (.int x2), none, none] rfl ?_
  rintro cx rfl rfl hN K
  replace hN : aw_nL cx = 5 := hN
  replace K : aw_K cx cX4_clayFor RX4 rX4_clayFor := K
  unfold F_X4_clayFor
  refine af_aload_n K 1 dX4_clayFor_0 rfl rfl ?_
  refine af_get K 4 dX4_clayFor_1 rfl fl_X4_10 (Nat.le_of_ble_eq_true rfl) rfl rfl ?_
  refine af_iload_n K 5 dX4_clayFor_4 rfl rfl ?_
  refine af_callV_z K (b := 1) (vs := [.int x1]) mv_X0_has lk_201 ((hp_at _ (Nat.le_of_ble_eq_true rfl)).trans rfl) rfl 8 dX4_clayFor_5 rfl rfl rfl rfl (A_X0_has _ _ 1 (Or.inl rfl) x1 σ) rfl (fun q1 => ?_)
  refine af_if_eq K 11 21 dX4_clayFor_8 rfl rfl (fun _ => ?_) (fun _ => ?_)
  · refine af_aload_n K 22 dX4_clayFor_21 rfl rfl ?_
    refine af_iconst K 23 dX4_clayFor_22 rfl cs_iconst_0 ?_
    refine af_callV_i K (b := 0) (vs := [.int 0]) mv_X4_found lk_172 ((hp_at _ (Nat.le_of_ble_eq_true rfl)).trans rfl) rfl 26 dX4_clayFor_23 rfl rfl rfl rfl (A_X4_found _ _ 0 q1.2) rfl (fun q2 => ?_)
    exact af_reti K dX4_clayFor_26
  · refine af_iload_n K 12 dX4_clayFor_11 rfl rfl ?_
    refine af_iconst K 13 dX4_clayFor_12 rfl cs_iconst_0 ?_
    refine af_bipush K 15 dX4_clayFor_13 rfl cs_bipush_60 ?_
    refine af_callS_z K (vs := [.int x2, .int 0, .int 60]) ms_X4_within lk_169 18 dX4_clayFor_15 rfl rfl rfl rfl (A_X4_within _ _ x2 0 60 q1.2) rfl (fun q3 => ?_)
    refine af_if_ne K 21 27 dX4_clayFor_18 rfl rfl (fun _ => ?_) (fun _ => ?_)
    · refine af_bipush K 29 dX4_clayFor_27 rfl cs_bipush_40 ?_
      refine af_iload_n K 30 dX4_clayFor_29 rfl rfl ?_
      refine af_iadd K 31 dX4_clayFor_30 rfl ?_
      refine af_Bi (fun y4 => ?_)
      refine af_istore_n K 32 [some (.ref 0), some (.int x1), some (.int x2), some (.int y4), none] dX4_clayFor_31 rfl (by rw [hN]; exact Nat.le_of_ble_eq_true rfl) rfl ?_
      refine af_iconst K 33 dX4_clayFor_32 rfl cs_iconst_1 ?_
      refine af_istore K 35 [some (.ref 0), some (.int x1), some (.int x2), some (.int y4), some (.int 1)] dX4_clayFor_33 rfl (by rw [hN]; exact Nat.le_of_ble_eq_true rfl) rfl ?_
      refine af_lm [true, false, true, true, true] rfl ?_
      refine W_X4_clayFor_35 hN K  fk_N _ _ _ _ _ (fun y12 y13 y14 s11 => ?_)
      refine af_aload_n K 101 dX4_clayFor_100 rfl rfl ?_
      refine af_iconst K 102 dX4_clayFor_101 rfl cs_iconst_3 ?_
      refine af_callV_i K (b := 0) (vs := [.int 3]) mv_X4_found lk_172 ((hp_at _ (Nat.le_of_ble_eq_true rfl)).trans rfl) rfl 105 dX4_clayFor_102 rfl rfl rfl rfl (A_X4_found _ _ 3 s11) rfl (fun q15 => ?_)
      exact af_reti K dX4_clayFor_105
    · refine af_aload_n K 22 dX4_clayFor_21 rfl rfl ?_
      refine af_iconst K 23 dX4_clayFor_22 rfl cs_iconst_0 ?_
      refine af_callV_i K (b := 0) (vs := [.int 0]) mv_X4_found lk_172 ((hp_at _ (Nat.le_of_ble_eq_true rfl)).trans rfl) rfl 26 dX4_clayFor_23 rfl rfl rfl rfl (A_X4_found _ _ 0 q3.2) rfl (fun q16 => ?_)
      exact af_reti K dX4_clayFor_26
def F_X4_keepsRound (x1 : Int32) (x2 : Int32) (σ : fk_T) : Option (Bool × fk_T) := (F_X0_become 6 1 σ).bind (fun q1 => (F_X0_reconcileSet 6 x1 q1).bind (fun q2 => (F_X0_passDays 6 x2 q2).bind (fun q3 => if (q3.1 6 2) = (q3.1 1 2) then (some (true, q3)) else (some (false, q3)))))
set_option maxRecDepth 100000 in
set_option maxHeartbeats 4000000 in
theorem A_X4_keepsRound (X : aw_X) (l : Launch) (x1 : Int32) (x2 : Int32) (σ : fk_T) : af_G X l mX4_keepsRound [.ref 0, .int x1, .int x2] (hp σ) ρz (F_X4_keepsRound x1 x2 σ) := by
  refine af_mk (by decide) rfl (fun q _ => aw_okz q) [some (.ref 0), some (.int x1), some (.int x2)] rfl ?_
  rintro cx rfl rfl hN K
  replace hN : aw_nL cx = 3 := hN
  replace K : aw_K cx cX4_keepsRound RX4 rX4_keepsRound := K
  unfold F_X4_keepsRound
  refine af_aload_n K 1 dX4_keepsRound_0 rfl rfl ?_
  refine af_get K 4 dX4_keepsRound_1 rfl fl_X4_16 (Nat.le_of_ble_eq_true rfl) rfl rfl ?_
  refine af_aload_n K 5 dX4_keepsRound_4 rfl rfl ?_
  refine af_get K 8 dX4_keepsRound_5 rfl fl_X4_10 (Nat.le_of_ble_eq_true rfl) rfl rfl ?_
  refine af_callV_v K (b := 6) (vs := [.ref 1]) mv_X0_become lk_328 ((hp_at _ (Nat.le_of_ble_eq_true rfl)).trans rfl) rfl 11 dX4_keepsRound_8 rfl rfl rfl rfl (A_X0_become _ _ 6 (Or.inr (Or.inl rfl)) 1 (Or.inl rfl) σ) rfl (fun q1 => ?_)
  refine af_aload_n K 12 dX4_keepsRound_11 rfl rfl ?_
  refine af_get K 15 dX4_keepsRound_12 rfl fl_X4_16 (Nat.le_of_ble_eq_true rfl) rfl rfl ?_
  refine af_iload_n K 16 dX4_keepsRound_15 rfl rfl ?_
  refine af_callV_v K (b := 6) (vs := [.int x1]) mv_X0_reconcileSet lk_385 ((hp_at _ (Nat.le_of_ble_eq_true rfl)).trans rfl) rfl 19 dX4_keepsRound_16 rfl rfl rfl rfl (A_X0_reconcileSet _ _ 6 (Or.inr (Or.inl rfl)) x1 q1) rfl (fun q2 => ?_)
  refine af_aload_n K 20 dX4_keepsRound_19 rfl rfl ?_
  refine af_get K 23 dX4_keepsRound_20 rfl fl_X4_16 (Nat.le_of_ble_eq_true rfl) rfl rfl ?_
  refine af_iload_n K 24 dX4_keepsRound_23 rfl rfl ?_
  refine af_callV_v K (b := 6) (vs := [.int x2]) mv_X0_passDays lk_274 ((hp_at _ (Nat.le_of_ble_eq_true rfl)).trans rfl) rfl 27 dX4_keepsRound_24 rfl rfl rfl rfl (A_X0_passDays _ _ 6 (Or.inr (Or.inl rfl)) x2 q2) rfl (fun q3 => ?_)
  refine af_aload_n K 28 dX4_keepsRound_27 rfl rfl ?_
  refine af_get K 31 dX4_keepsRound_28 rfl fl_X4_16 (Nat.le_of_ble_eq_true rfl) rfl rfl ?_
  refine af_get K 34 dX4_keepsRound_31 rfl fl_X4_122 (Nat.le_of_ble_eq_true rfl) rfl rfl ?_
  refine af_aload_n K 35 dX4_keepsRound_34 rfl rfl ?_
  refine af_get K 38 dX4_keepsRound_35 rfl fl_X4_10 (Nat.le_of_ble_eq_true rfl) rfl rfl ?_
  refine af_get K 41 dX4_keepsRound_38 rfl fl_X4_122 (Nat.le_of_ble_eq_true rfl) rfl rfl ?_
  refine af_icmp_ne K 44 48 dX4_keepsRound_41 rfl rfl (fun _ => ?_) (fun _ => ?_)
  · refine af_iconst K 49 dX4_keepsRound_48 rfl cs_iconst_0 ?_
    exact af_retz K rfl dX4_keepsRound_49
  · refine af_iconst K 45 dX4_keepsRound_44 rfl cs_iconst_1 ?_
    refine af_goto K 49 dX4_keepsRound_45 rfl ?_
    exact af_retz K rfl dX4_keepsRound_49
def L_X4_reconcile_31  : Nat → Int32 → Int32 → Int32 → Int32 → fk_T → (Int32 → Int32 → Int32 → Int32 → fk_T → Option (Int32 × fk_T)) → Option (Int32 × fk_T)
  | 0, _, _, _, _, _, _ => none
  | fu + 1, x1, x2, x3, x4, σ, k => if x2 ≤ x4 then (k x1 x2 x3 x4 σ) else (if x3 < 0 then (if (1 : Int32) = 0 then (fk_B (x4 + 1) (fun y3 => L_X4_reconcile_31 fu x1 x2 x3 y3 σ k)) else ((F_X4_keepsRound x4 x1 σ).bind (fun q4 => if (fk_b q4.1) = 0 then (fk_B (x4 + 1) (fun y5 => L_X4_reconcile_31 fu x1 x2 x3 y5 q4.2 k)) else (fk_B (x4 + 1) (fun y6 => L_X4_reconcile_31 fu x1 x2 x4 y6 q4.2 k))))) else ((F_J6_bitCount_0f7a4 x4 σ).bind (fun q7 => (F_J6_bitCount_0f7a4 x3 q7.2).bind (fun q8 => if q8.1 ≤ q7.1 then (if (0 : Int32) = 0 then (fk_B (x4 + 1) (fun y9 => L_X4_reconcile_31 fu x1 x2 x3 y9 q8.2 k)) else ((F_X4_keepsRound x4 x1 q8.2).bind (fun q10 => if (fk_b q10.1) = 0 then (fk_B (x4 + 1) (fun y11 => L_X4_reconcile_31 fu x1 x2 x3 y11 q10.2 k)) else (fk_B (x4 + 1) (fun y12 => L_X4_reconcile_31 fu x1 x2 x4 y12 q10.2 k))))) else (if (1 : Int32) = 0 then (fk_B (x4 + 1) (fun y13 => L_X4_reconcile_31 fu x1 x2 x3 y13 q8.2 k)) else ((F_X4_keepsRound x4 x1 q8.2).bind (fun q14 => if (fk_b q14.1) = 0 then (fk_B (x4 + 1) (fun y15 => L_X4_reconcile_31 fu x1 x2 x3 y15 q14.2 k)) else (fk_B (x4 + 1) (fun y16 => L_X4_reconcile_31 fu x1 x2 x4 y16 q14.2 k)))))))))
def F_X4_reconcile (x1 : Int32) (σ : fk_T) : Option (Int32 × fk_T) := (F_X4_within x1 0 20 σ).bind (fun q1 => if (fk_b q1.1) = 0 then ((F_X4_found 0 q1.2).bind (fun q23 => some (q23.1, q23.2))) else (fk_B (1 <<< ((q1.2.1 1 6) &&& 31)) (fun y2 => L_X4_reconcile_31 fk_N x1 y2 (-1) 0 q1.2 (fun y18 y19 y20 y21 s17 => if 0 ≤ y20 then (some (y20, s17)) else ((F_X4_found 3 s17).bind (fun q22 => some (q22.1, q22.2)))))))
set_option maxRecDepth 100000 in
set_option maxHeartbeats 4000000 in
theorem W_X4_reconcile_31 {cx : aw_C} (hN : aw_nL cx = 6) (K : aw_K cx cX4_reconcile RX4 rX4_reconcile)  : ∀ (fu : Nat) (x1 : Int32) (x2 : Int32) (x3 : Int32) (x4 : Int32) (σ : fk_T) (k : Int32 → Int32 → Int32 → Int32 → fk_T → Option (Int32 × fk_T)), (∀ (x1 : Int32) (x2 : Int32) (x3 : Int32) (x4 : Int32) (σ : fk_T), af cx ρi 84 [some (.ref 0), some (.int x1), some (.int x2), some (.int x3), some (.int x4), none] [] (hp σ) (k x1 x2 x3 x4 σ)) → af cx ρi 31 [some (.ref 0), some (.int x1), some (.int x2), some (.int x3), some (.int x4), none] [] (hp σ) (L_X4_reconcile_31 fu x1 x2 x3 x4 σ k) := by
  intro fu
  induction fu with
  | zero => intros; exact af_none
  | succ fu ih31 =>
    intro x1 x2 x3 x4 σ k hk31
    rw [L_X4_reconcile_31]
    refine af_iload K 33 dX4_reconcile_31 rfl rfl ?_
    refine af_iload_n K 34 dX4_reconcile_33 rfl rfl ?_
    refine af_icmp_ge K 37 84 dX4_reconcile_34 rfl rfl (fun _ => ?_) (fun _ => ?_)
    · refine af_lm [true, true, true, true, true, false] rfl ?_
      exact hk31 _ _ _ _ _
    · refine af_iload_n K 38 dX4_reconcile_37 rfl rfl ?_
      refine af_if_lt K 41 53 dX4_reconcile_38 rfl rfl (fun _ => ?_) (fun _ => ?_)
      · refine af_iconst K 54 dX4_reconcile_53 rfl cs_iconst_1 ?_
        refine af_goto K 58 dX4_reconcile_54 rfl ?_
        refine af_istore K 60 [some (.ref 0), some (.int x1), some (.int x2), some (.int x3), some (.int x4), some (.int 1)] dX4_reconcile_58 rfl (by rw [hN]; exact Nat.le_of_ble_eq_true rfl) rfl ?_
        refine af_iload K 62 dX4_reconcile_60 rfl rfl ?_
        refine af_if_eq K 65 78 dX4_reconcile_62 rfl rfl (fun _ => ?_) (fun _ => ?_)
        · refine af_iincB K 81 (fun yy => [some (.ref 0), some (.int x1), some (.int x2), some (.int x3), some (.int yy), some (.int 1)]) dX4_reconcile_78 rfl (by rw [hN]; exact Nat.le_of_ble_eq_true rfl) rfl cs_iconst_1 (fun _ => rfl) (fun y3 => ?_)
          refine af_goto K 31 dX4_reconcile_81 rfl ?_
          refine af_lm [true, true, true, true, true, false] rfl ?_
          exact ih31 _ _ _ _ _ _ hk31
        · refine af_aload_n K 66 dX4_reconcile_65 rfl rfl ?_
          refine af_iload K 68 dX4_reconcile_66 rfl rfl ?_
          refine af_iload_n K 69 dX4_reconcile_68 rfl rfl ?_
          refine af_callV_z K (b := 0) (vs := [.int x4, .int x1]) mv_X4_keepsRound lk_381 ((hp_at _ (Nat.le_of_ble_eq_true rfl)).trans rfl) rfl 72 dX4_reconcile_69 rfl rfl rfl rfl (A_X4_keepsRound _ _ x4 x1 σ) rfl (fun q4 => ?_)
          refine af_if_eq K 75 78 dX4_reconcile_72 rfl rfl (fun _ => ?_) (fun _ => ?_)
          · refine af_iincB K 81 (fun yy => [some (.ref 0), some (.int x1), some (.int x2), some (.int x3), some (.int yy), some (.int 1)]) dX4_reconcile_78 rfl (by rw [hN]; exact Nat.le_of_ble_eq_true rfl) rfl cs_iconst_1 (fun _ => rfl) (fun y5 => ?_)
            refine af_goto K 31 dX4_reconcile_81 rfl ?_
            refine af_lm [true, true, true, true, true, false] rfl ?_
            exact ih31 _ _ _ _ _ _ hk31
          · refine af_iload K 77 dX4_reconcile_75 rfl rfl ?_
            refine af_istore_n K 78 [some (.ref 0), some (.int x1), some (.int x2), some (.int x4), some (.int x4), some (.int 1)] dX4_reconcile_77 rfl (by rw [hN]; exact Nat.le_of_ble_eq_true rfl) rfl ?_
            refine af_iincB K 81 (fun yy => [some (.ref 0), some (.int x1), some (.int x2), some (.int x4), some (.int yy), some (.int 1)]) dX4_reconcile_78 rfl (by rw [hN]; exact Nat.le_of_ble_eq_true rfl) rfl cs_iconst_1 (fun _ => rfl) (fun y6 => ?_)
            refine af_goto K 31 dX4_reconcile_81 rfl ?_
            refine af_lm [true, true, true, true, true, false] rfl ?_
            exact ih31 _ _ _ _ _ _ hk31
      · refine af_iload K 43 dX4_reconcile_41 rfl rfl ?_
        refine af_callS_i K (vs := [.int x4]) ms_J6_bitCount_0f7a4 lk_375 46 dX4_reconcile_43 rfl rfl rfl rfl (A_J6_bitCount_0f7a4 _ _ x4 σ) rfl (fun q7 => ?_)
        refine af_iload_n K 47 dX4_reconcile_46 rfl rfl ?_
        refine af_callS_i K (vs := [.int x3]) ms_J6_bitCount_0f7a4 lk_375 50 dX4_reconcile_47 rfl rfl rfl rfl (A_J6_bitCount_0f7a4 _ _ x3 q7.2) rfl (fun q8 => ?_)
        refine af_icmp_ge K 53 57 dX4_reconcile_50 rfl rfl (fun _ => ?_) (fun _ => ?_)
        · refine af_iconst K 58 dX4_reconcile_57 rfl cs_iconst_0 ?_
          refine af_istore K 60 [some (.ref 0), some (.int x1), some (.int x2), some (.int x3), some (.int x4), some (.int 0)] dX4_reconcile_58 rfl (by rw [hN]; exact Nat.le_of_ble_eq_true rfl) rfl ?_
          refine af_iload K 62 dX4_reconcile_60 rfl rfl ?_
          refine af_if_eq K 65 78 dX4_reconcile_62 rfl rfl (fun _ => ?_) (fun _ => ?_)
          · refine af_iincB K 81 (fun yy => [some (.ref 0), some (.int x1), some (.int x2), some (.int x3), some (.int yy), some (.int 0)]) dX4_reconcile_78 rfl (by rw [hN]; exact Nat.le_of_ble_eq_true rfl) rfl cs_iconst_1 (fun _ => rfl) (fun y9 => ?_)
            refine af_goto K 31 dX4_reconcile_81 rfl ?_
            refine af_lm [true, true, true, true, true, false] rfl ?_
            exact ih31 _ _ _ _ _ _ hk31
          · refine af_aload_n K 66 dX4_reconcile_65 rfl rfl ?_
            refine af_iload K 68 dX4_reconcile_66 rfl rfl ?_
            refine af_iload_n K 69 dX4_reconcile_68 rfl rfl ?_
            refine af_callV_z K (b := 0) (vs := [.int x4, .int x1]) mv_X4_keepsRound lk_381 ((hp_at _ (Nat.le_of_ble_eq_true rfl)).trans rfl) rfl 72 dX4_reconcile_69 rfl rfl rfl rfl (A_X4_keepsRound _ _ x4 x1 q8.2) rfl (fun q10 => ?_)
            refine af_if_eq K 75 78 dX4_reconcile_72 rfl rfl (fun _ => ?_) (fun _ => ?_)
            · refine af_iincB K 81 (fun yy => [some (.ref 0), some (.int x1), some (.int x2), some (.int x3), some (.int yy), some (.int 0)]) dX4_reconcile_78 rfl (by rw [hN]; exact Nat.le_of_ble_eq_true rfl) rfl cs_iconst_1 (fun _ => rfl) (fun y11 => ?_)
              refine af_goto K 31 dX4_reconcile_81 rfl ?_
              refine af_lm [true, true, true, true, true, false] rfl ?_
              exact ih31 _ _ _ _ _ _ hk31
            · refine af_iload K 77 dX4_reconcile_75 rfl rfl ?_
              refine af_istore_n K 78 [some (.ref 0), some (.int x1), some (.int x2), some (.int x4), some (.int x4), some (.int 0)] dX4_reconcile_77 rfl (by rw [hN]; exact Nat.le_of_ble_eq_true rfl) rfl ?_
              refine af_iincB K 81 (fun yy => [some (.ref 0), some (.int x1), some (.int x2), some (.int x4), some (.int yy), some (.int 0)]) dX4_reconcile_78 rfl (by rw [hN]; exact Nat.le_of_ble_eq_true rfl) rfl cs_iconst_1 (fun _ => rfl) (fun y12 => ?_)
              refine af_goto K 31 dX4_reconcile_81 rfl ?_
              refine af_lm [true, true, true, true, true, false] rfl ?_
              exact ih31 _ _ _ _ _ _ hk31
        · refine af_iconst K 54 dX4_reconcile_53 rfl cs_iconst_1 ?_
          refine af_goto K 58 dX4_reconcile_54 rfl ?_
          refine af_istore K 60 [some (.ref 0), some (.int x1), some (.int x2), some (.int x3), some (.int x4), some (.int 1)] dX4_reconcile_58 rfl (by rw [hN]; exact Nat.le_of_ble_eq_true rfl) rfl ?_
          refine af_iload K 62 dX4_reconcile_60 rfl rfl ?_
          refine af_if_eq K 65 78 dX4_reconcile_62 rfl rfl (fun _ => ?_) (fun _ => ?_)
          · refine af_iincB K 81 (fun yy => [some (.ref 0), some (.int x1), some (.int x2), some (.int x3), some (.int yy), some (.int 1)]) dX4_reconcile_78 rfl (by rw [hN]; exact Nat.le_of_ble_eq_true rfl) rfl cs_iconst_1 (fun _ => rfl) (fun y13 => ?_)
            refine af_goto K 31 dX4_reconcile_81 rfl ?_
            refine af_lm [true, true, true, true, true, false] rfl ?_
            exact ih31 _ _ _ _ _ _ hk31
          · refine af_aload_n K 66 dX4_reconcile_65 rfl rfl ?_
            refine af_iload K 68 dX4_reconcile_66 rfl rfl ?_
            refine af_iload_n K 69 dX4_reconcile_68 rfl rfl ?_
            refine af_callV_z K (b := 0) (vs := [.int x4, .int x1]) mv_X4_keepsRound lk_381 ((hp_at _ (Nat.le_of_ble_eq_true rfl)).trans rfl) rfl 72 dX4_reconcile_69 rfl rfl rfl rfl (A_X4_keepsRound _ _ x4 x1 q8.2) rfl (fun q14 => ?_)
            refine af_if_eq K 75 78 dX4_reconcile_72 rfl rfl (fun _ => ?_) (fun _ => ?_)
            · refine af_iincB K 81 (fun yy => [some (.ref 0), some (.int x1), some (.int x2), some (.int x3), some (.int yy), some (.int 1)]) dX4_reconcile_78 rfl (by rw [hN]; exact Nat.le_of_ble_eq_true rfl) rfl cs_iconst_1 (fun _ => rfl) (fun y15 => ?_)
              refine af_goto K 31 dX4_reconcile_81 rfl ?_
              refine af_lm [true, true, true, true, true, false] rfl ?_
              exact ih31 _ _ _ _ _ _ hk31
            · refine af_iload K 77 dX4_reconcile_75 rfl rfl ?_
              refine af_istore_n K 78 [some (.ref 0), some (.int x1), some (.int x2), some (.int x4), some (.int x4), some (.int 1)] dX4_reconcile_77 rfl (by rw [hN]; exact Nat.le_of_ble_eq_true rfl) rfl ?_
              refine af_iincB K 81 (fun yy => [some (.ref 0), some (.int x1), some (.int x2), some (.int x4), some (.int yy), some (.int 1)]) dX4_reconcile_78 rfl (by rw [hN]; exact Nat.le_of_ble_eq_true rfl) rfl cs_iconst_1 (fun _ => rfl) (fun y16 => ?_)
              refine af_goto K 31 dX4_reconcile_81 rfl ?_
              refine af_lm [true, true, true, true, true, false] rfl ?_
              exact ih31 _ _ _ _ _ _ hk31
set_option maxRecDepth 100000 in
set_option maxHeartbeats 4000000 in
theorem A_X4_reconcile (X : aw_X) (l : Launch) (x1 : Int32) (σ : fk_T) : af_G X l mX4_reconcile [.ref 0, .int x1] (hp σ) ρi (F_X4_reconcile x1 σ) := by
  refine af_mk (by decide) rfl (fun q _ => aw_oki q) [some (.ref 0), some (.int x1), none, none, none, none] rfl ?_
  rintro cx rfl rfl hN K
  replace hN : aw_nL cx = 6 := hN
  replace K : aw_K cx cX4_reconcile RX4 rX4_reconcile := K
  unfold F_X4_reconcile
  refine af_iload_n K 1 dX4_reconcile_0 rfl rfl ?_
  refine af_iconst K 2 dX4_reconcile_1 rfl cs_iconst_0 ?_
  refine af_bipush K 4 dX4_reconcile_2 rfl cs_bipush_20 ?_
  refine af_callS_z K (vs := [.int x1, .int 0, .int 20]) ms_X4_within lk_169 7 dX4_reconcile_4 rfl rfl rfl rfl (A_X4_within _ _ x1 0 20 σ) rfl (fun q1 => ?_)
  refine af_if_ne K 10 16 dX4_reconcile_7 rfl rfl (fun _ => ?_) (fun _ => ?_)
  · refine af_iconst K 17 dX4_reconcile_16 rfl cs_iconst_1 ?_
    refine af_aload_n K 18 dX4_reconcile_17 rfl rfl ?_
    refine af_get K 21 dX4_reconcile_18 rfl fl_X4_10 (Nat.le_of_ble_eq_true rfl) rfl rfl ?_
    refine af_get K 24 dX4_reconcile_21 rfl fl_X4_142 (Nat.le_of_ble_eq_true rfl) rfl rfl ?_
    refine af_ishl K 25 dX4_reconcile_24 rfl ?_
    refine af_Bi (fun y2 => ?_)
    refine af_istore_n K 26 [some (.ref 0), some (.int x1), some (.int y2), none, none, none] dX4_reconcile_25 rfl (by rw [hN]; exact Nat.le_of_ble_eq_true rfl) rfl ?_
    refine af_iconst K 27 dX4_reconcile_26 rfl cs_iconst_m1 ?_
    refine af_istore_n K 28 [some (.ref 0), some (.int x1), some (.int y2), some (.int (-1)), none, none] dX4_reconcile_27 rfl (by rw [hN]; exact Nat.le_of_ble_eq_true rfl) rfl ?_
    refine af_iconst K 29 dX4_reconcile_28 rfl cs_iconst_0 ?_
    refine af_istore K 31 [some (.ref 0), some (.int x1), some (.int y2), some (.int (-1)), some (.int 0), none] dX4_reconcile_29 rfl (by rw [hN]; exact Nat.le_of_ble_eq_true rfl) rfl ?_
    refine af_lm [true, true, true, true, true, false] rfl ?_
    refine W_X4_reconcile_31 hN K  fk_N _ _ _ _ _ _ (fun y18 y19 y20 y21 s17 => ?_)
    refine af_iload_n K 85 dX4_reconcile_84 rfl rfl ?_
    refine af_if_ge K 88 96 dX4_reconcile_85 rfl rfl (fun _ => ?_) (fun _ => ?_)
    · refine af_iload_n K 97 dX4_reconcile_96 rfl rfl ?_
      exact af_reti K dX4_reconcile_97
    · refine af_aload_n K 89 dX4_reconcile_88 rfl rfl ?_
      refine af_iconst K 90 dX4_reconcile_89 rfl cs_iconst_3 ?_
      refine af_callV_i K (b := 0) (vs := [.int 3]) mv_X4_found lk_172 ((hp_at _ (Nat.le_of_ble_eq_true rfl)).trans rfl) rfl 93 dX4_reconcile_90 rfl rfl rfl rfl (A_X4_found _ _ 3 s17) rfl (fun q22 => ?_)
      refine af_goto K 97 dX4_reconcile_93 rfl ?_
      exact af_reti K dX4_reconcile_97
  · refine af_aload_n K 11 dX4_reconcile_10 rfl rfl ?_
    refine af_iconst K 12 dX4_reconcile_11 rfl cs_iconst_0 ?_
    refine af_callV_i K (b := 0) (vs := [.int 0]) mv_X4_found lk_172 ((hp_at _ (Nat.le_of_ble_eq_true rfl)).trans rfl) rfl 15 dX4_reconcile_12 rfl rfl rfl rfl (A_X4_found _ _ 0 q1.2) rfl (fun q23 => ?_)
    exact af_reti K dX4_reconcile_15
def L_X4_trialRiftIsTold_3  : Nat → Int32 → Int32 → Int32 → Int32 → fk_T → (Int32 → Int32 → Int32 → Int32 → fk_T → Option (Bool × fk_T)) → Option (Bool × fk_T)
  | 0, _, _, _, _, _, _ => none
  | fu + 1, x1, x2, x3, x4, σ, k => fk_A (σ.1 23) 4 x1 (fun y1 => if y1 ≤ x4 then (k x1 x2 x3 x4 σ) else (if x4 ≤ 0 then ((F_X2_get x1 x4 σ).bind (fun q2 => if q2.1 = (-1) then (fk_B (x4 + 1) (fun y3 => L_X4_trialRiftIsTold_3 fu x1 x2 x3 y3 q2.2 k)) else ((F_X0_riftOf 6 x2 x3 q2.2).bind (fun q4 => if q2.1 = q4.1 then (fk_B (x4 + 1) (fun y5 => L_X4_trialRiftIsTold_3 fu x1 x2 x3 y5 q4.2 k)) else (some (false, q4.2)))))) else ((F_X0_passDays 6 1 σ).bind (fun q6 => (F_X2_get x1 x4 q6).bind (fun q7 => if q7.1 = (-1) then (fk_B (x4 + 1) (fun y8 => L_X4_trialRiftIsTold_3 fu x1 x2 x3 y8 q7.2 k)) else ((F_X0_riftOf 6 x2 x3 q7.2).bind (fun q9 => if q7.1 = q9.1 then (fk_B (x4 + 1) (fun y10 => L_X4_trialRiftIsTold_3 fu x1 x2 x3 y10 q9.2 k)) else (some (false, q9.2)))))))))
def F_X4_trialRiftIsTold (x1 : Int32) (x2 : Int32) (x3 : Int32) (σ : fk_T) : Option (Bool × fk_T) := L_X4_trialRiftIsTold_3 fk_N x1 x2 x3 0 σ (fun y12 y13 y14 y15 s11 => some (true, s11))
set_option maxRecDepth 100000 in
set_option maxHeartbeats 4000000 in
theorem W_X4_trialRiftIsTold_3 {cx : aw_C} (hN : aw_nL cx = 6) (K : aw_K cx cX4_trialRiftIsTold RX4 rX4_trialRiftIsTold)  : ∀ (fu : Nat) (x1 : Int32) (x2 : Int32) (x3 : Int32) (x4 : Int32) (σ : fk_T) (k : Int32 → Int32 → Int32 → Int32 → fk_T → Option (Bool × fk_T)), (∀ (x1 : Int32) (x2 : Int32) (x3 : Int32) (x4 : Int32) (σ : fk_T), af cx ρz 70 [some (.ref 0), some (.int x1), some (.int x2), some (.int x3), some (.int x4), none] [] (hp σ) (k x1 x2 x3 x4 σ)) → af cx ρz 3 [some (.ref 0), some (.int x1), some (.int x2), some (.int x3), some (.int x4), none] [] (hp σ) (L_X4_trialRiftIsTold_3 fu x1 x2 x3 x4 σ k) := by
  intro fu
  induction fu with
  | zero => intros; exact af_none
  | succ fu ih3 =>
    intro x1 x2 x3 x4 σ k hk3
    rw [L_X4_trialRiftIsTold_3]
    refine af_iload K 5 dX4_trialRiftIsTold_3 rfl rfl ?_
    refine af_aload_n K 6 dX4_trialRiftIsTold_5 rfl rfl ?_
    refine af_get K 9 dX4_trialRiftIsTold_6 rfl fl_X4_45 (Nat.le_of_ble_eq_true rfl) rfl rfl ?_
    refine af_get K 12 dX4_trialRiftIsTold_9 rfl fl_X4_208 (Nat.le_of_ble_eq_true rfl) rfl rfl ?_
    refine af_iload_n K 13 dX4_trialRiftIsTold_12 rfl rfl ?_
    refine af_iald K 14 dX4_trialRiftIsTold_13 rfl (Nat.le_of_ble_eq_true rfl) rfl (fun y1 => ?_)
    refine af_icmp_ge K 17 70 dX4_trialRiftIsTold_14 rfl rfl (fun _ => ?_) (fun _ => ?_)
    · refine af_lm [true, true, true, true, true, false] rfl ?_
      exact hk3 _ _ _ _ _
    · refine af_iload K 19 dX4_trialRiftIsTold_17 rfl rfl ?_
      refine af_if_le K 22 30 dX4_trialRiftIsTold_19 rfl rfl (fun _ => ?_) (fun _ => ?_)
      · refine af_aload_n K 31 dX4_trialRiftIsTold_30 rfl rfl ?_
        refine af_get K 34 dX4_trialRiftIsTold_31 rfl fl_X4_45 (Nat.le_of_ble_eq_true rfl) rfl rfl ?_
        refine af_iload_n K 35 dX4_trialRiftIsTold_34 rfl rfl ?_
        refine af_iload K 37 dX4_trialRiftIsTold_35 rfl rfl ?_
        refine af_callV_i K (b := 21) (vs := [.int x1, .int x4]) mv_X2_get lk_401 ((hp_at _ (Nat.le_of_ble_eq_true rfl)).trans rfl) rfl 40 dX4_trialRiftIsTold_37 rfl rfl rfl rfl (A_X2_get _ _ x1 x4 σ) rfl (fun q2 => ?_)
        refine af_istore K 42 [some (.ref 0), some (.int x1), some (.int x2), some (.int x3), some (.int x4), some (.int q2.1)] dX4_trialRiftIsTold_40 rfl (by rw [hN]; exact Nat.le_of_ble_eq_true rfl) rfl ?_
        refine af_iload K 44 dX4_trialRiftIsTold_42 rfl rfl ?_
        refine af_iconst K 45 dX4_trialRiftIsTold_44 rfl cs_iconst_m1 ?_
        refine af_icmp_eq K 48 64 dX4_trialRiftIsTold_45 rfl rfl (fun _ => ?_) (fun _ => ?_)
        · refine af_iincB K 67 (fun yy => [some (.ref 0), some (.int x1), some (.int x2), some (.int x3), some (.int yy), some (.int q2.1)]) dX4_trialRiftIsTold_64 rfl (by rw [hN]; exact Nat.le_of_ble_eq_true rfl) rfl cs_iconst_1 (fun _ => rfl) (fun y3 => ?_)
          refine af_goto K 3 dX4_trialRiftIsTold_67 rfl ?_
          refine af_lm [true, true, true, true, true, false] rfl ?_
          exact ih3 _ _ _ _ _ _ hk3
        · refine af_iload K 50 dX4_trialRiftIsTold_48 rfl rfl ?_
          refine af_aload_n K 51 dX4_trialRiftIsTold_50 rfl rfl ?_
          refine af_get K 54 dX4_trialRiftIsTold_51 rfl fl_X4_16 (Nat.le_of_ble_eq_true rfl) rfl rfl ?_
          refine af_iload_n K 55 dX4_trialRiftIsTold_54 rfl rfl ?_
          refine af_iload_n K 56 dX4_trialRiftIsTold_55 rfl rfl ?_
          refine af_callV_i K (b := 6) (vs := [.int x2, .int x3]) mv_X0_riftOf lk_239 ((hp_at _ (Nat.le_of_ble_eq_true rfl)).trans rfl) rfl 59 dX4_trialRiftIsTold_56 rfl rfl rfl rfl (A_X0_riftOf _ _ 6 (Or.inr (Or.inl rfl)) x2 x3 q2.2) rfl (fun q4 => ?_)
          refine af_icmp_eq K 62 64 dX4_trialRiftIsTold_59 rfl rfl (fun _ => ?_) (fun _ => ?_)
          · refine af_iincB K 67 (fun yy => [some (.ref 0), some (.int x1), some (.int x2), some (.int x3), some (.int yy), some (.int q2.1)]) dX4_trialRiftIsTold_64 rfl (by rw [hN]; exact Nat.le_of_ble_eq_true rfl) rfl cs_iconst_1 (fun _ => rfl) (fun y5 => ?_)
            refine af_goto K 3 dX4_trialRiftIsTold_67 rfl ?_
            refine af_lm [true, true, true, true, true, false] rfl ?_
            exact ih3 _ _ _ _ _ _ hk3
          · refine af_iconst K 63 dX4_trialRiftIsTold_62 rfl cs_iconst_0 ?_
            exact af_retz K rfl dX4_trialRiftIsTold_63
      · refine af_aload_n K 23 dX4_trialRiftIsTold_22 rfl rfl ?_
        refine af_get K 26 dX4_trialRiftIsTold_23 rfl fl_X4_16 (Nat.le_of_ble_eq_true rfl) rfl rfl ?_
        refine af_iconst K 27 dX4_trialRiftIsTold_26 rfl cs_iconst_1 ?_
        refine af_callV_v K (b := 6) (vs := [.int 1]) mv_X0_passDays lk_274 ((hp_at _ (Nat.le_of_ble_eq_true rfl)).trans rfl) rfl 30 dX4_trialRiftIsTold_27 rfl rfl rfl rfl (A_X0_passDays _ _ 6 (Or.inr (Or.inl rfl)) 1 σ) rfl (fun q6 => ?_)
        refine af_aload_n K 31 dX4_trialRiftIsTold_30 rfl rfl ?_
        refine af_get K 34 dX4_trialRiftIsTold_31 rfl fl_X4_45 (Nat.le_of_ble_eq_true rfl) rfl rfl ?_
        refine af_iload_n K 35 dX4_trialRiftIsTold_34 rfl rfl ?_
        refine af_iload K 37 dX4_trialRiftIsTold_35 rfl rfl ?_
        refine af_callV_i K (b := 21) (vs := [.int x1, .int x4]) mv_X2_get lk_401 ((hp_at _ (Nat.le_of_ble_eq_true rfl)).trans rfl) rfl 40 dX4_trialRiftIsTold_37 rfl rfl rfl rfl (A_X2_get _ _ x1 x4 q6) rfl (fun q7 => ?_)
        refine af_istore K 42 [some (.ref 0), some (.int x1), some (.int x2), some (.int x3), some (.int x4), some (.int q7.1)] dX4_trialRiftIsTold_40 rfl (by rw [hN]; exact Nat.le_of_ble_eq_true rfl) rfl ?_
        refine af_iload K 44 dX4_trialRiftIsTold_42 rfl rfl ?_
        refine af_iconst K 45 dX4_trialRiftIsTold_44 rfl cs_iconst_m1 ?_
        refine af_icmp_eq K 48 64 dX4_trialRiftIsTold_45 rfl rfl (fun _ => ?_) (fun _ => ?_)
        · refine af_iincB K 67 (fun yy => [some (.ref 0), some (.int x1), some (.int x2), some (.int x3), some (.int yy), some (.int q7.1)]) dX4_trialRiftIsTold_64 rfl (by rw [hN]; exact Nat.le_of_ble_eq_true rfl) rfl cs_iconst_1 (fun _ => rfl) (fun y8 => ?_)
          refine af_goto K 3 dX4_trialRiftIsTold_67 rfl ?_
          refine af_lm [true, true, true, true, true, false] rfl ?_
          exact ih3 _ _ _ _ _ _ hk3
        · refine af_iload K 50 dX4_trialRiftIsTold_48 rfl rfl ?_
          refine af_aload_n K 51 dX4_trialRiftIsTold_50 rfl rfl ?_
          refine af_get K 54 dX4_trialRiftIsTold_51 rfl fl_X4_16 (Nat.le_of_ble_eq_true rfl) rfl rfl ?_
          refine af_iload_n K 55 dX4_trialRiftIsTold_54 rfl rfl ?_
          refine af_iload_n K 56 dX4_trialRiftIsTold_55 rfl rfl ?_
          refine af_callV_i K (b := 6) (vs := [.int x2, .int x3]) mv_X0_riftOf lk_239 ((hp_at _ (Nat.le_of_ble_eq_true rfl)).trans rfl) rfl 59 dX4_trialRiftIsTold_56 rfl rfl rfl rfl (A_X0_riftOf _ _ 6 (Or.inr (Or.inl rfl)) x2 x3 q7.2) rfl (fun q9 => ?_)
          refine af_icmp_eq K 62 64 dX4_trialRiftIsTold_59 rfl rfl (fun _ => ?_) (fun _ => ?_)
          · refine af_iincB K 67 (fun yy => [some (.ref 0), some (.int x1), some (.int x2), some (.int x3), some (.int yy), some (.int q7.1)]) dX4_trialRiftIsTold_64 rfl (by rw [hN]; exact Nat.le_of_ble_eq_true rfl) rfl cs_iconst_1 (fun _ => rfl) (fun y10 => ?_)
            refine af_goto K 3 dX4_trialRiftIsTold_67 rfl ?_
            refine af_lm [true, true, true, true, true, false] rfl ?_
            exact ih3 _ _ _ _ _ _ hk3
          · refine af_iconst K 63 dX4_trialRiftIsTold_62 rfl cs_iconst_0 ?_
            exact af_retz K rfl dX4_trialRiftIsTold_63
set_option maxRecDepth 100000 in
set_option maxHeartbeats 4000000 in
theorem A_X4_trialRiftIsTold (X : aw_X) (l : Launch) (x1 : Int32) (x2 : Int32) (x3 : Int32) (σ : fk_T) : af_G X l mX4_trialRiftIsTold [.ref 0, .int x1, .int x2, .int x3] (hp σ) ρz (F_X4_trialRiftIsTold x1 x2 x3 σ) := by
  refine af_mk (by decide) rfl (fun q _ => aw_okz q) [some (.ref 0), some (.int x1), some (.int x2), some (.int x3), none, none] rfl ?_
  rintro cx rfl rfl hN K
  replace hN : aw_nL cx = 6 := hN
  replace K : aw_K cx cX4_trialRiftIsTold RX4 rX4_trialRiftIsTold := K
  unfold F_X4_trialRiftIsTold
  refine af_iconst K 1 dX4_trialRiftIsTold_0 rfl cs_iconst_0 ?_
  refine af_istore K 3 [some (.ref 0), some (.int x1), some (.int x2), some (.int x3), some (.int 0), none] dX4_trialRiftIsTold_1 rfl (by rw [hN]; exact Nat.le_of_ble_eq_true rfl) rfl ?_
  refine af_lm [true, true, true, true, true, false] rfl ?_
  refine W_X4_trialRiftIsTold_3 hN K  fk_N _ _ _ _ _ _ (fun y12 y13 y14 y15 s11 => ?_)
  refine af_iconst K 71 dX4_trialRiftIsTold_70 rfl cs_iconst_1 ?_
  exact af_retz K rfl dX4_trialRiftIsTold_71
