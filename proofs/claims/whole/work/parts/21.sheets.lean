def F_X2_isMissing (x1 : Int32) (σ : fk_T) : Option (Bool × fk_T) := fk_A (σ.1 22) 4 x1 (fun y1 => if y1 = 0 then (some (true, σ)) else (some (false, σ)))
set_option maxRecDepth 100000 in
set_option maxHeartbeats 4000000 in
theorem A_X2_isMissing (X : aw_X) (l : Launch) (x1 : Int32) (σ : fk_T) : af_G X l mX2_isMissing [.ref 21, .int x1] (hp σ) ρz (F_X2_isMissing x1 σ) := by
  refine af_mk (by decide) rfl (fun q _ => aw_okz q) [some (.ref 21), some (.int x1)] rfl ?_
  rintro cx rfl rfl hN K
  replace hN : aw_nL cx = 2 := hN
  replace K : aw_K cx cX2_isMissing RX2 rX2_isMissing := K
  unfold F_X2_isMissing
  refine af_aload_n K 1 dX2_isMissing_0 rfl rfl ?_
  refine af_get K 4 dX2_isMissing_1 rfl fl_X2_9 (Nat.le_of_ble_eq_true rfl) rfl rfl ?_
  refine af_iload_n K 5 dX2_isMissing_4 rfl rfl ?_
  refine af_iald K 6 dX2_isMissing_5 rfl (Nat.le_of_ble_eq_true rfl) rfl (fun y1 => ?_)
  refine af_if_ne K 9 13 dX2_isMissing_6 rfl rfl (fun _ => ?_) (fun _ => ?_)
  · refine af_iconst K 14 dX2_isMissing_13 rfl cs_iconst_0 ?_
    exact af_retz K rfl dX2_isMissing_14
  · refine af_iconst K 10 dX2_isMissing_9 rfl cs_iconst_1 ?_
    refine af_goto K 14 dX2_isMissing_10 rfl ?_
    exact af_retz K rfl dX2_isMissing_14
def L_X2_lay_17  : Nat → Int32 → Int32 → Int32 → fk_T → (Int32 → Int32 → Int32 → fk_T → Option (fk_T)) → Option (fk_T)
  | 0, _, _, _, _, _ => none
  | fu + 1, x1, x3, x4, σ, k => if x3 ≤ x4 then (k x1 x3 x4 σ) else (fk_S σ 24 160 ((40 * x1) + x4) 0 (fun s3 => fk_B (x4 + 1) (fun y4 => L_X2_lay_17 fu x1 x3 y4 s3 k)))
def F_X2_lay (x1 : Int32) (x2 : Int32) (x3 : Int32) (σ : fk_T) : Option (fk_T) := fk_S σ 22 4 x1 x2 (fun s1 => fk_S s1 23 4 x1 x3 (fun s2 => L_X2_lay_17 fk_N x1 x3 0 s2 (fun y6 y7 y8 s5 => some s5)))
set_option maxRecDepth 100000 in
set_option maxHeartbeats 4000000 in
theorem W_X2_lay_17 {cx : aw_C} (hN : aw_nL cx = 5) (K : aw_K cx cX2_lay RX2 rX2_lay)  : ∀ (fu : Nat) (x1 : Int32) (x3 : Int32) (x4 : Int32) (σ : fk_T) (k : Int32 → Int32 → Int32 → fk_T → Option (fk_T)), (∀ (x1 : Int32) (x3 : Int32) (x4 : Int32) (σ : fk_T), af cx ρv 42 [some (.ref 21), some (.int x1), none, some (.int x3), some (.int x4)] [] (hp σ) (k x1 x3 x4 σ)) → af cx ρv 17 [some (.ref 21), some (.int x1), none, some (.int x3), some (.int x4)] [] (hp σ) (L_X2_lay_17 fu x1 x3 x4 σ k) := by
  intro fu
  induction fu with
  | zero => intros; exact af_none
  | succ fu ih17 =>
    intro x1 x3 x4 σ k hk17
    rw [L_X2_lay_17]
    refine af_iload K 19 dX2_lay_17 rfl rfl ?_
    refine af_iload_n K 20 dX2_lay_19 rfl rfl ?_
    refine af_icmp_ge K 23 42 dX2_lay_20 rfl rfl (fun _ => ?_) (fun _ => ?_)
    · refine af_lm [true, true, false, true, true] rfl ?_
      exact hk17 _ _ _ _
    · refine af_aload_n K 24 dX2_lay_23 rfl rfl ?_
      refine af_get K 27 dX2_lay_24 rfl fl_X2_18 (Nat.le_of_ble_eq_true rfl) rfl rfl ?_
      refine af_bipush K 29 dX2_lay_27 rfl cs_bipush_40 ?_
      refine af_iload_n K 30 dX2_lay_29 rfl rfl ?_
      refine af_imul K 31 dX2_lay_30 rfl ?_
      refine af_iload K 33 dX2_lay_31 rfl rfl ?_
      refine af_iadd K 34 dX2_lay_33 rfl ?_
      refine af_iconst K 35 dX2_lay_34 rfl cs_iconst_0 ?_
      refine af_iast K 36 dX2_lay_35 rfl (Nat.le_of_ble_eq_true rfl) (fun _ _ => rfl) (fun s3 => ?_)
      refine af_iincB K 39 (fun yy => [some (.ref 21), some (.int x1), none, some (.int x3), some (.int yy)]) dX2_lay_36 rfl (by rw [hN]; exact Nat.le_of_ble_eq_true rfl) rfl cs_iconst_1 (fun _ => rfl) (fun y4 => ?_)
      refine af_goto K 17 dX2_lay_39 rfl ?_
      refine af_lm [true, true, false, true, true] rfl ?_
      exact ih17 _ _ _ _ _ hk17
set_option maxRecDepth 100000 in
set_option maxHeartbeats 4000000 in
theorem A_X2_lay (X : aw_X) (l : Launch) (x1 : Int32) (x2 : Int32) (x3 : Int32) (σ : fk_T) : af_G X l mX2_lay [.ref 21, .int x1, .int x2, .int x3] (hp σ) ρv (F_X2_lay x1 x2 x3 σ) := by
  refine af_mk (by decide) rfl (fun q _ => aw_okv q) [some (.ref 21), some (.int x1), some (.int x2), some (.int x3), none] rfl ?_
  rintro cx rfl rfl hN K
  replace hN : aw_nL cx = 5 := hN
  replace K : aw_K cx cX2_lay RX2 rX2_lay := K
  unfold F_X2_lay
  refine af_aload_n K 1 dX2_lay_0 rfl rfl ?_
  refine af_get K 4 dX2_lay_1 rfl fl_X2_9 (Nat.le_of_ble_eq_true rfl) rfl rfl ?_
  refine af_iload_n K 5 dX2_lay_4 rfl rfl ?_
  refine af_iload_n K 6 dX2_lay_5 rfl rfl ?_
  refine af_iast K 7 dX2_lay_6 rfl (Nat.le_of_ble_eq_true rfl) (fun _ _ => rfl) (fun s1 => ?_)
  refine af_aload_n K 8 dX2_lay_7 rfl rfl ?_
  refine af_get K 11 dX2_lay_8 rfl fl_X2_15 (Nat.le_of_ble_eq_true rfl) rfl rfl ?_
  refine af_iload_n K 12 dX2_lay_11 rfl rfl ?_
  refine af_iload_n K 13 dX2_lay_12 rfl rfl ?_
  refine af_iast K 14 dX2_lay_13 rfl (Nat.le_of_ble_eq_true rfl) (fun _ _ => rfl) (fun s2 => ?_)
  refine af_iconst K 15 dX2_lay_14 rfl cs_iconst_0 ?_
  refine af_istore K 17 [some (.ref 21), some (.int x1), some (.int x2), some (.int x3), some (.int 0)] dX2_lay_15 rfl (by rw [hN]; exact Nat.le_of_ble_eq_true rfl) rfl ?_
  refine af_lm [true, true, false, true, true] rfl ?_
  refine W_X2_lay_17 hN K  fk_N _ _ _ _ _ (fun y6 y7 y8 s5 => ?_)
  exact af_retv K dX2_lay_42
def F_X2_get (x1 : Int32) (x2 : Int32) (σ : fk_T) : Option (Int32 × fk_T) := fk_A (σ.1 24) 160 ((40 * x1) + x2) (fun y1 => some (y1, σ))
set_option maxRecDepth 100000 in
set_option maxHeartbeats 4000000 in
theorem A_X2_get (X : aw_X) (l : Launch) (x1 : Int32) (x2 : Int32) (σ : fk_T) : af_G X l mX2_get [.ref 21, .int x1, .int x2] (hp σ) ρi (F_X2_get x1 x2 σ) := by
  refine af_mk (by decide) rfl (fun q _ => aw_oki q) [some (.ref 21), some (.int x1), some (.int x2)] rfl ?_
  rintro cx rfl rfl hN K
  replace hN : aw_nL cx = 3 := hN
  replace K : aw_K cx cX2_get RX2 rX2_get := K
  unfold F_X2_get
  refine af_aload_n K 1 dX2_get_0 rfl rfl ?_
  refine af_get K 4 dX2_get_1 rfl fl_X2_18 (Nat.le_of_ble_eq_true rfl) rfl rfl ?_
  refine af_bipush K 6 dX2_get_4 rfl cs_bipush_40 ?_
  refine af_iload_n K 7 dX2_get_6 rfl rfl ?_
  refine af_imul K 8 dX2_get_7 rfl ?_
  refine af_iload_n K 9 dX2_get_8 rfl rfl ?_
  refine af_iadd K 10 dX2_get_9 rfl ?_
  refine af_iald K 11 dX2_get_10 rfl (Nat.le_of_ble_eq_true rfl) rfl (fun y1 => ?_)
  exact af_reti K dX2_get_11
def F_X2_lowest (x0 : Int32) (x1 : Int32) (σ : fk_T) : Option (Int32 × fk_T) := if x0 = 8 then (some ((x1.toInt8.toInt32), σ)) else (if x0 = 16 then (some ((x1.toInt16.toInt32), σ)) else (some (x1, σ)))
set_option maxRecDepth 100000 in
set_option maxHeartbeats 4000000 in
theorem A_X2_lowest (X : aw_X) (l : Launch) (x0 : Int32) (x1 : Int32) (σ : fk_T) : af_G X l mX2_lowest [.int x0, .int x1] (hp σ) ρi (F_X2_lowest x0 x1 σ) := by
  refine af_mk (by decide) rfl (fun q _ => aw_oki q) [some (.int x0), some (.int x1)] rfl ?_
  rintro cx rfl rfl hN K
  replace hN : aw_nL cx = 2 := hN
  replace K : aw_K cx cX2_lowest RX2 rX2_lowest := K
  unfold F_X2_lowest
  refine af_iload_n K 1 dX2_lowest_0 rfl rfl ?_
  refine af_ite (fun hx => ?_) (fun hx8 => ?_)
  · refine af_lks K 28 dX2_lowest_1 (by decide) (by rw [hx]) rfl ?_
    refine af_iload_n K 29 dX2_lowest_28 rfl rfl ?_
    refine af_i2b K 30 dX2_lowest_29 rfl ?_
    exact af_reti K dX2_lowest_30
  refine af_ite (fun hx => ?_) (fun hx16 => ?_)
  · refine af_lks K 31 dX2_lowest_1 (by decide) (by rw [hx]) rfl ?_
    refine af_iload_n K 32 dX2_lowest_31 rfl rfl ?_
    refine af_i2s K 33 dX2_lowest_32 rfl ?_
    exact af_reti K dX2_lowest_33
  refine af_lks K 34 dX2_lowest_1 (by decide) (lks_8_16 hx8 hx16) rfl ?_
  refine af_iload_n K 35 dX2_lowest_34 rfl rfl ?_
  exact af_reti K dX2_lowest_35
def F_X2_put (x1 : Int32) (x2 : Int32) (x3 : Int32) (σ : fk_T) : Option (fk_T) := fk_A (σ.1 22) 4 x1 (fun y1 => (F_X2_lowest y1 x3 σ).bind (fun q2 => fk_S q2.2 24 160 ((40 * x1) + x2) q2.1 (fun s3 => some s3)))
set_option maxRecDepth 100000 in
set_option maxHeartbeats 4000000 in
theorem A_X2_put (X : aw_X) (l : Launch) (x1 : Int32) (x2 : Int32) (x3 : Int32) (σ : fk_T) : af_G X l mX2_put [.ref 21, .int x1, .int x2, .int x3] (hp σ) ρv (F_X2_put x1 x2 x3 σ) := by
  refine af_mk (by decide) rfl (fun q _ => aw_okv q) [some (.ref 21), some (.int x1), some (.int x2), some (.int x3)] rfl ?_
  rintro cx rfl rfl hN K
  replace hN : aw_nL cx = 4 := hN
  replace K : aw_K cx cX2_put RX2 rX2_put := K
  unfold F_X2_put
  refine af_aload_n K 1 dX2_put_0 rfl rfl ?_
  refine af_get K 4 dX2_put_1 rfl fl_X2_18 (Nat.le_of_ble_eq_true rfl) rfl rfl ?_
  refine af_bipush K 6 dX2_put_4 rfl cs_bipush_40 ?_
  refine af_iload_n K 7 dX2_put_6 rfl rfl ?_
  refine af_imul K 8 dX2_put_7 rfl ?_
  refine af_iload_n K 9 dX2_put_8 rfl rfl ?_
  refine af_iadd K 10 dX2_put_9 rfl ?_
  refine af_aload_n K 11 dX2_put_10 rfl rfl ?_
  refine af_get K 14 dX2_put_11 rfl fl_X2_9 (Nat.le_of_ble_eq_true rfl) rfl rfl ?_
  refine af_iload_n K 15 dX2_put_14 rfl rfl ?_
  refine af_iald K 16 dX2_put_15 rfl (Nat.le_of_ble_eq_true rfl) rfl (fun y1 => ?_)
  refine af_iload_n K 17 dX2_put_16 rfl rfl ?_
  refine af_callS_i K (vs := [.int y1, .int x3]) ms_X2_lowest lk_641 20 dX2_put_17 rfl rfl rfl rfl (A_X2_lowest _ _ y1 x3 σ) rfl (fun q2 => ?_)
  refine af_iast K 21 dX2_put_20 rfl (Nat.le_of_ble_eq_true rfl) (fun _ _ => rfl) (fun s3 => ?_)
  exact af_retv K dX2_put_21
def F_X2_hasRun (x1 : Int32) (x2 : Int32) (x3 : Int32) (σ : fk_T) : Option (Bool × fk_T) := if x2 < 0 then (some (false, σ)) else (if x3 < 0 then (some (false, σ)) else (fk_A (σ.1 23) 4 x1 (fun y1 => if y1 < x2 then (some (false, σ)) else (fk_A (σ.1 23) 4 x1 (fun y2 => if (y2 - x2) < x3 then (some (false, σ)) else (some (true, σ)))))))
set_option maxRecDepth 100000 in
set_option maxHeartbeats 4000000 in
theorem A_X2_hasRun (X : aw_X) (l : Launch) (x1 : Int32) (x2 : Int32) (x3 : Int32) (σ : fk_T) : af_G X l mX2_hasRun [.ref 21, .int x1, .int x2, .int x3] (hp σ) ρz (F_X2_hasRun x1 x2 x3 σ) := by
  refine af_mk (by decide) rfl (fun q _ => aw_okz q) [some (.ref 21), some (.int x1), some (.int x2), some (.int x3)] rfl ?_
  rintro cx rfl rfl hN K
  replace hN : aw_nL cx = 4 := hN
  replace K : aw_K cx cX2_hasRun RX2 rX2_hasRun := K
  unfold F_X2_hasRun
  refine af_iload_n K 1 dX2_hasRun_0 rfl rfl ?_
  refine af_if_lt K 4 34 dX2_hasRun_1 rfl rfl (fun _ => ?_) (fun _ => ?_)
  · refine af_iconst K 35 dX2_hasRun_34 rfl cs_iconst_0 ?_
    exact af_retz K rfl dX2_hasRun_35
  · refine af_iload_n K 5 dX2_hasRun_4 rfl rfl ?_
    refine af_if_lt K 8 34 dX2_hasRun_5 rfl rfl (fun _ => ?_) (fun _ => ?_)
    · refine af_iconst K 35 dX2_hasRun_34 rfl cs_iconst_0 ?_
      exact af_retz K rfl dX2_hasRun_35
    · refine af_iload_n K 9 dX2_hasRun_8 rfl rfl ?_
      refine af_aload_n K 10 dX2_hasRun_9 rfl rfl ?_
      refine af_get K 13 dX2_hasRun_10 rfl fl_X2_15 (Nat.le_of_ble_eq_true rfl) rfl rfl ?_
      refine af_iload_n K 14 dX2_hasRun_13 rfl rfl ?_
      refine af_iald K 15 dX2_hasRun_14 rfl (Nat.le_of_ble_eq_true rfl) rfl (fun y1 => ?_)
      refine af_icmp_gt K 18 34 dX2_hasRun_15 rfl rfl (fun _ => ?_) (fun _ => ?_)
      · refine af_iconst K 35 dX2_hasRun_34 rfl cs_iconst_0 ?_
        exact af_retz K rfl dX2_hasRun_35
      · refine af_iload_n K 19 dX2_hasRun_18 rfl rfl ?_
        refine af_aload_n K 20 dX2_hasRun_19 rfl rfl ?_
        refine af_get K 23 dX2_hasRun_20 rfl fl_X2_15 (Nat.le_of_ble_eq_true rfl) rfl rfl ?_
        refine af_iload_n K 24 dX2_hasRun_23 rfl rfl ?_
        refine af_iald K 25 dX2_hasRun_24 rfl (Nat.le_of_ble_eq_true rfl) rfl (fun y2 => ?_)
        refine af_iload_n K 26 dX2_hasRun_25 rfl rfl ?_
        refine af_isub K 27 dX2_hasRun_26 rfl ?_
        refine af_icmp_gt K 30 34 dX2_hasRun_27 rfl rfl (fun _ => ?_) (fun _ => ?_)
        · refine af_iconst K 35 dX2_hasRun_34 rfl cs_iconst_0 ?_
          exact af_retz K rfl dX2_hasRun_35
        · refine af_iconst K 31 dX2_hasRun_30 rfl cs_iconst_1 ?_
          refine af_goto K 35 dX2_hasRun_31 rfl ?_
          exact af_retz K rfl dX2_hasRun_35
def F_X2_move (x1 : Int32) (x2 : Int32) (x3 : Int32) (x4 : Int32) (x5 : Int32) (σ : fk_T) : Option (fk_T) := fk_Y σ 24 160 ((40 * x1) + x2) 24 160 ((40 * x3) + x4) x5 (fun s1 => some s1)
set_option maxRecDepth 100000 in
set_option maxHeartbeats 4000000 in
theorem A_X2_move (X : aw_X) (l : Launch) (x1 : Int32) (x2 : Int32) (x3 : Int32) (x4 : Int32) (x5 : Int32) (σ : fk_T) : af_G X l mX2_move [.ref 21, .int x1, .int x2, .int x3, .int x4, .int x5] (hp σ) ρv (F_X2_move x1 x2 x3 x4 x5 σ) := by
  refine af_mk (by decide) rfl (fun q _ => aw_okv q) [some (.ref 21), some (.int x1), some (.int x2), some (.int x3), some (.int x4), some (.int x5)] rfl ?_
  rintro cx rfl rfl hN K
  replace hN : aw_nL cx = 6 := hN
  replace K : aw_K cx cX2_move RX2 rX2_move := K
  unfold F_X2_move
  refine af_aload_n K 1 dX2_move_0 rfl rfl ?_
  refine af_get K 4 dX2_move_1 rfl fl_X2_18 (Nat.le_of_ble_eq_true rfl) rfl rfl ?_
  refine af_bipush K 6 dX2_move_4 rfl cs_bipush_40 ?_
  refine af_iload_n K 7 dX2_move_6 rfl rfl ?_
  refine af_imul K 8 dX2_move_7 rfl ?_
  refine af_iload_n K 9 dX2_move_8 rfl rfl ?_
  refine af_iadd K 10 dX2_move_9 rfl ?_
  refine af_aload_n K 11 dX2_move_10 rfl rfl ?_
  refine af_get K 14 dX2_move_11 rfl fl_X2_18 (Nat.le_of_ble_eq_true rfl) rfl rfl ?_
  refine af_bipush K 16 dX2_move_14 rfl cs_bipush_40 ?_
  refine af_iload_n K 17 dX2_move_16 rfl rfl ?_
  refine af_imul K 18 dX2_move_17 rfl ?_
  refine af_iload K 20 dX2_move_18 rfl rfl ?_
  refine af_iadd K 21 dX2_move_20 rfl ?_
  refine af_iload K 23 dX2_move_21 rfl rfl ?_
  refine af_copy K 26 dX2_move_23 rfl lk_656 rfl rfl rfl (Nat.le_of_ble_eq_true rfl) rfl (Nat.le_of_ble_eq_true rfl) (fun _ _ => rfl) (fun s1 => ?_)
  exact af_retv K dX2_move_26
def F_X3_append (x1 : Int32) (σ : fk_T) : Option (fk_T) := if 120 ≤ (σ.1 16 1) then (some σ) else (fk_S σ 17 120 (σ.1 16 1) x1 (fun s1 => fk_B (fk_w s1 16 (upd (s1.1 16) 1 ((s1.1 16 1) + 1))) (fun s2 => some s2)))
set_option maxRecDepth 100000 in
set_option maxHeartbeats 4000000 in
theorem A_X3_append (X : aw_X) (l : Launch) (x1 : Int32) (σ : fk_T) : af_G X l mX3_append [.ref 16, .int x1] (hp σ) ρv (F_X3_append x1 σ) := by
  refine af_mk (by decide) rfl (fun q _ => aw_okv q) [some (.ref 16), some (.int x1)] rfl ?_
  rintro cx rfl rfl hN K
  replace hN : aw_nL cx = 2 := hN
  replace K : aw_K cx cX3_append RX3 rX3_append := K
  unfold F_X3_append
  refine af_aload_n K 1 dX3_append_0 rfl rfl ?_
  refine af_get K 4 dX3_append_1 rfl fl_X3_15 (Nat.le_of_ble_eq_true rfl) rfl rfl ?_
  refine af_bipush K 6 dX3_append_4 rfl cs_bipush_120 ?_
  refine af_icmp_ge K 9 29 dX3_append_6 rfl rfl (fun _ => ?_) (fun _ => ?_)
  · exact af_retv K dX3_append_29
  · refine af_aload_n K 10 dX3_append_9 rfl rfl ?_
    refine af_get K 13 dX3_append_10 rfl fl_X3_9 (Nat.le_of_ble_eq_true rfl) rfl rfl ?_
    refine af_aload_n K 14 dX3_append_13 rfl rfl ?_
    refine af_get K 17 dX3_append_14 rfl fl_X3_15 (Nat.le_of_ble_eq_true rfl) rfl rfl ?_
    refine af_iload_n K 18 dX3_append_17 rfl rfl ?_
    refine af_iast K 19 dX3_append_18 rfl (Nat.le_of_ble_eq_true rfl) (fun _ _ => rfl) (fun s1 => ?_)
    refine af_aload_n K 20 dX3_append_19 rfl rfl ?_
    refine af_dup K 21 dX3_append_20 rfl rfl ?_
    refine af_get K 24 dX3_append_21 rfl fl_X3_15 (Nat.le_of_ble_eq_true rfl) rfl rfl ?_
    refine af_iconst K 25 dX3_append_24 rfl cs_iconst_1 ?_
    refine af_iadd K 26 dX3_append_25 rfl ?_
    refine af_put K 29 dX3_append_26 rfl fp_X3_15 (Nat.le_of_ble_eq_true rfl) rfl (Nat.le_of_ble_eq_true rfl) rfl (fun s2 => ?_)
    exact af_retv K dX3_append_29
