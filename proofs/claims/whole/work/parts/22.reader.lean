def F_X1_hasFault  (σ : fk_T) : Option (Bool × fk_T) := if (σ.1 18 5) = (-1) then (some (false, σ)) else (some (true, σ))
set_option maxRecDepth 100000 in
set_option maxHeartbeats 4000000 in
theorem A_X1_hasFault (X : aw_X) (l : Launch)  (σ : fk_T) : af_G X l mX1_hasFault [.ref 18] (hp σ) ρz (F_X1_hasFault  σ) := by
  refine af_mk (by decide) rfl (fun q _ => aw_okz q) [some (.ref 18)] rfl ?_
  rintro cx rfl rfl hN K
  replace hN : aw_nL cx = 1 := hN
  replace K : aw_K cx cX1_hasFault RX1 rX1_hasFault := K
  unfold F_X1_hasFault
  refine af_aload_n K 1 dX1_hasFault_0 rfl rfl ?_
  refine af_get K 4 dX1_hasFault_1 rfl fl_X1_26 (Nat.le_of_ble_eq_true rfl) rfl rfl ?_
  refine af_iconst K 5 dX1_hasFault_4 rfl cs_iconst_m1 ?_
  refine af_icmp_eq K 8 12 dX1_hasFault_5 rfl rfl (fun _ => ?_) (fun _ => ?_)
  · refine af_iconst K 13 dX1_hasFault_12 rfl cs_iconst_0 ?_
    exact af_retz K rfl dX1_hasFault_13
  · refine af_iconst K 9 dX1_hasFault_8 rfl cs_iconst_1 ?_
    refine af_goto K 13 dX1_hasFault_9 rfl ?_
    exact af_retz K rfl dX1_hasFault_13
def F_X1_isLetter (x1 : Int32) (σ : fk_T) : Option (Bool × fk_T) := fk_A (σ.1 17) 120 x1 (fun y1 => if y1 < 97 then (some (false, σ)) else (fk_A (σ.1 17) 120 x1 (fun y2 => if 122 < y2 then (some (false, σ)) else (some (true, σ)))))
set_option maxRecDepth 100000 in
set_option maxHeartbeats 4000000 in
theorem A_X1_isLetter (X : aw_X) (l : Launch) (x1 : Int32) (σ : fk_T) : af_G X l mX1_isLetter [.ref 18, .int x1] (hp σ) ρz (F_X1_isLetter x1 σ) := by
  refine af_mk (by decide) rfl (fun q _ => aw_okz q) [some (.ref 18), some (.int x1)] rfl ?_
  rintro cx rfl rfl hN K
  replace hN : aw_nL cx = 2 := hN
  replace K : aw_K cx cX1_isLetter RX1 rX1_isLetter := K
  unfold F_X1_isLetter
  refine af_aload_n K 1 dX1_isLetter_0 rfl rfl ?_
  refine af_get K 4 dX1_isLetter_1 rfl fl_X1_9 (Nat.le_of_ble_eq_true rfl) rfl rfl ?_
  refine af_get K 7 dX1_isLetter_4 rfl fl_X1_35 (Nat.le_of_ble_eq_true rfl) rfl rfl ?_
  refine af_iload_n K 8 dX1_isLetter_7 rfl rfl ?_
  refine af_iald K 9 dX1_isLetter_8 rfl (Nat.le_of_ble_eq_true rfl) rfl (fun y1 => ?_)
  refine af_bipush K 11 dX1_isLetter_9 rfl cs_bipush_97 ?_
  refine af_icmp_lt K 14 32 dX1_isLetter_11 rfl rfl (fun _ => ?_) (fun _ => ?_)
  · refine af_iconst K 33 dX1_isLetter_32 rfl cs_iconst_0 ?_
    exact af_retz K rfl dX1_isLetter_33
  · refine af_aload_n K 15 dX1_isLetter_14 rfl rfl ?_
    refine af_get K 18 dX1_isLetter_15 rfl fl_X1_9 (Nat.le_of_ble_eq_true rfl) rfl rfl ?_
    refine af_get K 21 dX1_isLetter_18 rfl fl_X1_35 (Nat.le_of_ble_eq_true rfl) rfl rfl ?_
    refine af_iload_n K 22 dX1_isLetter_21 rfl rfl ?_
    refine af_iald K 23 dX1_isLetter_22 rfl (Nat.le_of_ble_eq_true rfl) rfl (fun y2 => ?_)
    refine af_bipush K 25 dX1_isLetter_23 rfl cs_bipush_122 ?_
    refine af_icmp_gt K 28 32 dX1_isLetter_25 rfl rfl (fun _ => ?_) (fun _ => ?_)
    · refine af_iconst K 33 dX1_isLetter_32 rfl cs_iconst_0 ?_
      exact af_retz K rfl dX1_isLetter_33
    · refine af_iconst K 29 dX1_isLetter_28 rfl cs_iconst_1 ?_
      refine af_goto K 33 dX1_isLetter_29 rfl ?_
      exact af_retz K rfl dX1_isLetter_33
def F_X1_isDigit (x1 : Int32) (σ : fk_T) : Option (Bool × fk_T) := fk_A (σ.1 17) 120 x1 (fun y1 => if y1 < 48 then (some (false, σ)) else (fk_A (σ.1 17) 120 x1 (fun y2 => if 57 < y2 then (some (false, σ)) else (some (true, σ)))))
set_option maxRecDepth 100000 in
set_option maxHeartbeats 4000000 in
theorem A_X1_isDigit (X : aw_X) (l : Launch) (x1 : Int32) (σ : fk_T) : af_G X l mX1_isDigit [.ref 18, .int x1] (hp σ) ρz (F_X1_isDigit x1 σ) := by
  refine af_mk (by decide) rfl (fun q _ => aw_okz q) [some (.ref 18), some (.int x1)] rfl ?_
  rintro cx rfl rfl hN K
  replace hN : aw_nL cx = 2 := hN
  replace K : aw_K cx cX1_isDigit RX1 rX1_isDigit := K
  unfold F_X1_isDigit
  refine af_aload_n K 1 dX1_isDigit_0 rfl rfl ?_
  refine af_get K 4 dX1_isDigit_1 rfl fl_X1_9 (Nat.le_of_ble_eq_true rfl) rfl rfl ?_
  refine af_get K 7 dX1_isDigit_4 rfl fl_X1_35 (Nat.le_of_ble_eq_true rfl) rfl rfl ?_
  refine af_iload_n K 8 dX1_isDigit_7 rfl rfl ?_
  refine af_iald K 9 dX1_isDigit_8 rfl (Nat.le_of_ble_eq_true rfl) rfl (fun y1 => ?_)
  refine af_bipush K 11 dX1_isDigit_9 rfl cs_bipush_48 ?_
  refine af_icmp_lt K 14 32 dX1_isDigit_11 rfl rfl (fun _ => ?_) (fun _ => ?_)
  · refine af_iconst K 33 dX1_isDigit_32 rfl cs_iconst_0 ?_
    exact af_retz K rfl dX1_isDigit_33
  · refine af_aload_n K 15 dX1_isDigit_14 rfl rfl ?_
    refine af_get K 18 dX1_isDigit_15 rfl fl_X1_9 (Nat.le_of_ble_eq_true rfl) rfl rfl ?_
    refine af_get K 21 dX1_isDigit_18 rfl fl_X1_35 (Nat.le_of_ble_eq_true rfl) rfl rfl ?_
    refine af_iload_n K 22 dX1_isDigit_21 rfl rfl ?_
    refine af_iald K 23 dX1_isDigit_22 rfl (Nat.le_of_ble_eq_true rfl) rfl (fun y2 => ?_)
    refine af_bipush K 25 dX1_isDigit_23 rfl cs_bipush_57 ?_
    refine af_icmp_gt K 28 32 dX1_isDigit_25 rfl rfl (fun _ => ?_) (fun _ => ?_)
    · refine af_iconst K 33 dX1_isDigit_32 rfl cs_iconst_0 ?_
      exact af_retz K rfl dX1_isDigit_33
    · refine af_iconst K 29 dX1_isDigit_28 rfl cs_iconst_1 ?_
      refine af_goto K 33 dX1_isDigit_29 rfl ?_
      exact af_retz K rfl dX1_isDigit_33
def F_X1_goesOnAt (x1 : Int32) (σ : fk_T) : Option (Bool × fk_T) := if x1 ≤ 0 then (some (false, σ)) else ((F_X1_isLetter x1 σ).bind (fun q1 => if (fk_b q1.1) = 0 then ((F_X1_isDigit x1 q1.2).bind (fun q2 => if (fk_b q2.1) = 0 then (some (false, q2.2)) else ((F_X1_isDigit (x1 - 1) q2.2).bind (fun q3 => if (fk_b q3.1) = 0 then (some (false, q3.2)) else (some (true, q3.2)))))) else ((F_X1_isLetter (x1 - 1) q1.2).bind (fun q4 => if (fk_b q4.1) = 0 then ((F_X1_isDigit x1 q4.2).bind (fun q5 => if (fk_b q5.1) = 0 then (some (false, q5.2)) else ((F_X1_isDigit (x1 - 1) q5.2).bind (fun q6 => if (fk_b q6.1) = 0 then (some (false, q6.2)) else (some (true, q6.2)))))) else (some (true, q4.2))))))
set_option maxRecDepth 100000 in
set_option maxHeartbeats 4000000 in
theorem A_X1_goesOnAt (X : aw_X) (l : Launch) (x1 : Int32) (σ : fk_T) : af_G X l mX1_goesOnAt [.ref 18, .int x1] (hp σ) ρz (F_X1_goesOnAt x1 σ) := by
  refine af_mk (by decide) rfl (fun q _ => aw_okz q) [some (.ref 18), some (.int x1)] rfl ?_
  rintro cx rfl rfl hN K
  replace hN : aw_nL cx = 2 := hN
  replace K : aw_K cx cX1_goesOnAt RX1 rX1_goesOnAt := K
  unfold F_X1_goesOnAt
  refine af_iload_n K 1 dX1_goesOnAt_0 rfl rfl ?_
  refine af_if_le K 4 44 dX1_goesOnAt_1 rfl rfl (fun _ => ?_) (fun _ => ?_)
  · refine af_iconst K 45 dX1_goesOnAt_44 rfl cs_iconst_0 ?_
    exact af_retz K rfl dX1_goesOnAt_45
  · refine af_aload_n K 5 dX1_goesOnAt_4 rfl rfl ?_
    refine af_iload_n K 6 dX1_goesOnAt_5 rfl rfl ?_
    refine af_callV_z K (b := 18) (vs := [.int x1]) mv_X1_isLetter lk_469 ((hp_at _ (Nat.le_of_ble_eq_true rfl)).trans rfl) rfl 9 dX1_goesOnAt_6 rfl rfl rfl rfl (A_X1_isLetter _ _ x1 σ) rfl (fun q1 => ?_)
    refine af_if_eq K 12 22 dX1_goesOnAt_9 rfl rfl (fun _ => ?_) (fun _ => ?_)
    · refine af_aload_n K 23 dX1_goesOnAt_22 rfl rfl ?_
      refine af_iload_n K 24 dX1_goesOnAt_23 rfl rfl ?_
      refine af_callV_z K (b := 18) (vs := [.int x1]) mv_X1_isDigit lk_473 ((hp_at _ (Nat.le_of_ble_eq_true rfl)).trans rfl) rfl 27 dX1_goesOnAt_24 rfl rfl rfl rfl (A_X1_isDigit _ _ x1 q1.2) rfl (fun q2 => ?_)
      refine af_if_eq K 30 44 dX1_goesOnAt_27 rfl rfl (fun _ => ?_) (fun _ => ?_)
      · refine af_iconst K 45 dX1_goesOnAt_44 rfl cs_iconst_0 ?_
        exact af_retz K rfl dX1_goesOnAt_45
      · refine af_aload_n K 31 dX1_goesOnAt_30 rfl rfl ?_
        refine af_iload_n K 32 dX1_goesOnAt_31 rfl rfl ?_
        refine af_iconst K 33 dX1_goesOnAt_32 rfl cs_iconst_1 ?_
        refine af_isub K 34 dX1_goesOnAt_33 rfl ?_
        refine af_callV_z K (b := 18) (vs := [.int (x1 - 1)]) mv_X1_isDigit lk_473 ((hp_at _ (Nat.le_of_ble_eq_true rfl)).trans rfl) rfl 37 dX1_goesOnAt_34 rfl rfl rfl rfl (A_X1_isDigit _ _ (x1 - 1) q2.2) rfl (fun q3 => ?_)
        refine af_if_eq K 40 44 dX1_goesOnAt_37 rfl rfl (fun _ => ?_) (fun _ => ?_)
        · refine af_iconst K 45 dX1_goesOnAt_44 rfl cs_iconst_0 ?_
          exact af_retz K rfl dX1_goesOnAt_45
        · refine af_iconst K 41 dX1_goesOnAt_40 rfl cs_iconst_1 ?_
          refine af_goto K 45 dX1_goesOnAt_41 rfl ?_
          exact af_retz K rfl dX1_goesOnAt_45
    · refine af_aload_n K 13 dX1_goesOnAt_12 rfl rfl ?_
      refine af_iload_n K 14 dX1_goesOnAt_13 rfl rfl ?_
      refine af_iconst K 15 dX1_goesOnAt_14 rfl cs_iconst_1 ?_
      refine af_isub K 16 dX1_goesOnAt_15 rfl ?_
      refine af_callV_z K (b := 18) (vs := [.int (x1 - 1)]) mv_X1_isLetter lk_469 ((hp_at _ (Nat.le_of_ble_eq_true rfl)).trans rfl) rfl 19 dX1_goesOnAt_16 rfl rfl rfl rfl (A_X1_isLetter _ _ (x1 - 1) q1.2) rfl (fun q4 => ?_)
      refine af_if_ne K 22 40 dX1_goesOnAt_19 rfl rfl (fun _ => ?_) (fun _ => ?_)
      · refine af_iconst K 41 dX1_goesOnAt_40 rfl cs_iconst_1 ?_
        refine af_goto K 45 dX1_goesOnAt_41 rfl ?_
        exact af_retz K rfl dX1_goesOnAt_45
      · refine af_aload_n K 23 dX1_goesOnAt_22 rfl rfl ?_
        refine af_iload_n K 24 dX1_goesOnAt_23 rfl rfl ?_
        refine af_callV_z K (b := 18) (vs := [.int x1]) mv_X1_isDigit lk_473 ((hp_at _ (Nat.le_of_ble_eq_true rfl)).trans rfl) rfl 27 dX1_goesOnAt_24 rfl rfl rfl rfl (A_X1_isDigit _ _ x1 q4.2) rfl (fun q5 => ?_)
        refine af_if_eq K 30 44 dX1_goesOnAt_27 rfl rfl (fun _ => ?_) (fun _ => ?_)
        · refine af_iconst K 45 dX1_goesOnAt_44 rfl cs_iconst_0 ?_
          exact af_retz K rfl dX1_goesOnAt_45
        · refine af_aload_n K 31 dX1_goesOnAt_30 rfl rfl ?_
          refine af_iload_n K 32 dX1_goesOnAt_31 rfl rfl ?_
          refine af_iconst K 33 dX1_goesOnAt_32 rfl cs_iconst_1 ?_
          refine af_isub K 34 dX1_goesOnAt_33 rfl ?_
          refine af_callV_z K (b := 18) (vs := [.int (x1 - 1)]) mv_X1_isDigit lk_473 ((hp_at _ (Nat.le_of_ble_eq_true rfl)).trans rfl) rfl 37 dX1_goesOnAt_34 rfl rfl rfl rfl (A_X1_isDigit _ _ (x1 - 1) q5.2) rfl (fun q6 => ?_)
          refine af_if_eq K 40 44 dX1_goesOnAt_37 rfl rfl (fun _ => ?_) (fun _ => ?_)
          · refine af_iconst K 45 dX1_goesOnAt_44 rfl cs_iconst_0 ?_
            exact af_retz K rfl dX1_goesOnAt_45
          · refine af_iconst K 41 dX1_goesOnAt_40 rfl cs_iconst_1 ?_
            refine af_goto K 45 dX1_goesOnAt_41 rfl ?_
            exact af_retz K rfl dX1_goesOnAt_45
def L_X1_numberAt_4  : Nat → Int32 → Int32 → fk_T → (Int32 → Int32 → fk_T → Option (Int32 × fk_T)) → Option (Int32 × fk_T)
  | 0, _, _, _, _ => none
  | fu + 1, x2, x3, σ, k => if (σ.1 16 1) ≤ x3 then (k x2 x3 σ) else ((F_X1_isDigit x3 σ).bind (fun q1 => if (fk_b q1.1) = 0 then (k x2 x3 q1.2) else (fk_A (q1.2.1 17) 120 x3 (fun y2 => fk_B (fk_min (((10 * x2) + y2) - 48) 1000) (fun y3 => fk_B (x3 + 1) (fun y4 => L_X1_numberAt_4 fu y3 y4 q1.2 k))))))
def F_X1_numberAt (x1 : Int32) (σ : fk_T) : Option (Int32 × fk_T) := L_X1_numberAt_4 fk_N 0 x1 σ (fun y6 y7 s5 => some (y6, s5))
set_option maxRecDepth 100000 in
set_option maxHeartbeats 4000000 in
theorem W_X1_numberAt_4 {cx : aw_C} (hN : aw_nL cx = 4) (K : aw_K cx cX1_numberAt RX1 rX1_numberAt)  : ∀ (fu : Nat) (x2 : Int32) (x3 : Int32) (σ : fk_T) (k : Int32 → Int32 → fk_T → Option (Int32 × fk_T)), (∀ (x2 : Int32) (x3 : Int32) (σ : fk_T), af cx ρi 53 [some (.ref 18), none, some (.int x2), some (.int x3)] [] (hp σ) (k x2 x3 σ)) → af cx ρi 4 [some (.ref 18), none, some (.int x2), some (.int x3)] [] (hp σ) (L_X1_numberAt_4 fu x2 x3 σ k) := by
  intro fu
  induction fu with
  | zero => intros; exact af_none
  | succ fu ih4 =>
    intro x2 x3 σ k hk4
    rw [L_X1_numberAt_4]
    refine af_iload_n K 5 dX1_numberAt_4 rfl rfl ?_
    refine af_aload_n K 6 dX1_numberAt_5 rfl rfl ?_
    refine af_get K 9 dX1_numberAt_6 rfl fl_X1_9 (Nat.le_of_ble_eq_true rfl) rfl rfl ?_
    refine af_get K 12 dX1_numberAt_9 rfl fl_X1_30 (Nat.le_of_ble_eq_true rfl) rfl rfl ?_
    refine af_icmp_ge K 15 53 dX1_numberAt_12 rfl rfl (fun _ => ?_) (fun _ => ?_)
    · refine af_lm [true, false, true, true] rfl ?_
      exact hk4 _ _ _
    · refine af_aload_n K 16 dX1_numberAt_15 rfl rfl ?_
      refine af_iload_n K 17 dX1_numberAt_16 rfl rfl ?_
      refine af_callV_z K (b := 18) (vs := [.int x3]) mv_X1_isDigit lk_473 ((hp_at _ (Nat.le_of_ble_eq_true rfl)).trans rfl) rfl 20 dX1_numberAt_17 rfl rfl rfl rfl (A_X1_isDigit _ _ x3 σ) rfl (fun q1 => ?_)
      refine af_if_eq K 23 53 dX1_numberAt_20 rfl rfl (fun _ => ?_) (fun _ => ?_)
      · refine af_lm [true, false, true, true] rfl ?_
        exact hk4 _ _ _
      · refine af_bipush K 25 dX1_numberAt_23 rfl cs_bipush_10 ?_
        refine af_iload_n K 26 dX1_numberAt_25 rfl rfl ?_
        refine af_imul K 27 dX1_numberAt_26 rfl ?_
        refine af_aload_n K 28 dX1_numberAt_27 rfl rfl ?_
        refine af_get K 31 dX1_numberAt_28 rfl fl_X1_9 (Nat.le_of_ble_eq_true rfl) rfl rfl ?_
        refine af_get K 34 dX1_numberAt_31 rfl fl_X1_35 (Nat.le_of_ble_eq_true rfl) rfl rfl ?_
        refine af_iload_n K 35 dX1_numberAt_34 rfl rfl ?_
        refine af_iald K 36 dX1_numberAt_35 rfl (Nat.le_of_ble_eq_true rfl) rfl (fun y2 => ?_)
        refine af_iadd K 37 dX1_numberAt_36 rfl ?_
        refine af_bipush K 39 dX1_numberAt_37 rfl cs_bipush_48 ?_
        refine af_isub K 40 dX1_numberAt_39 rfl ?_
        refine af_sipush K 43 dX1_numberAt_40 rfl cs_sipush_1000 ?_
        refine af_mmin K 46 dX1_numberAt_43 rfl lk_485 rfl rfl rfl ?_
        refine af_Bi (fun y3 => ?_)
        refine af_istore_n K 47 [some (.ref 18), none, some (.int y3), some (.int x3)] dX1_numberAt_46 rfl (by rw [hN]; exact Nat.le_of_ble_eq_true rfl) rfl ?_
        refine af_iincB K 50 (fun yy => [some (.ref 18), none, some (.int y3), some (.int yy)]) dX1_numberAt_47 rfl (by rw [hN]; exact Nat.le_of_ble_eq_true rfl) rfl cs_iconst_1 (fun _ => rfl) (fun y4 => ?_)
        refine af_goto K 4 dX1_numberAt_50 rfl ?_
        refine af_lm [true, false, true, true] rfl ?_
        exact ih4 _ _ _ _ hk4
set_option maxRecDepth 100000 in
set_option maxHeartbeats 4000000 in
theorem A_X1_numberAt (X : aw_X) (l : Launch) (x1 : Int32) (σ : fk_T) : af_G X l mX1_numberAt [.ref 18, .int x1] (hp σ) ρi (F_X1_numberAt x1 σ) := by
  refine af_mk (by decide) rfl (fun q _ => aw_oki q) [some (.ref 18), some (.int x1), none, none] rfl ?_
  rintro cx rfl rfl hN K
  replace hN : aw_nL cx = 4 := hN
  replace K : aw_K cx cX1_numberAt RX1 rX1_numberAt := K
  unfold F_X1_numberAt
  refine af_iconst K 1 dX1_numberAt_0 rfl cs_iconst_0 ?_
  refine af_istore_n K 2 [some (.ref 18), some (.int x1), some (.int 0), none] dX1_numberAt_1 rfl (by rw [hN]; exact Nat.le_of_ble_eq_true rfl) rfl ?_
  refine af_iload_n K 3 dX1_numberAt_2 rfl rfl ?_
  refine af_istore_n K 4 [some (.ref 18), some (.int x1), some (.int 0), some (.int x1)] dX1_numberAt_3 rfl (by rw [hN]; exact Nat.le_of_ble_eq_true rfl) rfl ?_
  refine af_lm [true, false, true, true] rfl ?_
  refine W_X1_numberAt_4 hN K  fk_N _ _ _ _ (fun y6 y7 s5 => ?_)
  refine af_iload_n K 54 dX1_numberAt_53 rfl rfl ?_
  exact af_reti K dX1_numberAt_54
def F_X1_nameOf (x0 : Int32) (σ : fk_T) : Option (Nat × fk_T) := if x0 = 0 then (some (1010, σ)) else (if x0 = 1 then (some (1011, σ)) else (if x0 = 2 then (some (1012, σ)) else (if x0 = 3 then (some (1013, σ)) else (if x0 = 4 then (some (1014, σ)) else (if x0 = 5 then (some (1015, σ)) else (if x0 = 6 then (some (1016, σ)) else (if x0 = 7 then (some (1017, σ)) else (if x0 = 8 then (some (1018, σ)) else (if x0 = 9 then (some (1019, σ)) else (if x0 = 10 then (some (1020, σ)) else (if x0 = 11 then (some (1021, σ)) else (some (1022, σ)))))))))))))
set_option maxRecDepth 100000 in
set_option maxHeartbeats 4000000 in
theorem A_X1_nameOf (X : aw_X) (l : Launch) (x0 : Int32) (σ : fk_T) : af_G X l mX1_nameOf [.int x0] (hp σ) ρr (F_X1_nameOf x0 σ) := by
  refine af_mk (by decide) rfl (fun q _ => (aw_okr _) q) [some (.int x0)] rfl ?_
  rintro cx rfl rfl hN K
  replace hN : aw_nL cx = 1 := hN
  replace K : aw_K cx cX1_nameOf RX1 rX1_nameOf := K
  unfold F_X1_nameOf
  refine af_iload_n K 1 dX1_nameOf_0 rfl rfl ?_
  refine af_ite (fun hx => ?_) (fun hx0 => ?_)
  · refine af_tin K 64 0 hx dX1_nameOf_1 (by decide) (by decide) rfl rfl ?_
    refine af_ldcS K 0 rfl 66 dX1_nameOf_64 rfl ?_
    exact af_retr K dX1_nameOf_66
  refine af_ite (fun hx => ?_) (fun hx1 => ?_)
  · refine af_tin K 67 1 hx dX1_nameOf_1 (by decide) (by decide) rfl rfl ?_
    refine af_ldcS K 1 rfl 69 dX1_nameOf_67 rfl ?_
    exact af_retr K dX1_nameOf_69
  refine af_ite (fun hx => ?_) (fun hx2 => ?_)
  · refine af_tin K 70 2 hx dX1_nameOf_1 (by decide) (by decide) rfl rfl ?_
    refine af_ldcS K 2 rfl 72 dX1_nameOf_70 rfl ?_
    exact af_retr K dX1_nameOf_72
  refine af_ite (fun hx => ?_) (fun hx3 => ?_)
  · refine af_tin K 73 3 hx dX1_nameOf_1 (by decide) (by decide) rfl rfl ?_
    refine af_ldcS K 3 rfl 75 dX1_nameOf_73 rfl ?_
    exact af_retr K dX1_nameOf_75
  refine af_ite (fun hx => ?_) (fun hx4 => ?_)
  · refine af_tin K 76 4 hx dX1_nameOf_1 (by decide) (by decide) rfl rfl ?_
    refine af_ldcS K 4 rfl 78 dX1_nameOf_76 rfl ?_
    exact af_retr K dX1_nameOf_78
  refine af_ite (fun hx => ?_) (fun hx5 => ?_)
  · refine af_tin K 79 5 hx dX1_nameOf_1 (by decide) (by decide) rfl rfl ?_
    refine af_ldcS K 5 rfl 81 dX1_nameOf_79 rfl ?_
    exact af_retr K dX1_nameOf_81
  refine af_ite (fun hx => ?_) (fun hx6 => ?_)
  · refine af_tin K 82 6 hx dX1_nameOf_1 (by decide) (by decide) rfl rfl ?_
    refine af_ldcS K 6 rfl 84 dX1_nameOf_82 rfl ?_
    exact af_retr K dX1_nameOf_84
  refine af_ite (fun hx => ?_) (fun hx7 => ?_)
  · refine af_tin K 85 7 hx dX1_nameOf_1 (by decide) (by decide) rfl rfl ?_
    refine af_ldcS K 7 rfl 87 dX1_nameOf_85 rfl ?_
    exact af_retr K dX1_nameOf_87
  refine af_ite (fun hx => ?_) (fun hx8 => ?_)
  · refine af_tin K 88 8 hx dX1_nameOf_1 (by decide) (by decide) rfl rfl ?_
    refine af_ldcS K 8 rfl 90 dX1_nameOf_88 rfl ?_
    exact af_retr K dX1_nameOf_90
  refine af_ite (fun hx => ?_) (fun hx9 => ?_)
  · refine af_tin K 91 9 hx dX1_nameOf_1 (by decide) (by decide) rfl rfl ?_
    refine af_ldcS K 9 rfl 93 dX1_nameOf_91 rfl ?_
    exact af_retr K dX1_nameOf_93
  refine af_ite (fun hx => ?_) (fun hx10 => ?_)
  · refine af_tin K 94 10 hx dX1_nameOf_1 (by decide) (by decide) rfl rfl ?_
    refine af_ldcS K 10 rfl 96 dX1_nameOf_94 rfl ?_
    exact af_retr K dX1_nameOf_96
  refine af_ite (fun hx => ?_) (fun hx11 => ?_)
  · refine af_tin K 97 11 hx dX1_nameOf_1 (by decide) (by decide) rfl rfl ?_
    refine af_ldcS K 11 rfl 99 dX1_nameOf_97 rfl ?_
    exact af_retr K dX1_nameOf_99
  refine af_tout K 100 dX1_nameOf_1 (tsw_0_11 hx0 hx1 hx2 hx3 hx4 hx5 hx6 hx7 hx8 hx9 hx10 hx11) rfl ?_
  refine af_ldcS K 12 rfl 102 dX1_nameOf_100 rfl ?_
  exact af_retr K dX1_nameOf_102
def L_X1_isWordAt_42 (w : Nat) : Nat → Int32 → Int32 → fk_T → (Int32 → Int32 → fk_T → Option (Bool × fk_T)) → Option (Bool × fk_T)
  | 0, _, _, _, _ => none
  | fu + 1, x1, x4, σ, k => (F_J0_length_8abf5 w σ).bind (fun q3 => if q3.1 ≤ x4 then (k x1 x4 q3.2) else (fk_A (q3.2.1 17) 120 (x1 + x4) (fun y4 => (F_J0_charAt_5068e w x4 q3.2).bind (fun q5 => if y4 = q5.1 then (fk_B (x4 + 1) (fun y6 => L_X1_isWordAt_42 w fu x1 y6 q5.2 k)) else (some (false, q5.2))))))
def F_X1_isWordAt (x1 : Int32) (w : Nat) (σ : fk_T) : Option (Bool × fk_T) := (F_J0_length_8abf5 w σ).bind (fun q1 => fk_B (x1 + q1.1) (fun y2 => if (q1.2.1 16 1) < y2 then (some (false, q1.2)) else (if (q1.2.1 16 1) ≤ y2 then (L_X1_isWordAt_42 w fk_N x1 0 q1.2 (fun y8 y9 s7 => some (true, s7))) else ((F_X1_isLetter y2 q1.2).bind (fun q10 => if (fk_b q10.1) = 0 then (L_X1_isWordAt_42 w fk_N x1 0 q10.2 (fun y12 y13 s11 => some (true, s11))) else (some (false, q10.2)))))))
set_option maxRecDepth 100000 in
set_option maxHeartbeats 4000000 in
theorem W_X1_isWordAt_42 {cx : aw_C} (hN : aw_nL cx = 5) (K : aw_K cx cX1_isWordAt RX1 rX1_isWordAt) (w : Nat) (hw : hp_W w) : ∀ (fu : Nat) (x1 : Int32) (x4 : Int32) (σ : fk_T) (k : Int32 → Int32 → fk_T → Option (Bool × fk_T)), (∀ (x1 : Int32) (x4 : Int32) (σ : fk_T), af cx ρz 80 [some (.ref 18), some (.int x1), some (.ref w), none, some (.int x4)] [] (hp σ) (k x1 x4 σ)) → af cx ρz 42 [some (.ref 18), some (.int x1), some (.ref w), none, some (.int x4)] [] (hp σ) (L_X1_isWordAt_42 w fu x1 x4 σ k) := by
  intro fu
  induction fu with
  | zero => intros; exact af_none
  | succ fu ih42 =>
    intro x1 x4 σ k hk42
    rw [L_X1_isWordAt_42]
    refine af_iload K 44 dX1_isWordAt_42 rfl rfl ?_
    refine af_aload_n K 45 dX1_isWordAt_44 rfl rfl ?_
    refine af_callW_i K (b := w) (vs := []) mv_J0_length_8abf5 lk_510 hw rfl 48 dX1_isWordAt_45 rfl rfl rfl rfl (A_J0_length_8abf5 _ _ w hw σ) rfl (fun q3 => ?_)
    refine af_icmp_ge K 51 80 dX1_isWordAt_48 rfl rfl (fun _ => ?_) (fun _ => ?_)
    · refine af_lm [true, true, true, false, true] rfl ?_
      exact hk42 _ _ _
    · refine af_aload_n K 52 dX1_isWordAt_51 rfl rfl ?_
      refine af_get K 55 dX1_isWordAt_52 rfl fl_X1_9 (Nat.le_of_ble_eq_true rfl) rfl rfl ?_
      refine af_get K 58 dX1_isWordAt_55 rfl fl_X1_35 (Nat.le_of_ble_eq_true rfl) rfl rfl ?_
      refine af_iload_n K 59 dX1_isWordAt_58 rfl rfl ?_
      refine af_iload K 61 dX1_isWordAt_59 rfl rfl ?_
      refine af_iadd K 62 dX1_isWordAt_61 rfl ?_
      refine af_iald K 63 dX1_isWordAt_62 rfl (Nat.le_of_ble_eq_true rfl) rfl (fun y4 => ?_)
      refine af_aload_n K 64 dX1_isWordAt_63 rfl rfl ?_
      refine af_iload K 66 dX1_isWordAt_64 rfl rfl ?_
      refine af_callW_i K (b := w) (vs := [.int x4]) mv_J0_charAt_5068e lk_520 hw rfl 69 dX1_isWordAt_66 rfl rfl rfl rfl (A_J0_charAt_5068e _ _ w hw x4 q3.2) rfl (fun q5 => ?_)
      refine af_icmp_eq K 72 74 dX1_isWordAt_69 rfl rfl (fun _ => ?_) (fun _ => ?_)
      · refine af_iincB K 77 (fun yy => [some (.ref 18), some (.int x1), some (.ref w), none, some (.int yy)]) dX1_isWordAt_74 rfl (by rw [hN]; exact Nat.le_of_ble_eq_true rfl) rfl cs_iconst_1 (fun _ => rfl) (fun y6 => ?_)
        refine af_goto K 42 dX1_isWordAt_77 rfl ?_
        refine af_lm [true, true, true, false, true] rfl ?_
        exact ih42 _ _ _ _ hk42
      · refine af_iconst K 73 dX1_isWordAt_72 rfl cs_iconst_0 ?_
        exact af_retz K rfl dX1_isWordAt_73
set_option maxRecDepth 100000 in
set_option maxHeartbeats 4000000 in
theorem A_X1_isWordAt (X : aw_X) (l : Launch) (x1 : Int32) (w : Nat) (hw : hp_W w) (σ : fk_T) : af_G X l mX1_isWordAt [.ref 18, .int x1, .ref w] (hp σ) ρz (F_X1_isWordAt x1 w σ) := by
  refine af_mk (by decide) rfl (fun q _ => aw_okz q) [some (.ref 18), some (.int x1), some (.ref w), none, none] rfl ?_
  rintro cx rfl rfl hN K
  replace hN : aw_nL cx = 5 := hN
  replace K : aw_K cx cX1_isWordAt RX1 rX1_isWordAt := K
  unfold F_X1_isWordAt
  refine af_iload_n K 1 dX1_isWordAt_0 rfl rfl ?_
  refine af_aload_n K 2 dX1_isWordAt_1 rfl rfl ?_
  refine af_callW_i K (b := w) (vs := []) mv_J0_length_8abf5 lk_510 hw rfl 5 dX1_isWordAt_2 rfl rfl rfl rfl (A_J0_length_8abf5 _ _ w hw σ) rfl (fun q1 => ?_)
  refine af_iadd K 6 dX1_isWordAt_5 rfl ?_
  refine af_Bi (fun y2 => ?_)
  refine af_istore_n K 7 [some (.ref 18), some (.int x1), some (.ref w), some (.int y2), none] dX1_isWordAt_6 rfl (by rw [hN]; exact Nat.le_of_ble_eq_true rfl) rfl ?_
  refine af_iload_n K 8 dX1_isWordAt_7 rfl rfl ?_
  refine af_aload_n K 9 dX1_isWordAt_8 rfl rfl ?_
  refine af_get K 12 dX1_isWordAt_9 rfl fl_X1_9 (Nat.le_of_ble_eq_true rfl) rfl rfl ?_
  refine af_get K 15 dX1_isWordAt_12 rfl fl_X1_30 (Nat.le_of_ble_eq_true rfl) rfl rfl ?_
  refine af_icmp_gt K 18 37 dX1_isWordAt_15 rfl rfl (fun _ => ?_) (fun _ => ?_)
  · refine af_iconst K 38 dX1_isWordAt_37 rfl cs_iconst_0 ?_
    exact af_retz K rfl dX1_isWordAt_38
  · refine af_iload_n K 19 dX1_isWordAt_18 rfl rfl ?_
    refine af_aload_n K 20 dX1_isWordAt_19 rfl rfl ?_
    refine af_get K 23 dX1_isWordAt_20 rfl fl_X1_9 (Nat.le_of_ble_eq_true rfl) rfl rfl ?_
    refine af_get K 26 dX1_isWordAt_23 rfl fl_X1_30 (Nat.le_of_ble_eq_true rfl) rfl rfl ?_
    refine af_icmp_ge K 29 39 dX1_isWordAt_26 rfl rfl (fun _ => ?_) (fun _ => ?_)
    · refine af_iconst K 40 dX1_isWordAt_39 rfl cs_iconst_0 ?_
      refine af_istore K 42 [some (.ref 18), some (.int x1), some (.ref w), some (.int y2), some (.int 0)] dX1_isWordAt_40 rfl (by rw [hN]; exact Nat.le_of_ble_eq_true rfl) rfl ?_
      refine af_lm [true, true, true, false, true] rfl ?_
      refine W_X1_isWordAt_42 hN K w hw fk_N _ _ _ _ (fun y8 y9 s7 => ?_)
      refine af_iconst K 81 dX1_isWordAt_80 rfl cs_iconst_1 ?_
      exact af_retz K rfl dX1_isWordAt_81
    · refine af_aload_n K 30 dX1_isWordAt_29 rfl rfl ?_
      refine af_iload_n K 31 dX1_isWordAt_30 rfl rfl ?_
      refine af_callV_z K (b := 18) (vs := [.int y2]) mv_X1_isLetter lk_469 ((hp_at _ (Nat.le_of_ble_eq_true rfl)).trans rfl) rfl 34 dX1_isWordAt_31 rfl rfl rfl rfl (A_X1_isLetter _ _ y2 q1.2) rfl (fun q10 => ?_)
      refine af_if_eq K 37 39 dX1_isWordAt_34 rfl rfl (fun _ => ?_) (fun _ => ?_)
      · refine af_iconst K 40 dX1_isWordAt_39 rfl cs_iconst_0 ?_
        refine af_istore K 42 [some (.ref 18), some (.int x1), some (.ref w), some (.int y2), some (.int 0)] dX1_isWordAt_40 rfl (by rw [hN]; exact Nat.le_of_ble_eq_true rfl) rfl ?_
        refine af_lm [true, true, true, false, true] rfl ?_
        refine W_X1_isWordAt_42 hN K w hw fk_N _ _ _ _ (fun y12 y13 s11 => ?_)
        refine af_iconst K 81 dX1_isWordAt_80 rfl cs_iconst_1 ?_
        exact af_retz K rfl dX1_isWordAt_81
      · refine af_iconst K 38 dX1_isWordAt_37 rfl cs_iconst_0 ?_
        exact af_retz K rfl dX1_isWordAt_38
def L_X1_wordAt_2  : Nat → Int32 → Int32 → fk_T → (Int32 → Int32 → fk_T → Option (Int32 × fk_T)) → Option (Int32 × fk_T)
  | 0, _, _, _, _ => none
  | fu + 1, x1, x2, σ, k => if 12 < x2 then (k x1 x2 σ) else ((F_X1_nameOf x2 σ).bind (fun q1 => fk_W q1.1 ((F_X1_isWordAt x1 q1.1 q1.2).bind (fun q2 => if (fk_b q2.1) = 0 then (fk_B (x2 + 1) (fun y3 => L_X1_wordAt_2 fu x1 y3 q2.2 k)) else (some (((-10) - x2), q2.2))))))
def F_X1_wordAt (x1 : Int32) (σ : fk_T) : Option (Int32 × fk_T) := L_X1_wordAt_2 fk_N x1 0 σ (fun y5 y6 s4 => some ((-3), s4))
set_option maxRecDepth 100000 in
set_option maxHeartbeats 4000000 in
theorem W_X1_wordAt_2 {cx : aw_C} (hN : aw_nL cx = 3) (K : aw_K cx cX1_wordAt RX1 rX1_wordAt)  : ∀ (fu : Nat) (x1 : Int32) (x2 : Int32) (σ : fk_T) (k : Int32 → Int32 → fk_T → Option (Int32 × fk_T)), (∀ (x1 : Int32) (x2 : Int32) (σ : fk_T), af cx ρi 31 [some (.ref 18), some (.int x1), some (.int x2)] [] (hp σ) (k x1 x2 σ)) → af cx ρi 2 [some (.ref 18), some (.int x1), some (.int x2)] [] (hp σ) (L_X1_wordAt_2 fu x1 x2 σ k) := by
  intro fu
  induction fu with
  | zero => intros; exact af_none
  | succ fu ih2 =>
    intro x1 x2 σ k hk2
    rw [L_X1_wordAt_2]
    refine af_iload_n K 3 dX1_wordAt_2 rfl rfl ?_
    refine af_bipush K 5 dX1_wordAt_3 rfl cs_bipush_12 ?_
    refine af_icmp_gt K 8 31 dX1_wordAt_5 rfl rfl (fun _ => ?_) (fun _ => ?_)
    · refine af_lm [true, true, true] rfl ?_
      exact hk2 _ _ _
    · refine af_aload_n K 9 dX1_wordAt_8 rfl rfl ?_
      refine af_iload_n K 10 dX1_wordAt_9 rfl rfl ?_
      refine af_iload_n K 11 dX1_wordAt_10 rfl rfl ?_
      refine af_callS_r K (vs := [.int x2]) ms_X1_nameOf lk_490 14 dX1_wordAt_11 rfl rfl rfl rfl (A_X1_nameOf _ _ x2 σ) rfl (fun q1 => ?_)
      refine af_W (fun hwg => ?_)
      refine af_callV_z K (b := 18) (vs := [.int x1, .ref q1.1]) mv_X1_isWordAt lk_506 ((hp_at _ (Nat.le_of_ble_eq_true rfl)).trans rfl) rfl 17 dX1_wordAt_14 rfl rfl rfl rfl (A_X1_isWordAt _ _ x1 q1.1 hwg q1.2) rfl (fun q2 => ?_)
      refine af_if_eq K 20 25 dX1_wordAt_17 rfl rfl (fun _ => ?_) (fun _ => ?_)
      · refine af_iincB K 28 (fun yy => [some (.ref 18), some (.int x1), some (.int yy)]) dX1_wordAt_25 rfl (by rw [hN]; exact Nat.le_of_ble_eq_true rfl) rfl cs_iconst_1 (fun _ => rfl) (fun y3 => ?_)
        refine af_goto K 2 dX1_wordAt_28 rfl ?_
        refine af_lm [true, true, true] rfl ?_
        exact ih2 _ _ _ _ hk2
      · refine af_bipush K 22 dX1_wordAt_20 rfl cs_bipush_m10 ?_
        refine af_iload_n K 23 dX1_wordAt_22 rfl rfl ?_
        refine af_isub K 24 dX1_wordAt_23 rfl ?_
        exact af_reti K dX1_wordAt_24
set_option maxRecDepth 100000 in
set_option maxHeartbeats 4000000 in
theorem A_X1_wordAt (X : aw_X) (l : Launch) (x1 : Int32) (σ : fk_T) : af_G X l mX1_wordAt [.ref 18, .int x1] (hp σ) ρi (F_X1_wordAt x1 σ) := by
  refine af_mk (by decide) rfl (fun q _ => aw_oki q) [some (.ref 18), some (.int x1), none] rfl ?_
  rintro cx rfl rfl hN K
  replace hN : aw_nL cx = 3 := hN
  replace K : aw_K cx cX1_wordAt RX1 rX1_wordAt := K
  unfold F_X1_wordAt
  refine af_iconst K 1 dX1_wordAt_0 rfl cs_iconst_0 ?_
  refine af_istore_n K 2 [some (.ref 18), some (.int x1), some (.int 0)] dX1_wordAt_1 rfl (by rw [hN]; exact Nat.le_of_ble_eq_true rfl) rfl ?_
  refine af_lm [true, true, true] rfl ?_
  refine W_X1_wordAt_2 hN K  fk_N _ _ _ _ (fun y5 y6 s4 => ?_)
  refine af_bipush K 33 dX1_wordAt_31 rfl cs_bipush_m3 ?_
  exact af_reti K dX1_wordAt_33
def F_X1_tokenAt (x1 : Int32) (σ : fk_T) : Option (Int32 × fk_T) := (F_X1_isDigit x1 σ).bind (fun q1 => if (fk_b q1.1) = 0 then ((F_X1_isLetter x1 q1.2).bind (fun q2 => if (fk_b q2.1) = 0 then (fk_A (q2.2.1 17) 120 x1 (fun y3 => if y3 = 59 then (some ((-2), q2.2)) else (some ((-3), q2.2)))) else ((F_X1_wordAt x1 q2.2).bind (fun q4 => some (q4.1, q4.2))))) else ((F_X1_numberAt x1 q1.2).bind (fun q5 => some (q5.1, q5.2))))
set_option maxRecDepth 100000 in
set_option maxHeartbeats 4000000 in
theorem A_X1_tokenAt (X : aw_X) (l : Launch) (x1 : Int32) (σ : fk_T) : af_G X l mX1_tokenAt [.ref 18, .int x1] (hp σ) ρi (F_X1_tokenAt x1 σ) := by
  refine af_mk (by decide) rfl (fun q _ => aw_oki q) [some (.ref 18), some (.int x1)] rfl ?_
  rintro cx rfl rfl hN K
  replace hN : aw_nL cx = 2 := hN
  replace K : aw_K cx cX1_tokenAt RX1 rX1_tokenAt := K
  unfold F_X1_tokenAt
  refine af_aload_n K 1 dX1_tokenAt_0 rfl rfl ?_
  refine af_iload_n K 2 dX1_tokenAt_1 rfl rfl ?_
  refine af_callV_z K (b := 18) (vs := [.int x1]) mv_X1_isDigit lk_473 ((hp_at _ (Nat.le_of_ble_eq_true rfl)).trans rfl) rfl 5 dX1_tokenAt_2 rfl rfl rfl rfl (A_X1_isDigit _ _ x1 σ) rfl (fun q1 => ?_)
  refine af_if_eq K 8 14 dX1_tokenAt_5 rfl rfl (fun _ => ?_) (fun _ => ?_)
  · refine af_aload_n K 15 dX1_tokenAt_14 rfl rfl ?_
    refine af_iload_n K 16 dX1_tokenAt_15 rfl rfl ?_
    refine af_callV_z K (b := 18) (vs := [.int x1]) mv_X1_isLetter lk_469 ((hp_at _ (Nat.le_of_ble_eq_true rfl)).trans rfl) rfl 19 dX1_tokenAt_16 rfl rfl rfl rfl (A_X1_isLetter _ _ x1 q1.2) rfl (fun q2 => ?_)
    refine af_if_eq K 22 28 dX1_tokenAt_19 rfl rfl (fun _ => ?_) (fun _ => ?_)
    · refine af_aload_n K 29 dX1_tokenAt_28 rfl rfl ?_
      refine af_get K 32 dX1_tokenAt_29 rfl fl_X1_9 (Nat.le_of_ble_eq_true rfl) rfl rfl ?_
      refine af_get K 35 dX1_tokenAt_32 rfl fl_X1_35 (Nat.le_of_ble_eq_true rfl) rfl rfl ?_
      refine af_iload_n K 36 dX1_tokenAt_35 rfl rfl ?_
      refine af_iald K 37 dX1_tokenAt_36 rfl (Nat.le_of_ble_eq_true rfl) rfl (fun y3 => ?_)
      refine af_bipush K 39 dX1_tokenAt_37 rfl cs_bipush_59 ?_
      refine af_icmp_ne K 42 47 dX1_tokenAt_39 rfl rfl (fun _ => ?_) (fun _ => ?_)
      · refine af_bipush K 49 dX1_tokenAt_47 rfl cs_bipush_m3 ?_
        exact af_reti K dX1_tokenAt_49
      · refine af_bipush K 44 dX1_tokenAt_42 rfl cs_bipush_m2 ?_
        refine af_goto K 49 dX1_tokenAt_44 rfl ?_
        exact af_reti K dX1_tokenAt_49
    · refine af_aload_n K 23 dX1_tokenAt_22 rfl rfl ?_
      refine af_iload_n K 24 dX1_tokenAt_23 rfl rfl ?_
      refine af_callV_i K (b := 18) (vs := [.int x1]) mv_X1_wordAt lk_486 ((hp_at _ (Nat.le_of_ble_eq_true rfl)).trans rfl) rfl 27 dX1_tokenAt_24 rfl rfl rfl rfl (A_X1_wordAt _ _ x1 q2.2) rfl (fun q4 => ?_)
      exact af_reti K dX1_tokenAt_27
  · refine af_aload_n K 9 dX1_tokenAt_8 rfl rfl ?_
    refine af_iload_n K 10 dX1_tokenAt_9 rfl rfl ?_
    refine af_callV_i K (b := 18) (vs := [.int x1]) mv_X1_numberAt lk_481 ((hp_at _ (Nat.le_of_ble_eq_true rfl)).trans rfl) rfl 13 dX1_tokenAt_10 rfl rfl rfl rfl (A_X1_numberAt _ _ x1 q1.2) rfl (fun q5 => ?_)
    exact af_reti K dX1_tokenAt_13
def L_X1_splitTape_4  : Nat → Int32 → Int32 → fk_T → (Int32 → Int32 → fk_T → Option (fk_T)) → Option (fk_T)
  | 0, _, _, _, _ => none
  | fu + 1, x1, x2, σ, k => if (σ.1 16 1) ≤ x2 then (k x1 x2 σ) else (fk_A (σ.1 17) 120 x2 (fun y1 => if y1 = 32 then (fk_B (x2 + 1) (fun y2 => L_X1_splitTape_4 fu x1 y2 σ k)) else ((F_X1_goesOnAt x2 σ).bind (fun q3 => if (fk_b q3.1) = 0 then ((F_X1_tokenAt x2 q3.2).bind (fun q5 => fk_S q5.2 19 121 x1 q5.1 (fun s6 => fk_S s6 20 121 x1 x2 (fun s7 => fk_B (x1 + 1) (fun y8 => fk_B (x2 + 1) (fun y9 => L_X1_splitTape_4 fu y8 y9 s7 k)))))) else (fk_B (x2 + 1) (fun y4 => L_X1_splitTape_4 fu x1 y4 q3.2 k))))))
def F_X1_splitTape  (σ : fk_T) : Option (fk_T) := L_X1_splitTape_4 fk_N 0 0 σ (fun y11 y12 s10 => fk_S s10 19 121 y11 (-1) (fun s13 => fk_S s13 20 121 y11 (s13.1 16 1) (fun s14 => some s14)))
set_option maxRecDepth 100000 in
set_option maxHeartbeats 4000000 in
theorem W_X1_splitTape_4 {cx : aw_C} (hN : aw_nL cx = 3) (K : aw_K cx cX1_splitTape RX1 rX1_splitTape)  : ∀ (fu : Nat) (x1 : Int32) (x2 : Int32) (σ : fk_T) (k : Int32 → Int32 → fk_T → Option (fk_T)), (∀ (x1 : Int32) (x2 : Int32) (σ : fk_T), af cx ρv 64 [some (.ref 18), some (.int x1), some (.int x2)] [] (hp σ) (k x1 x2 σ)) → af cx ρv 4 [some (.ref 18), some (.int x1), some (.int x2)] [] (hp σ) (L_X1_splitTape_4 fu x1 x2 σ k) := by
  intro fu
  induction fu with
  | zero => intros; exact af_none
  | succ fu ih4 =>
    intro x1 x2 σ k hk4
    rw [L_X1_splitTape_4]
    refine af_iload_n K 5 dX1_splitTape_4 rfl rfl ?_
    refine af_aload_n K 6 dX1_splitTape_5 rfl rfl ?_
    refine af_get K 9 dX1_splitTape_6 rfl fl_X1_9 (Nat.le_of_ble_eq_true rfl) rfl rfl ?_
    refine af_get K 12 dX1_splitTape_9 rfl fl_X1_30 (Nat.le_of_ble_eq_true rfl) rfl rfl ?_
    refine af_icmp_ge K 15 64 dX1_splitTape_12 rfl rfl (fun _ => ?_) (fun _ => ?_)
    · refine af_lm [true, true, true] rfl ?_
      exact hk4 _ _ _
    · refine af_aload_n K 16 dX1_splitTape_15 rfl rfl ?_
      refine af_get K 19 dX1_splitTape_16 rfl fl_X1_9 (Nat.le_of_ble_eq_true rfl) rfl rfl ?_
      refine af_get K 22 dX1_splitTape_19 rfl fl_X1_35 (Nat.le_of_ble_eq_true rfl) rfl rfl ?_
      refine af_iload_n K 23 dX1_splitTape_22 rfl rfl ?_
      refine af_iald K 24 dX1_splitTape_23 rfl (Nat.le_of_ble_eq_true rfl) rfl (fun y1 => ?_)
      refine af_bipush K 26 dX1_splitTape_24 rfl cs_bipush_32 ?_
      refine af_icmp_eq K 29 58 dX1_splitTape_26 rfl rfl (fun _ => ?_) (fun _ => ?_)
      · refine af_iincB K 61 (fun yy => [some (.ref 18), some (.int x1), some (.int yy)]) dX1_splitTape_58 rfl (by rw [hN]; exact Nat.le_of_ble_eq_true rfl) rfl cs_iconst_1 (fun _ => rfl) (fun y2 => ?_)
        refine af_goto K 4 dX1_splitTape_61 rfl ?_
        refine af_lm [true, true, true] rfl ?_
        exact ih4 _ _ _ _ hk4
      · refine af_aload_n K 30 dX1_splitTape_29 rfl rfl ?_
        refine af_iload_n K 31 dX1_splitTape_30 rfl rfl ?_
        refine af_callV_z K (b := 18) (vs := [.int x2]) mv_X1_goesOnAt lk_465 ((hp_at _ (Nat.le_of_ble_eq_true rfl)).trans rfl) rfl 34 dX1_splitTape_31 rfl rfl rfl rfl (A_X1_goesOnAt _ _ x2 σ) rfl (fun q3 => ?_)
        refine af_if_ne K 37 58 dX1_splitTape_34 rfl rfl (fun _ => ?_) (fun _ => ?_)
        · refine af_iincB K 61 (fun yy => [some (.ref 18), some (.int x1), some (.int yy)]) dX1_splitTape_58 rfl (by rw [hN]; exact Nat.le_of_ble_eq_true rfl) rfl cs_iconst_1 (fun _ => rfl) (fun y4 => ?_)
          refine af_goto K 4 dX1_splitTape_61 rfl ?_
          refine af_lm [true, true, true] rfl ?_
          exact ih4 _ _ _ _ hk4
        · refine af_aload_n K 38 dX1_splitTape_37 rfl rfl ?_
          refine af_get K 41 dX1_splitTape_38 rfl fl_X1_19 (Nat.le_of_ble_eq_true rfl) rfl rfl ?_
          refine af_iload_n K 42 dX1_splitTape_41 rfl rfl ?_
          refine af_aload_n K 43 dX1_splitTape_42 rfl rfl ?_
          refine af_iload_n K 44 dX1_splitTape_43 rfl rfl ?_
          refine af_callV_i K (b := 18) (vs := [.int x2]) mv_X1_tokenAt lk_477 ((hp_at _ (Nat.le_of_ble_eq_true rfl)).trans rfl) rfl 47 dX1_splitTape_44 rfl rfl rfl rfl (A_X1_tokenAt _ _ x2 q3.2) rfl (fun q5 => ?_)
          refine af_iast K 48 dX1_splitTape_47 rfl (Nat.le_of_ble_eq_true rfl) (fun _ _ => rfl) (fun s6 => ?_)
          refine af_aload_n K 49 dX1_splitTape_48 rfl rfl ?_
          refine af_get K 52 dX1_splitTape_49 rfl fl_X1_23 (Nat.le_of_ble_eq_true rfl) rfl rfl ?_
          refine af_iload_n K 53 dX1_splitTape_52 rfl rfl ?_
          refine af_iload_n K 54 dX1_splitTape_53 rfl rfl ?_
          refine af_iast K 55 dX1_splitTape_54 rfl (Nat.le_of_ble_eq_true rfl) (fun _ _ => rfl) (fun s7 => ?_)
          refine af_iincB K 58 (fun yy => [some (.ref 18), some (.int yy), some (.int x2)]) dX1_splitTape_55 rfl (by rw [hN]; exact Nat.le_of_ble_eq_true rfl) rfl cs_iconst_1 (fun _ => rfl) (fun y8 => ?_)
          refine af_iincB K 61 (fun yy => [some (.ref 18), some (.int y8), some (.int yy)]) dX1_splitTape_58 rfl (by rw [hN]; exact Nat.le_of_ble_eq_true rfl) rfl cs_iconst_1 (fun _ => rfl) (fun y9 => ?_)
          refine af_goto K 4 dX1_splitTape_61 rfl ?_
          refine af_lm [true, true, true] rfl ?_
          exact ih4 _ _ _ _ hk4
set_option maxRecDepth 100000 in
set_option maxHeartbeats 4000000 in
theorem A_X1_splitTape (X : aw_X) (l : Launch)  (σ : fk_T) : af_G X l mX1_splitTape [.ref 18] (hp σ) ρv (F_X1_splitTape  σ) := by
  refine af_mk (by decide) rfl (fun q _ => aw_okv q) [some (.ref 18), none, none] rfl ?_
  rintro cx rfl rfl hN K
  replace hN : aw_nL cx = 3 := hN
  replace K : aw_K cx cX1_splitTape RX1 rX1_splitTape := K
  unfold F_X1_splitTape
  refine af_iconst K 1 dX1_splitTape_0 rfl cs_iconst_0 ?_
  refine af_istore_n K 2 [some (.ref 18), some (.int 0), none] dX1_splitTape_1 rfl (by rw [hN]; exact Nat.le_of_ble_eq_true rfl) rfl ?_
  refine af_iconst K 3 dX1_splitTape_2 rfl cs_iconst_0 ?_
  refine af_istore_n K 4 [some (.ref 18), some (.int 0), some (.int 0)] dX1_splitTape_3 rfl (by rw [hN]; exact Nat.le_of_ble_eq_true rfl) rfl ?_
  refine af_lm [true, true, true] rfl ?_
  refine W_X1_splitTape_4 hN K  fk_N _ _ _ _ (fun y11 y12 s10 => ?_)
  refine af_aload_n K 65 dX1_splitTape_64 rfl rfl ?_
  refine af_get K 68 dX1_splitTape_65 rfl fl_X1_19 (Nat.le_of_ble_eq_true rfl) rfl rfl ?_
  refine af_iload_n K 69 dX1_splitTape_68 rfl rfl ?_
  refine af_iconst K 70 dX1_splitTape_69 rfl cs_iconst_m1 ?_
  refine af_iast K 71 dX1_splitTape_70 rfl (Nat.le_of_ble_eq_true rfl) (fun _ _ => rfl) (fun s13 => ?_)
  refine af_aload_n K 72 dX1_splitTape_71 rfl rfl ?_
  refine af_get K 75 dX1_splitTape_72 rfl fl_X1_23 (Nat.le_of_ble_eq_true rfl) rfl rfl ?_
  refine af_iload_n K 76 dX1_splitTape_75 rfl rfl ?_
  refine af_aload_n K 77 dX1_splitTape_76 rfl rfl ?_
  refine af_get K 80 dX1_splitTape_77 rfl fl_X1_9 (Nat.le_of_ble_eq_true rfl) rfl rfl ?_
  refine af_get K 83 dX1_splitTape_80 rfl fl_X1_30 (Nat.le_of_ble_eq_true rfl) rfl rfl ?_
  refine af_iast K 84 dX1_splitTape_83 rfl (Nat.le_of_ble_eq_true rfl) (fun _ _ => rfl) (fun s14 => ?_)
  exact af_retv K dX1_splitTape_84
def F_X1_refuse  (σ : fk_T) : Option (fk_T) := if (σ.1 18 5) = (-1) then (fk_A (σ.1 20) 121 (σ.1 18 4) (fun y1 => fk_B (fk_w σ 18 (upd (σ.1 18) 5 y1)) (fun s2 => some s2))) else (some σ)
set_option maxRecDepth 100000 in
set_option maxHeartbeats 4000000 in
theorem A_X1_refuse (X : aw_X) (l : Launch)  (σ : fk_T) : af_G X l mX1_refuse [.ref 18] (hp σ) ρv (F_X1_refuse  σ) := by
  refine af_mk (by decide) rfl (fun q _ => aw_okv q) [some (.ref 18)] rfl ?_
  rintro cx rfl rfl hN K
  replace hN : aw_nL cx = 1 := hN
  replace K : aw_K cx cX1_refuse RX1 rX1_refuse := K
  unfold F_X1_refuse
  refine af_aload_n K 1 dX1_refuse_0 rfl rfl ?_
  refine af_get K 4 dX1_refuse_1 rfl fl_X1_26 (Nat.le_of_ble_eq_true rfl) rfl rfl ?_
  refine af_iconst K 5 dX1_refuse_4 rfl cs_iconst_m1 ?_
  refine af_icmp_ne K 8 21 dX1_refuse_5 rfl rfl (fun _ => ?_) (fun _ => ?_)
  · exact af_retv K dX1_refuse_21
  · refine af_aload_n K 9 dX1_refuse_8 rfl rfl ?_
    refine af_aload_n K 10 dX1_refuse_9 rfl rfl ?_
    refine af_get K 13 dX1_refuse_10 rfl fl_X1_23 (Nat.le_of_ble_eq_true rfl) rfl rfl ?_
    refine af_aload_n K 14 dX1_refuse_13 rfl rfl ?_
    refine af_get K 17 dX1_refuse_14 rfl fl_X1_46 (Nat.le_of_ble_eq_true rfl) rfl rfl ?_
    refine af_iald K 18 dX1_refuse_17 rfl (Nat.le_of_ble_eq_true rfl) rfl (fun y1 => ?_)
    refine af_put K 21 dX1_refuse_18 rfl fp_X1_26 (Nat.le_of_ble_eq_true rfl) rfl (Nat.le_of_ble_eq_true rfl) rfl (fun s2 => ?_)
    exact af_retv K dX1_refuse_21
def F_X1_step  (σ : fk_T) : Option (fk_T) := if 120 ≤ (σ.1 18 4) then (some σ) else (fk_B (fk_w σ 18 (upd (σ.1 18) 4 ((σ.1 18 4) + 1))) (fun s1 => some s1))
set_option maxRecDepth 100000 in
set_option maxHeartbeats 4000000 in
theorem A_X1_step (X : aw_X) (l : Launch)  (σ : fk_T) : af_G X l mX1_step [.ref 18] (hp σ) ρv (F_X1_step  σ) := by
  refine af_mk (by decide) rfl (fun q _ => aw_okv q) [some (.ref 18)] rfl ?_
  rintro cx rfl rfl hN K
  replace hN : aw_nL cx = 1 := hN
  replace K : aw_K cx cX1_step RX1 rX1_step := K
  unfold F_X1_step
  refine af_aload_n K 1 dX1_step_0 rfl rfl ?_
  refine af_get K 4 dX1_step_1 rfl fl_X1_46 (Nat.le_of_ble_eq_true rfl) rfl rfl ?_
  refine af_bipush K 6 dX1_step_4 rfl cs_bipush_120 ?_
  refine af_icmp_ge K 9 19 dX1_step_6 rfl rfl (fun _ => ?_) (fun _ => ?_)
  · exact af_retv K dX1_step_19
  · refine af_aload_n K 10 dX1_step_9 rfl rfl ?_
    refine af_dup K 11 dX1_step_10 rfl rfl ?_
    refine af_get K 14 dX1_step_11 rfl fl_X1_46 (Nat.le_of_ble_eq_true rfl) rfl rfl ?_
    refine af_iconst K 15 dX1_step_14 rfl cs_iconst_1 ?_
    refine af_iadd K 16 dX1_step_15 rfl ?_
    refine af_put K 19 dX1_step_16 rfl fp_X1_46 (Nat.le_of_ble_eq_true rfl) rfl (Nat.le_of_ble_eq_true rfl) rfl (fun s1 => ?_)
    exact af_retv K dX1_step_19
def F_X1_readNumber (x1 : Int32) (x2 : Int32) (σ : fk_T) : Option (Int32 × fk_T) := fk_A (σ.1 19) 121 (σ.1 18 4) (fun y1 => (F_X1_hasFault  σ).bind (fun q2 => if (fk_b q2.1) = 0 then ((F_X4_within y1 x1 x2 q2.2).bind (fun q4 => if (fk_b q4.1) = 0 then ((F_X1_refuse  q4.2).bind (fun q6 => some (x1, q6))) else ((F_X1_step  q4.2).bind (fun q5 => some (y1, q5))))) else ((F_X1_refuse  q2.2).bind (fun q3 => some (x1, q3)))))
set_option maxRecDepth 100000 in
set_option maxHeartbeats 4000000 in
theorem A_X1_readNumber (X : aw_X) (l : Launch) (x1 : Int32) (x2 : Int32) (σ : fk_T) : af_G X l mX1_readNumber [.ref 18, .int x1, .int x2] (hp σ) ρi (F_X1_readNumber x1 x2 σ) := by
  refine af_mk (by decide) rfl (fun q _ => aw_oki q) [some (.ref 18), some (.int x1), some (.int x2), none] rfl ?_
  rintro cx rfl rfl hN K
  replace hN : aw_nL cx = 4 := hN
  replace K : aw_K cx cX1_readNumber RX1 rX1_readNumber := K
  unfold F_X1_readNumber
  refine af_aload_n K 1 dX1_readNumber_0 rfl rfl ?_
  refine af_get K 4 dX1_readNumber_1 rfl fl_X1_19 (Nat.le_of_ble_eq_true rfl) rfl rfl ?_
  refine af_aload_n K 5 dX1_readNumber_4 rfl rfl ?_
  refine af_get K 8 dX1_readNumber_5 rfl fl_X1_46 (Nat.le_of_ble_eq_true rfl) rfl rfl ?_
  refine af_iald K 9 dX1_readNumber_8 rfl (Nat.le_of_ble_eq_true rfl) rfl (fun y1 => ?_)
  refine af_istore_n K 10 [some (.ref 18), some (.int x1), some (.int x2), some (.int y1)] dX1_readNumber_9 rfl (by rw [hN]; exact Nat.le_of_ble_eq_true rfl) rfl ?_
  refine af_aload_n K 11 dX1_readNumber_10 rfl rfl ?_
  refine af_callV_z K (b := 18) (vs := []) mv_X1_hasFault lk_562 ((hp_at _ (Nat.le_of_ble_eq_true rfl)).trans rfl) rfl 14 dX1_readNumber_11 rfl rfl rfl rfl (A_X1_hasFault _ _ σ) rfl (fun q2 => ?_)
  refine af_if_ne K 17 26 dX1_readNumber_14 rfl rfl (fun _ => ?_) (fun _ => ?_)
  · refine af_aload_n K 27 dX1_readNumber_26 rfl rfl ?_
    refine af_callV_v K (b := 18) (vs := []) mv_X1_refuse lk_576 ((hp_at _ (Nat.le_of_ble_eq_true rfl)).trans rfl) rfl 30 dX1_readNumber_27 rfl rfl rfl rfl (A_X1_refuse _ _ q2.2) rfl (fun q3 => ?_)
    refine af_iload_n K 31 dX1_readNumber_30 rfl rfl ?_
    exact af_reti K dX1_readNumber_31
  · refine af_iload_n K 18 dX1_readNumber_17 rfl rfl ?_
    refine af_iload_n K 19 dX1_readNumber_18 rfl rfl ?_
    refine af_iload_n K 20 dX1_readNumber_19 rfl rfl ?_
    refine af_callN_z K (vs := [.int y1, .int x1, .int x2]) ms_X4_within (fun hSX => hSX.2.2.2.1) 23 dX1_readNumber_20 rfl rfl rfl rfl (A_X4_within _ _ y1 x1 x2 q2.2) rfl (fun q4 => ?_)
    refine af_if_ne K 26 32 dX1_readNumber_23 rfl rfl (fun _ => ?_) (fun _ => ?_)
    · refine af_aload_n K 33 dX1_readNumber_32 rfl rfl ?_
      refine af_callV_v K (b := 18) (vs := []) mv_X1_step lk_580 ((hp_at _ (Nat.le_of_ble_eq_true rfl)).trans rfl) rfl 36 dX1_readNumber_33 rfl rfl rfl rfl (A_X1_step _ _ q4.2) rfl (fun q5 => ?_)
      refine af_iload_n K 37 dX1_readNumber_36 rfl rfl ?_
      exact af_reti K dX1_readNumber_37
    · refine af_aload_n K 27 dX1_readNumber_26 rfl rfl ?_
      refine af_callV_v K (b := 18) (vs := []) mv_X1_refuse lk_576 ((hp_at _ (Nat.le_of_ble_eq_true rfl)).trans rfl) rfl 30 dX1_readNumber_27 rfl rfl rfl rfl (A_X1_refuse _ _ q4.2) rfl (fun q6 => ?_)
      refine af_iload_n K 31 dX1_readNumber_30 rfl rfl ?_
      exact af_reti K dX1_readNumber_31
def F_X1_readPerhaps (x1 : Int32) (x2 : Int32) (σ : fk_T) : Option (Int32 × fk_T) := fk_A (σ.1 19) 121 (σ.1 18 4) (fun y1 => if y1 = ((-10) - x1) then ((F_X1_step  σ).bind (fun q2 => (F_X1_readNumber 0 99 q2).bind (fun q3 => some (q3.1, q3.2)))) else (some (x2, σ)))
set_option maxRecDepth 100000 in
set_option maxHeartbeats 4000000 in
theorem A_X1_readPerhaps (X : aw_X) (l : Launch) (x1 : Int32) (x2 : Int32) (σ : fk_T) : af_G X l mX1_readPerhaps [.ref 18, .int x1, .int x2] (hp σ) ρi (F_X1_readPerhaps x1 x2 σ) := by
  refine af_mk (by decide) rfl (fun q _ => aw_oki q) [some (.ref 18), some (.int x1), some (.int x2)] rfl ?_
  rintro cx rfl rfl hN K
  replace hN : aw_nL cx = 3 := hN
  replace K : aw_K cx cX1_readPerhaps RX1 rX1_readPerhaps := K
  unfold F_X1_readPerhaps
  refine af_aload_n K 1 dX1_readPerhaps_0 rfl rfl ?_
  refine af_get K 4 dX1_readPerhaps_1 rfl fl_X1_19 (Nat.le_of_ble_eq_true rfl) rfl rfl ?_
  refine af_aload_n K 5 dX1_readPerhaps_4 rfl rfl ?_
  refine af_get K 8 dX1_readPerhaps_5 rfl fl_X1_46 (Nat.le_of_ble_eq_true rfl) rfl rfl ?_
  refine af_iald K 9 dX1_readPerhaps_8 rfl (Nat.le_of_ble_eq_true rfl) rfl (fun y1 => ?_)
  refine af_bipush K 11 dX1_readPerhaps_9 rfl cs_bipush_m10 ?_
  refine af_iload_n K 12 dX1_readPerhaps_11 rfl rfl ?_
  refine af_isub K 13 dX1_readPerhaps_12 rfl ?_
  refine af_icmp_eq K 16 18 dX1_readPerhaps_13 rfl rfl (fun _ => ?_) (fun _ => ?_)
  · refine af_aload_n K 19 dX1_readPerhaps_18 rfl rfl ?_
    refine af_callV_v K (b := 18) (vs := []) mv_X1_step lk_580 ((hp_at _ (Nat.le_of_ble_eq_true rfl)).trans rfl) rfl 22 dX1_readPerhaps_19 rfl rfl rfl rfl (A_X1_step _ _ σ) rfl (fun q2 => ?_)
    refine af_aload_n K 23 dX1_readPerhaps_22 rfl rfl ?_
    refine af_iconst K 24 dX1_readPerhaps_23 rfl cs_iconst_0 ?_
    refine af_bipush K 26 dX1_readPerhaps_24 rfl cs_bipush_99 ?_
    refine af_callV_i K (b := 18) (vs := [.int 0, .int 99]) mv_X1_readNumber lk_588 ((hp_at _ (Nat.le_of_ble_eq_true rfl)).trans rfl) rfl 29 dX1_readPerhaps_26 rfl rfl rfl rfl (A_X1_readNumber _ _ 0 99 q2) rfl (fun q3 => ?_)
    exact af_reti K dX1_readPerhaps_29
  · refine af_iload_n K 17 dX1_readPerhaps_16 rfl rfl ?_
    exact af_reti K dX1_readPerhaps_17
def F_X1_readPotter (x1 : Int32) (σ : fk_T) : Option (fk_T) := (F_X0_isFull 6 σ).bind (fun q1 => if (fk_b q1.1) = 0 then ((F_X1_step  q1.2).bind (fun q2 => (F_X1_readPerhaps 10 30 q2).bind (fun q3 => (F_X1_readPerhaps 11 20 q3.2).bind (fun q4 => (F_X1_readPerhaps 12 0 q4.2).bind (fun q5 => (F_X0_addPotter 6 x1 q3.1 q4.1 q5.1 q5.2).bind (fun q6 => some q6.2)))))) else ((F_X1_refuse  q1.2).bind (fun q7 => some q7)))
set_option maxRecDepth 100000 in
set_option maxHeartbeats 4000000 in
theorem A_X1_readPotter (X : aw_X) (l : Launch) (x1 : Int32) (σ : fk_T) : af_G X l mX1_readPotter [.ref 18, .int x1] (hp σ) ρv (F_X1_readPotter x1 σ) := by
  refine af_mk (by decide) rfl (fun q _ => aw_okv q) [some (.ref 18), some (.int x1), none, none, none] rfl ?_
  rintro cx rfl rfl hN K
  replace hN : aw_nL cx = 5 := hN
  replace K : aw_K cx cX1_readPotter RX1 rX1_readPotter := K
  unfold F_X1_readPotter
  refine af_aload_n K 1 dX1_readPotter_0 rfl rfl ?_
  refine af_get K 4 dX1_readPotter_1 rfl fl_X1_15 (Nat.le_of_ble_eq_true rfl) rfl rfl ?_
  refine af_callV_z K (b := 6) (vs := []) mv_X0_isFull lk_575 ((hp_at _ (Nat.le_of_ble_eq_true rfl)).trans rfl) rfl 7 dX1_readPotter_4 rfl rfl rfl rfl (A_X0_isFull _ _ 6 (Or.inr (Or.inl rfl)) σ) rfl (fun q1 => ?_)
  refine af_if_eq K 10 15 dX1_readPotter_7 rfl rfl (fun _ => ?_) (fun _ => ?_)
  · refine af_aload_n K 16 dX1_readPotter_15 rfl rfl ?_
    refine af_callV_v K (b := 18) (vs := []) mv_X1_step lk_580 ((hp_at _ (Nat.le_of_ble_eq_true rfl)).trans rfl) rfl 19 dX1_readPotter_16 rfl rfl rfl rfl (A_X1_step _ _ q1.2) rfl (fun q2 => ?_)
    refine af_aload_n K 20 dX1_readPotter_19 rfl rfl ?_
    refine af_bipush K 22 dX1_readPotter_20 rfl cs_bipush_10 ?_
    refine af_bipush K 24 dX1_readPotter_22 rfl cs_bipush_30 ?_
    refine af_callV_i K (b := 18) (vs := [.int 10, .int 30]) mv_X1_readPerhaps lk_584 ((hp_at _ (Nat.le_of_ble_eq_true rfl)).trans rfl) rfl 27 dX1_readPotter_24 rfl rfl rfl rfl (A_X1_readPerhaps _ _ 10 30 q2) rfl (fun q3 => ?_)
    refine af_istore_n K 28 [some (.ref 18), some (.int x1), some (.int q3.1), none, none] dX1_readPotter_27 rfl (by rw [hN]; exact Nat.le_of_ble_eq_true rfl) rfl ?_
    refine af_aload_n K 29 dX1_readPotter_28 rfl rfl ?_
    refine af_bipush K 31 dX1_readPotter_29 rfl cs_bipush_11 ?_
    refine af_bipush K 33 dX1_readPotter_31 rfl cs_bipush_20 ?_
    refine af_callV_i K (b := 18) (vs := [.int 11, .int 20]) mv_X1_readPerhaps lk_584 ((hp_at _ (Nat.le_of_ble_eq_true rfl)).trans rfl) rfl 36 dX1_readPotter_33 rfl rfl rfl rfl (A_X1_readPerhaps _ _ 11 20 q3.2) rfl (fun q4 => ?_)
    refine af_istore_n K 37 [some (.ref 18), some (.int x1), some (.int q3.1), some (.int q4.1), none] dX1_readPotter_36 rfl (by rw [hN]; exact Nat.le_of_ble_eq_true rfl) rfl ?_
    refine af_aload_n K 38 dX1_readPotter_37 rfl rfl ?_
    refine af_bipush K 40 dX1_readPotter_38 rfl cs_bipush_12 ?_
    refine af_iconst K 41 dX1_readPotter_40 rfl cs_iconst_0 ?_
    refine af_callV_i K (b := 18) (vs := [.int 12, .int 0]) mv_X1_readPerhaps lk_584 ((hp_at _ (Nat.le_of_ble_eq_true rfl)).trans rfl) rfl 44 dX1_readPotter_41 rfl rfl rfl rfl (A_X1_readPerhaps _ _ 12 0 q4.2) rfl (fun q5 => ?_)
    refine af_istore K 46 [some (.ref 18), some (.int x1), some (.int q3.1), some (.int q4.1), some (.int q5.1)] dX1_readPotter_44 rfl (by rw [hN]; exact Nat.le_of_ble_eq_true rfl) rfl ?_
    refine af_aload_n K 47 dX1_readPotter_46 rfl rfl ?_
    refine af_get K 50 dX1_readPotter_47 rfl fl_X1_15 (Nat.le_of_ble_eq_true rfl) rfl rfl ?_
    refine af_iload_n K 51 dX1_readPotter_50 rfl rfl ?_
    refine af_iload_n K 52 dX1_readPotter_51 rfl rfl ?_
    refine af_iload_n K 53 dX1_readPotter_52 rfl rfl ?_
    refine af_iload K 55 dX1_readPotter_53 rfl rfl ?_
    refine af_callV_i K (b := 6) (vs := [.int x1, .int q3.1, .int q4.1, .int q5.1]) mv_X0_addPotter lk_592 ((hp_at _ (Nat.le_of_ble_eq_true rfl)).trans rfl) rfl 58 dX1_readPotter_55 rfl rfl rfl rfl (A_X0_addPotter _ _ 6 (Or.inr (Or.inl rfl)) x1 q3.1 q4.1 q5.1 q5.2) rfl (fun q6 => ?_)
    refine af_pop K 59 dX1_readPotter_58 rfl rfl ?_
    exact af_retv K dX1_readPotter_59
  · refine af_aload_n K 11 dX1_readPotter_10 rfl rfl ?_
    refine af_callV_v K (b := 18) (vs := []) mv_X1_refuse lk_576 ((hp_at _ (Nat.le_of_ble_eq_true rfl)).trans rfl) rfl 14 dX1_readPotter_11 rfl rfl rfl rfl (A_X1_refuse _ _ q1.2) rfl (fun q7 => ?_)
    exact af_retv K dX1_readPotter_14
def F_X1_readRift  (σ : fk_T) : Option (fk_T) := (F_X1_step  σ).bind (fun q1 => (F_X1_readNumber 0 ((q1.1 6 6) - 1) q1).bind (fun q2 => fk_A (q2.2.1 19) 121 (q2.2.1 18 4) (fun y3 => if y3 = q2.1 then ((F_X1_refuse  q2.2).bind (fun q8 => (F_X1_readNumber 0 ((q8.1 6 6) - 1) q8).bind (fun q9 => (F_X1_readNumber 0 99 q9.2).bind (fun q10 => (F_X1_hasFault  q10.2).bind (fun q11 => if (fk_b q11.1) = 0 then ((F_X0_setRift 6 q2.1 q9.1 q10.1 q11.2).bind (fun q12 => some q12)) else (some q11.2)))))) else ((F_X1_readNumber 0 ((q2.2.1 6 6) - 1) q2.2).bind (fun q4 => (F_X1_readNumber 0 99 q4.2).bind (fun q5 => (F_X1_hasFault  q5.2).bind (fun q6 => if (fk_b q6.1) = 0 then ((F_X0_setRift 6 q2.1 q4.1 q5.1 q6.2).bind (fun q7 => some q7)) else (some q6.2))))))))
set_option maxRecDepth 100000 in
set_option maxHeartbeats 4000000 in
theorem A_X1_readRift (X : aw_X) (l : Launch)  (σ : fk_T) : af_G X l mX1_readRift [.ref 18] (hp σ) ρv (F_X1_readRift  σ) := by
  refine af_mk (by decide) rfl (fun q _ => aw_okv q) [some (.ref 18), none, none, none] rfl ?_
  rintro cx rfl rfl hN K
  replace hN : aw_nL cx = 4 := hN
  replace K : aw_K cx cX1_readRift RX1 rX1_readRift := K
  unfold F_X1_readRift
  refine af_aload_n K 1 dX1_readRift_0 rfl rfl ?_
  refine af_callV_v K (b := 18) (vs := []) mv_X1_step lk_580 ((hp_at _ (Nat.le_of_ble_eq_true rfl)).trans rfl) rfl 4 dX1_readRift_1 rfl rfl rfl rfl (A_X1_step _ _ σ) rfl (fun q1 => ?_)
  refine af_aload_n K 5 dX1_readRift_4 rfl rfl ?_
  refine af_iconst K 6 dX1_readRift_5 rfl cs_iconst_0 ?_
  refine af_aload_n K 7 dX1_readRift_6 rfl rfl ?_
  refine af_get K 10 dX1_readRift_7 rfl fl_X1_15 (Nat.le_of_ble_eq_true rfl) rfl rfl ?_
  refine af_get K 13 dX1_readRift_10 rfl fl_X1_98 (Nat.le_of_ble_eq_true rfl) rfl rfl ?_
  refine af_iconst K 14 dX1_readRift_13 rfl cs_iconst_1 ?_
  refine af_isub K 15 dX1_readRift_14 rfl ?_
  refine af_callV_i K (b := 18) (vs := [.int 0, .int ((q1.1 6 6) - 1)]) mv_X1_readNumber lk_588 ((hp_at _ (Nat.le_of_ble_eq_true rfl)).trans rfl) rfl 18 dX1_readRift_15 rfl rfl rfl rfl (A_X1_readNumber _ _ 0 ((q1.1 6 6) - 1) q1) rfl (fun q2 => ?_)
  refine af_istore_n K 19 [some (.ref 18), some (.int q2.1), none, none] dX1_readRift_18 rfl (by rw [hN]; exact Nat.le_of_ble_eq_true rfl) rfl ?_
  refine af_aload_n K 20 dX1_readRift_19 rfl rfl ?_
  refine af_get K 23 dX1_readRift_20 rfl fl_X1_19 (Nat.le_of_ble_eq_true rfl) rfl rfl ?_
  refine af_aload_n K 24 dX1_readRift_23 rfl rfl ?_
  refine af_get K 27 dX1_readRift_24 rfl fl_X1_46 (Nat.le_of_ble_eq_true rfl) rfl rfl ?_
  refine af_iald K 28 dX1_readRift_27 rfl (Nat.le_of_ble_eq_true rfl) rfl (fun y3 => ?_)
  refine af_iload_n K 29 dX1_readRift_28 rfl rfl ?_
  refine af_icmp_ne K 32 36 dX1_readRift_29 rfl rfl (fun _ => ?_) (fun _ => ?_)
  · refine af_aload_n K 37 dX1_readRift_36 rfl rfl ?_
    refine af_iconst K 38 dX1_readRift_37 rfl cs_iconst_0 ?_
    refine af_aload_n K 39 dX1_readRift_38 rfl rfl ?_
    refine af_get K 42 dX1_readRift_39 rfl fl_X1_15 (Nat.le_of_ble_eq_true rfl) rfl rfl ?_
    refine af_get K 45 dX1_readRift_42 rfl fl_X1_98 (Nat.le_of_ble_eq_true rfl) rfl rfl ?_
    refine af_iconst K 46 dX1_readRift_45 rfl cs_iconst_1 ?_
    refine af_isub K 47 dX1_readRift_46 rfl ?_
    refine af_callV_i K (b := 18) (vs := [.int 0, .int ((q2.2.1 6 6) - 1)]) mv_X1_readNumber lk_588 ((hp_at _ (Nat.le_of_ble_eq_true rfl)).trans rfl) rfl 50 dX1_readRift_47 rfl rfl rfl rfl (A_X1_readNumber _ _ 0 ((q2.2.1 6 6) - 1) q2.2) rfl (fun q4 => ?_)
    refine af_istore_n K 51 [some (.ref 18), some (.int q2.1), some (.int q4.1), none] dX1_readRift_50 rfl (by rw [hN]; exact Nat.le_of_ble_eq_true rfl) rfl ?_
    refine af_aload_n K 52 dX1_readRift_51 rfl rfl ?_
    refine af_iconst K 53 dX1_readRift_52 rfl cs_iconst_0 ?_
    refine af_bipush K 55 dX1_readRift_53 rfl cs_bipush_99 ?_
    refine af_callV_i K (b := 18) (vs := [.int 0, .int 99]) mv_X1_readNumber lk_588 ((hp_at _ (Nat.le_of_ble_eq_true rfl)).trans rfl) rfl 58 dX1_readRift_55 rfl rfl rfl rfl (A_X1_readNumber _ _ 0 99 q4.2) rfl (fun q5 => ?_)
    refine af_istore_n K 59 [some (.ref 18), some (.int q2.1), some (.int q4.1), some (.int q5.1)] dX1_readRift_58 rfl (by rw [hN]; exact Nat.le_of_ble_eq_true rfl) rfl ?_
    refine af_aload_n K 60 dX1_readRift_59 rfl rfl ?_
    refine af_callV_z K (b := 18) (vs := []) mv_X1_hasFault lk_562 ((hp_at _ (Nat.le_of_ble_eq_true rfl)).trans rfl) rfl 63 dX1_readRift_60 rfl rfl rfl rfl (A_X1_hasFault _ _ q5.2) rfl (fun q6 => ?_)
    refine af_if_ne K 66 76 dX1_readRift_63 rfl rfl (fun _ => ?_) (fun _ => ?_)
    · exact af_retv K dX1_readRift_76
    · refine af_aload_n K 67 dX1_readRift_66 rfl rfl ?_
      refine af_get K 70 dX1_readRift_67 rfl fl_X1_15 (Nat.le_of_ble_eq_true rfl) rfl rfl ?_
      refine af_iload_n K 71 dX1_readRift_70 rfl rfl ?_
      refine af_iload_n K 72 dX1_readRift_71 rfl rfl ?_
      refine af_iload_n K 73 dX1_readRift_72 rfl rfl ?_
      refine af_callV_v K (b := 6) (vs := [.int q2.1, .int q4.1, .int q5.1]) mv_X0_setRift lk_597 ((hp_at _ (Nat.le_of_ble_eq_true rfl)).trans rfl) rfl 76 dX1_readRift_73 rfl rfl rfl rfl (A_X0_setRift _ _ 6 (Or.inr (Or.inl rfl)) q2.1 q4.1 q5.1 q6.2) rfl (fun q7 => ?_)
      exact af_retv K dX1_readRift_76
  · refine af_aload_n K 33 dX1_readRift_32 rfl rfl ?_
    refine af_callV_v K (b := 18) (vs := []) mv_X1_refuse lk_576 ((hp_at _ (Nat.le_of_ble_eq_true rfl)).trans rfl) rfl 36 dX1_readRift_33 rfl rfl rfl rfl (A_X1_refuse _ _ q2.2) rfl (fun q8 => ?_)
    refine af_aload_n K 37 dX1_readRift_36 rfl rfl ?_
    refine af_iconst K 38 dX1_readRift_37 rfl cs_iconst_0 ?_
    refine af_aload_n K 39 dX1_readRift_38 rfl rfl ?_
    refine af_get K 42 dX1_readRift_39 rfl fl_X1_15 (Nat.le_of_ble_eq_true rfl) rfl rfl ?_
    refine af_get K 45 dX1_readRift_42 rfl fl_X1_98 (Nat.le_of_ble_eq_true rfl) rfl rfl ?_
    refine af_iconst K 46 dX1_readRift_45 rfl cs_iconst_1 ?_
    refine af_isub K 47 dX1_readRift_46 rfl ?_
    refine af_callV_i K (b := 18) (vs := [.int 0, .int ((q8.1 6 6) - 1)]) mv_X1_readNumber lk_588 ((hp_at _ (Nat.le_of_ble_eq_true rfl)).trans rfl) rfl 50 dX1_readRift_47 rfl rfl rfl rfl (A_X1_readNumber _ _ 0 ((q8.1 6 6) - 1) q8) rfl (fun q9 => ?_)
    refine af_istore_n K 51 [some (.ref 18), some (.int q2.1), some (.int q9.1), none] dX1_readRift_50 rfl (by rw [hN]; exact Nat.le_of_ble_eq_true rfl) rfl ?_
    refine af_aload_n K 52 dX1_readRift_51 rfl rfl ?_
    refine af_iconst K 53 dX1_readRift_52 rfl cs_iconst_0 ?_
    refine af_bipush K 55 dX1_readRift_53 rfl cs_bipush_99 ?_
    refine af_callV_i K (b := 18) (vs := [.int 0, .int 99]) mv_X1_readNumber lk_588 ((hp_at _ (Nat.le_of_ble_eq_true rfl)).trans rfl) rfl 58 dX1_readRift_55 rfl rfl rfl rfl (A_X1_readNumber _ _ 0 99 q9.2) rfl (fun q10 => ?_)
    refine af_istore_n K 59 [some (.ref 18), some (.int q2.1), some (.int q9.1), some (.int q10.1)] dX1_readRift_58 rfl (by rw [hN]; exact Nat.le_of_ble_eq_true rfl) rfl ?_
    refine af_aload_n K 60 dX1_readRift_59 rfl rfl ?_
    refine af_callV_z K (b := 18) (vs := []) mv_X1_hasFault lk_562 ((hp_at _ (Nat.le_of_ble_eq_true rfl)).trans rfl) rfl 63 dX1_readRift_60 rfl rfl rfl rfl (A_X1_hasFault _ _ q10.2) rfl (fun q11 => ?_)
    refine af_if_ne K 66 76 dX1_readRift_63 rfl rfl (fun _ => ?_) (fun _ => ?_)
    · exact af_retv K dX1_readRift_76
    · refine af_aload_n K 67 dX1_readRift_66 rfl rfl ?_
      refine af_get K 70 dX1_readRift_67 rfl fl_X1_15 (Nat.le_of_ble_eq_true rfl) rfl rfl ?_
      refine af_iload_n K 71 dX1_readRift_70 rfl rfl ?_
      refine af_iload_n K 72 dX1_readRift_71 rfl rfl ?_
      refine af_iload_n K 73 dX1_readRift_72 rfl rfl ?_
      refine af_callV_v K (b := 6) (vs := [.int q2.1, .int q9.1, .int q10.1]) mv_X0_setRift lk_597 ((hp_at _ (Nat.le_of_ble_eq_true rfl)).trans rfl) rfl 76 dX1_readRift_73 rfl rfl rfl rfl (A_X0_setRift _ _ 6 (Or.inr (Or.inl rfl)) q2.1 q9.1 q10.1 q11.2) rfl (fun q12 => ?_)
      exact af_retv K dX1_readRift_76
def F_X1_readPair  (σ : fk_T) : Option (fk_T) := (F_X1_step  σ).bind (fun q1 => (F_X1_readNumber 0 5 q1).bind (fun q2 => (F_X1_readNumber 0 7 q2.2).bind (fun q3 => (F_X1_readNumber 0 7 q3.2).bind (fun q4 => (F_X1_hasFault  q4.2).bind (fun q5 => if (fk_b q5.1) = 0 then (fk_S q5.2 7 6 q2.1 ((10 * q3.1) + q4.1) (fun s6 => some s6)) else (some q5.2))))))
set_option maxRecDepth 100000 in
set_option maxHeartbeats 4000000 in
theorem A_X1_readPair (X : aw_X) (l : Launch)  (σ : fk_T) : af_G X l mX1_readPair [.ref 18] (hp σ) ρv (F_X1_readPair  σ) := by
  refine af_mk (by decide) rfl (fun q _ => aw_okv q) [some (.ref 18), none, none, none] rfl ?_
  rintro cx rfl rfl hN K
  replace hN : aw_nL cx = 4 := hN
  replace K : aw_K cx cX1_readPair RX1 rX1_readPair := K
  unfold F_X1_readPair
  refine af_aload_n K 1 dX1_readPair_0 rfl rfl ?_
  refine af_callV_v K (b := 18) (vs := []) mv_X1_step lk_580 ((hp_at _ (Nat.le_of_ble_eq_true rfl)).trans rfl) rfl 4 dX1_readPair_1 rfl rfl rfl rfl (A_X1_step _ _ σ) rfl (fun q1 => ?_)
  refine af_aload_n K 5 dX1_readPair_4 rfl rfl ?_
  refine af_iconst K 6 dX1_readPair_5 rfl cs_iconst_0 ?_
  refine af_iconst K 7 dX1_readPair_6 rfl cs_iconst_5 ?_
  refine af_callV_i K (b := 18) (vs := [.int 0, .int 5]) mv_X1_readNumber lk_588 ((hp_at _ (Nat.le_of_ble_eq_true rfl)).trans rfl) rfl 10 dX1_readPair_7 rfl rfl rfl rfl (A_X1_readNumber _ _ 0 5 q1) rfl (fun q2 => ?_)
  refine af_istore_n K 11 [some (.ref 18), some (.int q2.1), none, none] dX1_readPair_10 rfl (by rw [hN]; exact Nat.le_of_ble_eq_true rfl) rfl ?_
  refine af_aload_n K 12 dX1_readPair_11 rfl rfl ?_
  refine af_iconst K 13 dX1_readPair_12 rfl cs_iconst_0 ?_
  refine af_bipush K 15 dX1_readPair_13 rfl cs_bipush_7 ?_
  refine af_callV_i K (b := 18) (vs := [.int 0, .int 7]) mv_X1_readNumber lk_588 ((hp_at _ (Nat.le_of_ble_eq_true rfl)).trans rfl) rfl 18 dX1_readPair_15 rfl rfl rfl rfl (A_X1_readNumber _ _ 0 7 q2.2) rfl (fun q3 => ?_)
  refine af_istore_n K 19 [some (.ref 18), some (.int q2.1), some (.int q3.1), none] dX1_readPair_18 rfl (by rw [hN]; exact Nat.le_of_ble_eq_true rfl) rfl ?_
  refine af_aload_n K 20 dX1_readPair_19 rfl rfl ?_
  refine af_iconst K 21 dX1_readPair_20 rfl cs_iconst_0 ?_
  refine af_bipush K 23 dX1_readPair_21 rfl cs_bipush_7 ?_
  refine af_callV_i K (b := 18) (vs := [.int 0, .int 7]) mv_X1_readNumber lk_588 ((hp_at _ (Nat.le_of_ble_eq_true rfl)).trans rfl) rfl 26 dX1_readPair_23 rfl rfl rfl rfl (A_X1_readNumber _ _ 0 7 q3.2) rfl (fun q4 => ?_)
  refine af_istore_n K 27 [some (.ref 18), some (.int q2.1), some (.int q3.1), some (.int q4.1)] dX1_readPair_26 rfl (by rw [hN]; exact Nat.le_of_ble_eq_true rfl) rfl ?_
  refine af_aload_n K 28 dX1_readPair_27 rfl rfl ?_
  refine af_callV_z K (b := 18) (vs := []) mv_X1_hasFault lk_562 ((hp_at _ (Nat.le_of_ble_eq_true rfl)).trans rfl) rfl 31 dX1_readPair_28 rfl rfl rfl rfl (A_X1_hasFault _ _ q4.2) rfl (fun q5 => ?_)
  refine af_if_ne K 34 49 dX1_readPair_31 rfl rfl (fun _ => ?_) (fun _ => ?_)
  · exact af_retv K dX1_readPair_49
  · refine af_aload_n K 35 dX1_readPair_34 rfl rfl ?_
    refine af_get K 38 dX1_readPair_35 rfl fl_X1_15 (Nat.le_of_ble_eq_true rfl) rfl rfl ?_
    refine af_get K 41 dX1_readPair_38 rfl fl_X1_105 (Nat.le_of_ble_eq_true rfl) rfl rfl ?_
    refine af_iload_n K 42 dX1_readPair_41 rfl rfl ?_
    refine af_bipush K 44 dX1_readPair_42 rfl cs_bipush_10 ?_
    refine af_iload_n K 45 dX1_readPair_44 rfl rfl ?_
    refine af_imul K 46 dX1_readPair_45 rfl ?_
    refine af_iload_n K 47 dX1_readPair_46 rfl rfl ?_
    refine af_iadd K 48 dX1_readPair_47 rfl ?_
    refine af_iast K 49 dX1_readPair_48 rfl (Nat.le_of_ble_eq_true rfl) (fun _ _ => rfl) (fun s6 => ?_)
    exact af_retv K dX1_readPair_49
def F_X1_readClay  (σ : fk_T) : Option (fk_T) := (F_X1_step  σ).bind (fun q1 => (F_X1_readNumber 1 20 q1).bind (fun q2 => (F_X1_hasFault  q2.2).bind (fun q3 => if (fk_b q3.1) = 0 then (fk_B (fk_w q3.2 6 (upd (q3.2.1 6) 0 q2.1)) (fun s4 => some s4)) else (some q3.2))))
set_option maxRecDepth 100000 in
set_option maxHeartbeats 4000000 in
theorem A_X1_readClay (X : aw_X) (l : Launch)  (σ : fk_T) : af_G X l mX1_readClay [.ref 18] (hp σ) ρv (F_X1_readClay  σ) := by
  refine af_mk (by decide) rfl (fun q _ => aw_okv q) [some (.ref 18), none] rfl ?_
  rintro cx rfl rfl hN K
  replace hN : aw_nL cx = 2 := hN
  replace K : aw_K cx cX1_readClay RX1 rX1_readClay := K
  unfold F_X1_readClay
  refine af_aload_n K 1 dX1_readClay_0 rfl rfl ?_
  refine af_callV_v K (b := 18) (vs := []) mv_X1_step lk_580 ((hp_at _ (Nat.le_of_ble_eq_true rfl)).trans rfl) rfl 4 dX1_readClay_1 rfl rfl rfl rfl (A_X1_step _ _ σ) rfl (fun q1 => ?_)
  refine af_aload_n K 5 dX1_readClay_4 rfl rfl ?_
  refine af_iconst K 6 dX1_readClay_5 rfl cs_iconst_1 ?_
  refine af_bipush K 8 dX1_readClay_6 rfl cs_bipush_20 ?_
  refine af_callV_i K (b := 18) (vs := [.int 1, .int 20]) mv_X1_readNumber lk_588 ((hp_at _ (Nat.le_of_ble_eq_true rfl)).trans rfl) rfl 11 dX1_readClay_8 rfl rfl rfl rfl (A_X1_readNumber _ _ 1 20 q1) rfl (fun q2 => ?_)
  refine af_istore_n K 12 [some (.ref 18), some (.int q2.1)] dX1_readClay_11 rfl (by rw [hN]; exact Nat.le_of_ble_eq_true rfl) rfl ?_
  refine af_aload_n K 13 dX1_readClay_12 rfl rfl ?_
  refine af_callV_z K (b := 18) (vs := []) mv_X1_hasFault lk_562 ((hp_at _ (Nat.le_of_ble_eq_true rfl)).trans rfl) rfl 16 dX1_readClay_13 rfl rfl rfl rfl (A_X1_hasFault _ _ q2.2) rfl (fun q3 => ?_)
  refine af_if_ne K 19 27 dX1_readClay_16 rfl rfl (fun _ => ?_) (fun _ => ?_)
  · exact af_retv K dX1_readClay_27
  · refine af_aload_n K 20 dX1_readClay_19 rfl rfl ?_
    refine af_get K 23 dX1_readClay_20 rfl fl_X1_15 (Nat.le_of_ble_eq_true rfl) rfl rfl ?_
    refine af_iload_n K 24 dX1_readClay_23 rfl rfl ?_
    refine af_put K 27 dX1_readClay_24 rfl fp_X1_108 (Nat.le_of_ble_eq_true rfl) rfl (Nat.le_of_ble_eq_true rfl) rfl (fun s4 => ?_)
    exact af_retv K dX1_readClay_27
def F_X1_readItem  (σ : fk_T) : Option (fk_T) := fk_A (σ.1 19) 121 (σ.1 18 4) (fun y1 => fk_B ((-10) - y1) (fun y2 => (F_X4_within y2 0 6 σ).bind (fun q3 => if (fk_b q3.1) = 0 then (if y2 = 7 then ((F_X1_readRift  q3.2).bind (fun q7 => some q7)) else (if y2 = 8 then ((F_X1_readPair  q3.2).bind (fun q6 => some q6)) else (if y2 = 9 then ((F_X1_readClay  q3.2).bind (fun q5 => some q5)) else ((F_X1_refuse  q3.2).bind (fun q4 => some q4))))) else ((F_X1_readPotter y2 q3.2).bind (fun q8 => some q8)))))
set_option maxRecDepth 100000 in
set_option maxHeartbeats 4000000 in
theorem A_X1_readItem (X : aw_X) (l : Launch)  (σ : fk_T) : af_G X l mX1_readItem [.ref 18] (hp σ) ρv (F_X1_readItem  σ) := by
  refine af_mk (by decide) rfl (fun q _ => aw_okv q) [some (.ref 18), none] rfl ?_
  rintro cx rfl rfl hN K
  replace hN : aw_nL cx = 2 := hN
  replace K : aw_K cx cX1_readItem RX1 rX1_readItem := K
  unfold F_X1_readItem
  refine af_bipush K 2 dX1_readItem_0 rfl cs_bipush_m10 ?_
  refine af_aload_n K 3 dX1_readItem_2 rfl rfl ?_
  refine af_get K 6 dX1_readItem_3 rfl fl_X1_19 (Nat.le_of_ble_eq_true rfl) rfl rfl ?_
  refine af_aload_n K 7 dX1_readItem_6 rfl rfl ?_
  refine af_get K 10 dX1_readItem_7 rfl fl_X1_46 (Nat.le_of_ble_eq_true rfl) rfl rfl ?_
  refine af_iald K 11 dX1_readItem_10 rfl (Nat.le_of_ble_eq_true rfl) rfl (fun y1 => ?_)
  refine af_isub K 12 dX1_readItem_11 rfl ?_
  refine af_Bi (fun y2 => ?_)
  refine af_istore_n K 13 [some (.ref 18), some (.int y2)] dX1_readItem_12 rfl (by rw [hN]; exact Nat.le_of_ble_eq_true rfl) rfl ?_
  refine af_iload_n K 14 dX1_readItem_13 rfl rfl ?_
  refine af_iconst K 15 dX1_readItem_14 rfl cs_iconst_0 ?_
  refine af_bipush K 17 dX1_readItem_15 rfl cs_bipush_6 ?_
  refine af_callN_z K (vs := [.int y2, .int 0, .int 6]) ms_X4_within (fun hSX => hSX.2.2.2.1) 20 dX1_readItem_17 rfl rfl rfl rfl (A_X4_within _ _ y2 0 6 σ) rfl (fun q3 => ?_)
  refine af_if_eq K 23 31 dX1_readItem_20 rfl rfl (fun _ => ?_) (fun _ => ?_)
  · refine af_iload_n K 32 dX1_readItem_31 rfl rfl ?_
    refine af_bipush K 34 dX1_readItem_32 rfl cs_bipush_7 ?_
    refine af_icmp_ne K 37 44 dX1_readItem_34 rfl rfl (fun _ => ?_) (fun _ => ?_)
    · refine af_iload_n K 45 dX1_readItem_44 rfl rfl ?_
      refine af_bipush K 47 dX1_readItem_45 rfl cs_bipush_8 ?_
      refine af_icmp_ne K 50 57 dX1_readItem_47 rfl rfl (fun _ => ?_) (fun _ => ?_)
      · refine af_iload_n K 58 dX1_readItem_57 rfl rfl ?_
        refine af_bipush K 60 dX1_readItem_58 rfl cs_bipush_9 ?_
        refine af_icmp_ne K 63 70 dX1_readItem_60 rfl rfl (fun _ => ?_) (fun _ => ?_)
        · refine af_aload_n K 71 dX1_readItem_70 rfl rfl ?_
          refine af_callV_v K (b := 18) (vs := []) mv_X1_refuse lk_576 ((hp_at _ (Nat.le_of_ble_eq_true rfl)).trans rfl) rfl 74 dX1_readItem_71 rfl rfl rfl rfl (A_X1_refuse _ _ q3.2) rfl (fun q4 => ?_)
          exact af_retv K dX1_readItem_74
        · refine af_aload_n K 64 dX1_readItem_63 rfl rfl ?_
          refine af_callV_v K (b := 18) (vs := []) mv_X1_readClay lk_602 ((hp_at _ (Nat.le_of_ble_eq_true rfl)).trans rfl) rfl 67 dX1_readItem_64 rfl rfl rfl rfl (A_X1_readClay _ _ q3.2) rfl (fun q5 => ?_)
          refine af_goto K 74 dX1_readItem_67 rfl ?_
          exact af_retv K dX1_readItem_74
      · refine af_aload_n K 51 dX1_readItem_50 rfl rfl ?_
        refine af_callV_v K (b := 18) (vs := []) mv_X1_readPair lk_598 ((hp_at _ (Nat.le_of_ble_eq_true rfl)).trans rfl) rfl 54 dX1_readItem_51 rfl rfl rfl rfl (A_X1_readPair _ _ q3.2) rfl (fun q6 => ?_)
        refine af_goto K 74 dX1_readItem_54 rfl ?_
        exact af_retv K dX1_readItem_74
    · refine af_aload_n K 38 dX1_readItem_37 rfl rfl ?_
      refine af_callV_v K (b := 18) (vs := []) mv_X1_readRift lk_593 ((hp_at _ (Nat.le_of_ble_eq_true rfl)).trans rfl) rfl 41 dX1_readItem_38 rfl rfl rfl rfl (A_X1_readRift _ _ q3.2) rfl (fun q7 => ?_)
      refine af_goto K 74 dX1_readItem_41 rfl ?_
      exact af_retv K dX1_readItem_74
  · refine af_aload_n K 24 dX1_readItem_23 rfl rfl ?_
    refine af_iload_n K 25 dX1_readItem_24 rfl rfl ?_
    refine af_callV_v K (b := 18) (vs := [.int y2]) mv_X1_readPotter lk_571 ((hp_at _ (Nat.le_of_ble_eq_true rfl)).trans rfl) rfl 28 dX1_readItem_25 rfl rfl rfl rfl (A_X1_readPotter _ _ y2 q3.2) rfl (fun q8 => ?_)
    refine af_goto K 74 dX1_readItem_28 rfl ?_
    exact af_retv K dX1_readItem_74
def F_X1_take (x1 : Int32) (σ : fk_T) : Option (fk_T) := (F_X1_hasFault  σ).bind (fun q1 => if (fk_b q1.1) = 0 then (fk_A (q1.2.1 19) 121 (q1.2.1 18 4) (fun y3 => if y3 = x1 then ((F_X1_step  q1.2).bind (fun q4 => some q4)) else ((F_X1_refuse  q1.2).bind (fun q5 => some q5)))) else ((F_X1_refuse  q1.2).bind (fun q2 => some q2)))
set_option maxRecDepth 100000 in
set_option maxHeartbeats 4000000 in
theorem A_X1_take (X : aw_X) (l : Launch) (x1 : Int32) (σ : fk_T) : af_G X l mX1_take [.ref 18, .int x1] (hp σ) ρv (F_X1_take x1 σ) := by
  refine af_mk (by decide) rfl (fun q _ => aw_okv q) [some (.ref 18), some (.int x1)] rfl ?_
  rintro cx rfl rfl hN K
  replace hN : aw_nL cx = 2 := hN
  replace K : aw_K cx cX1_take RX1 rX1_take := K
  unfold F_X1_take
  refine af_aload_n K 1 dX1_take_0 rfl rfl ?_
  refine af_callV_z K (b := 18) (vs := []) mv_X1_hasFault lk_562 ((hp_at _ (Nat.le_of_ble_eq_true rfl)).trans rfl) rfl 4 dX1_take_1 rfl rfl rfl rfl (A_X1_hasFault _ _ σ) rfl (fun q1 => ?_)
  refine af_if_ne K 7 20 dX1_take_4 rfl rfl (fun _ => ?_) (fun _ => ?_)
  · refine af_aload_n K 21 dX1_take_20 rfl rfl ?_
    refine af_callV_v K (b := 18) (vs := []) mv_X1_refuse lk_576 ((hp_at _ (Nat.le_of_ble_eq_true rfl)).trans rfl) rfl 24 dX1_take_21 rfl rfl rfl rfl (A_X1_refuse _ _ q1.2) rfl (fun q2 => ?_)
    exact af_retv K dX1_take_24
  · refine af_aload_n K 8 dX1_take_7 rfl rfl ?_
    refine af_get K 11 dX1_take_8 rfl fl_X1_19 (Nat.le_of_ble_eq_true rfl) rfl rfl ?_
    refine af_aload_n K 12 dX1_take_11 rfl rfl ?_
    refine af_get K 15 dX1_take_12 rfl fl_X1_46 (Nat.le_of_ble_eq_true rfl) rfl rfl ?_
    refine af_iald K 16 dX1_take_15 rfl (Nat.le_of_ble_eq_true rfl) rfl (fun y3 => ?_)
    refine af_iload_n K 17 dX1_take_16 rfl rfl ?_
    refine af_icmp_eq K 20 25 dX1_take_17 rfl rfl (fun _ => ?_) (fun _ => ?_)
    · refine af_aload_n K 26 dX1_take_25 rfl rfl ?_
      refine af_callV_v K (b := 18) (vs := []) mv_X1_step lk_580 ((hp_at _ (Nat.le_of_ble_eq_true rfl)).trans rfl) rfl 29 dX1_take_26 rfl rfl rfl rfl (A_X1_step _ _ q1.2) rfl (fun q4 => ?_)
      exact af_retv K dX1_take_29
    · refine af_aload_n K 21 dX1_take_20 rfl rfl ?_
      refine af_callV_v K (b := 18) (vs := []) mv_X1_refuse lk_576 ((hp_at _ (Nat.le_of_ble_eq_true rfl)).trans rfl) rfl 24 dX1_take_21 rfl rfl rfl rfl (A_X1_refuse _ _ q1.2) rfl (fun q5 => ?_)
      exact af_retv K dX1_take_24
def L_X1_readItems_12  : Nat → Int32 → fk_T → (Int32 → fk_T → Option (Int32 × fk_T)) → Option (Int32 × fk_T)
  | 0, _, _, _ => none
  | fu + 1, x1, σ, k => if 120 ≤ x1 then (k x1 σ) else ((F_X1_hasFault  σ).bind (fun q3 => if (fk_b q3.1) = 0 then ((F_X1_readItem  q3.2).bind (fun q4 => fk_B (x1 + 1) (fun y5 => fk_A (q4.1 19) 121 (q4.1 18 4) (fun y6 => if y6 = (-1) then (k y5 q4) else ((F_X1_take (-2) q4).bind (fun q7 => L_X1_readItems_12 fu y5 q7 k)))))) else (k x1 q3.2)))
def F_X1_readItems  (σ : fk_T) : Option (Int32 × fk_T) := fk_B (fk_w σ 18 (upd (σ.1 18) 5 (-1))) (fun s1 => fk_B (fk_w s1 18 (upd (s1.1 18) 4 0)) (fun s2 => L_X1_readItems_12 fk_N 0 s2 (fun y9 s8 => some (y9, s8))))
set_option maxRecDepth 100000 in
set_option maxHeartbeats 4000000 in
theorem W_X1_readItems_12 {cx : aw_C} (hN : aw_nL cx = 2) (K : aw_K cx cX1_readItems RX1 rX1_readItems)  : ∀ (fu : Nat) (x1 : Int32) (σ : fk_T) (k : Int32 → fk_T → Option (Int32 × fk_T)), (∀ (x1 : Int32) (σ : fk_T), af cx ρi 57 [some (.ref 18), some (.int x1)] [] (hp σ) (k x1 σ)) → af cx ρi 12 [some (.ref 18), some (.int x1)] [] (hp σ) (L_X1_readItems_12 fu x1 σ k) := by
  intro fu
  induction fu with
  | zero => intros; exact af_none
  | succ fu ih12 =>
    intro x1 σ k hk12
    rw [L_X1_readItems_12]
    refine af_iload_n K 13 dX1_readItems_12 rfl rfl ?_
    refine af_bipush K 15 dX1_readItems_13 rfl cs_bipush_120 ?_
    refine af_icmp_ge K 18 57 dX1_readItems_15 rfl rfl (fun _ => ?_) (fun _ => ?_)
    · refine af_lm [true, true] rfl ?_
      exact hk12 _ _
    · refine af_aload_n K 19 dX1_readItems_18 rfl rfl ?_
      refine af_callV_z K (b := 18) (vs := []) mv_X1_hasFault lk_562 ((hp_at _ (Nat.le_of_ble_eq_true rfl)).trans rfl) rfl 22 dX1_readItems_19 rfl rfl rfl rfl (A_X1_hasFault _ _ σ) rfl (fun q3 => ?_)
      refine af_if_ne K 25 57 dX1_readItems_22 rfl rfl (fun _ => ?_) (fun _ => ?_)
      · refine af_lm [true, true] rfl ?_
        exact hk12 _ _
      · refine af_aload_n K 26 dX1_readItems_25 rfl rfl ?_
        refine af_callV_v K (b := 18) (vs := []) mv_X1_readItem lk_566 ((hp_at _ (Nat.le_of_ble_eq_true rfl)).trans rfl) rfl 29 dX1_readItems_26 rfl rfl rfl rfl (A_X1_readItem _ _ q3.2) rfl (fun q4 => ?_)
        refine af_iincB K 32 (fun yy => [some (.ref 18), some (.int yy)]) dX1_readItems_29 rfl (by rw [hN]; exact Nat.le_of_ble_eq_true rfl) rfl cs_iconst_1 (fun _ => rfl) (fun y5 => ?_)
        refine af_aload_n K 33 dX1_readItems_32 rfl rfl ?_
        refine af_get K 36 dX1_readItems_33 rfl fl_X1_19 (Nat.le_of_ble_eq_true rfl) rfl rfl ?_
        refine af_aload_n K 37 dX1_readItems_36 rfl rfl ?_
        refine af_get K 40 dX1_readItems_37 rfl fl_X1_46 (Nat.le_of_ble_eq_true rfl) rfl rfl ?_
        refine af_iald K 41 dX1_readItems_40 rfl (Nat.le_of_ble_eq_true rfl) rfl (fun y6 => ?_)
        refine af_iconst K 42 dX1_readItems_41 rfl cs_iconst_m1 ?_
        refine af_icmp_ne K 45 48 dX1_readItems_42 rfl rfl (fun _ => ?_) (fun _ => ?_)
        · refine af_aload_n K 49 dX1_readItems_48 rfl rfl ?_
          refine af_bipush K 51 dX1_readItems_49 rfl cs_bipush_m2 ?_
          refine af_callV_v K (b := 18) (vs := [.int (-2)]) mv_X1_take lk_606 ((hp_at _ (Nat.le_of_ble_eq_true rfl)).trans rfl) rfl 54 dX1_readItems_51 rfl rfl rfl rfl (A_X1_take _ _ (-2) q4) rfl (fun q7 => ?_)
          refine af_goto K 12 dX1_readItems_54 rfl ?_
          refine af_lm [true, true] rfl ?_
          exact ih12 _ _ _ hk12
        · refine af_goto K 57 dX1_readItems_45 rfl ?_
          refine af_lm [true, true] rfl ?_
          exact hk12 _ _
set_option maxRecDepth 100000 in
set_option maxHeartbeats 4000000 in
theorem A_X1_readItems (X : aw_X) (l : Launch)  (σ : fk_T) : af_G X l mX1_readItems [.ref 18] (hp σ) ρi (F_X1_readItems  σ) := by
  refine af_mk (by decide) rfl (fun q _ => aw_oki q) [some (.ref 18), none] rfl ?_
  rintro cx rfl rfl hN K
  replace hN : aw_nL cx = 2 := hN
  replace K : aw_K cx cX1_readItems RX1 rX1_readItems := K
  unfold F_X1_readItems
  refine af_aload_n K 1 dX1_readItems_0 rfl rfl ?_
  refine af_iconst K 2 dX1_readItems_1 rfl cs_iconst_m1 ?_
  refine af_put K 5 dX1_readItems_2 rfl fp_X1_26 (Nat.le_of_ble_eq_true rfl) rfl (Nat.le_of_ble_eq_true rfl) rfl (fun s1 => ?_)
  refine af_aload_n K 6 dX1_readItems_5 rfl rfl ?_
  refine af_iconst K 7 dX1_readItems_6 rfl cs_iconst_0 ?_
  refine af_put K 10 dX1_readItems_7 rfl fp_X1_46 (Nat.le_of_ble_eq_true rfl) rfl (Nat.le_of_ble_eq_true rfl) rfl (fun s2 => ?_)
  refine af_iconst K 11 dX1_readItems_10 rfl cs_iconst_0 ?_
  refine af_istore_n K 12 [some (.ref 18), some (.int 0)] dX1_readItems_11 rfl (by rw [hN]; exact Nat.le_of_ble_eq_true rfl) rfl ?_
  refine af_lm [true, true] rfl ?_
  refine W_X1_readItems_12 hN K  fk_N _ _ _ (fun y9 s8 => ?_)
  refine af_iload_n K 58 dX1_readItems_57 rfl rfl ?_
  exact af_reti K dX1_readItems_58
