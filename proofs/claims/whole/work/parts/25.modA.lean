def F_X5_finds (x1 : Int32) (σ : fk_T) : Option (Int32 × fk_T) := fk_A (σ.1 31) 7 x1 (fun y1 => fk_S σ 31 7 x1 (y1 + 1) (fun s2 => some (((-1000001) - x1), s2)))
set_option maxRecDepth 100000 in
set_option maxHeartbeats 4000000 in
theorem A_X5_finds (X : aw_X) (l : Launch) (x1 : Int32) (σ : fk_T) : af_G X l mX5_finds [.ref 26, .int x1] (hp σ) ρi (F_X5_finds x1 σ) := by
  refine af_mk (by decide) rfl (fun q _ => aw_oki q) [some (.ref 26), some (.int x1)] rfl ?_
  rintro cx rfl rfl hN K
  replace hN : aw_nL cx = 2 := hN
  replace K : aw_K cx cX5_finds RX5 rX5_finds := K
  unfold F_X5_finds
  refine af_aload_n K 1 dX5_finds_0 rfl rfl ?_
  refine af_get K 4 dX5_finds_1 rfl fl_X5_22 (Nat.le_of_ble_eq_true rfl) rfl rfl ?_
  refine af_iload_n K 5 dX5_finds_4 rfl rfl ?_
  refine af_dup2 K 6 dX5_finds_5 rfl rfl rfl ?_
  refine af_iald K 7 dX5_finds_6 rfl (Nat.le_of_ble_eq_true rfl) rfl (fun y1 => ?_)
  refine af_iconst K 8 dX5_finds_7 rfl cs_iconst_1 ?_
  refine af_iadd K 9 dX5_finds_8 rfl ?_
  refine af_iast K 10 dX5_finds_9 rfl (Nat.le_of_ble_eq_true rfl) (fun _ _ => rfl) (fun s2 => ?_)
  refine af_ldc K 12 dX5_finds_10 rfl lk_764 ?_
  refine af_iload_n K 13 dX5_finds_12 rfl rfl ?_
  refine af_isub K 14 dX5_finds_13 rfl ?_
  exact af_reti K dX5_finds_14
def F_X5_in (x0 : Int64) (x2 : Int64) (x4 : Int64) (σ : fk_T) : Option (Bool × fk_T) := if (lg_cmp x0 x2) < 0 then (some (false, σ)) else (if 0 < (lg_cmp x0 x4) then (some (false, σ)) else (some (true, σ)))
set_option maxRecDepth 100000 in
set_option maxHeartbeats 4000000 in
theorem A_X5_in (X : aw_X) (l : Launch) (x0 : Int64) (x2 : Int64) (x4 : Int64) (σ : fk_T) : af_G X l mX5_in [.long x0, .long x2, .long x4] (hp σ) ρz (F_X5_in x0 x2 x4 σ) := by
  refine af_mk (by decide) rfl (fun q _ => aw_okz q) [some (.long x0), none, some (.long x2), none, some (.long x4), none] rfl ?_
  rintro cx rfl rfl hN K
  replace hN : aw_nL cx = 6 := hN
  replace K : aw_K cx cX5_in RX5 rX5_in := K
  unfold F_X5_in
  refine af_lload_n K 1 dX5_in_0 rfl rfl ?_
  refine af_lload_n K 2 dX5_in_1 rfl rfl ?_
  refine af_lcmp K 3 dX5_in_2 rfl ?_
  refine af_if_lt K 6 17 dX5_in_3 rfl rfl (fun _ => ?_) (fun _ => ?_)
  · refine af_iconst K 18 dX5_in_17 rfl cs_iconst_0 ?_
    exact af_retz K rfl dX5_in_18
  · refine af_lload_n K 7 dX5_in_6 rfl rfl ?_
    refine af_lload K 9 dX5_in_7 rfl rfl ?_
    refine af_lcmp K 10 dX5_in_9 rfl ?_
    refine af_if_gt K 13 17 dX5_in_10 rfl rfl (fun _ => ?_) (fun _ => ?_)
    · refine af_iconst K 18 dX5_in_17 rfl cs_iconst_0 ?_
      exact af_retz K rfl dX5_in_18
    · refine af_iconst K 14 dX5_in_13 rfl cs_iconst_1 ?_
      refine af_goto K 18 dX5_in_14 rfl ?_
      exact af_retz K rfl dX5_in_18
def F_X5_held (x0 : Int32) (x1 : Int32) (x2 : Int32) (σ : fk_T) : Option (Int32 × fk_T) := if x1 ≤ x0 then (if x0 ≤ x2 then (some (x0, σ)) else (some (x2, σ))) else (some (x1, σ))
set_option maxRecDepth 100000 in
set_option maxHeartbeats 4000000 in
theorem A_X5_held (X : aw_X) (l : Launch) (x0 : Int32) (x1 : Int32) (x2 : Int32) (σ : fk_T) : af_G X l mX5_held [.int x0, .int x1, .int x2] (hp σ) ρi (F_X5_held x0 x1 x2 σ) := by
  refine af_mk (by decide) rfl (fun q _ => aw_oki q) [some (.int x0), some (.int x1), some (.int x2)] rfl ?_
  rintro cx rfl rfl hN K
  replace hN : aw_nL cx = 3 := hN
  replace K : aw_K cx cX5_held RX5 rX5_held := K
  unfold F_X5_held
  refine af_iload_n K 1 dX5_held_0 rfl rfl ?_
  refine af_iload_n K 2 dX5_held_1 rfl rfl ?_
  refine af_icmp_ge K 5 9 dX5_held_2 rfl rfl (fun _ => ?_) (fun _ => ?_)
  · refine af_iload_n K 10 dX5_held_9 rfl rfl ?_
    refine af_iload_n K 11 dX5_held_10 rfl rfl ?_
    refine af_icmp_le K 14 18 dX5_held_11 rfl rfl (fun _ => ?_) (fun _ => ?_)
    · refine af_iload_n K 19 dX5_held_18 rfl rfl ?_
      exact af_reti K dX5_held_19
    · refine af_iload_n K 15 dX5_held_14 rfl rfl ?_
      refine af_goto K 19 dX5_held_15 rfl ?_
      exact af_reti K dX5_held_19
  · refine af_iload_n K 6 dX5_held_5 rfl rfl ?_
    refine af_goto K 19 dX5_held_6 rfl ?_
    exact af_reti K dX5_held_19
def F_X5_size (x0 : Int32) (σ : fk_T) : Option (Int32 × fk_T) := if 0 ≤ x0 then (some (x0, σ)) else (some ((-x0), σ))
set_option maxRecDepth 100000 in
set_option maxHeartbeats 4000000 in
theorem A_X5_size (X : aw_X) (l : Launch) (x0 : Int32) (σ : fk_T) : af_G X l mX5_size [.int x0] (hp σ) ρi (F_X5_size x0 σ) := by
  refine af_mk (by decide) rfl (fun q _ => aw_oki q) [some (.int x0)] rfl ?_
  rintro cx rfl rfl hN K
  replace hN : aw_nL cx = 1 := hN
  replace K : aw_K cx cX5_size RX5 rX5_size := K
  unfold F_X5_size
  refine af_iload_n K 1 dX5_size_0 rfl rfl ?_
  refine af_if_ge K 4 9 dX5_size_1 rfl rfl (fun _ => ?_) (fun _ => ?_)
  · refine af_iload_n K 10 dX5_size_9 rfl rfl ?_
    exact af_reti K dX5_size_10
  · refine af_iload_n K 5 dX5_size_4 rfl rfl ?_
    refine af_ineg K 6 dX5_size_5 rfl ?_
    refine af_goto K 10 dX5_size_6 rfl ?_
    exact af_reti K dX5_size_10
def L_X5_copies_2 (u : Nat) (w : Nat) : Nat → Int32 → fk_T → (Int32 → fk_T → Option (fk_T)) → Option (fk_T)
  | 0, _, _, _ => none
  | fu + 1, x2, σ, k => if 135 ≤ x2 then (k x2 σ) else (fk_A (σ.1 u) 135 x2 (fun y1 => fk_S σ w 135 x2 y1 (fun s2 => fk_B (x2 + 1) (fun y3 => L_X5_copies_2 u w fu y3 s2 k))))
def F_X5_copies (u : Nat) (w : Nat) (σ : fk_T) : Option (fk_T) := L_X5_copies_2 u w fk_N 0 σ (fun y5 s4 => some s4)
set_option maxRecDepth 100000 in
set_option maxHeartbeats 4000000 in
theorem W_X5_copies_2 {cx : aw_C} (hN : aw_nL cx = 3) (K : aw_K cx cX5_copies RX5 rX5_copies) (u : Nat) (hu : hp_R u) (w : Nat) (hw : hp_R w) : ∀ (fu : Nat) (x2 : Int32) (σ : fk_T) (k : Int32 → fk_T → Option (fk_T)), (∀ (x2 : Int32) (σ : fk_T), af cx ρv 21 [some (.ref u), some (.ref w), some (.int x2)] [] (hp σ) (k x2 σ)) → af cx ρv 2 [some (.ref u), some (.ref w), some (.int x2)] [] (hp σ) (L_X5_copies_2 u w fu x2 σ k) := by
  intro fu
  induction fu with
  | zero => intros; exact af_none
  | succ fu ih2 =>
    intro x2 σ k hk2
    rw [L_X5_copies_2]
    refine af_iload_n K 3 dX5_copies_2 rfl rfl ?_
    refine af_sipush K 6 dX5_copies_3 rfl cs_sipush_135 ?_
    refine af_icmp_ge K 9 21 dX5_copies_6 rfl rfl (fun _ => ?_) (fun _ => ?_)
    · refine af_lm [true, true, true] rfl ?_
      exact hk2 _ _
    · refine af_aload_n K 10 dX5_copies_9 rfl rfl ?_
      refine af_iload_n K 11 dX5_copies_10 rfl rfl ?_
      refine af_aload_n K 12 dX5_copies_11 rfl rfl ?_
      refine af_iload_n K 13 dX5_copies_12 rfl rfl ?_
      refine af_iald K 14 dX5_copies_13 rfl (hp_ltr hu) (hp_cr hu _ _) (fun y1 => ?_)
      refine af_iast K 15 dX5_copies_14 rfl (hp_ltr hw) (hp_cr hw) (fun s2 => ?_)
      refine af_iincB K 18 (fun yy => [some (.ref u), some (.ref w), some (.int yy)]) dX5_copies_15 rfl (by rw [hN]; exact Nat.le_of_ble_eq_true rfl) rfl cs_iconst_1 (fun _ => rfl) (fun y3 => ?_)
      refine af_goto K 2 dX5_copies_18 rfl ?_
      refine af_lm [true, true, true] rfl ?_
      exact ih2 _ _ _ hk2
set_option maxRecDepth 100000 in
set_option maxHeartbeats 4000000 in
theorem A_X5_copies (X : aw_X) (l : Launch) (u : Nat) (hu : hp_R u) (w : Nat) (hw : hp_R w) (σ : fk_T) : af_G X l mX5_copies [.ref u, .ref w] (hp σ) ρv (F_X5_copies u w σ) := by
  refine af_mk (by decide) rfl (fun q _ => aw_okv q) [some (.ref u), some (.ref w), none] rfl ?_
  rintro cx rfl rfl hN K
  replace hN : aw_nL cx = 3 := hN
  replace K : aw_K cx cX5_copies RX5 rX5_copies := K
  unfold F_X5_copies
  refine af_iconst K 1 dX5_copies_0 rfl cs_iconst_0 ?_
  refine af_istore_n K 2 [some (.ref u), some (.ref w), some (.int 0)] dX5_copies_1 rfl (by rw [hN]; exact Nat.le_of_ble_eq_true rfl) rfl ?_
  refine af_lm [true, true, true] rfl ?_
  refine W_X5_copies_2 hN K u hu w hw fk_N _ _ _ (fun y5 s4 => ?_)
  exact af_retv K dX5_copies_21
def F_X5_isPotter (x1 : Int32) (σ : fk_T) : Option (Bool × fk_T) := fk_A (σ.1 27) 135 0 (fun y1 => (F_X5_in (x1.toInt64) 0 ((y1 - 1).toInt64) σ).bind (fun q2 => some (q2.1, q2.2)))
set_option maxRecDepth 100000 in
set_option maxHeartbeats 4000000 in
theorem A_X5_isPotter (X : aw_X) (l : Launch) (x1 : Int32) (σ : fk_T) : af_G X l mX5_isPotter [.ref 26, .int x1] (hp σ) ρz (F_X5_isPotter x1 σ) := by
  refine af_mk (by decide) rfl (fun q _ => aw_okz q) [some (.ref 26), some (.int x1)] rfl ?_
  rintro cx rfl rfl hN K
  replace hN : aw_nL cx = 2 := hN
  replace K : aw_K cx cX5_isPotter RX5 rX5_isPotter := K
  unfold F_X5_isPotter
  refine af_iload_n K 1 dX5_isPotter_0 rfl rfl ?_
  refine af_i2l K 2 dX5_isPotter_1 rfl ?_
  refine af_lconst K 3 dX5_isPotter_2 rfl cs_lconst_0 ?_
  refine af_aload_n K 4 dX5_isPotter_3 rfl rfl ?_
  refine af_get K 7 dX5_isPotter_4 rfl fl_X5_7 (Nat.le_of_ble_eq_true rfl) rfl rfl ?_
  refine af_iconst K 8 dX5_isPotter_7 rfl cs_iconst_0 ?_
  refine af_iald K 9 dX5_isPotter_8 rfl (Nat.le_of_ble_eq_true rfl) rfl (fun y1 => ?_)
  refine af_iconst K 10 dX5_isPotter_9 rfl cs_iconst_1 ?_
  refine af_isub K 11 dX5_isPotter_10 rfl ?_
  refine af_i2l K 12 dX5_isPotter_11 rfl ?_
  refine af_callS_z K (vs := [.long (x1.toInt64), .long 0, .long ((y1 - 1).toInt64)]) ms_X5_in lk_753 15 dX5_isPotter_12 rfl rfl rfl rfl (A_X5_in _ _ (x1.toInt64) 0 ((y1 - 1).toInt64) σ) rfl (fun q2 => ?_)
  exact af_retz K rfl dX5_isPotter_15
def F_X5_areTwo (x1 : Int32) (x2 : Int32) (σ : fk_T) : Option (Bool × fk_T) := (F_X5_isPotter x1 σ).bind (fun q1 => if (fk_b q1.1) = 0 then (some (false, q1.2)) else ((F_X5_isPotter x2 q1.2).bind (fun q2 => if (fk_b q2.1) = 0 then (some (false, q2.2)) else (if x1 = x2 then (some (false, q2.2)) else (some (true, q2.2))))))
set_option maxRecDepth 100000 in
set_option maxHeartbeats 4000000 in
theorem A_X5_areTwo (X : aw_X) (l : Launch) (x1 : Int32) (x2 : Int32) (σ : fk_T) : af_G X l mX5_areTwo [.ref 26, .int x1, .int x2] (hp σ) ρz (F_X5_areTwo x1 x2 σ) := by
  refine af_mk (by decide) rfl (fun q _ => aw_okz q) [some (.ref 26), some (.int x1), some (.int x2)] rfl ?_
  rintro cx rfl rfl hN K
  replace hN : aw_nL cx = 3 := hN
  replace K : aw_K cx cX5_areTwo RX5 rX5_areTwo := K
  unfold F_X5_areTwo
  refine af_aload_n K 1 dX5_areTwo_0 rfl rfl ?_
  refine af_iload_n K 2 dX5_areTwo_1 rfl rfl ?_
  refine af_callV_z K (b := 26) (vs := [.int x1]) mv_X5_isPotter lk_793 ((hp_at _ (Nat.le_of_ble_eq_true rfl)).trans rfl) rfl 5 dX5_areTwo_2 rfl rfl rfl rfl (A_X5_isPotter _ _ x1 σ) rfl (fun q1 => ?_)
  refine af_if_eq K 8 25 dX5_areTwo_5 rfl rfl (fun _ => ?_) (fun _ => ?_)
  · refine af_iconst K 26 dX5_areTwo_25 rfl cs_iconst_0 ?_
    exact af_retz K rfl dX5_areTwo_26
  · refine af_aload_n K 9 dX5_areTwo_8 rfl rfl ?_
    refine af_iload_n K 10 dX5_areTwo_9 rfl rfl ?_
    refine af_callV_z K (b := 26) (vs := [.int x2]) mv_X5_isPotter lk_793 ((hp_at _ (Nat.le_of_ble_eq_true rfl)).trans rfl) rfl 13 dX5_areTwo_10 rfl rfl rfl rfl (A_X5_isPotter _ _ x2 q1.2) rfl (fun q2 => ?_)
    refine af_if_eq K 16 25 dX5_areTwo_13 rfl rfl (fun _ => ?_) (fun _ => ?_)
    · refine af_iconst K 26 dX5_areTwo_25 rfl cs_iconst_0 ?_
      exact af_retz K rfl dX5_areTwo_26
    · refine af_iload_n K 17 dX5_areTwo_16 rfl rfl ?_
      refine af_iload_n K 18 dX5_areTwo_17 rfl rfl ?_
      refine af_icmp_eq K 21 25 dX5_areTwo_18 rfl rfl (fun _ => ?_) (fun _ => ?_)
      · refine af_iconst K 26 dX5_areTwo_25 rfl cs_iconst_0 ?_
        exact af_retz K rfl dX5_areTwo_26
      · refine af_iconst K 22 dX5_areTwo_21 rfl cs_iconst_1 ?_
        refine af_goto K 26 dX5_areTwo_22 rfl ?_
        exact af_retz K rfl dX5_areTwo_26
def F_X5_its (x1 : Int32) (x2 : Int32) (σ : fk_T) : Option (Int32 × fk_T) := fk_A (σ.1 27) 135 ((13 + (8 * x2)) + x1) (fun y1 => some (y1, σ))
set_option maxRecDepth 100000 in
set_option maxHeartbeats 4000000 in
theorem A_X5_its (X : aw_X) (l : Launch) (x1 : Int32) (x2 : Int32) (σ : fk_T) : af_G X l mX5_its [.ref 26, .int x1, .int x2] (hp σ) ρi (F_X5_its x1 x2 σ) := by
  refine af_mk (by decide) rfl (fun q _ => aw_oki q) [some (.ref 26), some (.int x1), some (.int x2)] rfl ?_
  rintro cx rfl rfl hN K
  replace hN : aw_nL cx = 3 := hN
  replace K : aw_K cx cX5_its RX5 rX5_its := K
  unfold F_X5_its
  refine af_aload_n K 1 dX5_its_0 rfl rfl ?_
  refine af_get K 4 dX5_its_1 rfl fl_X5_7 (Nat.le_of_ble_eq_true rfl) rfl rfl ?_
  refine af_bipush K 6 dX5_its_4 rfl cs_bipush_13 ?_
  refine af_bipush K 8 dX5_its_6 rfl cs_bipush_8 ?_
  refine af_iload_n K 9 dX5_its_8 rfl rfl ?_
  refine af_imul K 10 dX5_its_9 rfl ?_
  refine af_iadd K 11 dX5_its_10 rfl ?_
  refine af_iload_n K 12 dX5_its_11 rfl rfl ?_
  refine af_iadd K 13 dX5_its_12 rfl ?_
  refine af_iald K 14 dX5_its_13 rfl (Nat.le_of_ble_eq_true rfl) rfl (fun y1 => ?_)
  exact af_reti K dX5_its_14
def F_X5_sets (x1 : Int32) (x2 : Int32) (x3 : Int32) (σ : fk_T) : Option (fk_T) := fk_S σ 27 135 ((13 + (8 * x2)) + x1) x3 (fun s1 => some s1)
set_option maxRecDepth 100000 in
set_option maxHeartbeats 4000000 in
theorem A_X5_sets (X : aw_X) (l : Launch) (x1 : Int32) (x2 : Int32) (x3 : Int32) (σ : fk_T) : af_G X l mX5_sets [.ref 26, .int x1, .int x2, .int x3] (hp σ) ρv (F_X5_sets x1 x2 x3 σ) := by
  refine af_mk (by decide) rfl (fun q _ => aw_okv q) [some (.ref 26), some (.int x1), some (.int x2), some (.int x3)] rfl ?_
  rintro cx rfl rfl hN K
  replace hN : aw_nL cx = 4 := hN
  replace K : aw_K cx cX5_sets RX5 rX5_sets := K
  unfold F_X5_sets
  refine af_aload_n K 1 dX5_sets_0 rfl rfl ?_
  refine af_get K 4 dX5_sets_1 rfl fl_X5_7 (Nat.le_of_ble_eq_true rfl) rfl rfl ?_
  refine af_bipush K 6 dX5_sets_4 rfl cs_bipush_13 ?_
  refine af_bipush K 8 dX5_sets_6 rfl cs_bipush_8 ?_
  refine af_iload_n K 9 dX5_sets_8 rfl rfl ?_
  refine af_imul K 10 dX5_sets_9 rfl ?_
  refine af_iadd K 11 dX5_sets_10 rfl ?_
  refine af_iload_n K 12 dX5_sets_11 rfl rfl ?_
  refine af_iadd K 13 dX5_sets_12 rfl ?_
  refine af_iload_n K 14 dX5_sets_13 rfl rfl ?_
  refine af_iast K 15 dX5_sets_14 rfl (Nat.le_of_ble_eq_true rfl) (fun _ _ => rfl) (fun s1 => ?_)
  exact af_retv K dX5_sets_15
def F_X5_adds (x1 : Int32) (x2 : Int32) (x3 : Int32) (σ : fk_T) : Option (fk_T) := fk_A (σ.1 27) 135 x1 (fun y1 => (F_X5_held (y1 + x2) 0 x3 σ).bind (fun q2 => fk_S q2.2 27 135 x1 q2.1 (fun s3 => some s3)))
set_option maxRecDepth 100000 in
set_option maxHeartbeats 4000000 in
theorem A_X5_adds (X : aw_X) (l : Launch) (x1 : Int32) (x2 : Int32) (x3 : Int32) (σ : fk_T) : af_G X l mX5_adds [.ref 26, .int x1, .int x2, .int x3] (hp σ) ρv (F_X5_adds x1 x2 x3 σ) := by
  refine af_mk (by decide) rfl (fun q _ => aw_okv q) [some (.ref 26), some (.int x1), some (.int x2), some (.int x3)] rfl ?_
  rintro cx rfl rfl hN K
  replace hN : aw_nL cx = 4 := hN
  replace K : aw_K cx cX5_adds RX5 rX5_adds := K
  unfold F_X5_adds
  refine af_aload_n K 1 dX5_adds_0 rfl rfl ?_
  refine af_get K 4 dX5_adds_1 rfl fl_X5_7 (Nat.le_of_ble_eq_true rfl) rfl rfl ?_
  refine af_iload_n K 5 dX5_adds_4 rfl rfl ?_
  refine af_aload_n K 6 dX5_adds_5 rfl rfl ?_
  refine af_get K 9 dX5_adds_6 rfl fl_X5_7 (Nat.le_of_ble_eq_true rfl) rfl rfl ?_
  refine af_iload_n K 10 dX5_adds_9 rfl rfl ?_
  refine af_iald K 11 dX5_adds_10 rfl (Nat.le_of_ble_eq_true rfl) rfl (fun y1 => ?_)
  refine af_iload_n K 12 dX5_adds_11 rfl rfl ?_
  refine af_iadd K 13 dX5_adds_12 rfl ?_
  refine af_iconst K 14 dX5_adds_13 rfl cs_iconst_0 ?_
  refine af_iload_n K 15 dX5_adds_14 rfl rfl ?_
  refine af_callS_i K (vs := [.int (y1 + x2), .int 0, .int x3]) ms_X5_held lk_806 18 dX5_adds_15 rfl rfl rfl rfl (A_X5_held _ _ (y1 + x2) 0 x3 σ) rfl (fun q2 => ?_)
  refine af_iast K 19 dX5_adds_18 rfl (Nat.le_of_ble_eq_true rfl) (fun _ _ => rfl) (fun s3 => ?_)
  exact af_retv K dX5_adds_19
def F_X5_becomes (x1 : Int32) (x2 : Int32) (σ : fk_T) : Option (Int32 × fk_T) := fk_A (σ.1 27) 135 x1 (fun y1 => fk_S σ 27 135 x1 x2 (fun s2 => some (y1, s2)))
set_option maxRecDepth 100000 in
set_option maxHeartbeats 4000000 in
theorem A_X5_becomes (X : aw_X) (l : Launch) (x1 : Int32) (x2 : Int32) (σ : fk_T) : af_G X l mX5_becomes [.ref 26, .int x1, .int x2] (hp σ) ρi (F_X5_becomes x1 x2 σ) := by
  refine af_mk (by decide) rfl (fun q _ => aw_oki q) [some (.ref 26), some (.int x1), some (.int x2), none] rfl ?_
  rintro cx rfl rfl hN K
  replace hN : aw_nL cx = 4 := hN
  replace K : aw_K cx cX5_becomes RX5 rX5_becomes := K
  unfold F_X5_becomes
  refine af_aload_n K 1 dX5_becomes_0 rfl rfl ?_
  refine af_get K 4 dX5_becomes_1 rfl fl_X5_7 (Nat.le_of_ble_eq_true rfl) rfl rfl ?_
  refine af_iload_n K 5 dX5_becomes_4 rfl rfl ?_
  refine af_iald K 6 dX5_becomes_5 rfl (Nat.le_of_ble_eq_true rfl) rfl (fun y1 => ?_)
  refine af_istore_n K 7 [some (.ref 26), some (.int x1), some (.int x2), some (.int y1)] dX5_becomes_6 rfl (by rw [hN]; exact Nat.le_of_ble_eq_true rfl) rfl ?_
  refine af_aload_n K 8 dX5_becomes_7 rfl rfl ?_
  refine af_get K 11 dX5_becomes_8 rfl fl_X5_7 (Nat.le_of_ble_eq_true rfl) rfl rfl ?_
  refine af_iload_n K 12 dX5_becomes_11 rfl rfl ?_
  refine af_iload_n K 13 dX5_becomes_12 rfl rfl ?_
  refine af_iast K 14 dX5_becomes_13 rfl (Nat.le_of_ble_eq_true rfl) (fun _ _ => rfl) (fun s2 => ?_)
  refine af_iload_n K 15 dX5_becomes_14 rfl rfl ?_
  exact af_reti K dX5_becomes_15
def L_X5_ones_4  : Nat → Int32 → Int32 → Int32 → fk_T → (Int32 → Int32 → Int32 → fk_T → Option (Int32 × fk_T)) → Option (Int32 × fk_T)
  | 0, _, _, _, _, _ => none
  | fu + 1, x0, x1, x2, σ, k => if 8 ≤ x2 then (k x0 x1 x2 σ) else (fk_B (x1 + ((x0 >>> (x2 &&& 31)) &&& 1)) (fun y1 => fk_B (x2 + 1) (fun y2 => L_X5_ones_4 fu x0 y1 y2 σ k)))
def F_X5_ones (x0 : Int32) (σ : fk_T) : Option (Int32 × fk_T) := L_X5_ones_4 fk_N x0 0 0 σ (fun y4 y5 y6 s3 => some (y5, s3))
set_option maxRecDepth 100000 in
set_option maxHeartbeats 4000000 in
theorem W_X5_ones_4 {cx : aw_C} (hN : aw_nL cx = 3) (K : aw_K cx cX5_ones RX5 rX5_ones)  : ∀ (fu : Nat) (x0 : Int32) (x1 : Int32) (x2 : Int32) (σ : fk_T) (k : Int32 → Int32 → Int32 → fk_T → Option (Int32 × fk_T)), (∀ (x0 : Int32) (x1 : Int32) (x2 : Int32) (σ : fk_T), af cx ρi 24 [some (.int x0), some (.int x1), some (.int x2)] [] (hp σ) (k x0 x1 x2 σ)) → af cx ρi 4 [some (.int x0), some (.int x1), some (.int x2)] [] (hp σ) (L_X5_ones_4 fu x0 x1 x2 σ k) := by
  intro fu
  induction fu with
  | zero => intros; exact af_none
  | succ fu ih4 =>
    intro x0 x1 x2 σ k hk4
    rw [L_X5_ones_4]
    refine af_iload_n K 5 dX5_ones_4 rfl rfl ?_
    refine af_bipush K 7 dX5_ones_5 rfl cs_bipush_8 ?_
    refine af_icmp_ge K 10 24 dX5_ones_7 rfl rfl (fun _ => ?_) (fun _ => ?_)
    · refine af_lm [true, true, true] rfl ?_
      exact hk4 _ _ _ _
    · refine af_iload_n K 11 dX5_ones_10 rfl rfl ?_
      refine af_iload_n K 12 dX5_ones_11 rfl rfl ?_
      refine af_iload_n K 13 dX5_ones_12 rfl rfl ?_
      refine af_ishr K 14 dX5_ones_13 rfl ?_
      refine af_iconst K 15 dX5_ones_14 rfl cs_iconst_1 ?_
      refine af_iand K 16 dX5_ones_15 rfl ?_
      refine af_iadd K 17 dX5_ones_16 rfl ?_
      refine af_Bi (fun y1 => ?_)
      refine af_istore_n K 18 [some (.int x0), some (.int y1), some (.int x2)] dX5_ones_17 rfl (by rw [hN]; exact Nat.le_of_ble_eq_true rfl) rfl ?_
      refine af_iincB K 21 (fun yy => [some (.int x0), some (.int y1), some (.int yy)]) dX5_ones_18 rfl (by rw [hN]; exact Nat.le_of_ble_eq_true rfl) rfl cs_iconst_1 (fun _ => rfl) (fun y2 => ?_)
      refine af_goto K 4 dX5_ones_21 rfl ?_
      refine af_lm [true, true, true] rfl ?_
      exact ih4 _ _ _ _ _ hk4
set_option maxRecDepth 100000 in
set_option maxHeartbeats 4000000 in
theorem A_X5_ones (X : aw_X) (l : Launch) (x0 : Int32) (σ : fk_T) : af_G X l mX5_ones [.int x0] (hp σ) ρi (F_X5_ones x0 σ) := by
  refine af_mk (by decide) rfl (fun q _ => aw_oki q) [some (.int x0), none, none] rfl ?_
  rintro cx rfl rfl hN K
  replace hN : aw_nL cx = 3 := hN
  replace K : aw_K cx cX5_ones RX5 rX5_ones := K
  unfold F_X5_ones
  refine af_iconst K 1 dX5_ones_0 rfl cs_iconst_0 ?_
  refine af_istore_n K 2 [some (.int x0), some (.int 0), none] dX5_ones_1 rfl (by rw [hN]; exact Nat.le_of_ble_eq_true rfl) rfl ?_
  refine af_iconst K 3 dX5_ones_2 rfl cs_iconst_0 ?_
  refine af_istore_n K 4 [some (.int x0), some (.int 0), some (.int 0)] dX5_ones_3 rfl (by rw [hN]; exact Nat.le_of_ble_eq_true rfl) rfl ?_
  refine af_lm [true, true, true] rfl ?_
  refine W_X5_ones_4 hN K  fk_N _ _ _ _ _ (fun y4 y5 y6 s3 => ?_)
  refine af_iload_n K 25 dX5_ones_24 rfl rfl ?_
  exact af_reti K dX5_ones_25
def F_X5_between (x0 : Int32) (x1 : Int32) (σ : fk_T) : Option (Int32 × fk_T) := if x1 ≤ x0 then (some ((61 + ((8 * x1) + x0)), σ)) else (some ((61 + ((8 * x0) + x1)), σ))
set_option maxRecDepth 100000 in
set_option maxHeartbeats 4000000 in
theorem A_X5_between (X : aw_X) (l : Launch) (x0 : Int32) (x1 : Int32) (σ : fk_T) : af_G X l mX5_between [.int x0, .int x1] (hp σ) ρi (F_X5_between x0 x1 σ) := by
  refine af_mk (by decide) rfl (fun q _ => aw_oki q) [some (.int x0), some (.int x1)] rfl ?_
  rintro cx rfl rfl hN K
  replace hN : aw_nL cx = 2 := hN
  replace K : aw_K cx cX5_between RX5 rX5_between := K
  unfold F_X5_between
  refine af_bipush K 2 dX5_between_0 rfl cs_bipush_61 ?_
  refine af_iload_n K 3 dX5_between_2 rfl rfl ?_
  refine af_iload_n K 4 dX5_between_3 rfl rfl ?_
  refine af_icmp_ge K 7 16 dX5_between_4 rfl rfl (fun _ => ?_) (fun _ => ?_)
  · refine af_bipush K 18 dX5_between_16 rfl cs_bipush_8 ?_
    refine af_iload_n K 19 dX5_between_18 rfl rfl ?_
    refine af_imul K 20 dX5_between_19 rfl ?_
    refine af_iload_n K 21 dX5_between_20 rfl rfl ?_
    refine af_iadd K 22 dX5_between_21 rfl ?_
    refine af_iadd K 23 dX5_between_22 rfl ?_
    exact af_reti K dX5_between_23
  · refine af_bipush K 9 dX5_between_7 rfl cs_bipush_8 ?_
    refine af_iload_n K 10 dX5_between_9 rfl rfl ?_
    refine af_imul K 11 dX5_between_10 rfl ?_
    refine af_iload_n K 12 dX5_between_11 rfl rfl ?_
    refine af_iadd K 13 dX5_between_12 rfl ?_
    refine af_goto K 22 dX5_between_13 rfl ?_
    refine af_iadd K 23 dX5_between_22 rfl ?_
    exact af_reti K dX5_between_23
def F_X5_pushes (x1 : Int32) (σ : fk_T) : Option (Int32 × fk_T) := (F_X5_its x1 1 σ).bind (fun q1 => fk_B (q1.1 / 10) (fun y2 => (F_X5_its x1 3 q1.2).bind (fun q3 => fk_B (y2 + (q3.1 / 10)) (fun y4 => (F_X5_its x1 2 q3.2).bind (fun q5 => (F_X5_held (y4 - (q5.1 / 10)) 0 9999 q5.2).bind (fun q6 => (F_X5_its x1 0 q6.2).bind (fun q7 => if q7.1 = 1 then (some (y4, q7.2)) else (if q7.1 = 2 then (some ((2 * y2), q7.2)) else (if q7.1 = 3 then (some (q6.1, q7.2)) else (if q7.1 = 4 then (some ((q6.1 + 2), q7.2)) else (if q7.1 = 5 then (some (1, q7.2)) else (if q7.1 = 6 then ((F_X5_its x1 2 q7.2).bind (fun q8 => (F_X5_held ((2 * y2) - (q8.1 / 5)) 0 9999 q8.2).bind (fun q9 => some (q9.1, q9.2)))) else (some (y2, q7.2))))))))))))))
set_option maxRecDepth 100000 in
set_option maxHeartbeats 4000000 in
theorem A_X5_pushes (X : aw_X) (l : Launch) (x1 : Int32) (σ : fk_T) : af_G X l mX5_pushes [.ref 26, .int x1] (hp σ) ρi (F_X5_pushes x1 σ) := by
  refine af_mk (by decide) rfl (fun q _ => aw_oki q) [some (.ref 26), some (.int x1), none, none, none] rfl ?_
  rintro cx rfl rfl hN K
  replace hN : aw_nL cx = 5 := hN
  replace K : aw_K cx cX5_pushes RX5 rX5_pushes := K
  unfold F_X5_pushes
  refine af_aload_n K 1 dX5_pushes_0 rfl rfl ?_
  refine af_iload_n K 2 dX5_pushes_1 rfl rfl ?_
  refine af_iconst K 3 dX5_pushes_2 rfl cs_iconst_1 ?_
  refine af_callV_i K (b := 26) (vs := [.int x1, .int 1]) mv_X5_its lk_802 ((hp_at _ (Nat.le_of_ble_eq_true rfl)).trans rfl) rfl 6 dX5_pushes_3 rfl rfl rfl rfl (A_X5_its _ _ x1 1 σ) rfl (fun q1 => ?_)
  refine af_bipush K 8 dX5_pushes_6 rfl cs_bipush_10 ?_
  refine af_idiv K 9 dX5_pushes_8 rfl cs_nz_10 ?_
  refine af_Bi (fun y2 => ?_)
  refine af_istore_n K 10 [some (.ref 26), some (.int x1), some (.int y2), none, none] dX5_pushes_9 rfl (by rw [hN]; exact Nat.le_of_ble_eq_true rfl) rfl ?_
  refine af_iload_n K 11 dX5_pushes_10 rfl rfl ?_
  refine af_aload_n K 12 dX5_pushes_11 rfl rfl ?_
  refine af_iload_n K 13 dX5_pushes_12 rfl rfl ?_
  refine af_iconst K 14 dX5_pushes_13 rfl cs_iconst_3 ?_
  refine af_callV_i K (b := 26) (vs := [.int x1, .int 3]) mv_X5_its lk_802 ((hp_at _ (Nat.le_of_ble_eq_true rfl)).trans rfl) rfl 17 dX5_pushes_14 rfl rfl rfl rfl (A_X5_its _ _ x1 3 q1.2) rfl (fun q3 => ?_)
  refine af_bipush K 19 dX5_pushes_17 rfl cs_bipush_10 ?_
  refine af_idiv K 20 dX5_pushes_19 rfl cs_nz_10 ?_
  refine af_iadd K 21 dX5_pushes_20 rfl ?_
  refine af_Bi (fun y4 => ?_)
  refine af_istore_n K 22 [some (.ref 26), some (.int x1), some (.int y2), some (.int y4), none] dX5_pushes_21 rfl (by rw [hN]; exact Nat.le_of_ble_eq_true rfl) rfl ?_
  refine af_iload_n K 23 dX5_pushes_22 rfl rfl ?_
  refine af_aload_n K 24 dX5_pushes_23 rfl rfl ?_
  refine af_iload_n K 25 dX5_pushes_24 rfl rfl ?_
  refine af_iconst K 26 dX5_pushes_25 rfl cs_iconst_2 ?_
  refine af_callV_i K (b := 26) (vs := [.int x1, .int 2]) mv_X5_its lk_802 ((hp_at _ (Nat.le_of_ble_eq_true rfl)).trans rfl) rfl 29 dX5_pushes_26 rfl rfl rfl rfl (A_X5_its _ _ x1 2 q3.2) rfl (fun q5 => ?_)
  refine af_bipush K 31 dX5_pushes_29 rfl cs_bipush_10 ?_
  refine af_idiv K 32 dX5_pushes_31 rfl cs_nz_10 ?_
  refine af_isub K 33 dX5_pushes_32 rfl ?_
  refine af_iconst K 34 dX5_pushes_33 rfl cs_iconst_0 ?_
  refine af_sipush K 37 dX5_pushes_34 rfl cs_sipush_9999 ?_
  refine af_callS_i K (vs := [.int (y4 - (q5.1 / 10)), .int 0, .int 9999]) ms_X5_held lk_806 40 dX5_pushes_37 rfl rfl rfl rfl (A_X5_held _ _ (y4 - (q5.1 / 10)) 0 9999 q5.2) rfl (fun q6 => ?_)
  refine af_istore K 42 [some (.ref 26), some (.int x1), some (.int y2), some (.int y4), some (.int q6.1)] dX5_pushes_40 rfl (by rw [hN]; exact Nat.le_of_ble_eq_true rfl) rfl ?_
  refine af_aload_n K 43 dX5_pushes_42 rfl rfl ?_
  refine af_iload_n K 44 dX5_pushes_43 rfl rfl ?_
  refine af_iconst K 45 dX5_pushes_44 rfl cs_iconst_0 ?_
  refine af_callV_i K (b := 26) (vs := [.int x1, .int 0]) mv_X5_its lk_802 ((hp_at _ (Nat.le_of_ble_eq_true rfl)).trans rfl) rfl 48 dX5_pushes_45 rfl rfl rfl rfl (A_X5_its _ _ x1 0 q6.2) rfl (fun q7 => ?_)
  refine af_ite (fun hx => ?_) (fun hx1 => ?_)
  · refine af_tin K 88 1 hx dX5_pushes_48 (by decide) (by decide) rfl rfl ?_
    refine af_iload_n K 89 dX5_pushes_88 rfl rfl ?_
    exact af_reti K dX5_pushes_89
  refine af_ite (fun hx => ?_) (fun hx2 => ?_)
  · refine af_tin K 98 2 hx dX5_pushes_48 (by decide) (by decide) rfl rfl ?_
    refine af_iconst K 99 dX5_pushes_98 rfl cs_iconst_2 ?_
    refine af_iload_n K 100 dX5_pushes_99 rfl rfl ?_
    refine af_imul K 101 dX5_pushes_100 rfl ?_
    exact af_reti K dX5_pushes_101
  refine af_ite (fun hx => ?_) (fun hx3 => ?_)
  · refine af_tin K 90 3 hx dX5_pushes_48 (by decide) (by decide) rfl rfl ?_
    refine af_iload K 92 dX5_pushes_90 rfl rfl ?_
    exact af_reti K dX5_pushes_92
  refine af_ite (fun hx => ?_) (fun hx4 => ?_)
  · refine af_tin K 93 4 hx dX5_pushes_48 (by decide) (by decide) rfl rfl ?_
    refine af_iload K 95 dX5_pushes_93 rfl rfl ?_
    refine af_iconst K 96 dX5_pushes_95 rfl cs_iconst_2 ?_
    refine af_iadd K 97 dX5_pushes_96 rfl ?_
    exact af_reti K dX5_pushes_97
  refine af_ite (fun hx => ?_) (fun hx5 => ?_)
  · refine af_tin K 122 5 hx dX5_pushes_48 (by decide) (by decide) rfl rfl ?_
    refine af_iconst K 123 dX5_pushes_122 rfl cs_iconst_1 ?_
    exact af_reti K dX5_pushes_123
  refine af_ite (fun hx => ?_) (fun hx6 => ?_)
  · refine af_tin K 102 6 hx dX5_pushes_48 (by decide) (by decide) rfl rfl ?_
    refine af_iconst K 103 dX5_pushes_102 rfl cs_iconst_2 ?_
    refine af_iload_n K 104 dX5_pushes_103 rfl rfl ?_
    refine af_imul K 105 dX5_pushes_104 rfl ?_
    refine af_aload_n K 106 dX5_pushes_105 rfl rfl ?_
    refine af_iload_n K 107 dX5_pushes_106 rfl rfl ?_
    refine af_iconst K 108 dX5_pushes_107 rfl cs_iconst_2 ?_
    refine af_callV_i K (b := 26) (vs := [.int x1, .int 2]) mv_X5_its lk_802 ((hp_at _ (Nat.le_of_ble_eq_true rfl)).trans rfl) rfl 111 dX5_pushes_108 rfl rfl rfl rfl (A_X5_its _ _ x1 2 q7.2) rfl (fun q8 => ?_)
    refine af_iconst K 112 dX5_pushes_111 rfl cs_iconst_5 ?_
    refine af_idiv K 113 dX5_pushes_112 rfl cs_nz_5 ?_
    refine af_isub K 114 dX5_pushes_113 rfl ?_
    refine af_iconst K 115 dX5_pushes_114 rfl cs_iconst_0 ?_
    refine af_sipush K 118 dX5_pushes_115 rfl cs_sipush_9999 ?_
    refine af_callS_i K (vs := [.int ((2 * y2) - (q8.1 / 5)), .int 0, .int 9999]) ms_X5_held lk_806 121 dX5_pushes_118 rfl rfl rfl rfl (A_X5_held _ _ ((2 * y2) - (q8.1 / 5)) 0 9999 q8.2) rfl (fun q9 => ?_)
    exact af_reti K dX5_pushes_121
  refine af_tout K 124 dX5_pushes_48 (tsw_1_6 hx1 hx2 hx3 hx4 hx5 hx6) rfl ?_
  refine af_iload_n K 125 dX5_pushes_124 rfl rfl ?_
  exact af_reti K dX5_pushes_125
def F_X5_says (x1 : Int32) (σ : fk_T) : Option (Int32 × fk_T) := (F_X5_its x1 1 σ).bind (fun q1 => if q1.1 < 50 then ((F_X5_its x1 0 q1.2).bind (fun q2 => if q2.1 = 1 then (some (((-1) + 1), q2.2)) else (if q2.1 = 2 then (some ((-1), q2.2)) else (if q2.1 = 3 then ((F_X5_its x1 2 q2.2).bind (fun q3 => if q3.1 < 60 then (some (((-1) + 1), q3.2)) else (some ((-3), q3.2)))) else (if q2.1 = 4 then (some ((-2), q2.2)) else (if q2.1 = 5 then (some (0, q2.2)) else (if q2.1 = 6 then ((F_X5_its x1 2 q2.2).bind (fun q4 => if 10 ≤ q4.1 then (some ((-1), q4.2)) else (some (20, q4.2)))) else (some ((-1), q2.2))))))))) else ((F_X5_its x1 0 q1.2).bind (fun q5 => if q5.1 = 1 then (some ((1 + 1), q5.2)) else (if q5.1 = 2 then (some (1, q5.2)) else (if q5.1 = 3 then ((F_X5_its x1 2 q5.2).bind (fun q6 => if q6.1 < 60 then (some ((1 + 1), q6.2)) else (some ((-3), q6.2)))) else (if q5.1 = 4 then (some ((-2), q5.2)) else (if q5.1 = 5 then (some (0, q5.2)) else (if q5.1 = 6 then ((F_X5_its x1 2 q5.2).bind (fun q7 => if 10 ≤ q7.1 then (some (1, q7.2)) else (some (20, q7.2)))) else (some (1, q5.2))))))))))
set_option maxRecDepth 100000 in
set_option maxHeartbeats 4000000 in
theorem A_X5_says (X : aw_X) (l : Launch) (x1 : Int32) (σ : fk_T) : af_G X l mX5_says [.ref 26, .int x1] (hp σ) ρi (F_X5_says x1 σ) := by
  refine af_mk (by decide) rfl (fun q _ => aw_oki q) [some (.ref 26), some (.int x1), none] rfl ?_
  rintro cx rfl rfl hN K
  replace hN : aw_nL cx = 3 := hN
  replace K : aw_K cx cX5_says RX5 rX5_says := K
  unfold F_X5_says
  refine af_aload_n K 1 dX5_says_0 rfl rfl ?_
  refine af_iload_n K 2 dX5_says_1 rfl rfl ?_
  refine af_iconst K 3 dX5_says_2 rfl cs_iconst_1 ?_
  refine af_callV_i K (b := 26) (vs := [.int x1, .int 1]) mv_X5_its lk_802 ((hp_at _ (Nat.le_of_ble_eq_true rfl)).trans rfl) rfl 6 dX5_says_3 rfl rfl rfl rfl (A_X5_its _ _ x1 1 σ) rfl (fun q1 => ?_)
  refine af_bipush K 8 dX5_says_6 rfl cs_bipush_50 ?_
  refine af_icmp_lt K 11 15 dX5_says_8 rfl rfl (fun _ => ?_) (fun _ => ?_)
  · refine af_iconst K 16 dX5_says_15 rfl cs_iconst_m1 ?_
    refine af_istore_n K 17 [some (.ref 26), some (.int x1), some (.int (-1))] dX5_says_16 rfl (by rw [hN]; exact Nat.le_of_ble_eq_true rfl) rfl ?_
    refine af_aload_n K 18 dX5_says_17 rfl rfl ?_
    refine af_iload_n K 19 dX5_says_18 rfl rfl ?_
    refine af_iconst K 20 dX5_says_19 rfl cs_iconst_0 ?_
    refine af_callV_i K (b := 26) (vs := [.int x1, .int 0]) mv_X5_its lk_802 ((hp_at _ (Nat.le_of_ble_eq_true rfl)).trans rfl) rfl 23 dX5_says_20 rfl rfl rfl rfl (A_X5_its _ _ x1 0 q1.2) rfl (fun q2 => ?_)
    refine af_ite (fun hx => ?_) (fun hx1 => ?_)
    · refine af_tin K 60 1 hx dX5_says_23 (by decide) (by decide) rfl rfl ?_
      refine af_iload_n K 61 dX5_says_60 rfl rfl ?_
      refine af_iconst K 62 dX5_says_61 rfl cs_iconst_1 ?_
      refine af_iadd K 63 dX5_says_62 rfl ?_
      exact af_reti K dX5_says_63
    refine af_ite (fun hx => ?_) (fun hx2 => ?_)
    · refine af_tin K 107 2 hx dX5_says_23 (by decide) (by decide) rfl rfl ?_
      refine af_iload_n K 108 dX5_says_107 rfl rfl ?_
      exact af_reti K dX5_says_108
    refine af_ite (fun hx => ?_) (fun hx3 => ?_)
    · refine af_tin K 64 3 hx dX5_says_23 (by decide) (by decide) rfl rfl ?_
      refine af_aload_n K 65 dX5_says_64 rfl rfl ?_
      refine af_iload_n K 66 dX5_says_65 rfl rfl ?_
      refine af_iconst K 67 dX5_says_66 rfl cs_iconst_2 ?_
      refine af_callV_i K (b := 26) (vs := [.int x1, .int 2]) mv_X5_its lk_802 ((hp_at _ (Nat.le_of_ble_eq_true rfl)).trans rfl) rfl 70 dX5_says_67 rfl rfl rfl rfl (A_X5_its _ _ x1 2 q2.2) rfl (fun q3 => ?_)
      refine af_bipush K 72 dX5_says_70 rfl cs_bipush_60 ?_
      refine af_icmp_lt K 75 80 dX5_says_72 rfl rfl (fun _ => ?_) (fun _ => ?_)
      · refine af_iload_n K 81 dX5_says_80 rfl rfl ?_
        refine af_iconst K 82 dX5_says_81 rfl cs_iconst_1 ?_
        refine af_iadd K 83 dX5_says_82 rfl ?_
        exact af_reti K dX5_says_83
      · refine af_bipush K 77 dX5_says_75 rfl cs_bipush_m3 ?_
        refine af_goto K 83 dX5_says_77 rfl ?_
        exact af_reti K dX5_says_83
    refine af_ite (fun hx => ?_) (fun hx4 => ?_)
    · refine af_tin K 84 4 hx dX5_says_23 (by decide) (by decide) rfl rfl ?_
      refine af_bipush K 86 dX5_says_84 rfl cs_bipush_m2 ?_
      exact af_reti K dX5_says_86
    refine af_ite (fun hx => ?_) (fun hx5 => ?_)
    · refine af_tin K 105 5 hx dX5_says_23 (by decide) (by decide) rfl rfl ?_
      refine af_iconst K 106 dX5_says_105 rfl cs_iconst_0 ?_
      exact af_reti K dX5_says_106
    refine af_ite (fun hx => ?_) (fun hx6 => ?_)
    · refine af_tin K 87 6 hx dX5_says_23 (by decide) (by decide) rfl rfl ?_
      refine af_aload_n K 88 dX5_says_87 rfl rfl ?_
      refine af_iload_n K 89 dX5_says_88 rfl rfl ?_
      refine af_iconst K 90 dX5_says_89 rfl cs_iconst_2 ?_
      refine af_callV_i K (b := 26) (vs := [.int x1, .int 2]) mv_X5_its lk_802 ((hp_at _ (Nat.le_of_ble_eq_true rfl)).trans rfl) rfl 93 dX5_says_90 rfl rfl rfl rfl (A_X5_its _ _ x1 2 q2.2) rfl (fun q4 => ?_)
      refine af_bipush K 95 dX5_says_93 rfl cs_bipush_10 ?_
      refine af_icmp_ge K 98 103 dX5_says_95 rfl rfl (fun _ => ?_) (fun _ => ?_)
      · refine af_iload_n K 104 dX5_says_103 rfl rfl ?_
        exact af_reti K dX5_says_104
      · refine af_bipush K 100 dX5_says_98 rfl cs_bipush_20 ?_
        refine af_goto K 104 dX5_says_100 rfl ?_
        exact af_reti K dX5_says_104
    refine af_tout K 107 dX5_says_23 (tsw_1_6 hx1 hx2 hx3 hx4 hx5 hx6) rfl ?_
    refine af_iload_n K 108 dX5_says_107 rfl rfl ?_
    exact af_reti K dX5_says_108
  · refine af_iconst K 12 dX5_says_11 rfl cs_iconst_1 ?_
    refine af_goto K 16 dX5_says_12 rfl ?_
    refine af_istore_n K 17 [some (.ref 26), some (.int x1), some (.int 1)] dX5_says_16 rfl (by rw [hN]; exact Nat.le_of_ble_eq_true rfl) rfl ?_
    refine af_aload_n K 18 dX5_says_17 rfl rfl ?_
    refine af_iload_n K 19 dX5_says_18 rfl rfl ?_
    refine af_iconst K 20 dX5_says_19 rfl cs_iconst_0 ?_
    refine af_callV_i K (b := 26) (vs := [.int x1, .int 0]) mv_X5_its lk_802 ((hp_at _ (Nat.le_of_ble_eq_true rfl)).trans rfl) rfl 23 dX5_says_20 rfl rfl rfl rfl (A_X5_its _ _ x1 0 q1.2) rfl (fun q5 => ?_)
    refine af_ite (fun hx => ?_) (fun hx1 => ?_)
    · refine af_tin K 60 1 hx dX5_says_23 (by decide) (by decide) rfl rfl ?_
      refine af_iload_n K 61 dX5_says_60 rfl rfl ?_
      refine af_iconst K 62 dX5_says_61 rfl cs_iconst_1 ?_
      refine af_iadd K 63 dX5_says_62 rfl ?_
      exact af_reti K dX5_says_63
    refine af_ite (fun hx => ?_) (fun hx2 => ?_)
    · refine af_tin K 107 2 hx dX5_says_23 (by decide) (by decide) rfl rfl ?_
      refine af_iload_n K 108 dX5_says_107 rfl rfl ?_
      exact af_reti K dX5_says_108
    refine af_ite (fun hx => ?_) (fun hx3 => ?_)
    · refine af_tin K 64 3 hx dX5_says_23 (by decide) (by decide) rfl rfl ?_
      refine af_aload_n K 65 dX5_says_64 rfl rfl ?_
      refine af_iload_n K 66 dX5_says_65 rfl rfl ?_
      refine af_iconst K 67 dX5_says_66 rfl cs_iconst_2 ?_
      refine af_callV_i K (b := 26) (vs := [.int x1, .int 2]) mv_X5_its lk_802 ((hp_at _ (Nat.le_of_ble_eq_true rfl)).trans rfl) rfl 70 dX5_says_67 rfl rfl rfl rfl (A_X5_its _ _ x1 2 q5.2) rfl (fun q6 => ?_)
      refine af_bipush K 72 dX5_says_70 rfl cs_bipush_60 ?_
      refine af_icmp_lt K 75 80 dX5_says_72 rfl rfl (fun _ => ?_) (fun _ => ?_)
      · refine af_iload_n K 81 dX5_says_80 rfl rfl ?_
        refine af_iconst K 82 dX5_says_81 rfl cs_iconst_1 ?_
        refine af_iadd K 83 dX5_says_82 rfl ?_
        exact af_reti K dX5_says_83
      · refine af_bipush K 77 dX5_says_75 rfl cs_bipush_m3 ?_
        refine af_goto K 83 dX5_says_77 rfl ?_
        exact af_reti K dX5_says_83
    refine af_ite (fun hx => ?_) (fun hx4 => ?_)
    · refine af_tin K 84 4 hx dX5_says_23 (by decide) (by decide) rfl rfl ?_
      refine af_bipush K 86 dX5_says_84 rfl cs_bipush_m2 ?_
      exact af_reti K dX5_says_86
    refine af_ite (fun hx => ?_) (fun hx5 => ?_)
    · refine af_tin K 105 5 hx dX5_says_23 (by decide) (by decide) rfl rfl ?_
      refine af_iconst K 106 dX5_says_105 rfl cs_iconst_0 ?_
      exact af_reti K dX5_says_106
    refine af_ite (fun hx => ?_) (fun hx6 => ?_)
    · refine af_tin K 87 6 hx dX5_says_23 (by decide) (by decide) rfl rfl ?_
      refine af_aload_n K 88 dX5_says_87 rfl rfl ?_
      refine af_iload_n K 89 dX5_says_88 rfl rfl ?_
      refine af_iconst K 90 dX5_says_89 rfl cs_iconst_2 ?_
      refine af_callV_i K (b := 26) (vs := [.int x1, .int 2]) mv_X5_its lk_802 ((hp_at _ (Nat.le_of_ble_eq_true rfl)).trans rfl) rfl 93 dX5_says_90 rfl rfl rfl rfl (A_X5_its _ _ x1 2 q5.2) rfl (fun q7 => ?_)
      refine af_bipush K 95 dX5_says_93 rfl cs_bipush_10 ?_
      refine af_icmp_ge K 98 103 dX5_says_95 rfl rfl (fun _ => ?_) (fun _ => ?_)
      · refine af_iload_n K 104 dX5_says_103 rfl rfl ?_
        exact af_reti K dX5_says_104
      · refine af_bipush K 100 dX5_says_98 rfl cs_bipush_20 ?_
        refine af_goto K 104 dX5_says_100 rfl ?_
        exact af_reti K dX5_says_104
    refine af_tout K 107 dX5_says_23 (tsw_1_6 hx1 hx2 hx3 hx4 hx5 hx6) rfl ?_
    refine af_iload_n K 108 dX5_says_107 rfl rfl ?_
    exact af_reti K dX5_says_108
def F_X5_cools (x1 : Int32) (σ : fk_T) : Option (Int32 × fk_T) := (F_X5_its x1 0 σ).bind (fun q1 => if q1.1 = 1 then (some (1, q1.2)) else (if q1.1 = 2 then (some (5, q1.2)) else (if q1.1 = 3 then (some (1, q1.2)) else (if q1.1 = 4 then (some (2, q1.2)) else (if q1.1 = 5 then (some (0, q1.2)) else (if q1.1 = 6 then (some (5, q1.2)) else (some (2, q1.2))))))))
set_option maxRecDepth 100000 in
set_option maxHeartbeats 4000000 in
theorem A_X5_cools (X : aw_X) (l : Launch) (x1 : Int32) (σ : fk_T) : af_G X l mX5_cools [.ref 26, .int x1] (hp σ) ρi (F_X5_cools x1 σ) := by
  refine af_mk (by decide) rfl (fun q _ => aw_oki q) [some (.ref 26), some (.int x1)] rfl ?_
  rintro cx rfl rfl hN K
  replace hN : aw_nL cx = 2 := hN
  replace K : aw_K cx cX5_cools RX5 rX5_cools := K
  unfold F_X5_cools
  refine af_aload_n K 1 dX5_cools_0 rfl rfl ?_
  refine af_iload_n K 2 dX5_cools_1 rfl rfl ?_
  refine af_iconst K 3 dX5_cools_2 rfl cs_iconst_0 ?_
  refine af_callV_i K (b := 26) (vs := [.int x1, .int 0]) mv_X5_its lk_802 ((hp_at _ (Nat.le_of_ble_eq_true rfl)).trans rfl) rfl 6 dX5_cools_3 rfl rfl rfl rfl (A_X5_its _ _ x1 0 σ) rfl (fun q1 => ?_)
  refine af_ite (fun hx => ?_) (fun hx1 => ?_)
  · refine af_tin K 44 1 hx dX5_cools_6 (by decide) (by decide) rfl rfl ?_
    refine af_iconst K 45 dX5_cools_44 rfl cs_iconst_1 ?_
    exact af_reti K dX5_cools_45
  refine af_ite (fun hx => ?_) (fun hx2 => ?_)
  · refine af_tin K 46 2 hx dX5_cools_6 (by decide) (by decide) rfl rfl ?_
    refine af_iconst K 47 dX5_cools_46 rfl cs_iconst_5 ?_
    exact af_reti K dX5_cools_47
  refine af_ite (fun hx => ?_) (fun hx3 => ?_)
  · refine af_tin K 44 3 hx dX5_cools_6 (by decide) (by decide) rfl rfl ?_
    refine af_iconst K 45 dX5_cools_44 rfl cs_iconst_1 ?_
    exact af_reti K dX5_cools_45
  refine af_ite (fun hx => ?_) (fun hx4 => ?_)
  · refine af_tin K 50 4 hx dX5_cools_6 (by decide) (by decide) rfl rfl ?_
    refine af_iconst K 51 dX5_cools_50 rfl cs_iconst_2 ?_
    exact af_reti K dX5_cools_51
  refine af_ite (fun hx => ?_) (fun hx5 => ?_)
  · refine af_tin K 48 5 hx dX5_cools_6 (by decide) (by decide) rfl rfl ?_
    refine af_iconst K 49 dX5_cools_48 rfl cs_iconst_0 ?_
    exact af_reti K dX5_cools_49
  refine af_ite (fun hx => ?_) (fun hx6 => ?_)
  · refine af_tin K 46 6 hx dX5_cools_6 (by decide) (by decide) rfl rfl ?_
    refine af_iconst K 47 dX5_cools_46 rfl cs_iconst_5 ?_
    exact af_reti K dX5_cools_47
  refine af_tout K 50 dX5_cools_6 (tsw_1_6 hx1 hx2 hx3 hx4 hx5 hx6) rfl ?_
  refine af_iconst K 51 dX5_cools_50 rfl cs_iconst_2 ?_
  exact af_reti K dX5_cools_51
def F_X5_boils (x1 : Int32) (σ : fk_T) : Option (Int32 × fk_T) := (F_X5_its x1 0 σ).bind (fun q1 => if q1.1 = 2 then (some (3, q1.2)) else (if q1.1 = 3 then (some (10, q1.2)) else (if q1.1 = 4 then (some (10, q1.2)) else (if q1.1 = 5 then (some (1, q1.2)) else (if q1.1 = 6 then (some (3, q1.2)) else (some (5, q1.2)))))))
set_option maxRecDepth 100000 in
set_option maxHeartbeats 4000000 in
theorem A_X5_boils (X : aw_X) (l : Launch) (x1 : Int32) (σ : fk_T) : af_G X l mX5_boils [.ref 26, .int x1] (hp σ) ρi (F_X5_boils x1 σ) := by
  refine af_mk (by decide) rfl (fun q _ => aw_oki q) [some (.ref 26), some (.int x1)] rfl ?_
  rintro cx rfl rfl hN K
  replace hN : aw_nL cx = 2 := hN
  replace K : aw_K cx cX5_boils RX5 rX5_boils := K
  unfold F_X5_boils
  refine af_aload_n K 1 dX5_boils_0 rfl rfl ?_
  refine af_iload_n K 2 dX5_boils_1 rfl rfl ?_
  refine af_iconst K 3 dX5_boils_2 rfl cs_iconst_0 ?_
  refine af_callV_i K (b := 26) (vs := [.int x1, .int 0]) mv_X5_its lk_802 ((hp_at _ (Nat.le_of_ble_eq_true rfl)).trans rfl) rfl 6 dX5_boils_3 rfl rfl rfl rfl (A_X5_its _ _ x1 0 σ) rfl (fun q1 => ?_)
  refine af_ite (fun hx => ?_) (fun hx2 => ?_)
  · refine af_tin K 43 2 hx dX5_boils_6 (by decide) (by decide) rfl rfl ?_
    refine af_iconst K 44 dX5_boils_43 rfl cs_iconst_3 ?_
    exact af_reti K dX5_boils_44
  refine af_ite (fun hx => ?_) (fun hx3 => ?_)
  · refine af_tin K 40 3 hx dX5_boils_6 (by decide) (by decide) rfl rfl ?_
    refine af_bipush K 42 dX5_boils_40 rfl cs_bipush_10 ?_
    exact af_reti K dX5_boils_42
  refine af_ite (fun hx => ?_) (fun hx4 => ?_)
  · refine af_tin K 40 4 hx dX5_boils_6 (by decide) (by decide) rfl rfl ?_
    refine af_bipush K 42 dX5_boils_40 rfl cs_bipush_10 ?_
    exact af_reti K dX5_boils_42
  refine af_ite (fun hx => ?_) (fun hx5 => ?_)
  · refine af_tin K 45 5 hx dX5_boils_6 (by decide) (by decide) rfl rfl ?_
    refine af_iconst K 46 dX5_boils_45 rfl cs_iconst_1 ?_
    exact af_reti K dX5_boils_46
  refine af_ite (fun hx => ?_) (fun hx6 => ?_)
  · refine af_tin K 43 6 hx dX5_boils_6 (by decide) (by decide) rfl rfl ?_
    refine af_iconst K 44 dX5_boils_43 rfl cs_iconst_3 ?_
    exact af_reti K dX5_boils_44
  refine af_tout K 47 dX5_boils_6 (tsw_2_6 hx2 hx3 hx4 hx5 hx6) rfl ?_
  refine af_iconst K 48 dX5_boils_47 rfl cs_iconst_5 ?_
  exact af_reti K dX5_boils_48
def F_X5_rises (x1 : Int32) (x2 : Int32) (σ : fk_T) : Option (Int32 × fk_T) := fk_A (σ.1 27) 135 3 (fun y1 => (F_X5_between x1 x2 σ).bind (fun q2 => fk_A (q2.2.1 27) 135 q2.1 (fun y3 => some (((y1 * y3) / 20), q2.2))))
set_option maxRecDepth 100000 in
set_option maxHeartbeats 4000000 in
theorem A_X5_rises (X : aw_X) (l : Launch) (x1 : Int32) (x2 : Int32) (σ : fk_T) : af_G X l mX5_rises [.ref 26, .int x1, .int x2] (hp σ) ρi (F_X5_rises x1 x2 σ) := by
  refine af_mk (by decide) rfl (fun q _ => aw_oki q) [some (.ref 26), some (.int x1), some (.int x2)] rfl ?_
  rintro cx rfl rfl hN K
  replace hN : aw_nL cx = 3 := hN
  replace K : aw_K cx cX5_rises RX5 rX5_rises := K
  unfold F_X5_rises
  refine af_aload_n K 1 dX5_rises_0 rfl rfl ?_
  refine af_get K 4 dX5_rises_1 rfl fl_X5_7 (Nat.le_of_ble_eq_true rfl) rfl rfl ?_
  refine af_iconst K 5 dX5_rises_4 rfl cs_iconst_3 ?_
  refine af_iald K 6 dX5_rises_5 rfl (Nat.le_of_ble_eq_true rfl) rfl (fun y1 => ?_)
  refine af_aload_n K 7 dX5_rises_6 rfl rfl ?_
  refine af_get K 10 dX5_rises_7 rfl fl_X5_7 (Nat.le_of_ble_eq_true rfl) rfl rfl ?_
  refine af_iload_n K 11 dX5_rises_10 rfl rfl ?_
  refine af_iload_n K 12 dX5_rises_11 rfl rfl ?_
  refine af_callS_i K (vs := [.int x1, .int x2]) ms_X5_between lk_836 15 dX5_rises_12 rfl rfl rfl rfl (A_X5_between _ _ x1 x2 σ) rfl (fun q2 => ?_)
  refine af_iald K 16 dX5_rises_15 rfl (Nat.le_of_ble_eq_true rfl) rfl (fun y3 => ?_)
  refine af_imul K 17 dX5_rises_16 rfl ?_
  refine af_bipush K 19 dX5_rises_17 rfl cs_bipush_20 ?_
  refine af_idiv K 20 dX5_rises_19 rfl cs_nz_20 ?_
  exact af_reti K dX5_rises_20
def F_X5_leans (x1 : Int32) (x2 : Int32) (σ : fk_T) : Option (Int32 × fk_T) := (F_X5_pushes x1 σ).bind (fun q1 => (F_X5_pushes x2 q1.2).bind (fun q2 => some ((q1.1 - q2.1), q2.2)))
set_option maxRecDepth 100000 in
set_option maxHeartbeats 4000000 in
theorem A_X5_leans (X : aw_X) (l : Launch) (x1 : Int32) (x2 : Int32) (σ : fk_T) : af_G X l mX5_leans [.ref 26, .int x1, .int x2] (hp σ) ρi (F_X5_leans x1 x2 σ) := by
  refine af_mk (by decide) rfl (fun q _ => aw_oki q) [some (.ref 26), some (.int x1), some (.int x2)] rfl ?_
  rintro cx rfl rfl hN K
  replace hN : aw_nL cx = 3 := hN
  replace K : aw_K cx cX5_leans RX5 rX5_leans := K
  unfold F_X5_leans
  refine af_aload_n K 1 dX5_leans_0 rfl rfl ?_
  refine af_iload_n K 2 dX5_leans_1 rfl rfl ?_
  refine af_callV_i K (b := 26) (vs := [.int x1]) mv_X5_pushes lk_798 ((hp_at _ (Nat.le_of_ble_eq_true rfl)).trans rfl) rfl 5 dX5_leans_2 rfl rfl rfl rfl (A_X5_pushes _ _ x1 σ) rfl (fun q1 => ?_)
  refine af_aload_n K 6 dX5_leans_5 rfl rfl ?_
  refine af_iload_n K 7 dX5_leans_6 rfl rfl ?_
  refine af_callV_i K (b := 26) (vs := [.int x2]) mv_X5_pushes lk_798 ((hp_at _ (Nat.le_of_ble_eq_true rfl)).trans rfl) rfl 10 dX5_leans_7 rfl rfl rfl rfl (A_X5_pushes _ _ x2 q1.2) rfl (fun q2 => ?_)
  refine af_isub K 11 dX5_leans_10 rfl ?_
  exact af_reti K dX5_leans_11
def F_X5_isFlop (x1 : Int32) (x2 : Int32) (σ : fk_T) : Option (Bool × fk_T) := (F_X5_rises x1 x2 σ).bind (fun q1 => if q1.1 = 0 then (some (true, q1.2)) else ((F_X5_leans x1 x2 q1.2).bind (fun q2 => (F_X5_size q2.1 q2.2).bind (fun q3 => (F_X5_rises x1 x2 q3.2).bind (fun q4 => if q3.1 ≤ q4.1 then (some (false, q4.2)) else (some (true, q4.2)))))))
set_option maxRecDepth 100000 in
set_option maxHeartbeats 4000000 in
theorem A_X5_isFlop (X : aw_X) (l : Launch) (x1 : Int32) (x2 : Int32) (σ : fk_T) : af_G X l mX5_isFlop [.ref 26, .int x1, .int x2] (hp σ) ρz (F_X5_isFlop x1 x2 σ) := by
  refine af_mk (by decide) rfl (fun q _ => aw_okz q) [some (.ref 26), some (.int x1), some (.int x2)] rfl ?_
  rintro cx rfl rfl hN K
  replace hN : aw_nL cx = 3 := hN
  replace K : aw_K cx cX5_isFlop RX5 rX5_isFlop := K
  unfold F_X5_isFlop
  refine af_aload_n K 1 dX5_isFlop_0 rfl rfl ?_
  refine af_iload_n K 2 dX5_isFlop_1 rfl rfl ?_
  refine af_iload_n K 3 dX5_isFlop_2 rfl rfl ?_
  refine af_callV_i K (b := 26) (vs := [.int x1, .int x2]) mv_X5_rises lk_844 ((hp_at _ (Nat.le_of_ble_eq_true rfl)).trans rfl) rfl 6 dX5_isFlop_3 rfl rfl rfl rfl (A_X5_rises _ _ x1 x2 σ) rfl (fun q1 => ?_)
  refine af_if_eq K 9 27 dX5_isFlop_6 rfl rfl (fun _ => ?_) (fun _ => ?_)
  · refine af_iconst K 28 dX5_isFlop_27 rfl cs_iconst_1 ?_
    refine af_goto K 32 dX5_isFlop_28 rfl ?_
    exact af_retz K rfl dX5_isFlop_32
  · refine af_aload_n K 10 dX5_isFlop_9 rfl rfl ?_
    refine af_iload_n K 11 dX5_isFlop_10 rfl rfl ?_
    refine af_iload_n K 12 dX5_isFlop_11 rfl rfl ?_
    refine af_callV_i K (b := 26) (vs := [.int x1, .int x2]) mv_X5_leans lk_848 ((hp_at _ (Nat.le_of_ble_eq_true rfl)).trans rfl) rfl 15 dX5_isFlop_12 rfl rfl rfl rfl (A_X5_leans _ _ x1 x2 q1.2) rfl (fun q2 => ?_)
    refine af_callS_i K (vs := [.int q2.1]) ms_X5_size lk_856 18 dX5_isFlop_15 rfl rfl rfl rfl (A_X5_size _ _ q2.1 q2.2) rfl (fun q3 => ?_)
    refine af_aload_n K 19 dX5_isFlop_18 rfl rfl ?_
    refine af_iload_n K 20 dX5_isFlop_19 rfl rfl ?_
    refine af_iload_n K 21 dX5_isFlop_20 rfl rfl ?_
    refine af_callV_i K (b := 26) (vs := [.int x1, .int x2]) mv_X5_rises lk_844 ((hp_at _ (Nat.le_of_ble_eq_true rfl)).trans rfl) rfl 24 dX5_isFlop_21 rfl rfl rfl rfl (A_X5_rises _ _ x1 x2 q3.2) rfl (fun q4 => ?_)
    refine af_icmp_le K 27 31 dX5_isFlop_24 rfl rfl (fun _ => ?_) (fun _ => ?_)
    · refine af_iconst K 32 dX5_isFlop_31 rfl cs_iconst_0 ?_
      exact af_retz K rfl dX5_isFlop_32
    · refine af_iconst K 28 dX5_isFlop_27 rfl cs_iconst_1 ?_
      refine af_goto K 32 dX5_isFlop_28 rfl ?_
      exact af_retz K rfl dX5_isFlop_32
def F_X5_flops (x1 : Int32) (σ : fk_T) : Option (fk_T) := (F_X5_adds (53 + x1) 1 9999 σ).bind (fun q1 => (F_X5_boils x1 q1).bind (fun q2 => (F_X5_adds (21 + x1) q2.1 99 q2.2).bind (fun q3 => some q3)))
set_option maxRecDepth 100000 in
set_option maxHeartbeats 4000000 in
theorem A_X5_flops (X : aw_X) (l : Launch) (x1 : Int32) (σ : fk_T) : af_G X l mX5_flops [.ref 26, .int x1] (hp σ) ρv (F_X5_flops x1 σ) := by
  refine af_mk (by decide) rfl (fun q _ => aw_okv q) [some (.ref 26), some (.int x1)] rfl ?_
  rintro cx rfl rfl hN K
  replace hN : aw_nL cx = 2 := hN
  replace K : aw_K cx cX5_flops RX5 rX5_flops := K
  unfold F_X5_flops
  refine af_aload_n K 1 dX5_flops_0 rfl rfl ?_
  refine af_bipush K 3 dX5_flops_1 rfl cs_bipush_53 ?_
  refine af_iload_n K 4 dX5_flops_3 rfl rfl ?_
  refine af_iadd K 5 dX5_flops_4 rfl ?_
  refine af_iconst K 6 dX5_flops_5 rfl cs_iconst_1 ?_
  refine af_sipush K 9 dX5_flops_6 rfl cs_sipush_9999 ?_
  refine af_callV_v K (b := 26) (vs := [.int (53 + x1), .int 1, .int 9999]) mv_X5_adds lk_885 ((hp_at _ (Nat.le_of_ble_eq_true rfl)).trans rfl) rfl 12 dX5_flops_9 rfl rfl rfl rfl (A_X5_adds _ _ (53 + x1) 1 9999 σ) rfl (fun q1 => ?_)
  refine af_aload_n K 13 dX5_flops_12 rfl rfl ?_
  refine af_bipush K 15 dX5_flops_13 rfl cs_bipush_21 ?_
  refine af_iload_n K 16 dX5_flops_15 rfl rfl ?_
  refine af_iadd K 17 dX5_flops_16 rfl ?_
  refine af_aload_n K 18 dX5_flops_17 rfl rfl ?_
  refine af_iload_n K 19 dX5_flops_18 rfl rfl ?_
  refine af_callV_i K (b := 26) (vs := [.int x1]) mv_X5_boils lk_817 ((hp_at _ (Nat.le_of_ble_eq_true rfl)).trans rfl) rfl 22 dX5_flops_19 rfl rfl rfl rfl (A_X5_boils _ _ x1 q1) rfl (fun q2 => ?_)
  refine af_bipush K 24 dX5_flops_22 rfl cs_bipush_99 ?_
  refine af_callV_v K (b := 26) (vs := [.int (21 + x1), .int q2.1, .int 99]) mv_X5_adds lk_885 ((hp_at _ (Nat.le_of_ble_eq_true rfl)).trans rfl) rfl 27 dX5_flops_24 rfl rfl rfl rfl (A_X5_adds _ _ (21 + x1) q2.1 99 q2.2) rfl (fun q3 => ?_)
  exact af_retv K dX5_flops_27
def F_X5_throwsOne (x1 : Int32) (σ : fk_T) : Option (fk_T) := (F_X5_adds (45 + x1) 1 9999 σ).bind (fun q1 => (F_X5_cools x1 q1).bind (fun q2 => (F_X5_adds (21 + x1) (-q2.1) 99 q2.2).bind (fun q3 => some q3)))
set_option maxRecDepth 100000 in
set_option maxHeartbeats 4000000 in
theorem A_X5_throwsOne (X : aw_X) (l : Launch) (x1 : Int32) (σ : fk_T) : af_G X l mX5_throwsOne [.ref 26, .int x1] (hp σ) ρv (F_X5_throwsOne x1 σ) := by
  refine af_mk (by decide) rfl (fun q _ => aw_okv q) [some (.ref 26), some (.int x1)] rfl ?_
  rintro cx rfl rfl hN K
  replace hN : aw_nL cx = 2 := hN
  replace K : aw_K cx cX5_throwsOne RX5 rX5_throwsOne := K
  unfold F_X5_throwsOne
  refine af_aload_n K 1 dX5_throwsOne_0 rfl rfl ?_
  refine af_bipush K 3 dX5_throwsOne_1 rfl cs_bipush_45 ?_
  refine af_iload_n K 4 dX5_throwsOne_3 rfl rfl ?_
  refine af_iadd K 5 dX5_throwsOne_4 rfl ?_
  refine af_iconst K 6 dX5_throwsOne_5 rfl cs_iconst_1 ?_
  refine af_sipush K 9 dX5_throwsOne_6 rfl cs_sipush_9999 ?_
  refine af_callV_v K (b := 26) (vs := [.int (45 + x1), .int 1, .int 9999]) mv_X5_adds lk_885 ((hp_at _ (Nat.le_of_ble_eq_true rfl)).trans rfl) rfl 12 dX5_throwsOne_9 rfl rfl rfl rfl (A_X5_adds _ _ (45 + x1) 1 9999 σ) rfl (fun q1 => ?_)
  refine af_aload_n K 13 dX5_throwsOne_12 rfl rfl ?_
  refine af_bipush K 15 dX5_throwsOne_13 rfl cs_bipush_21 ?_
  refine af_iload_n K 16 dX5_throwsOne_15 rfl rfl ?_
  refine af_iadd K 17 dX5_throwsOne_16 rfl ?_
  refine af_aload_n K 18 dX5_throwsOne_17 rfl rfl ?_
  refine af_iload_n K 19 dX5_throwsOne_18 rfl rfl ?_
  refine af_callV_i K (b := 26) (vs := [.int x1]) mv_X5_cools lk_813 ((hp_at _ (Nat.le_of_ble_eq_true rfl)).trans rfl) rfl 22 dX5_throwsOne_19 rfl rfl rfl rfl (A_X5_cools _ _ x1 q1) rfl (fun q2 => ?_)
  refine af_ineg K 23 dX5_throwsOne_22 rfl ?_
  refine af_bipush K 25 dX5_throwsOne_23 rfl cs_bipush_99 ?_
  refine af_callV_v K (b := 26) (vs := [.int (21 + x1), .int (-q2.1), .int 99]) mv_X5_adds lk_885 ((hp_at _ (Nat.le_of_ble_eq_true rfl)).trans rfl) rfl 28 dX5_throwsOne_25 rfl rfl rfl rfl (A_X5_adds _ _ (21 + x1) (-q2.1) 99 q2.2) rfl (fun q3 => ?_)
  exact af_retv K dX5_throwsOne_28
def F_X5_pots (x1 : Int32) (x2 : Int32) (σ : fk_T) : Option (fk_T) := (F_X5_says x1 σ).bind (fun q1 => (F_X5_says x2 q1.2).bind (fun q2 => fk_B (q1.1 + q2.1) (fun y3 => (F_X5_rises x1 x2 q2.2).bind (fun q4 => (F_X5_leans x1 x2 q4.2).bind (fun q5 => (F_X5_isFlop x1 x2 q5.2).bind (fun q6 => if (fk_b q6.1) = 0 then ((F_X5_throwsOne x1 q6.2).bind (fun q7 => (F_X5_throwsOne x2 q7).bind (fun q8 => (F_X5_size q5.1 q8).bind (fun q9 => (F_X5_adds 4 (q4.1 + q9.1) 99999 q9.2).bind (fun q10 => if q5.1 = 0 then ((F_X5_adds 5 1 9999 q10).bind (fun q21 => if q5.1 = 0 then (if q4.1 < 40 then ((F_X5_adds 6 0 9999 q21).bind (fun q25 => (F_X5_between x1 x2 q25).bind (fun q26 => (F_X5_adds q26.1 y3 99 q26.2).bind (fun q27 => some q27)))) else ((F_X5_adds 6 1 9999 q21).bind (fun q28 => (F_X5_between x1 x2 q28).bind (fun q29 => (F_X5_adds q29.1 y3 99 q29.2).bind (fun q30 => some q30))))) else ((F_X5_adds 6 0 9999 q21).bind (fun q22 => (F_X5_between x1 x2 q22).bind (fun q23 => (F_X5_adds q23.1 y3 99 q23.2).bind (fun q24 => some q24)))))) else ((F_X5_adds 5 0 9999 q10).bind (fun q11 => if q5.1 = 0 then (if q4.1 < 40 then ((F_X5_adds 6 0 9999 q11).bind (fun q15 => (F_X5_between x1 x2 q15).bind (fun q16 => (F_X5_adds q16.1 y3 99 q16.2).bind (fun q17 => some q17)))) else ((F_X5_adds 6 1 9999 q11).bind (fun q18 => (F_X5_between x1 x2 q18).bind (fun q19 => (F_X5_adds q19.1 y3 99 q19.2).bind (fun q20 => some q20))))) else ((F_X5_adds 6 0 9999 q11).bind (fun q12 => (F_X5_between x1 x2 q12).bind (fun q13 => (F_X5_adds q13.1 y3 99 q13.2).bind (fun q14 => some q14))))))))))) else ((F_X5_flops x1 q6.2).bind (fun q31 => (F_X5_flops x2 q31).bind (fun q32 => (F_X5_between x1 x2 q32).bind (fun q33 => (F_X5_adds q33.1 y3 99 q33.2).bind (fun q34 => some q34)))))))))))
set_option maxRecDepth 100000 in
set_option maxHeartbeats 4000000 in
theorem A_X5_pots (X : aw_X) (l : Launch) (x1 : Int32) (x2 : Int32) (σ : fk_T) : af_G X l mX5_pots [.ref 26, .int x1, .int x2] (hp σ) ρv (F_X5_pots x1 x2 σ) := by
  refine af_mk (by decide) rfl (fun q _ => aw_okv q) [some (.ref 26), some (.int x1), some (.int x2), none, none, none] rfl ?_
  rintro cx rfl rfl hN K
  replace hN : aw_nL cx = 6 := hN
  replace K : aw_K cx cX5_pots RX5 rX5_pots := K
  unfold F_X5_pots
  refine af_aload_n K 1 dX5_pots_0 rfl rfl ?_
  refine af_iload_n K 2 dX5_pots_1 rfl rfl ?_
  refine af_callV_i K (b := 26) (vs := [.int x1]) mv_X5_says lk_809 ((hp_at _ (Nat.le_of_ble_eq_true rfl)).trans rfl) rfl 5 dX5_pots_2 rfl rfl rfl rfl (A_X5_says _ _ x1 σ) rfl (fun q1 => ?_)
  refine af_aload_n K 6 dX5_pots_5 rfl rfl ?_
  refine af_iload_n K 7 dX5_pots_6 rfl rfl ?_
  refine af_callV_i K (b := 26) (vs := [.int x2]) mv_X5_says lk_809 ((hp_at _ (Nat.le_of_ble_eq_true rfl)).trans rfl) rfl 10 dX5_pots_7 rfl rfl rfl rfl (A_X5_says _ _ x2 q1.2) rfl (fun q2 => ?_)
  refine af_iadd K 11 dX5_pots_10 rfl ?_
  refine af_Bi (fun y3 => ?_)
  refine af_istore_n K 12 [some (.ref 26), some (.int x1), some (.int x2), some (.int y3), none, none] dX5_pots_11 rfl (by rw [hN]; exact Nat.le_of_ble_eq_true rfl) rfl ?_
  refine af_aload_n K 13 dX5_pots_12 rfl rfl ?_
  refine af_iload_n K 14 dX5_pots_13 rfl rfl ?_
  refine af_iload_n K 15 dX5_pots_14 rfl rfl ?_
  refine af_callV_i K (b := 26) (vs := [.int x1, .int x2]) mv_X5_rises lk_844 ((hp_at _ (Nat.le_of_ble_eq_true rfl)).trans rfl) rfl 18 dX5_pots_15 rfl rfl rfl rfl (A_X5_rises _ _ x1 x2 q2.2) rfl (fun q4 => ?_)
  refine af_istore K 20 [some (.ref 26), some (.int x1), some (.int x2), some (.int y3), some (.int q4.1), none] dX5_pots_18 rfl (by rw [hN]; exact Nat.le_of_ble_eq_true rfl) rfl ?_
  refine af_aload_n K 21 dX5_pots_20 rfl rfl ?_
  refine af_iload_n K 22 dX5_pots_21 rfl rfl ?_
  refine af_iload_n K 23 dX5_pots_22 rfl rfl ?_
  refine af_callV_i K (b := 26) (vs := [.int x1, .int x2]) mv_X5_leans lk_848 ((hp_at _ (Nat.le_of_ble_eq_true rfl)).trans rfl) rfl 26 dX5_pots_23 rfl rfl rfl rfl (A_X5_leans _ _ x1 x2 q4.2) rfl (fun q5 => ?_)
  refine af_istore K 28 [some (.ref 26), some (.int x1), some (.int x2), some (.int y3), some (.int q4.1), some (.int q5.1)] dX5_pots_26 rfl (by rw [hN]; exact Nat.le_of_ble_eq_true rfl) rfl ?_
  refine af_aload_n K 29 dX5_pots_28 rfl rfl ?_
  refine af_iload_n K 30 dX5_pots_29 rfl rfl ?_
  refine af_iload_n K 31 dX5_pots_30 rfl rfl ?_
  refine af_callV_z K (b := 26) (vs := [.int x1, .int x2]) mv_X5_isFlop lk_852 ((hp_at _ (Nat.le_of_ble_eq_true rfl)).trans rfl) rfl 34 dX5_pots_31 rfl rfl rfl rfl (A_X5_isFlop _ _ x1 x2 q5.2) rfl (fun q6 => ?_)
  refine af_if_eq K 37 50 dX5_pots_34 rfl rfl (fun _ => ?_) (fun _ => ?_)
  · refine af_aload_n K 51 dX5_pots_50 rfl rfl ?_
    refine af_iload_n K 52 dX5_pots_51 rfl rfl ?_
    refine af_callV_v K (b := 26) (vs := [.int x1]) mv_X5_throwsOne lk_889 ((hp_at _ (Nat.le_of_ble_eq_true rfl)).trans rfl) rfl 55 dX5_pots_52 rfl rfl rfl rfl (A_X5_throwsOne _ _ x1 q6.2) rfl (fun q7 => ?_)
    refine af_aload_n K 56 dX5_pots_55 rfl rfl ?_
    refine af_iload_n K 57 dX5_pots_56 rfl rfl ?_
    refine af_callV_v K (b := 26) (vs := [.int x2]) mv_X5_throwsOne lk_889 ((hp_at _ (Nat.le_of_ble_eq_true rfl)).trans rfl) rfl 60 dX5_pots_57 rfl rfl rfl rfl (A_X5_throwsOne _ _ x2 q7) rfl (fun q8 => ?_)
    refine af_aload_n K 61 dX5_pots_60 rfl rfl ?_
    refine af_iconst K 62 dX5_pots_61 rfl cs_iconst_4 ?_
    refine af_iload K 64 dX5_pots_62 rfl rfl ?_
    refine af_iload K 66 dX5_pots_64 rfl rfl ?_
    refine af_callS_i K (vs := [.int q5.1]) ms_X5_size lk_856 69 dX5_pots_66 rfl rfl rfl rfl (A_X5_size _ _ q5.1 q8) rfl (fun q9 => ?_)
    refine af_iadd K 70 dX5_pots_69 rfl ?_
    refine af_ldc K 72 dX5_pots_70 rfl lk_864 ?_
    refine af_callV_v K (b := 26) (vs := [.int 4, .int (q4.1 + q9.1), .int 99999]) mv_X5_adds lk_885 ((hp_at _ (Nat.le_of_ble_eq_true rfl)).trans rfl) rfl 75 dX5_pots_72 rfl rfl rfl rfl (A_X5_adds _ _ 4 (q4.1 + q9.1) 99999 q9.2) rfl (fun q10 => ?_)
    refine af_aload_n K 76 dX5_pots_75 rfl rfl ?_
    refine af_iconst K 77 dX5_pots_76 rfl cs_iconst_5 ?_
    refine af_iload K 79 dX5_pots_77 rfl rfl ?_
    refine af_if_ne K 82 86 dX5_pots_79 rfl rfl (fun _ => ?_) (fun _ => ?_)
    · refine af_iconst K 87 dX5_pots_86 rfl cs_iconst_0 ?_
      refine af_sipush K 90 dX5_pots_87 rfl cs_sipush_9999 ?_
      refine af_callV_v K (b := 26) (vs := [.int 5, .int 0, .int 9999]) mv_X5_adds lk_885 ((hp_at _ (Nat.le_of_ble_eq_true rfl)).trans rfl) rfl 93 dX5_pots_90 rfl rfl rfl rfl (A_X5_adds _ _ 5 0 9999 q10) rfl (fun q11 => ?_)
      refine af_aload_n K 94 dX5_pots_93 rfl rfl ?_
      refine af_bipush K 96 dX5_pots_94 rfl cs_bipush_6 ?_
      refine af_iload K 98 dX5_pots_96 rfl rfl ?_
      refine af_if_ne K 101 112 dX5_pots_98 rfl rfl (fun _ => ?_) (fun _ => ?_)
      · refine af_iconst K 113 dX5_pots_112 rfl cs_iconst_0 ?_
        refine af_sipush K 116 dX5_pots_113 rfl cs_sipush_9999 ?_
        refine af_callV_v K (b := 26) (vs := [.int 6, .int 0, .int 9999]) mv_X5_adds lk_885 ((hp_at _ (Nat.le_of_ble_eq_true rfl)).trans rfl) rfl 119 dX5_pots_116 rfl rfl rfl rfl (A_X5_adds _ _ 6 0 9999 q11) rfl (fun q12 => ?_)
        refine af_aload_n K 120 dX5_pots_119 rfl rfl ?_
        refine af_iload_n K 121 dX5_pots_120 rfl rfl ?_
        refine af_iload_n K 122 dX5_pots_121 rfl rfl ?_
        refine af_callS_i K (vs := [.int x1, .int x2]) ms_X5_between lk_836 125 dX5_pots_122 rfl rfl rfl rfl (A_X5_between _ _ x1 x2 q12) rfl (fun q13 => ?_)
        refine af_iload_n K 126 dX5_pots_125 rfl rfl ?_
        refine af_bipush K 128 dX5_pots_126 rfl cs_bipush_99 ?_
        refine af_callV_v K (b := 26) (vs := [.int q13.1, .int y3, .int 99]) mv_X5_adds lk_885 ((hp_at _ (Nat.le_of_ble_eq_true rfl)).trans rfl) rfl 131 dX5_pots_128 rfl rfl rfl rfl (A_X5_adds _ _ q13.1 y3 99 q13.2) rfl (fun q14 => ?_)
        exact af_retv K dX5_pots_131
      · refine af_iload K 103 dX5_pots_101 rfl rfl ?_
        refine af_bipush K 105 dX5_pots_103 rfl cs_bipush_40 ?_
        refine af_icmp_lt K 108 112 dX5_pots_105 rfl rfl (fun _ => ?_) (fun _ => ?_)
        · refine af_iconst K 113 dX5_pots_112 rfl cs_iconst_0 ?_
          refine af_sipush K 116 dX5_pots_113 rfl cs_sipush_9999 ?_
          refine af_callV_v K (b := 26) (vs := [.int 6, .int 0, .int 9999]) mv_X5_adds lk_885 ((hp_at _ (Nat.le_of_ble_eq_true rfl)).trans rfl) rfl 119 dX5_pots_116 rfl rfl rfl rfl (A_X5_adds _ _ 6 0 9999 q11) rfl (fun q15 => ?_)
          refine af_aload_n K 120 dX5_pots_119 rfl rfl ?_
          refine af_iload_n K 121 dX5_pots_120 rfl rfl ?_
          refine af_iload_n K 122 dX5_pots_121 rfl rfl ?_
          refine af_callS_i K (vs := [.int x1, .int x2]) ms_X5_between lk_836 125 dX5_pots_122 rfl rfl rfl rfl (A_X5_between _ _ x1 x2 q15) rfl (fun q16 => ?_)
          refine af_iload_n K 126 dX5_pots_125 rfl rfl ?_
          refine af_bipush K 128 dX5_pots_126 rfl cs_bipush_99 ?_
          refine af_callV_v K (b := 26) (vs := [.int q16.1, .int y3, .int 99]) mv_X5_adds lk_885 ((hp_at _ (Nat.le_of_ble_eq_true rfl)).trans rfl) rfl 131 dX5_pots_128 rfl rfl rfl rfl (A_X5_adds _ _ q16.1 y3 99 q16.2) rfl (fun q17 => ?_)
          exact af_retv K dX5_pots_131
        · refine af_iconst K 109 dX5_pots_108 rfl cs_iconst_1 ?_
          refine af_goto K 113 dX5_pots_109 rfl ?_
          refine af_sipush K 116 dX5_pots_113 rfl cs_sipush_9999 ?_
          refine af_callV_v K (b := 26) (vs := [.int 6, .int 1, .int 9999]) mv_X5_adds lk_885 ((hp_at _ (Nat.le_of_ble_eq_true rfl)).trans rfl) rfl 119 dX5_pots_116 rfl rfl rfl rfl (A_X5_adds _ _ 6 1 9999 q11) rfl (fun q18 => ?_)
          refine af_aload_n K 120 dX5_pots_119 rfl rfl ?_
          refine af_iload_n K 121 dX5_pots_120 rfl rfl ?_
          refine af_iload_n K 122 dX5_pots_121 rfl rfl ?_
          refine af_callS_i K (vs := [.int x1, .int x2]) ms_X5_between lk_836 125 dX5_pots_122 rfl rfl rfl rfl (A_X5_between _ _ x1 x2 q18) rfl (fun q19 => ?_)
          refine af_iload_n K 126 dX5_pots_125 rfl rfl ?_
          refine af_bipush K 128 dX5_pots_126 rfl cs_bipush_99 ?_
          refine af_callV_v K (b := 26) (vs := [.int q19.1, .int y3, .int 99]) mv_X5_adds lk_885 ((hp_at _ (Nat.le_of_ble_eq_true rfl)).trans rfl) rfl 131 dX5_pots_128 rfl rfl rfl rfl (A_X5_adds _ _ q19.1 y3 99 q19.2) rfl (fun q20 => ?_)
          exact af_retv K dX5_pots_131
    · refine af_iconst K 83 dX5_pots_82 rfl cs_iconst_1 ?_
      refine af_goto K 87 dX5_pots_83 rfl ?_
      refine af_sipush K 90 dX5_pots_87 rfl cs_sipush_9999 ?_
      refine af_callV_v K (b := 26) (vs := [.int 5, .int 1, .int 9999]) mv_X5_adds lk_885 ((hp_at _ (Nat.le_of_ble_eq_true rfl)).trans rfl) rfl 93 dX5_pots_90 rfl rfl rfl rfl (A_X5_adds _ _ 5 1 9999 q10) rfl (fun q21 => ?_)
      refine af_aload_n K 94 dX5_pots_93 rfl rfl ?_
      refine af_bipush K 96 dX5_pots_94 rfl cs_bipush_6 ?_
      refine af_iload K 98 dX5_pots_96 rfl rfl ?_
      refine af_if_ne K 101 112 dX5_pots_98 rfl rfl (fun _ => ?_) (fun _ => ?_)
      · refine af_iconst K 113 dX5_pots_112 rfl cs_iconst_0 ?_
        refine af_sipush K 116 dX5_pots_113 rfl cs_sipush_9999 ?_
        refine af_callV_v K (b := 26) (vs := [.int 6, .int 0, .int 9999]) mv_X5_adds lk_885 ((hp_at _ (Nat.le_of_ble_eq_true rfl)).trans rfl) rfl 119 dX5_pots_116 rfl rfl rfl rfl (A_X5_adds _ _ 6 0 9999 q21) rfl (fun q22 => ?_)
        refine af_aload_n K 120 dX5_pots_119 rfl rfl ?_
        refine af_iload_n K 121 dX5_pots_120 rfl rfl ?_
        refine af_iload_n K 122 dX5_pots_121 rfl rfl ?_
        refine af_callS_i K (vs := [.int x1, .int x2]) ms_X5_between lk_836 125 dX5_pots_122 rfl rfl rfl rfl (A_X5_between _ _ x1 x2 q22) rfl (fun q23 => ?_)
        refine af_iload_n K 126 dX5_pots_125 rfl rfl ?_
        refine af_bipush K 128 dX5_pots_126 rfl cs_bipush_99 ?_
        refine af_callV_v K (b := 26) (vs := [.int q23.1, .int y3, .int 99]) mv_X5_adds lk_885 ((hp_at _ (Nat.le_of_ble_eq_true rfl)).trans rfl) rfl 131 dX5_pots_128 rfl rfl rfl rfl (A_X5_adds _ _ q23.1 y3 99 q23.2) rfl (fun q24 => ?_)
        exact af_retv K dX5_pots_131
      · refine af_iload K 103 dX5_pots_101 rfl rfl ?_
        refine af_bipush K 105 dX5_pots_103 rfl cs_bipush_40 ?_
        refine af_icmp_lt K 108 112 dX5_pots_105 rfl rfl (fun _ => ?_) (fun _ => ?_)
        · refine af_iconst K 113 dX5_pots_112 rfl cs_iconst_0 ?_
          refine af_sipush K 116 dX5_pots_113 rfl cs_sipush_9999 ?_
          refine af_callV_v K (b := 26) (vs := [.int 6, .int 0, .int 9999]) mv_X5_adds lk_885 ((hp_at _ (Nat.le_of_ble_eq_true rfl)).trans rfl) rfl 119 dX5_pots_116 rfl rfl rfl rfl (A_X5_adds _ _ 6 0 9999 q21) rfl (fun q25 => ?_)
          refine af_aload_n K 120 dX5_pots_119 rfl rfl ?_
          refine af_iload_n K 121 dX5_pots_120 rfl rfl ?_
          refine af_iload_n K 122 dX5_pots_121 rfl rfl ?_
          refine af_callS_i K (vs := [.int x1, .int x2]) ms_X5_between lk_836 125 dX5_pots_122 rfl rfl rfl rfl (A_X5_between _ _ x1 x2 q25) rfl (fun q26 => ?_)
          refine af_iload_n K 126 dX5_pots_125 rfl rfl ?_
          refine af_bipush K 128 dX5_pots_126 rfl cs_bipush_99 ?_
          refine af_callV_v K (b := 26) (vs := [.int q26.1, .int y3, .int 99]) mv_X5_adds lk_885 ((hp_at _ (Nat.le_of_ble_eq_true rfl)).trans rfl) rfl 131 dX5_pots_128 rfl rfl rfl rfl (A_X5_adds _ _ q26.1 y3 99 q26.2) rfl (fun q27 => ?_)
          exact af_retv K dX5_pots_131
        · refine af_iconst K 109 dX5_pots_108 rfl cs_iconst_1 ?_
          refine af_goto K 113 dX5_pots_109 rfl ?_
          refine af_sipush K 116 dX5_pots_113 rfl cs_sipush_9999 ?_
          refine af_callV_v K (b := 26) (vs := [.int 6, .int 1, .int 9999]) mv_X5_adds lk_885 ((hp_at _ (Nat.le_of_ble_eq_true rfl)).trans rfl) rfl 119 dX5_pots_116 rfl rfl rfl rfl (A_X5_adds _ _ 6 1 9999 q21) rfl (fun q28 => ?_)
          refine af_aload_n K 120 dX5_pots_119 rfl rfl ?_
          refine af_iload_n K 121 dX5_pots_120 rfl rfl ?_
          refine af_iload_n K 122 dX5_pots_121 rfl rfl ?_
          refine af_callS_i K (vs := [.int x1, .int x2]) ms_X5_between lk_836 125 dX5_pots_122 rfl rfl rfl rfl (A_X5_between _ _ x1 x2 q28) rfl (fun q29 => ?_)
          refine af_iload_n K 126 dX5_pots_125 rfl rfl ?_
          refine af_bipush K 128 dX5_pots_126 rfl cs_bipush_99 ?_
          refine af_callV_v K (b := 26) (vs := [.int q29.1, .int y3, .int 99]) mv_X5_adds lk_885 ((hp_at _ (Nat.le_of_ble_eq_true rfl)).trans rfl) rfl 131 dX5_pots_128 rfl rfl rfl rfl (A_X5_adds _ _ q29.1 y3 99 q29.2) rfl (fun q30 => ?_)
          exact af_retv K dX5_pots_131
  · refine af_aload_n K 38 dX5_pots_37 rfl rfl ?_
    refine af_iload_n K 39 dX5_pots_38 rfl rfl ?_
    refine af_callV_v K (b := 26) (vs := [.int x1]) mv_X5_flops lk_881 ((hp_at _ (Nat.le_of_ble_eq_true rfl)).trans rfl) rfl 42 dX5_pots_39 rfl rfl rfl rfl (A_X5_flops _ _ x1 q6.2) rfl (fun q31 => ?_)
    refine af_aload_n K 43 dX5_pots_42 rfl rfl ?_
    refine af_iload_n K 44 dX5_pots_43 rfl rfl ?_
    refine af_callV_v K (b := 26) (vs := [.int x2]) mv_X5_flops lk_881 ((hp_at _ (Nat.le_of_ble_eq_true rfl)).trans rfl) rfl 47 dX5_pots_44 rfl rfl rfl rfl (A_X5_flops _ _ x2 q31) rfl (fun q32 => ?_)
    refine af_goto K 119 dX5_pots_47 rfl ?_
    refine af_aload_n K 120 dX5_pots_119 rfl rfl ?_
    refine af_iload_n K 121 dX5_pots_120 rfl rfl ?_
    refine af_iload_n K 122 dX5_pots_121 rfl rfl ?_
    refine af_callS_i K (vs := [.int x1, .int x2]) ms_X5_between lk_836 125 dX5_pots_122 rfl rfl rfl rfl (A_X5_between _ _ x1 x2 q32) rfl (fun q33 => ?_)
    refine af_iload_n K 126 dX5_pots_125 rfl rfl ?_
    refine af_bipush K 128 dX5_pots_126 rfl cs_bipush_99 ?_
    refine af_callV_v K (b := 26) (vs := [.int q33.1, .int y3, .int 99]) mv_X5_adds lk_885 ((hp_at _ (Nat.le_of_ble_eq_true rfl)).trans rfl) rfl 131 dX5_pots_128 rfl rfl rfl rfl (A_X5_adds _ _ q33.1 y3 99 q33.2) rfl (fun q34 => ?_)
    exact af_retv K dX5_pots_131
def F_X5_todays  (σ : fk_T) : Option (Int32 × fk_T) := fk_A (σ.1 27) 135 1 (fun y1 => fk_A (σ.1 27) 135 (7 + (y1 - y1 / 6 * 6)) (fun y2 => some (y2, σ)))
set_option maxRecDepth 100000 in
set_option maxHeartbeats 4000000 in
theorem A_X5_todays (X : aw_X) (l : Launch)  (σ : fk_T) : af_G X l mX5_todays [.ref 26] (hp σ) ρi (F_X5_todays  σ) := by
  refine af_mk (by decide) rfl (fun q _ => aw_oki q) [some (.ref 26)] rfl ?_
  rintro cx rfl rfl hN K
  replace hN : aw_nL cx = 1 := hN
  replace K : aw_K cx cX5_todays RX5 rX5_todays := K
  unfold F_X5_todays
  refine af_aload_n K 1 dX5_todays_0 rfl rfl ?_
  refine af_get K 4 dX5_todays_1 rfl fl_X5_7 (Nat.le_of_ble_eq_true rfl) rfl rfl ?_
  refine af_bipush K 6 dX5_todays_4 rfl cs_bipush_7 ?_
  refine af_aload_n K 7 dX5_todays_6 rfl rfl ?_
  refine af_get K 10 dX5_todays_7 rfl fl_X5_7 (Nat.le_of_ble_eq_true rfl) rfl rfl ?_
  refine af_iconst K 11 dX5_todays_10 rfl cs_iconst_1 ?_
  refine af_iald K 12 dX5_todays_11 rfl (Nat.le_of_ble_eq_true rfl) rfl (fun y1 => ?_)
  refine af_bipush K 14 dX5_todays_12 rfl cs_bipush_6 ?_
  refine af_irem K 15 dX5_todays_14 rfl cs_nz_6 ?_
  refine af_iadd K 16 dX5_todays_15 rfl ?_
  refine af_iald K 17 dX5_todays_16 rfl (Nat.le_of_ble_eq_true rfl) rfl (fun y2 => ?_)
  exact af_reti K dX5_todays_17
def L_X5_dayGoes_47  : Nat → Int32 → fk_T → (Int32 → fk_T → Option (fk_T)) → Option (fk_T)
  | 0, _, _, _ => none
  | fu + 1, x3, σ, k => fk_A (σ.1 27) 135 0 (fun y8 => if y8 ≤ x3 then (k x3 σ) else ((F_X5_adds (37 + x3) 1 99 σ).bind (fun q9 => fk_B (x3 + 1) (fun y10 => L_X5_dayGoes_47 fu y10 q9 k))))
def F_X5_dayGoes  (σ : fk_T) : Option (fk_T) := (F_X5_todays  σ).bind (fun q1 => fk_B (q1.1 / 10) (fun y2 => (F_X5_todays  q1.2).bind (fun q3 => fk_B (q3.1 - q3.1 / 10 * 10) (fun y4 => (F_X5_areTwo y2 y4 q3.2).bind (fun q5 => if (fk_b q5.1) = 0 then (fk_A (q5.2.1 27) 135 1 (fun y6 => if (y6 - y6 / 10 * 10) = 9 then (L_X5_dayGoes_47 fk_N 0 q5.2 (fun y12 s11 => (F_X5_adds 1 1 99999 s11).bind (fun q13 => some q13))) else ((F_X5_adds 1 1 99999 q5.2).bind (fun q7 => some q7)))) else ((F_X5_pots y2 y4 q5.2).bind (fun q14 => fk_A (q14.1 27) 135 1 (fun y15 => if (y15 - y15 / 10 * 10) = 9 then (L_X5_dayGoes_47 fk_N 0 q14 (fun y18 s17 => (F_X5_adds 1 1 99999 s17).bind (fun q19 => some q19))) else ((F_X5_adds 1 1 99999 q14).bind (fun q16 => some q16))))))))))
set_option maxRecDepth 100000 in
set_option maxHeartbeats 4000000 in
theorem W_X5_dayGoes_47 {cx : aw_C} (hN : aw_nL cx = 4) (K : aw_K cx cX5_dayGoes RX5 rX5_dayGoes)  : ∀ (fu : Nat) (x3 : Int32) (σ : fk_T) (k : Int32 → fk_T → Option (fk_T)), (∀ (x3 : Int32) (σ : fk_T), af cx ρv 74 [some (.ref 26), none, none, some (.int x3)] [] (hp σ) (k x3 σ)) → af cx ρv 47 [some (.ref 26), none, none, some (.int x3)] [] (hp σ) (L_X5_dayGoes_47 fu x3 σ k) := by
  intro fu
  induction fu with
  | zero => intros; exact af_none
  | succ fu ih47 =>
    intro x3 σ k hk47
    rw [L_X5_dayGoes_47]
    refine af_iload_n K 48 dX5_dayGoes_47 rfl rfl ?_
    refine af_aload_n K 49 dX5_dayGoes_48 rfl rfl ?_
    refine af_get K 52 dX5_dayGoes_49 rfl fl_X5_7 (Nat.le_of_ble_eq_true rfl) rfl rfl ?_
    refine af_iconst K 53 dX5_dayGoes_52 rfl cs_iconst_0 ?_
    refine af_iald K 54 dX5_dayGoes_53 rfl (Nat.le_of_ble_eq_true rfl) rfl (fun y8 => ?_)
    refine af_icmp_ge K 57 74 dX5_dayGoes_54 rfl rfl (fun _ => ?_) (fun _ => ?_)
    · refine af_lm [true, false, false, true] rfl ?_
      exact hk47 _ _
    · refine af_aload_n K 58 dX5_dayGoes_57 rfl rfl ?_
      refine af_bipush K 60 dX5_dayGoes_58 rfl cs_bipush_37 ?_
      refine af_iload_n K 61 dX5_dayGoes_60 rfl rfl ?_
      refine af_iadd K 62 dX5_dayGoes_61 rfl ?_
      refine af_iconst K 63 dX5_dayGoes_62 rfl cs_iconst_1 ?_
      refine af_bipush K 65 dX5_dayGoes_63 rfl cs_bipush_99 ?_
      refine af_callV_v K (b := 26) (vs := [.int (37 + x3), .int 1, .int 99]) mv_X5_adds lk_885 ((hp_at _ (Nat.le_of_ble_eq_true rfl)).trans rfl) rfl 68 dX5_dayGoes_65 rfl rfl rfl rfl (A_X5_adds _ _ (37 + x3) 1 99 σ) rfl (fun q9 => ?_)
      refine af_iincB K 71 (fun yy => [some (.ref 26), none, none, some (.int yy)]) dX5_dayGoes_68 rfl (by rw [hN]; exact Nat.le_of_ble_eq_true rfl) rfl cs_iconst_1 (fun _ => rfl) (fun y10 => ?_)
      refine af_goto K 47 dX5_dayGoes_71 rfl ?_
      refine af_lm [true, false, false, true] rfl ?_
      exact ih47 _ _ _ hk47
set_option maxRecDepth 100000 in
set_option maxHeartbeats 4000000 in
theorem A_X5_dayGoes (X : aw_X) (l : Launch)  (σ : fk_T) : af_G X l mX5_dayGoes [.ref 26] (hp σ) ρv (F_X5_dayGoes  σ) := by
  refine af_mk (by decide) rfl (fun q _ => aw_okv q) [some (.ref 26), none, none, none] rfl ?_
  rintro cx rfl rfl hN K
  replace hN : aw_nL cx = 4 := hN
  replace K : aw_K cx cX5_dayGoes RX5 rX5_dayGoes := K
  unfold F_X5_dayGoes
  refine af_aload_n K 1 dX5_dayGoes_0 rfl rfl ?_
  refine af_callV_i K (b := 26) (vs := []) mv_X5_todays lk_873 ((hp_at _ (Nat.le_of_ble_eq_true rfl)).trans rfl) rfl 4 dX5_dayGoes_1 rfl rfl rfl rfl (A_X5_todays _ _ σ) rfl (fun q1 => ?_)
  refine af_bipush K 6 dX5_dayGoes_4 rfl cs_bipush_10 ?_
  refine af_idiv K 7 dX5_dayGoes_6 rfl cs_nz_10 ?_
  refine af_Bi (fun y2 => ?_)
  refine af_istore_n K 8 [some (.ref 26), some (.int y2), none, none] dX5_dayGoes_7 rfl (by rw [hN]; exact Nat.le_of_ble_eq_true rfl) rfl ?_
  refine af_aload_n K 9 dX5_dayGoes_8 rfl rfl ?_
  refine af_callV_i K (b := 26) (vs := []) mv_X5_todays lk_873 ((hp_at _ (Nat.le_of_ble_eq_true rfl)).trans rfl) rfl 12 dX5_dayGoes_9 rfl rfl rfl rfl (A_X5_todays _ _ q1.2) rfl (fun q3 => ?_)
  refine af_bipush K 14 dX5_dayGoes_12 rfl cs_bipush_10 ?_
  refine af_irem K 15 dX5_dayGoes_14 rfl cs_nz_10 ?_
  refine af_Bi (fun y4 => ?_)
  refine af_istore_n K 16 [some (.ref 26), some (.int y2), some (.int y4), none] dX5_dayGoes_15 rfl (by rw [hN]; exact Nat.le_of_ble_eq_true rfl) rfl ?_
  refine af_aload_n K 17 dX5_dayGoes_16 rfl rfl ?_
  refine af_iload_n K 18 dX5_dayGoes_17 rfl rfl ?_
  refine af_iload_n K 19 dX5_dayGoes_18 rfl rfl ?_
  refine af_callV_z K (b := 26) (vs := [.int y2, .int y4]) mv_X5_areTwo lk_832 ((hp_at _ (Nat.le_of_ble_eq_true rfl)).trans rfl) rfl 22 dX5_dayGoes_19 rfl rfl rfl rfl (A_X5_areTwo _ _ y2 y4 q3.2) rfl (fun q5 => ?_)
  refine af_if_eq K 25 31 dX5_dayGoes_22 rfl rfl (fun _ => ?_) (fun _ => ?_)
  · refine af_aload_n K 32 dX5_dayGoes_31 rfl rfl ?_
    refine af_get K 35 dX5_dayGoes_32 rfl fl_X5_7 (Nat.le_of_ble_eq_true rfl) rfl rfl ?_
    refine af_iconst K 36 dX5_dayGoes_35 rfl cs_iconst_1 ?_
    refine af_iald K 37 dX5_dayGoes_36 rfl (Nat.le_of_ble_eq_true rfl) rfl (fun y6 => ?_)
    refine af_bipush K 39 dX5_dayGoes_37 rfl cs_bipush_10 ?_
    refine af_irem K 40 dX5_dayGoes_39 rfl cs_nz_10 ?_
    refine af_bipush K 42 dX5_dayGoes_40 rfl cs_bipush_9 ?_
    refine af_icmp_ne K 45 74 dX5_dayGoes_42 rfl rfl (fun _ => ?_) (fun _ => ?_)
    · refine af_aload_n K 75 dX5_dayGoes_74 rfl rfl ?_
      refine af_iconst K 76 dX5_dayGoes_75 rfl cs_iconst_1 ?_
      refine af_iconst K 77 dX5_dayGoes_76 rfl cs_iconst_1 ?_
      refine af_ldc K 79 dX5_dayGoes_77 rfl lk_864 ?_
      refine af_callV_v K (b := 26) (vs := [.int 1, .int 1, .int 99999]) mv_X5_adds lk_885 ((hp_at _ (Nat.le_of_ble_eq_true rfl)).trans rfl) rfl 82 dX5_dayGoes_79 rfl rfl rfl rfl (A_X5_adds _ _ 1 1 99999 q5.2) rfl (fun q7 => ?_)
      exact af_retv K dX5_dayGoes_82
    · refine af_iconst K 46 dX5_dayGoes_45 rfl cs_iconst_0 ?_
      refine af_istore_n K 47 [some (.ref 26), some (.int y2), some (.int y4), some (.int 0)] dX5_dayGoes_46 rfl (by rw [hN]; exact Nat.le_of_ble_eq_true rfl) rfl ?_
      refine af_lm [true, false, false, true] rfl ?_
      refine W_X5_dayGoes_47 hN K  fk_N _ _ _ (fun y12 s11 => ?_)
      refine af_aload_n K 75 dX5_dayGoes_74 rfl rfl ?_
      refine af_iconst K 76 dX5_dayGoes_75 rfl cs_iconst_1 ?_
      refine af_iconst K 77 dX5_dayGoes_76 rfl cs_iconst_1 ?_
      refine af_ldc K 79 dX5_dayGoes_77 rfl lk_864 ?_
      refine af_callV_v K (b := 26) (vs := [.int 1, .int 1, .int 99999]) mv_X5_adds lk_885 ((hp_at _ (Nat.le_of_ble_eq_true rfl)).trans rfl) rfl 82 dX5_dayGoes_79 rfl rfl rfl rfl (A_X5_adds _ _ 1 1 99999 s11) rfl (fun q13 => ?_)
      exact af_retv K dX5_dayGoes_82
  · refine af_aload_n K 26 dX5_dayGoes_25 rfl rfl ?_
    refine af_iload_n K 27 dX5_dayGoes_26 rfl rfl ?_
    refine af_iload_n K 28 dX5_dayGoes_27 rfl rfl ?_
    refine af_callV_v K (b := 26) (vs := [.int y2, .int y4]) mv_X5_pots lk_877 ((hp_at _ (Nat.le_of_ble_eq_true rfl)).trans rfl) rfl 31 dX5_dayGoes_28 rfl rfl rfl rfl (A_X5_pots _ _ y2 y4 q5.2) rfl (fun q14 => ?_)
    refine af_aload_n K 32 dX5_dayGoes_31 rfl rfl ?_
    refine af_get K 35 dX5_dayGoes_32 rfl fl_X5_7 (Nat.le_of_ble_eq_true rfl) rfl rfl ?_
    refine af_iconst K 36 dX5_dayGoes_35 rfl cs_iconst_1 ?_
    refine af_iald K 37 dX5_dayGoes_36 rfl (Nat.le_of_ble_eq_true rfl) rfl (fun y15 => ?_)
    refine af_bipush K 39 dX5_dayGoes_37 rfl cs_bipush_10 ?_
    refine af_irem K 40 dX5_dayGoes_39 rfl cs_nz_10 ?_
    refine af_bipush K 42 dX5_dayGoes_40 rfl cs_bipush_9 ?_
    refine af_icmp_ne K 45 74 dX5_dayGoes_42 rfl rfl (fun _ => ?_) (fun _ => ?_)
    · refine af_aload_n K 75 dX5_dayGoes_74 rfl rfl ?_
      refine af_iconst K 76 dX5_dayGoes_75 rfl cs_iconst_1 ?_
      refine af_iconst K 77 dX5_dayGoes_76 rfl cs_iconst_1 ?_
      refine af_ldc K 79 dX5_dayGoes_77 rfl lk_864 ?_
      refine af_callV_v K (b := 26) (vs := [.int 1, .int 1, .int 99999]) mv_X5_adds lk_885 ((hp_at _ (Nat.le_of_ble_eq_true rfl)).trans rfl) rfl 82 dX5_dayGoes_79 rfl rfl rfl rfl (A_X5_adds _ _ 1 1 99999 q14) rfl (fun q16 => ?_)
      exact af_retv K dX5_dayGoes_82
    · refine af_iconst K 46 dX5_dayGoes_45 rfl cs_iconst_0 ?_
      refine af_istore_n K 47 [some (.ref 26), some (.int y2), some (.int y4), some (.int 0)] dX5_dayGoes_46 rfl (by rw [hN]; exact Nat.le_of_ble_eq_true rfl) rfl ?_
      refine af_lm [true, false, false, true] rfl ?_
      refine W_X5_dayGoes_47 hN K  fk_N _ _ _ (fun y18 s17 => ?_)
      refine af_aload_n K 75 dX5_dayGoes_74 rfl rfl ?_
      refine af_iconst K 76 dX5_dayGoes_75 rfl cs_iconst_1 ?_
      refine af_iconst K 77 dX5_dayGoes_76 rfl cs_iconst_1 ?_
      refine af_ldc K 79 dX5_dayGoes_77 rfl lk_864 ?_
      refine af_callV_v K (b := 26) (vs := [.int 1, .int 1, .int 99999]) mv_X5_adds lk_885 ((hp_at _ (Nat.le_of_ble_eq_true rfl)).trans rfl) rfl 82 dX5_dayGoes_79 rfl rfl rfl rfl (A_X5_adds _ _ 1 1 99999 s17) rfl (fun q19 => ?_)
      exact af_retv K dX5_dayGoes_82
def L_X5_daysGo_2  : Nat → Int32 → Int32 → fk_T → (Int32 → Int32 → fk_T → Option (fk_T)) → Option (fk_T)
  | 0, _, _, _, _ => none
  | fu + 1, x1, x2, σ, k => if x1 ≤ x2 then (k x1 x2 σ) else ((F_X5_dayGoes  σ).bind (fun q1 => fk_B (x2 + 1) (fun y2 => L_X5_daysGo_2 fu x1 y2 q1 k)))
def F_X5_daysGo (x1 : Int32) (σ : fk_T) : Option (fk_T) := L_X5_daysGo_2 fk_N x1 0 σ (fun y4 y5 s3 => some s3)
set_option maxRecDepth 100000 in
set_option maxHeartbeats 4000000 in
theorem W_X5_daysGo_2 {cx : aw_C} (hN : aw_nL cx = 3) (K : aw_K cx cX5_daysGo RX5 rX5_daysGo)  : ∀ (fu : Nat) (x1 : Int32) (x2 : Int32) (σ : fk_T) (k : Int32 → Int32 → fk_T → Option (fk_T)), (∀ (x1 : Int32) (x2 : Int32) (σ : fk_T), af cx ρv 17 [some (.ref 26), some (.int x1), some (.int x2)] [] (hp σ) (k x1 x2 σ)) → af cx ρv 2 [some (.ref 26), some (.int x1), some (.int x2)] [] (hp σ) (L_X5_daysGo_2 fu x1 x2 σ k) := by
  intro fu
  induction fu with
  | zero => intros; exact af_none
  | succ fu ih2 =>
    intro x1 x2 σ k hk2
    rw [L_X5_daysGo_2]
    refine af_iload_n K 3 dX5_daysGo_2 rfl rfl ?_
    refine af_iload_n K 4 dX5_daysGo_3 rfl rfl ?_
    refine af_icmp_ge K 7 17 dX5_daysGo_4 rfl rfl (fun _ => ?_) (fun _ => ?_)
    · refine af_lm [true, true, true] rfl ?_
      exact hk2 _ _ _
    · refine af_aload_n K 8 dX5_daysGo_7 rfl rfl ?_
      refine af_callV_v K (b := 26) (vs := []) mv_X5_dayGoes lk_869 ((hp_at _ (Nat.le_of_ble_eq_true rfl)).trans rfl) rfl 11 dX5_daysGo_8 rfl rfl rfl rfl (A_X5_dayGoes _ _ σ) rfl (fun q1 => ?_)
      refine af_iincB K 14 (fun yy => [some (.ref 26), some (.int x1), some (.int yy)]) dX5_daysGo_11 rfl (by rw [hN]; exact Nat.le_of_ble_eq_true rfl) rfl cs_iconst_1 (fun _ => rfl) (fun y2 => ?_)
      refine af_goto K 2 dX5_daysGo_14 rfl ?_
      refine af_lm [true, true, true] rfl ?_
      exact ih2 _ _ _ _ hk2
set_option maxRecDepth 100000 in
set_option maxHeartbeats 4000000 in
theorem A_X5_daysGo (X : aw_X) (l : Launch) (x1 : Int32) (σ : fk_T) : af_G X l mX5_daysGo [.ref 26, .int x1] (hp σ) ρv (F_X5_daysGo x1 σ) := by
  refine af_mk (by decide) rfl (fun q _ => aw_okv q) [some (.ref 26), some (.int x1), none] rfl ?_
  rintro cx rfl rfl hN K
  replace hN : aw_nL cx = 3 := hN
  replace K : aw_K cx cX5_daysGo RX5 rX5_daysGo := K
  unfold F_X5_daysGo
  refine af_iconst K 1 dX5_daysGo_0 rfl cs_iconst_0 ?_
  refine af_istore_n K 2 [some (.ref 26), some (.int x1), some (.int 0)] dX5_daysGo_1 rfl (by rw [hN]; exact Nat.le_of_ble_eq_true rfl) rfl ?_
  refine af_lm [true, true, true] rfl ?_
  refine W_X5_daysGo_2 hN K  fk_N _ _ _ _ (fun y4 y5 s3 => ?_)
  exact af_retv K dX5_daysGo_17
def L_X5_sumOf_4  : Nat → Int32 → Int32 → Int32 → fk_T → (Int32 → Int32 → Int32 → fk_T → Option (Int32 × fk_T)) → Option (Int32 × fk_T)
  | 0, _, _, _, _, _ => none
  | fu + 1, x1, x2, x3, σ, k => fk_A (σ.1 27) 135 0 (fun y1 => if y1 ≤ x3 then (k x1 x2 x3 σ) else ((F_X5_its x3 x1 σ).bind (fun q2 => fk_B (x2 + q2.1) (fun y3 => fk_B (x3 + 1) (fun y4 => L_X5_sumOf_4 fu x1 y3 y4 q2.2 k)))))
def F_X5_sumOf (x1 : Int32) (σ : fk_T) : Option (Int32 × fk_T) := L_X5_sumOf_4 fk_N x1 0 0 σ (fun y6 y7 y8 s5 => some (y7, s5))
set_option maxRecDepth 100000 in
set_option maxHeartbeats 4000000 in
theorem W_X5_sumOf_4 {cx : aw_C} (hN : aw_nL cx = 4) (K : aw_K cx cX5_sumOf RX5 rX5_sumOf)  : ∀ (fu : Nat) (x1 : Int32) (x2 : Int32) (x3 : Int32) (σ : fk_T) (k : Int32 → Int32 → Int32 → fk_T → Option (Int32 × fk_T)), (∀ (x1 : Int32) (x2 : Int32) (x3 : Int32) (σ : fk_T), af cx ρi 29 [some (.ref 26), some (.int x1), some (.int x2), some (.int x3)] [] (hp σ) (k x1 x2 x3 σ)) → af cx ρi 4 [some (.ref 26), some (.int x1), some (.int x2), some (.int x3)] [] (hp σ) (L_X5_sumOf_4 fu x1 x2 x3 σ k) := by
  intro fu
  induction fu with
  | zero => intros; exact af_none
  | succ fu ih4 =>
    intro x1 x2 x3 σ k hk4
    rw [L_X5_sumOf_4]
    refine af_iload_n K 5 dX5_sumOf_4 rfl rfl ?_
    refine af_aload_n K 6 dX5_sumOf_5 rfl rfl ?_
    refine af_get K 9 dX5_sumOf_6 rfl fl_X5_7 (Nat.le_of_ble_eq_true rfl) rfl rfl ?_
    refine af_iconst K 10 dX5_sumOf_9 rfl cs_iconst_0 ?_
    refine af_iald K 11 dX5_sumOf_10 rfl (Nat.le_of_ble_eq_true rfl) rfl (fun y1 => ?_)
    refine af_icmp_ge K 14 29 dX5_sumOf_11 rfl rfl (fun _ => ?_) (fun _ => ?_)
    · refine af_lm [true, true, true, true] rfl ?_
      exact hk4 _ _ _ _
    · refine af_iload_n K 15 dX5_sumOf_14 rfl rfl ?_
      refine af_aload_n K 16 dX5_sumOf_15 rfl rfl ?_
      refine af_iload_n K 17 dX5_sumOf_16 rfl rfl ?_
      refine af_iload_n K 18 dX5_sumOf_17 rfl rfl ?_
      refine af_callV_i K (b := 26) (vs := [.int x3, .int x1]) mv_X5_its lk_802 ((hp_at _ (Nat.le_of_ble_eq_true rfl)).trans rfl) rfl 21 dX5_sumOf_18 rfl rfl rfl rfl (A_X5_its _ _ x3 x1 σ) rfl (fun q2 => ?_)
      refine af_iadd K 22 dX5_sumOf_21 rfl ?_
      refine af_Bi (fun y3 => ?_)
      refine af_istore_n K 23 [some (.ref 26), some (.int x1), some (.int y3), some (.int x3)] dX5_sumOf_22 rfl (by rw [hN]; exact Nat.le_of_ble_eq_true rfl) rfl ?_
      refine af_iincB K 26 (fun yy => [some (.ref 26), some (.int x1), some (.int y3), some (.int yy)]) dX5_sumOf_23 rfl (by rw [hN]; exact Nat.le_of_ble_eq_true rfl) rfl cs_iconst_1 (fun _ => rfl) (fun y4 => ?_)
      refine af_goto K 4 dX5_sumOf_26 rfl ?_
      refine af_lm [true, true, true, true] rfl ?_
      exact ih4 _ _ _ _ _ hk4
set_option maxRecDepth 100000 in
set_option maxHeartbeats 4000000 in
theorem A_X5_sumOf (X : aw_X) (l : Launch) (x1 : Int32) (σ : fk_T) : af_G X l mX5_sumOf [.ref 26, .int x1] (hp σ) ρi (F_X5_sumOf x1 σ) := by
  refine af_mk (by decide) rfl (fun q _ => aw_oki q) [some (.ref 26), some (.int x1), none, none] rfl ?_
  rintro cx rfl rfl hN K
  replace hN : aw_nL cx = 4 := hN
  replace K : aw_K cx cX5_sumOf RX5 rX5_sumOf := K
  unfold F_X5_sumOf
  refine af_iconst K 1 dX5_sumOf_0 rfl cs_iconst_0 ?_
  refine af_istore_n K 2 [some (.ref 26), some (.int x1), some (.int 0), none] dX5_sumOf_1 rfl (by rw [hN]; exact Nat.le_of_ble_eq_true rfl) rfl ?_
  refine af_iconst K 3 dX5_sumOf_2 rfl cs_iconst_0 ?_
  refine af_istore_n K 4 [some (.ref 26), some (.int x1), some (.int 0), some (.int 0)] dX5_sumOf_3 rfl (by rw [hN]; exact Nat.le_of_ble_eq_true rfl) rfl ?_
  refine af_lm [true, true, true, true] rfl ?_
  refine W_X5_sumOf_4 hN K  fk_N _ _ _ _ _ (fun y6 y7 y8 s5 => ?_)
  refine af_iload_n K 30 dX5_sumOf_29 rfl rfl ?_
  exact af_reti K dX5_sumOf_30
def F_X5_clay (x1 : Int32) (σ : fk_T) : Option (Int32 × fk_T) := (F_X5_in (x1.toInt64) 1 20 σ).bind (fun q1 => if (fk_b q1.1) = 0 then ((F_X5_finds 0 q1.2).bind (fun q2 => some (q2.1, q2.2))) else ((F_X5_becomes 3 x1 q1.2).bind (fun q3 => some (q3.1, q3.2))))
set_option maxRecDepth 100000 in
set_option maxHeartbeats 4000000 in
theorem A_X5_clay (X : aw_X) (l : Launch) (x1 : Int32) (σ : fk_T) : af_G X l mX5_clay [.ref 26, .int x1] (hp σ) ρi (F_X5_clay x1 σ) := by
  refine af_mk (by decide) rfl (fun q _ => aw_oki q) [some (.ref 26), some (.int x1)] rfl ?_
  rintro cx rfl rfl hN K
  replace hN : aw_nL cx = 2 := hN
  replace K : aw_K cx cX5_clay RX5 rX5_clay := K
  unfold F_X5_clay
  refine af_iload_n K 1 dX5_clay_0 rfl rfl ?_
  refine af_i2l K 2 dX5_clay_1 rfl ?_
  refine af_lconst K 3 dX5_clay_2 rfl cs_lconst_1 ?_
  refine af_ldc2 K 6 dX5_clay_3 rfl lk_752 ?_
  refine af_callS_z K (vs := [.long (x1.toInt64), .long 1, .long 20]) ms_X5_in lk_753 9 dX5_clay_6 rfl rfl rfl rfl (A_X5_in _ _ (x1.toInt64) 1 20 σ) rfl (fun q1 => ?_)
  refine af_if_eq K 12 21 dX5_clay_9 rfl rfl (fun _ => ?_) (fun _ => ?_)
  · refine af_aload_n K 22 dX5_clay_21 rfl rfl ?_
    refine af_iconst K 23 dX5_clay_22 rfl cs_iconst_0 ?_
    refine af_callV_i K (b := 26) (vs := [.int 0]) mv_X5_finds lk_760 ((hp_at _ (Nat.le_of_ble_eq_true rfl)).trans rfl) rfl 26 dX5_clay_23 rfl rfl rfl rfl (A_X5_finds _ _ 0 q1.2) rfl (fun q2 => ?_)
    exact af_reti K dX5_clay_26
  · refine af_aload_n K 13 dX5_clay_12 rfl rfl ?_
    refine af_iconst K 14 dX5_clay_13 rfl cs_iconst_3 ?_
    refine af_iload_n K 15 dX5_clay_14 rfl rfl ?_
    refine af_callV_i K (b := 26) (vs := [.int 3, .int x1]) mv_X5_becomes lk_756 ((hp_at _ (Nat.le_of_ble_eq_true rfl)).trans rfl) rfl 18 dX5_clay_15 rfl rfl rfl rfl (A_X5_becomes _ _ 3 x1 q1.2) rfl (fun q3 => ?_)
    refine af_goto K 26 dX5_clay_18 rfl ?_
    exact af_reti K dX5_clay_26
def F_X5_pair (x1 : Int32) (x2 : Int32) (x3 : Int32) (σ : fk_T) : Option (Int32 × fk_T) := (F_X5_in (x1.toInt64) 0 5 σ).bind (fun q1 => if (fk_b q1.1) = 0 then ((F_X5_finds 0 q1.2).bind (fun q2 => some (q2.1, q2.2))) else ((F_X5_in (x2.toInt64) 0 7 q1.2).bind (fun q3 => if (fk_b q3.1) = 0 then ((F_X5_finds 0 q3.2).bind (fun q4 => some (q4.1, q4.2))) else ((F_X5_in (x3.toInt64) 0 7 q3.2).bind (fun q5 => if (fk_b q5.1) = 0 then ((F_X5_finds 0 q5.2).bind (fun q6 => some (q6.1, q6.2))) else ((F_X5_becomes (7 + x1) ((10 * x2) + x3) q5.2).bind (fun q7 => some (q7.1, q7.2))))))))
set_option maxRecDepth 100000 in
set_option maxHeartbeats 4000000 in
theorem A_X5_pair (X : aw_X) (l : Launch) (x1 : Int32) (x2 : Int32) (x3 : Int32) (σ : fk_T) : af_G X l mX5_pair [.ref 26, .int x1, .int x2, .int x3] (hp σ) ρi (F_X5_pair x1 x2 x3 σ) := by
  refine af_mk (by decide) rfl (fun q _ => aw_oki q) [some (.ref 26), some (.int x1), some (.int x2), some (.int x3)] rfl ?_
  rintro cx rfl rfl hN K
  replace hN : aw_nL cx = 4 := hN
  replace K : aw_K cx cX5_pair RX5 rX5_pair := K
  unfold F_X5_pair
  refine af_iload_n K 1 dX5_pair_0 rfl rfl ?_
  refine af_i2l K 2 dX5_pair_1 rfl ?_
  refine af_lconst K 3 dX5_pair_2 rfl cs_lconst_0 ?_
  refine af_ldc2 K 6 dX5_pair_3 rfl lk_769 ?_
  refine af_callS_z K (vs := [.long (x1.toInt64), .long 0, .long 5]) ms_X5_in lk_753 9 dX5_pair_6 rfl rfl rfl rfl (A_X5_in _ _ (x1.toInt64) 0 5 σ) rfl (fun q1 => ?_)
  refine af_if_eq K 12 53 dX5_pair_9 rfl rfl (fun _ => ?_) (fun _ => ?_)
  · refine af_aload_n K 54 dX5_pair_53 rfl rfl ?_
    refine af_iconst K 55 dX5_pair_54 rfl cs_iconst_0 ?_
    refine af_callV_i K (b := 26) (vs := [.int 0]) mv_X5_finds lk_760 ((hp_at _ (Nat.le_of_ble_eq_true rfl)).trans rfl) rfl 58 dX5_pair_55 rfl rfl rfl rfl (A_X5_finds _ _ 0 q1.2) rfl (fun q2 => ?_)
    exact af_reti K dX5_pair_58
  · refine af_iload_n K 13 dX5_pair_12 rfl rfl ?_
    refine af_i2l K 14 dX5_pair_13 rfl ?_
    refine af_lconst K 15 dX5_pair_14 rfl cs_lconst_0 ?_
    refine af_ldc2 K 18 dX5_pair_15 rfl lk_770 ?_
    refine af_callS_z K (vs := [.long (x2.toInt64), .long 0, .long 7]) ms_X5_in lk_753 21 dX5_pair_18 rfl rfl rfl rfl (A_X5_in _ _ (x2.toInt64) 0 7 q1.2) rfl (fun q3 => ?_)
    refine af_if_eq K 24 53 dX5_pair_21 rfl rfl (fun _ => ?_) (fun _ => ?_)
    · refine af_aload_n K 54 dX5_pair_53 rfl rfl ?_
      refine af_iconst K 55 dX5_pair_54 rfl cs_iconst_0 ?_
      refine af_callV_i K (b := 26) (vs := [.int 0]) mv_X5_finds lk_760 ((hp_at _ (Nat.le_of_ble_eq_true rfl)).trans rfl) rfl 58 dX5_pair_55 rfl rfl rfl rfl (A_X5_finds _ _ 0 q3.2) rfl (fun q4 => ?_)
      exact af_reti K dX5_pair_58
    · refine af_iload_n K 25 dX5_pair_24 rfl rfl ?_
      refine af_i2l K 26 dX5_pair_25 rfl ?_
      refine af_lconst K 27 dX5_pair_26 rfl cs_lconst_0 ?_
      refine af_ldc2 K 30 dX5_pair_27 rfl lk_770 ?_
      refine af_callS_z K (vs := [.long (x3.toInt64), .long 0, .long 7]) ms_X5_in lk_753 33 dX5_pair_30 rfl rfl rfl rfl (A_X5_in _ _ (x3.toInt64) 0 7 q3.2) rfl (fun q5 => ?_)
      refine af_if_eq K 36 53 dX5_pair_33 rfl rfl (fun _ => ?_) (fun _ => ?_)
      · refine af_aload_n K 54 dX5_pair_53 rfl rfl ?_
        refine af_iconst K 55 dX5_pair_54 rfl cs_iconst_0 ?_
        refine af_callV_i K (b := 26) (vs := [.int 0]) mv_X5_finds lk_760 ((hp_at _ (Nat.le_of_ble_eq_true rfl)).trans rfl) rfl 58 dX5_pair_55 rfl rfl rfl rfl (A_X5_finds _ _ 0 q5.2) rfl (fun q6 => ?_)
        exact af_reti K dX5_pair_58
      · refine af_aload_n K 37 dX5_pair_36 rfl rfl ?_
        refine af_bipush K 39 dX5_pair_37 rfl cs_bipush_7 ?_
        refine af_iload_n K 40 dX5_pair_39 rfl rfl ?_
        refine af_iadd K 41 dX5_pair_40 rfl ?_
        refine af_bipush K 43 dX5_pair_41 rfl cs_bipush_10 ?_
        refine af_iload_n K 44 dX5_pair_43 rfl rfl ?_
        refine af_imul K 45 dX5_pair_44 rfl ?_
        refine af_iload_n K 46 dX5_pair_45 rfl rfl ?_
        refine af_iadd K 47 dX5_pair_46 rfl ?_
        refine af_callV_i K (b := 26) (vs := [.int (7 + x1), .int ((10 * x2) + x3)]) mv_X5_becomes lk_756 ((hp_at _ (Nat.le_of_ble_eq_true rfl)).trans rfl) rfl 50 dX5_pair_47 rfl rfl rfl rfl (A_X5_becomes _ _ (7 + x1) ((10 * x2) + x3) q5.2) rfl (fun q7 => ?_)
        refine af_goto K 58 dX5_pair_50 rfl ?_
        exact af_reti K dX5_pair_58
def F_X5_listed (x1 : Int32) (σ : fk_T) : Option (Int32 × fk_T) := (F_X5_in (x1.toInt64) 0 5 σ).bind (fun q1 => if (fk_b q1.1) = 0 then ((F_X5_finds 0 q1.2).bind (fun q2 => some (q2.1, q2.2))) else (fk_A (q1.2.1 27) 135 (7 + x1) (fun y3 => some (y3, q1.2))))
set_option maxRecDepth 100000 in
set_option maxHeartbeats 4000000 in
theorem A_X5_listed (X : aw_X) (l : Launch) (x1 : Int32) (σ : fk_T) : af_G X l mX5_listed [.ref 26, .int x1] (hp σ) ρi (F_X5_listed x1 σ) := by
  refine af_mk (by decide) rfl (fun q _ => aw_oki q) [some (.ref 26), some (.int x1)] rfl ?_
  rintro cx rfl rfl hN K
  replace hN : aw_nL cx = 2 := hN
  replace K : aw_K cx cX5_listed RX5 rX5_listed := K
  unfold F_X5_listed
  refine af_iload_n K 1 dX5_listed_0 rfl rfl ?_
  refine af_i2l K 2 dX5_listed_1 rfl ?_
  refine af_lconst K 3 dX5_listed_2 rfl cs_lconst_0 ?_
  refine af_ldc2 K 6 dX5_listed_3 rfl lk_769 ?_
  refine af_callS_z K (vs := [.long (x1.toInt64), .long 0, .long 5]) ms_X5_in lk_753 9 dX5_listed_6 rfl rfl rfl rfl (A_X5_in _ _ (x1.toInt64) 0 5 σ) rfl (fun q1 => ?_)
  refine af_if_eq K 12 24 dX5_listed_9 rfl rfl (fun _ => ?_) (fun _ => ?_)
  · refine af_aload_n K 25 dX5_listed_24 rfl rfl ?_
    refine af_iconst K 26 dX5_listed_25 rfl cs_iconst_0 ?_
    refine af_callV_i K (b := 26) (vs := [.int 0]) mv_X5_finds lk_760 ((hp_at _ (Nat.le_of_ble_eq_true rfl)).trans rfl) rfl 29 dX5_listed_26 rfl rfl rfl rfl (A_X5_finds _ _ 0 q1.2) rfl (fun q2 => ?_)
    exact af_reti K dX5_listed_29
  · refine af_aload_n K 13 dX5_listed_12 rfl rfl ?_
    refine af_get K 16 dX5_listed_13 rfl fl_X5_7 (Nat.le_of_ble_eq_true rfl) rfl rfl ?_
    refine af_bipush K 18 dX5_listed_16 rfl cs_bipush_7 ?_
    refine af_iload_n K 19 dX5_listed_18 rfl rfl ?_
    refine af_iadd K 20 dX5_listed_19 rfl ?_
    refine af_iald K 21 dX5_listed_20 rfl (Nat.le_of_ble_eq_true rfl) rfl (fun y3 => ?_)
    refine af_goto K 29 dX5_listed_21 rfl ?_
    exact af_reti K dX5_listed_29
def L_X5_comes_10  : Nat → Int32 → Int32 → Int32 → Int32 → fk_T → (Int32 → Int32 → Int32 → Int32 → fk_T → Option (Int32 × fk_T)) → Option (Int32 × fk_T)
  | 0, _, _, _, _, _, _ => none
  | fu + 1, x1, x2, x3, x4, σ, k => if 5 < x4 then (k x1 x2 x3 x4 σ) else ((F_X5_sets x3 x4 0 σ).bind (fun q2 => fk_B (x4 + 1) (fun y3 => L_X5_comes_10 fu x1 x2 x3 y3 q2 k)))
def F_X5_comes (x1 : Int32) (x2 : Int32) (σ : fk_T) : Option (Int32 × fk_T) := fk_A (σ.1 27) 135 0 (fun y1 => L_X5_comes_10 fk_N x1 x2 y1 0 σ (fun y5 y6 y7 y8 s4 => (F_X5_sets y7 0 y5 s4).bind (fun q9 => (F_X5_sets y7 1 y6 q9).bind (fun q10 => (F_X5_sets y7 2 20 q10).bind (fun q11 => fk_A (q11.1 27) 135 0 (fun y12 => fk_S q11 27 135 0 (y12 + 1) (fun s13 => some (y7, s13))))))))
set_option maxRecDepth 100000 in
set_option maxHeartbeats 4000000 in
theorem W_X5_comes_10 {cx : aw_C} (hN : aw_nL cx = 5) (K : aw_K cx cX5_comes RX5 rX5_comes)  : ∀ (fu : Nat) (x1 : Int32) (x2 : Int32) (x3 : Int32) (x4 : Int32) (σ : fk_T) (k : Int32 → Int32 → Int32 → Int32 → fk_T → Option (Int32 × fk_T)), (∀ (x1 : Int32) (x2 : Int32) (x3 : Int32) (x4 : Int32) (σ : fk_T), af cx ρi 30 [some (.ref 26), some (.int x1), some (.int x2), some (.int x3), some (.int x4)] [] (hp σ) (k x1 x2 x3 x4 σ)) → af cx ρi 10 [some (.ref 26), some (.int x1), some (.int x2), some (.int x3), some (.int x4)] [] (hp σ) (L_X5_comes_10 fu x1 x2 x3 x4 σ k) := by
  intro fu
  induction fu with
  | zero => intros; exact af_none
  | succ fu ih10 =>
    intro x1 x2 x3 x4 σ k hk10
    rw [L_X5_comes_10]
    refine af_iload K 12 dX5_comes_10 rfl rfl ?_
    refine af_iconst K 13 dX5_comes_12 rfl cs_iconst_5 ?_
    refine af_icmp_gt K 16 30 dX5_comes_13 rfl rfl (fun _ => ?_) (fun _ => ?_)
    · refine af_lm [true, true, true, true, true] rfl ?_
      exact hk10 _ _ _ _ _
    · refine af_aload_n K 17 dX5_comes_16 rfl rfl ?_
      refine af_iload_n K 18 dX5_comes_17 rfl rfl ?_
      refine af_iload K 20 dX5_comes_18 rfl rfl ?_
      refine af_iconst K 21 dX5_comes_20 rfl cs_iconst_0 ?_
      refine af_callV_v K (b := 26) (vs := [.int x3, .int x4, .int 0]) mv_X5_sets lk_785 ((hp_at _ (Nat.le_of_ble_eq_true rfl)).trans rfl) rfl 24 dX5_comes_21 rfl rfl rfl rfl (A_X5_sets _ _ x3 x4 0 σ) rfl (fun q2 => ?_)
      refine af_iincB K 27 (fun yy => [some (.ref 26), some (.int x1), some (.int x2), some (.int x3), some (.int yy)]) dX5_comes_24 rfl (by rw [hN]; exact Nat.le_of_ble_eq_true rfl) rfl cs_iconst_1 (fun _ => rfl) (fun y3 => ?_)
      refine af_goto K 10 dX5_comes_27 rfl ?_
      refine af_lm [true, true, true, true, true] rfl ?_
      exact ih10 _ _ _ _ _ _ hk10
set_option maxRecDepth 100000 in
set_option maxHeartbeats 4000000 in
theorem A_X5_comes (X : aw_X) (l : Launch) (x1 : Int32) (x2 : Int32) (σ : fk_T) : af_G X l mX5_comes [.ref 26, .int x1, .int x2] (hp σ) ρi (F_X5_comes x1 x2 σ) := by
  refine af_mk (by decide) rfl (fun q _ => aw_oki q) [some (.ref 26), some (.int x1), some (.int x2), none, none] rfl ?_
  rintro cx rfl rfl hN K
  replace hN : aw_nL cx = 5 := hN
  replace K : aw_K cx cX5_comes RX5 rX5_comes := K
  unfold F_X5_comes
  refine af_aload_n K 1 dX5_comes_0 rfl rfl ?_
  refine af_get K 4 dX5_comes_1 rfl fl_X5_7 (Nat.le_of_ble_eq_true rfl) rfl rfl ?_
  refine af_iconst K 5 dX5_comes_4 rfl cs_iconst_0 ?_
  refine af_iald K 6 dX5_comes_5 rfl (Nat.le_of_ble_eq_true rfl) rfl (fun y1 => ?_)
  refine af_istore_n K 7 [some (.ref 26), some (.int x1), some (.int x2), some (.int y1), none] dX5_comes_6 rfl (by rw [hN]; exact Nat.le_of_ble_eq_true rfl) rfl ?_
  refine af_iconst K 8 dX5_comes_7 rfl cs_iconst_0 ?_
  refine af_istore K 10 [some (.ref 26), some (.int x1), some (.int x2), some (.int y1), some (.int 0)] dX5_comes_8 rfl (by rw [hN]; exact Nat.le_of_ble_eq_true rfl) rfl ?_
  refine af_lm [true, true, true, true, true] rfl ?_
  refine W_X5_comes_10 hN K  fk_N _ _ _ _ _ _ (fun y5 y6 y7 y8 s4 => ?_)
  refine af_aload_n K 31 dX5_comes_30 rfl rfl ?_
  refine af_iload_n K 32 dX5_comes_31 rfl rfl ?_
  refine af_iconst K 33 dX5_comes_32 rfl cs_iconst_0 ?_
  refine af_iload_n K 34 dX5_comes_33 rfl rfl ?_
  refine af_callV_v K (b := 26) (vs := [.int y7, .int 0, .int y5]) mv_X5_sets lk_785 ((hp_at _ (Nat.le_of_ble_eq_true rfl)).trans rfl) rfl 37 dX5_comes_34 rfl rfl rfl rfl (A_X5_sets _ _ y7 0 y5 s4) rfl (fun q9 => ?_)
  refine af_aload_n K 38 dX5_comes_37 rfl rfl ?_
  refine af_iload_n K 39 dX5_comes_38 rfl rfl ?_
  refine af_iconst K 40 dX5_comes_39 rfl cs_iconst_1 ?_
  refine af_iload_n K 41 dX5_comes_40 rfl rfl ?_
  refine af_callV_v K (b := 26) (vs := [.int y7, .int 1, .int y6]) mv_X5_sets lk_785 ((hp_at _ (Nat.le_of_ble_eq_true rfl)).trans rfl) rfl 44 dX5_comes_41 rfl rfl rfl rfl (A_X5_sets _ _ y7 1 y6 q9) rfl (fun q10 => ?_)
  refine af_aload_n K 45 dX5_comes_44 rfl rfl ?_
  refine af_iload_n K 46 dX5_comes_45 rfl rfl ?_
  refine af_iconst K 47 dX5_comes_46 rfl cs_iconst_2 ?_
  refine af_bipush K 49 dX5_comes_47 rfl cs_bipush_20 ?_
  refine af_callV_v K (b := 26) (vs := [.int y7, .int 2, .int 20]) mv_X5_sets lk_785 ((hp_at _ (Nat.le_of_ble_eq_true rfl)).trans rfl) rfl 52 dX5_comes_49 rfl rfl rfl rfl (A_X5_sets _ _ y7 2 20 q10) rfl (fun q11 => ?_)
  refine af_aload_n K 53 dX5_comes_52 rfl rfl ?_
  refine af_get K 56 dX5_comes_53 rfl fl_X5_7 (Nat.le_of_ble_eq_true rfl) rfl rfl ?_
  refine af_iconst K 57 dX5_comes_56 rfl cs_iconst_0 ?_
  refine af_dup2 K 58 dX5_comes_57 rfl rfl rfl ?_
  refine af_iald K 59 dX5_comes_58 rfl (Nat.le_of_ble_eq_true rfl) rfl (fun y12 => ?_)
  refine af_iconst K 60 dX5_comes_59 rfl cs_iconst_1 ?_
  refine af_iadd K 61 dX5_comes_60 rfl ?_
  refine af_iast K 62 dX5_comes_61 rfl (Nat.le_of_ble_eq_true rfl) (fun _ _ => rfl) (fun s13 => ?_)
  refine af_iload_n K 63 dX5_comes_62 rfl rfl ?_
  exact af_reti K dX5_comes_63
def F_X5_potter (x1 : Int32) (x2 : Int32) (σ : fk_T) : Option (Int32 × fk_T) := (F_X5_in (x1.toInt64) 0 6 σ).bind (fun q1 => if (fk_b q1.1) = 0 then ((F_X5_finds 0 q1.2).bind (fun q2 => some (q2.1, q2.2))) else ((F_X5_in (x2.toInt64) 0 99 q1.2).bind (fun q3 => if (fk_b q3.1) = 0 then ((F_X5_finds 0 q3.2).bind (fun q7 => some (q7.1, q7.2))) else (fk_A (q3.2.1 27) 135 0 (fun y4 => if y4 = 8 then ((F_X5_finds 1 q3.2).bind (fun q6 => some (q6.1, q6.2))) else ((F_X5_comes x1 x2 q3.2).bind (fun q5 => some (q5.1, q5.2))))))))
set_option maxRecDepth 100000 in
set_option maxHeartbeats 4000000 in
theorem A_X5_potter (X : aw_X) (l : Launch) (x1 : Int32) (x2 : Int32) (σ : fk_T) : af_G X l mX5_potter [.ref 26, .int x1, .int x2] (hp σ) ρi (F_X5_potter x1 x2 σ) := by
  refine af_mk (by decide) rfl (fun q _ => aw_oki q) [some (.ref 26), some (.int x1), some (.int x2)] rfl ?_
  rintro cx rfl rfl hN K
  replace hN : aw_nL cx = 3 := hN
  replace K : aw_K cx cX5_potter RX5 rX5_potter := K
  unfold F_X5_potter
  refine af_iload_n K 1 dX5_potter_0 rfl rfl ?_
  refine af_i2l K 2 dX5_potter_1 rfl ?_
  refine af_lconst K 3 dX5_potter_2 rfl cs_lconst_0 ?_
  refine af_ldc2 K 6 dX5_potter_3 rfl lk_779 ?_
  refine af_callS_z K (vs := [.long (x1.toInt64), .long 0, .long 6]) ms_X5_in lk_753 9 dX5_potter_6 rfl rfl rfl rfl (A_X5_in _ _ (x1.toInt64) 0 6 σ) rfl (fun q1 => ?_)
  refine af_if_eq K 12 24 dX5_potter_9 rfl rfl (fun _ => ?_) (fun _ => ?_)
  · refine af_aload_n K 25 dX5_potter_24 rfl rfl ?_
    refine af_iconst K 26 dX5_potter_25 rfl cs_iconst_0 ?_
    refine af_callV_i K (b := 26) (vs := [.int 0]) mv_X5_finds lk_760 ((hp_at _ (Nat.le_of_ble_eq_true rfl)).trans rfl) rfl 29 dX5_potter_26 rfl rfl rfl rfl (A_X5_finds _ _ 0 q1.2) rfl (fun q2 => ?_)
    exact af_reti K dX5_potter_29
  · refine af_iload_n K 13 dX5_potter_12 rfl rfl ?_
    refine af_i2l K 14 dX5_potter_13 rfl ?_
    refine af_lconst K 15 dX5_potter_14 rfl cs_lconst_0 ?_
    refine af_ldc2 K 18 dX5_potter_15 rfl lk_780 ?_
    refine af_callS_z K (vs := [.long (x2.toInt64), .long 0, .long 99]) ms_X5_in lk_753 21 dX5_potter_18 rfl rfl rfl rfl (A_X5_in _ _ (x2.toInt64) 0 99 q1.2) rfl (fun q3 => ?_)
    refine af_if_ne K 24 30 dX5_potter_21 rfl rfl (fun _ => ?_) (fun _ => ?_)
    · refine af_aload_n K 31 dX5_potter_30 rfl rfl ?_
      refine af_get K 34 dX5_potter_31 rfl fl_X5_7 (Nat.le_of_ble_eq_true rfl) rfl rfl ?_
      refine af_iconst K 35 dX5_potter_34 rfl cs_iconst_0 ?_
      refine af_iald K 36 dX5_potter_35 rfl (Nat.le_of_ble_eq_true rfl) rfl (fun y4 => ?_)
      refine af_bipush K 38 dX5_potter_36 rfl cs_bipush_8 ?_
      refine af_icmp_ne K 41 49 dX5_potter_38 rfl rfl (fun _ => ?_) (fun _ => ?_)
      · refine af_aload_n K 50 dX5_potter_49 rfl rfl ?_
        refine af_iload_n K 51 dX5_potter_50 rfl rfl ?_
        refine af_iload_n K 52 dX5_potter_51 rfl rfl ?_
        refine af_callV_i K (b := 26) (vs := [.int x1, .int x2]) mv_X5_comes lk_781 ((hp_at _ (Nat.le_of_ble_eq_true rfl)).trans rfl) rfl 55 dX5_potter_52 rfl rfl rfl rfl (A_X5_comes _ _ x1 x2 q3.2) rfl (fun q5 => ?_)
        exact af_reti K dX5_potter_55
      · refine af_aload_n K 42 dX5_potter_41 rfl rfl ?_
        refine af_iconst K 43 dX5_potter_42 rfl cs_iconst_1 ?_
        refine af_callV_i K (b := 26) (vs := [.int 1]) mv_X5_finds lk_760 ((hp_at _ (Nat.le_of_ble_eq_true rfl)).trans rfl) rfl 46 dX5_potter_43 rfl rfl rfl rfl (A_X5_finds _ _ 1 q3.2) rfl (fun q6 => ?_)
        refine af_goto K 55 dX5_potter_46 rfl ?_
        exact af_reti K dX5_potter_55
    · refine af_aload_n K 25 dX5_potter_24 rfl rfl ?_
      refine af_iconst K 26 dX5_potter_25 rfl cs_iconst_0 ?_
      refine af_callV_i K (b := 26) (vs := [.int 0]) mv_X5_finds lk_760 ((hp_at _ (Nat.le_of_ble_eq_true rfl)).trans rfl) rfl 29 dX5_potter_26 rfl rfl rfl rfl (A_X5_finds _ _ 0 q3.2) rfl (fun q7 => ?_)
      exact af_reti K dX5_potter_29
def F_X5_of (x1 : Int32) (x2 : Int32) (σ : fk_T) : Option (Int32 × fk_T) := (F_X5_isPotter x1 σ).bind (fun q1 => if (fk_b q1.1) = 0 then ((F_X5_finds 0 q1.2).bind (fun q2 => some (q2.1, q2.2))) else ((F_X5_in (x2.toInt64) 0 9 q1.2).bind (fun q3 => if (fk_b q3.1) = 0 then ((F_X5_finds 0 q3.2).bind (fun q9 => some (q9.1, q9.2))) else (if x2 = 6 then ((F_X5_pushes x1 q3.2).bind (fun q4 => some (q4.1, q4.2))) else (if x2 = 7 then ((F_X5_says x1 q3.2).bind (fun q5 => some (q5.1, q5.2))) else (if x2 = 8 then ((F_X5_cools x1 q3.2).bind (fun q6 => some (q6.1, q6.2))) else (if x2 = 9 then ((F_X5_boils x1 q3.2).bind (fun q7 => some (q7.1, q7.2))) else ((F_X5_its x1 x2 q3.2).bind (fun q8 => some (q8.1, q8.2))))))))))
set_option maxRecDepth 100000 in
set_option maxHeartbeats 4000000 in
theorem A_X5_of (X : aw_X) (l : Launch) (x1 : Int32) (x2 : Int32) (σ : fk_T) : af_G X l mX5_of [.ref 26, .int x1, .int x2] (hp σ) ρi (F_X5_of x1 x2 σ) := by
  refine af_mk (by decide) rfl (fun q _ => aw_oki q) [some (.ref 26), some (.int x1), some (.int x2)] rfl ?_
  rintro cx rfl rfl hN K
  replace hN : aw_nL cx = 3 := hN
  replace K : aw_K cx cX5_of RX5 rX5_of := K
  unfold F_X5_of
  refine af_aload_n K 1 dX5_of_0 rfl rfl ?_
  refine af_iload_n K 2 dX5_of_1 rfl rfl ?_
  refine af_callV_z K (b := 26) (vs := [.int x1]) mv_X5_isPotter lk_793 ((hp_at _ (Nat.le_of_ble_eq_true rfl)).trans rfl) rfl 5 dX5_of_2 rfl rfl rfl rfl (A_X5_isPotter _ _ x1 σ) rfl (fun q1 => ?_)
  refine af_if_eq K 8 20 dX5_of_5 rfl rfl (fun _ => ?_) (fun _ => ?_)
  · refine af_aload_n K 21 dX5_of_20 rfl rfl ?_
    refine af_iconst K 22 dX5_of_21 rfl cs_iconst_0 ?_
    refine af_callV_i K (b := 26) (vs := [.int 0]) mv_X5_finds lk_760 ((hp_at _ (Nat.le_of_ble_eq_true rfl)).trans rfl) rfl 25 dX5_of_22 rfl rfl rfl rfl (A_X5_finds _ _ 0 q1.2) rfl (fun q2 => ?_)
    exact af_reti K dX5_of_25
  · refine af_iload_n K 9 dX5_of_8 rfl rfl ?_
    refine af_i2l K 10 dX5_of_9 rfl ?_
    refine af_lconst K 11 dX5_of_10 rfl cs_lconst_0 ?_
    refine af_ldc2 K 14 dX5_of_11 rfl lk_797 ?_
    refine af_callS_z K (vs := [.long (x2.toInt64), .long 0, .long 9]) ms_X5_in lk_753 17 dX5_of_14 rfl rfl rfl rfl (A_X5_in _ _ (x2.toInt64) 0 9 q1.2) rfl (fun q3 => ?_)
    refine af_if_ne K 20 26 dX5_of_17 rfl rfl (fun _ => ?_) (fun _ => ?_)
    · refine af_iload_n K 27 dX5_of_26 rfl rfl ?_
      refine af_ite (fun hx => ?_) (fun hx6 => ?_)
      · refine af_tin K 56 6 hx dX5_of_27 (by decide) (by decide) rfl rfl ?_
        refine af_aload_n K 57 dX5_of_56 rfl rfl ?_
        refine af_iload_n K 58 dX5_of_57 rfl rfl ?_
        refine af_callV_i K (b := 26) (vs := [.int x1]) mv_X5_pushes lk_798 ((hp_at _ (Nat.le_of_ble_eq_true rfl)).trans rfl) rfl 61 dX5_of_58 rfl rfl rfl rfl (A_X5_pushes _ _ x1 q3.2) rfl (fun q4 => ?_)
        exact af_reti K dX5_of_61
      refine af_ite (fun hx => ?_) (fun hx7 => ?_)
      · refine af_tin K 62 7 hx dX5_of_27 (by decide) (by decide) rfl rfl ?_
        refine af_aload_n K 63 dX5_of_62 rfl rfl ?_
        refine af_iload_n K 64 dX5_of_63 rfl rfl ?_
        refine af_callV_i K (b := 26) (vs := [.int x1]) mv_X5_says lk_809 ((hp_at _ (Nat.le_of_ble_eq_true rfl)).trans rfl) rfl 67 dX5_of_64 rfl rfl rfl rfl (A_X5_says _ _ x1 q3.2) rfl (fun q5 => ?_)
        exact af_reti K dX5_of_67
      refine af_ite (fun hx => ?_) (fun hx8 => ?_)
      · refine af_tin K 68 8 hx dX5_of_27 (by decide) (by decide) rfl rfl ?_
        refine af_aload_n K 69 dX5_of_68 rfl rfl ?_
        refine af_iload_n K 70 dX5_of_69 rfl rfl ?_
        refine af_callV_i K (b := 26) (vs := [.int x1]) mv_X5_cools lk_813 ((hp_at _ (Nat.le_of_ble_eq_true rfl)).trans rfl) rfl 73 dX5_of_70 rfl rfl rfl rfl (A_X5_cools _ _ x1 q3.2) rfl (fun q6 => ?_)
        exact af_reti K dX5_of_73
      refine af_ite (fun hx => ?_) (fun hx9 => ?_)
      · refine af_tin K 74 9 hx dX5_of_27 (by decide) (by decide) rfl rfl ?_
        refine af_aload_n K 75 dX5_of_74 rfl rfl ?_
        refine af_iload_n K 76 dX5_of_75 rfl rfl ?_
        refine af_callV_i K (b := 26) (vs := [.int x1]) mv_X5_boils lk_817 ((hp_at _ (Nat.le_of_ble_eq_true rfl)).trans rfl) rfl 79 dX5_of_76 rfl rfl rfl rfl (A_X5_boils _ _ x1 q3.2) rfl (fun q7 => ?_)
        exact af_reti K dX5_of_79
      refine af_tout K 80 dX5_of_27 (tsw_6_9 hx6 hx7 hx8 hx9) rfl ?_
      refine af_aload_n K 81 dX5_of_80 rfl rfl ?_
      refine af_iload_n K 82 dX5_of_81 rfl rfl ?_
      refine af_iload_n K 83 dX5_of_82 rfl rfl ?_
      refine af_callV_i K (b := 26) (vs := [.int x1, .int x2]) mv_X5_its lk_802 ((hp_at _ (Nat.le_of_ble_eq_true rfl)).trans rfl) rfl 86 dX5_of_83 rfl rfl rfl rfl (A_X5_its _ _ x1 x2 q3.2) rfl (fun q8 => ?_)
      exact af_reti K dX5_of_86
    · refine af_aload_n K 21 dX5_of_20 rfl rfl ?_
      refine af_iconst K 22 dX5_of_21 rfl cs_iconst_0 ?_
      refine af_callV_i K (b := 26) (vs := [.int 0]) mv_X5_finds lk_760 ((hp_at _ (Nat.le_of_ble_eq_true rfl)).trans rfl) rfl 25 dX5_of_22 rfl rfl rfl rfl (A_X5_finds _ _ 0 q3.2) rfl (fun q9 => ?_)
      exact af_reti K dX5_of_25
def F_X5_mostOf (x0 : Int32) (σ : fk_T) : Option (Int32 × fk_T) := if x0 = 0 then (some (6, σ)) else (if 4 ≤ x0 then (some (9999, σ)) else (some (99, σ)))
set_option maxRecDepth 100000 in
set_option maxHeartbeats 4000000 in
theorem A_X5_mostOf (X : aw_X) (l : Launch) (x0 : Int32) (σ : fk_T) : af_G X l mX5_mostOf [.int x0] (hp σ) ρi (F_X5_mostOf x0 σ) := by
  refine af_mk (by decide) rfl (fun q _ => aw_oki q) [some (.int x0)] rfl ?_
  rintro cx rfl rfl hN K
  replace hN : aw_nL cx = 1 := hN
  replace K : aw_K cx cX5_mostOf RX5 rX5_mostOf := K
  unfold F_X5_mostOf
  refine af_iload_n K 1 dX5_mostOf_0 rfl rfl ?_
  refine af_if_ne K 4 9 dX5_mostOf_1 rfl rfl (fun _ => ?_) (fun _ => ?_)
  · refine af_iload_n K 10 dX5_mostOf_9 rfl rfl ?_
    refine af_iconst K 11 dX5_mostOf_10 rfl cs_iconst_4 ?_
    refine af_icmp_ge K 14 19 dX5_mostOf_11 rfl rfl (fun _ => ?_) (fun _ => ?_)
    · refine af_sipush K 22 dX5_mostOf_19 rfl cs_sipush_9999 ?_
      exact af_reti K dX5_mostOf_22
    · refine af_bipush K 16 dX5_mostOf_14 rfl cs_bipush_99 ?_
      refine af_goto K 22 dX5_mostOf_16 rfl ?_
      exact af_reti K dX5_mostOf_22
  · refine af_bipush K 6 dX5_mostOf_4 rfl cs_bipush_6 ?_
    refine af_goto K 22 dX5_mostOf_6 rfl ?_
    exact af_reti K dX5_mostOf_22
def F_X5_change (x1 : Int32) (x2 : Int32) (x3 : Int32) (σ : fk_T) : Option (Int32 × fk_T) := (F_X5_isPotter x1 σ).bind (fun q1 => if (fk_b q1.1) = 0 then ((F_X5_finds 0 q1.2).bind (fun q2 => some (q2.1, q2.2))) else ((F_X5_in (x2.toInt64) 0 5 q1.2).bind (fun q3 => if (fk_b q3.1) = 0 then ((F_X5_finds 0 q3.2).bind (fun q4 => some (q4.1, q4.2))) else ((F_X5_mostOf x2 q3.2).bind (fun q5 => (F_X5_in (x3.toInt64) 0 (q5.1.toInt64) q5.2).bind (fun q6 => if (fk_b q6.1) = 0 then ((F_X5_finds 0 q6.2).bind (fun q7 => some (q7.1, q7.2))) else ((F_X5_becomes ((13 + (8 * x2)) + x1) x3 q6.2).bind (fun q8 => some (q8.1, q8.2)))))))))
set_option maxRecDepth 100000 in
set_option maxHeartbeats 4000000 in
theorem A_X5_change (X : aw_X) (l : Launch) (x1 : Int32) (x2 : Int32) (x3 : Int32) (σ : fk_T) : af_G X l mX5_change [.ref 26, .int x1, .int x2, .int x3] (hp σ) ρi (F_X5_change x1 x2 x3 σ) := by
  refine af_mk (by decide) rfl (fun q _ => aw_oki q) [some (.ref 26), some (.int x1), some (.int x2), some (.int x3)] rfl ?_
  rintro cx rfl rfl hN K
  replace hN : aw_nL cx = 4 := hN
  replace K : aw_K cx cX5_change RX5 rX5_change := K
  unfold F_X5_change
  refine af_aload_n K 1 dX5_change_0 rfl rfl ?_
  refine af_iload_n K 2 dX5_change_1 rfl rfl ?_
  refine af_callV_z K (b := 26) (vs := [.int x1]) mv_X5_isPotter lk_793 ((hp_at _ (Nat.le_of_ble_eq_true rfl)).trans rfl) rfl 5 dX5_change_2 rfl rfl rfl rfl (A_X5_isPotter _ _ x1 σ) rfl (fun q1 => ?_)
  refine af_if_eq K 8 51 dX5_change_5 rfl rfl (fun _ => ?_) (fun _ => ?_)
  · refine af_aload_n K 52 dX5_change_51 rfl rfl ?_
    refine af_iconst K 53 dX5_change_52 rfl cs_iconst_0 ?_
    refine af_callV_i K (b := 26) (vs := [.int 0]) mv_X5_finds lk_760 ((hp_at _ (Nat.le_of_ble_eq_true rfl)).trans rfl) rfl 56 dX5_change_53 rfl rfl rfl rfl (A_X5_finds _ _ 0 q1.2) rfl (fun q2 => ?_)
    exact af_reti K dX5_change_56
  · refine af_iload_n K 9 dX5_change_8 rfl rfl ?_
    refine af_i2l K 10 dX5_change_9 rfl ?_
    refine af_lconst K 11 dX5_change_10 rfl cs_lconst_0 ?_
    refine af_ldc2 K 14 dX5_change_11 rfl lk_769 ?_
    refine af_callS_z K (vs := [.long (x2.toInt64), .long 0, .long 5]) ms_X5_in lk_753 17 dX5_change_14 rfl rfl rfl rfl (A_X5_in _ _ (x2.toInt64) 0 5 q1.2) rfl (fun q3 => ?_)
    refine af_if_eq K 20 51 dX5_change_17 rfl rfl (fun _ => ?_) (fun _ => ?_)
    · refine af_aload_n K 52 dX5_change_51 rfl rfl ?_
      refine af_iconst K 53 dX5_change_52 rfl cs_iconst_0 ?_
      refine af_callV_i K (b := 26) (vs := [.int 0]) mv_X5_finds lk_760 ((hp_at _ (Nat.le_of_ble_eq_true rfl)).trans rfl) rfl 56 dX5_change_53 rfl rfl rfl rfl (A_X5_finds _ _ 0 q3.2) rfl (fun q4 => ?_)
      exact af_reti K dX5_change_56
    · refine af_iload_n K 21 dX5_change_20 rfl rfl ?_
      refine af_i2l K 22 dX5_change_21 rfl ?_
      refine af_lconst K 23 dX5_change_22 rfl cs_lconst_0 ?_
      refine af_iload_n K 24 dX5_change_23 rfl rfl ?_
      refine af_callS_i K (vs := [.int x2]) ms_X5_mostOf lk_825 27 dX5_change_24 rfl rfl rfl rfl (A_X5_mostOf _ _ x2 q3.2) rfl (fun q5 => ?_)
      refine af_i2l K 28 dX5_change_27 rfl ?_
      refine af_callS_z K (vs := [.long (x3.toInt64), .long 0, .long (q5.1.toInt64)]) ms_X5_in lk_753 31 dX5_change_28 rfl rfl rfl rfl (A_X5_in _ _ (x3.toInt64) 0 (q5.1.toInt64) q5.2) rfl (fun q6 => ?_)
      refine af_if_eq K 34 51 dX5_change_31 rfl rfl (fun _ => ?_) (fun _ => ?_)
      · refine af_aload_n K 52 dX5_change_51 rfl rfl ?_
        refine af_iconst K 53 dX5_change_52 rfl cs_iconst_0 ?_
        refine af_callV_i K (b := 26) (vs := [.int 0]) mv_X5_finds lk_760 ((hp_at _ (Nat.le_of_ble_eq_true rfl)).trans rfl) rfl 56 dX5_change_53 rfl rfl rfl rfl (A_X5_finds _ _ 0 q6.2) rfl (fun q7 => ?_)
        exact af_reti K dX5_change_56
      · refine af_aload_n K 35 dX5_change_34 rfl rfl ?_
        refine af_bipush K 37 dX5_change_35 rfl cs_bipush_13 ?_
        refine af_bipush K 39 dX5_change_37 rfl cs_bipush_8 ?_
        refine af_iload_n K 40 dX5_change_39 rfl rfl ?_
        refine af_imul K 41 dX5_change_40 rfl ?_
        refine af_iadd K 42 dX5_change_41 rfl ?_
        refine af_iload_n K 43 dX5_change_42 rfl rfl ?_
        refine af_iadd K 44 dX5_change_43 rfl ?_
        refine af_iload_n K 45 dX5_change_44 rfl rfl ?_
        refine af_callV_i K (b := 26) (vs := [.int ((13 + (8 * x2)) + x1), .int x3]) mv_X5_becomes lk_756 ((hp_at _ (Nat.le_of_ble_eq_true rfl)).trans rfl) rfl 48 dX5_change_45 rfl rfl rfl rfl (A_X5_becomes _ _ ((13 + (8 * x2)) + x1) x3 q6.2) rfl (fun q8 => ?_)
        refine af_goto K 56 dX5_change_48 rfl ?_
        exact af_reti K dX5_change_56
def F_X5_rift (x1 : Int32) (x2 : Int32) (x3 : Int32) (σ : fk_T) : Option (Int32 × fk_T) := (F_X5_areTwo x1 x2 σ).bind (fun q1 => if (fk_b q1.1) = 0 then ((F_X5_finds 0 q1.2).bind (fun q2 => some (q2.1, q2.2))) else ((F_X5_in (x3.toInt64) 0 99 q1.2).bind (fun q3 => if (fk_b q3.1) = 0 then ((F_X5_finds 0 q3.2).bind (fun q4 => some (q4.1, q4.2))) else ((F_X5_between x1 x2 q3.2).bind (fun q5 => (F_X5_becomes q5.1 x3 q5.2).bind (fun q6 => some (q6.1, q6.2)))))))
set_option maxRecDepth 100000 in
set_option maxHeartbeats 4000000 in
theorem A_X5_rift (X : aw_X) (l : Launch) (x1 : Int32) (x2 : Int32) (x3 : Int32) (σ : fk_T) : af_G X l mX5_rift [.ref 26, .int x1, .int x2, .int x3] (hp σ) ρi (F_X5_rift x1 x2 x3 σ) := by
  refine af_mk (by decide) rfl (fun q _ => aw_oki q) [some (.ref 26), some (.int x1), some (.int x2), some (.int x3)] rfl ?_
  rintro cx rfl rfl hN K
  replace hN : aw_nL cx = 4 := hN
  replace K : aw_K cx cX5_rift RX5 rX5_rift := K
  unfold F_X5_rift
  refine af_aload_n K 1 dX5_rift_0 rfl rfl ?_
  refine af_iload_n K 2 dX5_rift_1 rfl rfl ?_
  refine af_iload_n K 3 dX5_rift_2 rfl rfl ?_
  refine af_callV_z K (b := 26) (vs := [.int x1, .int x2]) mv_X5_areTwo lk_832 ((hp_at _ (Nat.le_of_ble_eq_true rfl)).trans rfl) rfl 6 dX5_rift_3 rfl rfl rfl rfl (A_X5_areTwo _ _ x1 x2 σ) rfl (fun q1 => ?_)
  refine af_if_eq K 9 34 dX5_rift_6 rfl rfl (fun _ => ?_) (fun _ => ?_)
  · refine af_aload_n K 35 dX5_rift_34 rfl rfl ?_
    refine af_iconst K 36 dX5_rift_35 rfl cs_iconst_0 ?_
    refine af_callV_i K (b := 26) (vs := [.int 0]) mv_X5_finds lk_760 ((hp_at _ (Nat.le_of_ble_eq_true rfl)).trans rfl) rfl 39 dX5_rift_36 rfl rfl rfl rfl (A_X5_finds _ _ 0 q1.2) rfl (fun q2 => ?_)
    exact af_reti K dX5_rift_39
  · refine af_iload_n K 10 dX5_rift_9 rfl rfl ?_
    refine af_i2l K 11 dX5_rift_10 rfl ?_
    refine af_lconst K 12 dX5_rift_11 rfl cs_lconst_0 ?_
    refine af_ldc2 K 15 dX5_rift_12 rfl lk_780 ?_
    refine af_callS_z K (vs := [.long (x3.toInt64), .long 0, .long 99]) ms_X5_in lk_753 18 dX5_rift_15 rfl rfl rfl rfl (A_X5_in _ _ (x3.toInt64) 0 99 q1.2) rfl (fun q3 => ?_)
    refine af_if_eq K 21 34 dX5_rift_18 rfl rfl (fun _ => ?_) (fun _ => ?_)
    · refine af_aload_n K 35 dX5_rift_34 rfl rfl ?_
      refine af_iconst K 36 dX5_rift_35 rfl cs_iconst_0 ?_
      refine af_callV_i K (b := 26) (vs := [.int 0]) mv_X5_finds lk_760 ((hp_at _ (Nat.le_of_ble_eq_true rfl)).trans rfl) rfl 39 dX5_rift_36 rfl rfl rfl rfl (A_X5_finds _ _ 0 q3.2) rfl (fun q4 => ?_)
      exact af_reti K dX5_rift_39
    · refine af_aload_n K 22 dX5_rift_21 rfl rfl ?_
      refine af_iload_n K 23 dX5_rift_22 rfl rfl ?_
      refine af_iload_n K 24 dX5_rift_23 rfl rfl ?_
      refine af_callS_i K (vs := [.int x1, .int x2]) ms_X5_between lk_836 27 dX5_rift_24 rfl rfl rfl rfl (A_X5_between _ _ x1 x2 q3.2) rfl (fun q5 => ?_)
      refine af_iload_n K 28 dX5_rift_27 rfl rfl ?_
      refine af_callV_i K (b := 26) (vs := [.int q5.1, .int x3]) mv_X5_becomes lk_756 ((hp_at _ (Nat.le_of_ble_eq_true rfl)).trans rfl) rfl 31 dX5_rift_28 rfl rfl rfl rfl (A_X5_becomes _ _ q5.1 x3 q5.2) rfl (fun q6 => ?_)
      refine af_goto K 39 dX5_rift_31 rfl ?_
      exact af_reti K dX5_rift_39
def F_X5_two (x1 : Int32) (x2 : Int32) (x3 : Int32) (σ : fk_T) : Option (Int32 × fk_T) := (F_X5_areTwo x1 x2 σ).bind (fun q1 => if (fk_b q1.1) = 0 then ((F_X5_finds 0 q1.2).bind (fun q2 => some (q2.1, q2.2))) else ((F_X5_in (x3.toInt64) 0 3 q1.2).bind (fun q3 => if (fk_b q3.1) = 0 then ((F_X5_finds 0 q3.2).bind (fun q9 => some (q9.1, q9.2))) else (if x3 = 0 then ((F_X5_between x1 x2 q3.2).bind (fun q7 => fk_A (q7.2.1 27) 135 q7.1 (fun y8 => some (y8, q7.2)))) else (if x3 = 1 then ((F_X5_rises x1 x2 q3.2).bind (fun q6 => some (q6.1, q6.2))) else (if x3 = 2 then ((F_X5_leans x1 x2 q3.2).bind (fun q5 => some (q5.1, q5.2))) else ((F_X5_isFlop x1 x2 q3.2).bind (fun q4 => if (fk_b q4.1) = 0 then (some (0, q4.2)) else (some (1, q4.2))))))))))
set_option maxRecDepth 100000 in
set_option maxHeartbeats 4000000 in
theorem A_X5_two (X : aw_X) (l : Launch) (x1 : Int32) (x2 : Int32) (x3 : Int32) (σ : fk_T) : af_G X l mX5_two [.ref 26, .int x1, .int x2, .int x3] (hp σ) ρi (F_X5_two x1 x2 x3 σ) := by
  refine af_mk (by decide) rfl (fun q _ => aw_oki q) [some (.ref 26), some (.int x1), some (.int x2), some (.int x3)] rfl ?_
  rintro cx rfl rfl hN K
  replace hN : aw_nL cx = 4 := hN
  replace K : aw_K cx cX5_two RX5 rX5_two := K
  unfold F_X5_two
  refine af_aload_n K 1 dX5_two_0 rfl rfl ?_
  refine af_iload_n K 2 dX5_two_1 rfl rfl ?_
  refine af_iload_n K 3 dX5_two_2 rfl rfl ?_
  refine af_callV_z K (b := 26) (vs := [.int x1, .int x2]) mv_X5_areTwo lk_832 ((hp_at _ (Nat.le_of_ble_eq_true rfl)).trans rfl) rfl 6 dX5_two_3 rfl rfl rfl rfl (A_X5_areTwo _ _ x1 x2 σ) rfl (fun q1 => ?_)
  refine af_if_eq K 9 21 dX5_two_6 rfl rfl (fun _ => ?_) (fun _ => ?_)
  · refine af_aload_n K 22 dX5_two_21 rfl rfl ?_
    refine af_iconst K 23 dX5_two_22 rfl cs_iconst_0 ?_
    refine af_callV_i K (b := 26) (vs := [.int 0]) mv_X5_finds lk_760 ((hp_at _ (Nat.le_of_ble_eq_true rfl)).trans rfl) rfl 26 dX5_two_23 rfl rfl rfl rfl (A_X5_finds _ _ 0 q1.2) rfl (fun q2 => ?_)
    exact af_reti K dX5_two_26
  · refine af_iload_n K 10 dX5_two_9 rfl rfl ?_
    refine af_i2l K 11 dX5_two_10 rfl ?_
    refine af_lconst K 12 dX5_two_11 rfl cs_lconst_0 ?_
    refine af_ldc2 K 15 dX5_two_12 rfl lk_843 ?_
    refine af_callS_z K (vs := [.long (x3.toInt64), .long 0, .long 3]) ms_X5_in lk_753 18 dX5_two_15 rfl rfl rfl rfl (A_X5_in _ _ (x3.toInt64) 0 3 q1.2) rfl (fun q3 => ?_)
    refine af_if_ne K 21 27 dX5_two_18 rfl rfl (fun _ => ?_) (fun _ => ?_)
    · refine af_iload_n K 28 dX5_two_27 rfl rfl ?_
      refine af_if_ne K 31 44 dX5_two_28 rfl rfl (fun _ => ?_) (fun _ => ?_)
      · refine af_iload_n K 45 dX5_two_44 rfl rfl ?_
        refine af_iconst K 46 dX5_two_45 rfl cs_iconst_1 ?_
        refine af_icmp_ne K 49 58 dX5_two_46 rfl rfl (fun _ => ?_) (fun _ => ?_)
        · refine af_iload_n K 59 dX5_two_58 rfl rfl ?_
          refine af_iconst K 60 dX5_two_59 rfl cs_iconst_2 ?_
          refine af_icmp_ne K 63 72 dX5_two_60 rfl rfl (fun _ => ?_) (fun _ => ?_)
          · refine af_aload_n K 73 dX5_two_72 rfl rfl ?_
            refine af_iload_n K 74 dX5_two_73 rfl rfl ?_
            refine af_iload_n K 75 dX5_two_74 rfl rfl ?_
            refine af_callV_z K (b := 26) (vs := [.int x1, .int x2]) mv_X5_isFlop lk_852 ((hp_at _ (Nat.le_of_ble_eq_true rfl)).trans rfl) rfl 78 dX5_two_75 rfl rfl rfl rfl (A_X5_isFlop _ _ x1 x2 q3.2) rfl (fun q4 => ?_)
            refine af_if_eq K 81 85 dX5_two_78 rfl rfl (fun _ => ?_) (fun _ => ?_)
            · refine af_iconst K 86 dX5_two_85 rfl cs_iconst_0 ?_
              exact af_reti K dX5_two_86
            · refine af_iconst K 82 dX5_two_81 rfl cs_iconst_1 ?_
              refine af_goto K 86 dX5_two_82 rfl ?_
              exact af_reti K dX5_two_86
          · refine af_aload_n K 64 dX5_two_63 rfl rfl ?_
            refine af_iload_n K 65 dX5_two_64 rfl rfl ?_
            refine af_iload_n K 66 dX5_two_65 rfl rfl ?_
            refine af_callV_i K (b := 26) (vs := [.int x1, .int x2]) mv_X5_leans lk_848 ((hp_at _ (Nat.le_of_ble_eq_true rfl)).trans rfl) rfl 69 dX5_two_66 rfl rfl rfl rfl (A_X5_leans _ _ x1 x2 q3.2) rfl (fun q5 => ?_)
            refine af_goto K 86 dX5_two_69 rfl ?_
            exact af_reti K dX5_two_86
        · refine af_aload_n K 50 dX5_two_49 rfl rfl ?_
          refine af_iload_n K 51 dX5_two_50 rfl rfl ?_
          refine af_iload_n K 52 dX5_two_51 rfl rfl ?_
          refine af_callV_i K (b := 26) (vs := [.int x1, .int x2]) mv_X5_rises lk_844 ((hp_at _ (Nat.le_of_ble_eq_true rfl)).trans rfl) rfl 55 dX5_two_52 rfl rfl rfl rfl (A_X5_rises _ _ x1 x2 q3.2) rfl (fun q6 => ?_)
          refine af_goto K 86 dX5_two_55 rfl ?_
          exact af_reti K dX5_two_86
      · refine af_aload_n K 32 dX5_two_31 rfl rfl ?_
        refine af_get K 35 dX5_two_32 rfl fl_X5_7 (Nat.le_of_ble_eq_true rfl) rfl rfl ?_
        refine af_iload_n K 36 dX5_two_35 rfl rfl ?_
        refine af_iload_n K 37 dX5_two_36 rfl rfl ?_
        refine af_callS_i K (vs := [.int x1, .int x2]) ms_X5_between lk_836 40 dX5_two_37 rfl rfl rfl rfl (A_X5_between _ _ x1 x2 q3.2) rfl (fun q7 => ?_)
        refine af_iald K 41 dX5_two_40 rfl (Nat.le_of_ble_eq_true rfl) rfl (fun y8 => ?_)
        refine af_goto K 86 dX5_two_41 rfl ?_
        exact af_reti K dX5_two_86
    · refine af_aload_n K 22 dX5_two_21 rfl rfl ?_
      refine af_iconst K 23 dX5_two_22 rfl cs_iconst_0 ?_
      refine af_callV_i K (b := 26) (vs := [.int 0]) mv_X5_finds lk_760 ((hp_at _ (Nat.le_of_ble_eq_true rfl)).trans rfl) rfl 26 dX5_two_23 rfl rfl rfl rfl (A_X5_finds _ _ 0 q3.2) rfl (fun q9 => ?_)
      exact af_reti K dX5_two_26
def F_X5_go (x1 : Int32) (σ : fk_T) : Option (Int32 × fk_T) := (F_X5_in (x1.toInt64) 1 60 σ).bind (fun q1 => if (fk_b q1.1) = 0 then ((F_X5_finds 0 q1.2).bind (fun q6 => some (q6.1, q6.2))) else (fk_A (q1.2.1 27) 135 1 (fun y2 => if (y2 + x1) ≤ 99999 then ((F_X5_daysGo x1 q1.2).bind (fun q3 => fk_A (q3.1 27) 135 4 (fun y4 => some (y4, q3)))) else ((F_X5_finds 4 q1.2).bind (fun q5 => some (q5.1, q5.2))))))
set_option maxRecDepth 100000 in
set_option maxHeartbeats 4000000 in
theorem A_X5_go (X : aw_X) (l : Launch) (x1 : Int32) (σ : fk_T) : af_G X l mX5_go [.ref 26, .int x1] (hp σ) ρi (F_X5_go x1 σ) := by
  refine af_mk (by decide) rfl (fun q _ => aw_oki q) [some (.ref 26), some (.int x1)] rfl ?_
  rintro cx rfl rfl hN K
  replace hN : aw_nL cx = 2 := hN
  replace K : aw_K cx cX5_go RX5 rX5_go := K
  unfold F_X5_go
  refine af_iload_n K 1 dX5_go_0 rfl rfl ?_
  refine af_i2l K 2 dX5_go_1 rfl ?_
  refine af_lconst K 3 dX5_go_2 rfl cs_lconst_1 ?_
  refine af_ldc2 K 6 dX5_go_3 rfl lk_863 ?_
  refine af_callS_z K (vs := [.long (x1.toInt64), .long 1, .long 60]) ms_X5_in lk_753 9 dX5_go_6 rfl rfl rfl rfl (A_X5_in _ _ (x1.toInt64) 1 60 σ) rfl (fun q1 => ?_)
  refine af_if_ne K 12 18 dX5_go_9 rfl rfl (fun _ => ?_) (fun _ => ?_)
  · refine af_aload_n K 19 dX5_go_18 rfl rfl ?_
    refine af_get K 22 dX5_go_19 rfl fl_X5_7 (Nat.le_of_ble_eq_true rfl) rfl rfl ?_
    refine af_iconst K 23 dX5_go_22 rfl cs_iconst_1 ?_
    refine af_iald K 24 dX5_go_23 rfl (Nat.le_of_ble_eq_true rfl) rfl (fun y2 => ?_)
    refine af_iload_n K 25 dX5_go_24 rfl rfl ?_
    refine af_iadd K 26 dX5_go_25 rfl ?_
    refine af_ldc K 28 dX5_go_26 rfl lk_864 ?_
    refine af_icmp_le K 31 37 dX5_go_28 rfl rfl (fun _ => ?_) (fun _ => ?_)
    · refine af_aload_n K 38 dX5_go_37 rfl rfl ?_
      refine af_iload_n K 39 dX5_go_38 rfl rfl ?_
      refine af_callV_v K (b := 26) (vs := [.int x1]) mv_X5_daysGo lk_865 ((hp_at _ (Nat.le_of_ble_eq_true rfl)).trans rfl) rfl 42 dX5_go_39 rfl rfl rfl rfl (A_X5_daysGo _ _ x1 q1.2) rfl (fun q3 => ?_)
      refine af_aload_n K 43 dX5_go_42 rfl rfl ?_
      refine af_get K 46 dX5_go_43 rfl fl_X5_7 (Nat.le_of_ble_eq_true rfl) rfl rfl ?_
      refine af_iconst K 47 dX5_go_46 rfl cs_iconst_4 ?_
      refine af_iald K 48 dX5_go_47 rfl (Nat.le_of_ble_eq_true rfl) rfl (fun y4 => ?_)
      exact af_reti K dX5_go_48
    · refine af_aload_n K 32 dX5_go_31 rfl rfl ?_
      refine af_iconst K 33 dX5_go_32 rfl cs_iconst_4 ?_
      refine af_callV_i K (b := 26) (vs := [.int 4]) mv_X5_finds lk_760 ((hp_at _ (Nat.le_of_ble_eq_true rfl)).trans rfl) rfl 36 dX5_go_33 rfl rfl rfl rfl (A_X5_finds _ _ 4 q1.2) rfl (fun q5 => ?_)
      exact af_reti K dX5_go_36
  · refine af_aload_n K 13 dX5_go_12 rfl rfl ?_
    refine af_iconst K 14 dX5_go_13 rfl cs_iconst_0 ?_
    refine af_callV_i K (b := 26) (vs := [.int 0]) mv_X5_finds lk_760 ((hp_at _ (Nat.le_of_ble_eq_true rfl)).trans rfl) rfl 17 dX5_go_14 rfl rfl rfl rfl (A_X5_finds _ _ 0 q1.2) rfl (fun q6 => ?_)
    exact af_reti K dX5_go_17
def L_X5_farthest_18  : Nat → Int32 → Int32 → Int32 → fk_T → (Int32 → Int32 → Int32 → fk_T → Option (Int32 × fk_T)) → Option (Int32 × fk_T)
  | 0, _, _, _, _, _ => none
  | fu + 1, x1, x2, x3, σ, k => fk_A (σ.1 27) 135 0 (fun y3 => if y3 ≤ x3 then (k x1 x2 x3 σ) else (if x1 < 0 then (fk_B ((8 * x2) + x3) (fun y4 => fk_B (x3 + 1) (fun y5 => L_X5_farthest_18 fu y4 x2 y5 σ k))) else (fk_A (σ.1 27) 135 ((61 + (8 * x2)) + x3) (fun y6 => fk_A (σ.1 27) 135 (61 + x1) (fun y7 => if y6 ≤ y7 then (fk_B (x3 + 1) (fun y8 => L_X5_farthest_18 fu x1 x2 y8 σ k)) else (fk_B ((8 * x2) + x3) (fun y9 => fk_B (x3 + 1) (fun y10 => L_X5_farthest_18 fu y9 x2 y10 σ k))))))))
def L_X5_farthest_4  : Nat → Int32 → Int32 → fk_T → (Int32 → Int32 → fk_T → Option (Int32 × fk_T)) → Option (Int32 × fk_T)
  | 0, _, _, _, _ => none
  | fu + 1, x1, x2, σ, k => fk_A (σ.1 27) 135 0 (fun y1 => if y1 ≤ x2 then (k x1 x2 σ) else (fk_B (x2 + 1) (fun y2 => L_X5_farthest_18 fk_N x1 x2 y2 σ (fun y12 y13 y14 s11 => fk_B (y13 + 1) (fun y15 => L_X5_farthest_4 fu y12 y15 s11 k)))))
def F_X5_farthest  (σ : fk_T) : Option (Int32 × fk_T) := L_X5_farthest_4 fk_N (-1) 0 σ (fun y17 y18 s16 => some (y17, s16))
set_option maxRecDepth 100000 in
set_option maxHeartbeats 4000000 in
theorem W_X5_farthest_18 {cx : aw_C} (hN : aw_nL cx = 4) (K : aw_K cx cX5_farthest RX5 rX5_farthest)  : ∀ (fu : Nat) (x1 : Int32) (x2 : Int32) (x3 : Int32) (σ : fk_T) (k : Int32 → Int32 → Int32 → fk_T → Option (Int32 × fk_T)), (∀ (x1 : Int32) (x2 : Int32) (x3 : Int32) (σ : fk_T), af cx ρi 75 [some (.ref 26), some (.int x1), some (.int x2), some (.int x3)] [] (hp σ) (k x1 x2 x3 σ)) → af cx ρi 18 [some (.ref 26), some (.int x1), some (.int x2), some (.int x3)] [] (hp σ) (L_X5_farthest_18 fu x1 x2 x3 σ k) := by
  intro fu
  induction fu with
  | zero => intros; exact af_none
  | succ fu ih18 =>
    intro x1 x2 x3 σ k hk18
    rw [L_X5_farthest_18]
    refine af_iload_n K 19 dX5_farthest_18 rfl rfl ?_
    refine af_aload_n K 20 dX5_farthest_19 rfl rfl ?_
    refine af_get K 23 dX5_farthest_20 rfl fl_X5_7 (Nat.le_of_ble_eq_true rfl) rfl rfl ?_
    refine af_iconst K 24 dX5_farthest_23 rfl cs_iconst_0 ?_
    refine af_iald K 25 dX5_farthest_24 rfl (Nat.le_of_ble_eq_true rfl) rfl (fun y3 => ?_)
    refine af_icmp_ge K 28 75 dX5_farthest_25 rfl rfl (fun _ => ?_) (fun _ => ?_)
    · refine af_lm [true, true, true, true] rfl ?_
      exact hk18 _ _ _ _
    · refine af_iload_n K 29 dX5_farthest_28 rfl rfl ?_
      refine af_if_lt K 32 58 dX5_farthest_29 rfl rfl (fun _ => ?_) (fun _ => ?_)
      · refine af_bipush K 60 dX5_farthest_58 rfl cs_bipush_8 ?_
        refine af_iload_n K 61 dX5_farthest_60 rfl rfl ?_
        refine af_imul K 62 dX5_farthest_61 rfl ?_
        refine af_iload_n K 63 dX5_farthest_62 rfl rfl ?_
        refine af_iadd K 64 dX5_farthest_63 rfl ?_
        refine af_goto K 68 dX5_farthest_64 rfl ?_
        refine af_Bi (fun y4 => ?_)
        refine af_istore_n K 69 [some (.ref 26), some (.int y4), some (.int x2), some (.int x3)] dX5_farthest_68 rfl (by rw [hN]; exact Nat.le_of_ble_eq_true rfl) rfl ?_
        refine af_iincB K 72 (fun yy => [some (.ref 26), some (.int y4), some (.int x2), some (.int yy)]) dX5_farthest_69 rfl (by rw [hN]; exact Nat.le_of_ble_eq_true rfl) rfl cs_iconst_1 (fun _ => rfl) (fun y5 => ?_)
        refine af_goto K 18 dX5_farthest_72 rfl ?_
        refine af_lm [true, true, true, true] rfl ?_
        exact ih18 _ _ _ _ _ hk18
      · refine af_aload_n K 33 dX5_farthest_32 rfl rfl ?_
        refine af_get K 36 dX5_farthest_33 rfl fl_X5_7 (Nat.le_of_ble_eq_true rfl) rfl rfl ?_
        refine af_bipush K 38 dX5_farthest_36 rfl cs_bipush_61 ?_
        refine af_bipush K 40 dX5_farthest_38 rfl cs_bipush_8 ?_
        refine af_iload_n K 41 dX5_farthest_40 rfl rfl ?_
        refine af_imul K 42 dX5_farthest_41 rfl ?_
        refine af_iadd K 43 dX5_farthest_42 rfl ?_
        refine af_iload_n K 44 dX5_farthest_43 rfl rfl ?_
        refine af_iadd K 45 dX5_farthest_44 rfl ?_
        refine af_iald K 46 dX5_farthest_45 rfl (Nat.le_of_ble_eq_true rfl) rfl (fun y6 => ?_)
        refine af_aload_n K 47 dX5_farthest_46 rfl rfl ?_
        refine af_get K 50 dX5_farthest_47 rfl fl_X5_7 (Nat.le_of_ble_eq_true rfl) rfl rfl ?_
        refine af_bipush K 52 dX5_farthest_50 rfl cs_bipush_61 ?_
        refine af_iload_n K 53 dX5_farthest_52 rfl rfl ?_
        refine af_iadd K 54 dX5_farthest_53 rfl ?_
        refine af_iald K 55 dX5_farthest_54 rfl (Nat.le_of_ble_eq_true rfl) rfl (fun y7 => ?_)
        refine af_icmp_le K 58 67 dX5_farthest_55 rfl rfl (fun _ => ?_) (fun _ => ?_)
        · refine af_iload_n K 68 dX5_farthest_67 rfl rfl ?_
          refine af_istore_n K 69 [some (.ref 26), some (.int x1), some (.int x2), some (.int x3)] dX5_farthest_68 rfl (by rw [hN]; exact Nat.le_of_ble_eq_true rfl) rfl ?_
          refine af_iincB K 72 (fun yy => [some (.ref 26), some (.int x1), some (.int x2), some (.int yy)]) dX5_farthest_69 rfl (by rw [hN]; exact Nat.le_of_ble_eq_true rfl) rfl cs_iconst_1 (fun _ => rfl) (fun y8 => ?_)
          refine af_goto K 18 dX5_farthest_72 rfl ?_
          refine af_lm [true, true, true, true] rfl ?_
          exact ih18 _ _ _ _ _ hk18
        · refine af_bipush K 60 dX5_farthest_58 rfl cs_bipush_8 ?_
          refine af_iload_n K 61 dX5_farthest_60 rfl rfl ?_
          refine af_imul K 62 dX5_farthest_61 rfl ?_
          refine af_iload_n K 63 dX5_farthest_62 rfl rfl ?_
          refine af_iadd K 64 dX5_farthest_63 rfl ?_
          refine af_goto K 68 dX5_farthest_64 rfl ?_
          refine af_Bi (fun y9 => ?_)
          refine af_istore_n K 69 [some (.ref 26), some (.int y9), some (.int x2), some (.int x3)] dX5_farthest_68 rfl (by rw [hN]; exact Nat.le_of_ble_eq_true rfl) rfl ?_
          refine af_iincB K 72 (fun yy => [some (.ref 26), some (.int y9), some (.int x2), some (.int yy)]) dX5_farthest_69 rfl (by rw [hN]; exact Nat.le_of_ble_eq_true rfl) rfl cs_iconst_1 (fun _ => rfl) (fun y10 => ?_)
          refine af_goto K 18 dX5_farthest_72 rfl ?_
          refine af_lm [true, true, true, true] rfl ?_
          exact ih18 _ _ _ _ _ hk18
set_option maxRecDepth 100000 in
set_option maxHeartbeats 4000000 in
theorem W_X5_farthest_4 {cx : aw_C} (hN : aw_nL cx = 4) (K : aw_K cx cX5_farthest RX5 rX5_farthest)  : ∀ (fu : Nat) (x1 : Int32) (x2 : Int32) (σ : fk_T) (k : Int32 → Int32 → fk_T → Option (Int32 × fk_T)), (∀ (x1 : Int32) (x2 : Int32) (σ : fk_T), af cx ρi 81 [some (.ref 26), some (.int x1), some (.int x2), none] [] (hp σ) (k x1 x2 σ)) → af cx ρi 4 [some (.ref 26), some (.int x1), some (.int x2), none] [] (hp σ) (L_X5_farthest_4 fu x1 x2 σ k) := by
  intro fu
  induction fu with
  | zero => intros; exact af_none
  | succ fu ih4 =>
    intro x1 x2 σ k hk4
    rw [L_X5_farthest_4]
    refine af_iload_n K 5 dX5_farthest_4 rfl rfl ?_
    refine af_aload_n K 6 dX5_farthest_5 rfl rfl ?_
    refine af_get K 9 dX5_farthest_6 rfl fl_X5_7 (Nat.le_of_ble_eq_true rfl) rfl rfl ?_
    refine af_iconst K 10 dX5_farthest_9 rfl cs_iconst_0 ?_
    refine af_iald K 11 dX5_farthest_10 rfl (Nat.le_of_ble_eq_true rfl) rfl (fun y1 => ?_)
    refine af_icmp_ge K 14 81 dX5_farthest_11 rfl rfl (fun _ => ?_) (fun _ => ?_)
    · refine af_lm [true, true, true, false] rfl ?_
      exact hk4 _ _ _
    · refine af_iload_n K 15 dX5_farthest_14 rfl rfl ?_
      refine af_iconst K 16 dX5_farthest_15 rfl cs_iconst_1 ?_
      refine af_iadd K 17 dX5_farthest_16 rfl ?_
      refine af_Bi (fun y2 => ?_)
      refine af_istore_n K 18 [some (.ref 26), some (.int x1), some (.int x2), some (.int y2)] dX5_farthest_17 rfl (by rw [hN]; exact Nat.le_of_ble_eq_true rfl) rfl ?_
      refine af_lm [true, true, true, true] rfl ?_
      refine W_X5_farthest_18 hN K  fk_N _ _ _ _ _ (fun y12 y13 y14 s11 => ?_)
      refine af_iincB K 78 (fun yy => [some (.ref 26), some (.int y12), some (.int yy), some (.int y14)]) dX5_farthest_75 rfl (by rw [hN]; exact Nat.le_of_ble_eq_true rfl) rfl cs_iconst_1 (fun _ => rfl) (fun y15 => ?_)
      refine af_goto K 4 dX5_farthest_78 rfl ?_
      refine af_lm [true, true, true, false] rfl ?_
      exact ih4 _ _ _ _ hk4
set_option maxRecDepth 100000 in
set_option maxHeartbeats 4000000 in
theorem A_X5_farthest (X : aw_X) (l : Launch)  (σ : fk_T) : af_G X l mX5_farthest [.ref 26] (hp σ) ρi (F_X5_farthest  σ) := by
  refine af_mk (by decide) rfl (fun q _ => aw_oki q) [some (.ref 26), none, none, none] rfl ?_
  rintro cx rfl rfl hN K
  replace hN : aw_nL cx = 4 := hN
  replace K : aw_K cx cX5_farthest RX5 rX5_farthest := K
  unfold F_X5_farthest
  refine af_iconst K 1 dX5_farthest_0 rfl cs_iconst_m1 ?_
  refine af_istore_n K 2 [some (.ref 26), some (.int (-1)), none, none] dX5_farthest_1 rfl (by rw [hN]; exact Nat.le_of_ble_eq_true rfl) rfl ?_
  refine af_iconst K 3 dX5_farthest_2 rfl cs_iconst_0 ?_
  refine af_istore_n K 4 [some (.ref 26), some (.int (-1)), some (.int 0), none] dX5_farthest_3 rfl (by rw [hN]; exact Nat.le_of_ble_eq_true rfl) rfl ?_
  refine af_lm [true, true, true, false] rfl ?_
  refine W_X5_farthest_4 hN K  fk_N _ _ _ _ (fun y17 y18 s16 => ?_)
  refine af_iload_n K 82 dX5_farthest_81 rfl rfl ?_
  exact af_reti K dX5_farthest_82
def F_X5_now (x1 : Int32) (σ : fk_T) : Option (Int32 × fk_T) := if x1 = 0 then (fk_A (σ.1 27) 135 1 (fun y1 => some (y1, σ))) else (if x1 = 1 then (fk_A (σ.1 27) 135 4 (fun y2 => some (y2, σ))) else (if x1 = 2 then (fk_A (σ.1 27) 135 5 (fun y3 => some (y3, σ))) else (if x1 = 3 then (fk_A (σ.1 27) 135 6 (fun y4 => some (y4, σ))) else (if x1 = 4 then ((F_X5_sumOf 1 σ).bind (fun q5 => some (q5.1, q5.2))) else (if x1 = 5 then ((F_X5_farthest  σ).bind (fun q6 => some (q6.1, q6.2))) else (if x1 = 6 then ((F_X5_sumOf 5 σ).bind (fun q7 => some (q7.1, q7.2))) else (if x1 = 7 then ((F_X5_todays  σ).bind (fun q8 => (F_X5_todays  q8.2).bind (fun q9 => (F_X5_areTwo (q8.1 / 10) (q9.1 - q9.1 / 10 * 10) q9.2).bind (fun q10 => if (fk_b q10.1) = 0 then (some (0, q10.2)) else (some (1, q10.2)))))) else ((F_X5_finds 0 σ).bind (fun q11 => some (q11.1, q11.2))))))))))
set_option maxRecDepth 100000 in
set_option maxHeartbeats 4000000 in
theorem A_X5_now (X : aw_X) (l : Launch) (x1 : Int32) (σ : fk_T) : af_G X l mX5_now [.ref 26, .int x1] (hp σ) ρi (F_X5_now x1 σ) := by
  refine af_mk (by decide) rfl (fun q _ => aw_oki q) [some (.ref 26), some (.int x1)] rfl ?_
  rintro cx rfl rfl hN K
  replace hN : aw_nL cx = 2 := hN
  replace K : aw_K cx cX5_now RX5 rX5_now := K
  unfold F_X5_now
  refine af_iload_n K 1 dX5_now_0 rfl rfl ?_
  refine af_ite (fun hx => ?_) (fun hx0 => ?_)
  · refine af_tin K 48 0 hx dX5_now_1 (by decide) (by decide) rfl rfl ?_
    refine af_aload_n K 49 dX5_now_48 rfl rfl ?_
    refine af_get K 52 dX5_now_49 rfl fl_X5_7 (Nat.le_of_ble_eq_true rfl) rfl rfl ?_
    refine af_iconst K 53 dX5_now_52 rfl cs_iconst_1 ?_
    refine af_iald K 54 dX5_now_53 rfl (Nat.le_of_ble_eq_true rfl) rfl (fun y1 => ?_)
    exact af_reti K dX5_now_54
  refine af_ite (fun hx => ?_) (fun hx1 => ?_)
  · refine af_tin K 55 1 hx dX5_now_1 (by decide) (by decide) rfl rfl ?_
    refine af_aload_n K 56 dX5_now_55 rfl rfl ?_
    refine af_get K 59 dX5_now_56 rfl fl_X5_7 (Nat.le_of_ble_eq_true rfl) rfl rfl ?_
    refine af_iconst K 60 dX5_now_59 rfl cs_iconst_4 ?_
    refine af_iald K 61 dX5_now_60 rfl (Nat.le_of_ble_eq_true rfl) rfl (fun y2 => ?_)
    exact af_reti K dX5_now_61
  refine af_ite (fun hx => ?_) (fun hx2 => ?_)
  · refine af_tin K 62 2 hx dX5_now_1 (by decide) (by decide) rfl rfl ?_
    refine af_aload_n K 63 dX5_now_62 rfl rfl ?_
    refine af_get K 66 dX5_now_63 rfl fl_X5_7 (Nat.le_of_ble_eq_true rfl) rfl rfl ?_
    refine af_iconst K 67 dX5_now_66 rfl cs_iconst_5 ?_
    refine af_iald K 68 dX5_now_67 rfl (Nat.le_of_ble_eq_true rfl) rfl (fun y3 => ?_)
    exact af_reti K dX5_now_68
  refine af_ite (fun hx => ?_) (fun hx3 => ?_)
  · refine af_tin K 69 3 hx dX5_now_1 (by decide) (by decide) rfl rfl ?_
    refine af_aload_n K 70 dX5_now_69 rfl rfl ?_
    refine af_get K 73 dX5_now_70 rfl fl_X5_7 (Nat.le_of_ble_eq_true rfl) rfl rfl ?_
    refine af_bipush K 75 dX5_now_73 rfl cs_bipush_6 ?_
    refine af_iald K 76 dX5_now_75 rfl (Nat.le_of_ble_eq_true rfl) rfl (fun y4 => ?_)
    exact af_reti K dX5_now_76
  refine af_ite (fun hx => ?_) (fun hx4 => ?_)
  · refine af_tin K 77 4 hx dX5_now_1 (by decide) (by decide) rfl rfl ?_
    refine af_aload_n K 78 dX5_now_77 rfl rfl ?_
    refine af_iconst K 79 dX5_now_78 rfl cs_iconst_1 ?_
    refine af_callV_i K (b := 26) (vs := [.int 1]) mv_X5_sumOf lk_897 ((hp_at _ (Nat.le_of_ble_eq_true rfl)).trans rfl) rfl 82 dX5_now_79 rfl rfl rfl rfl (A_X5_sumOf _ _ 1 σ) rfl (fun q5 => ?_)
    exact af_reti K dX5_now_82
  refine af_ite (fun hx => ?_) (fun hx5 => ?_)
  · refine af_tin K 83 5 hx dX5_now_1 (by decide) (by decide) rfl rfl ?_
    refine af_aload_n K 84 dX5_now_83 rfl rfl ?_
    refine af_callV_i K (b := 26) (vs := []) mv_X5_farthest lk_901 ((hp_at _ (Nat.le_of_ble_eq_true rfl)).trans rfl) rfl 87 dX5_now_84 rfl rfl rfl rfl (A_X5_farthest _ _ σ) rfl (fun q6 => ?_)
    exact af_reti K dX5_now_87
  refine af_ite (fun hx => ?_) (fun hx6 => ?_)
  · refine af_tin K 88 6 hx dX5_now_1 (by decide) (by decide) rfl rfl ?_
    refine af_aload_n K 89 dX5_now_88 rfl rfl ?_
    refine af_iconst K 90 dX5_now_89 rfl cs_iconst_5 ?_
    refine af_callV_i K (b := 26) (vs := [.int 5]) mv_X5_sumOf lk_897 ((hp_at _ (Nat.le_of_ble_eq_true rfl)).trans rfl) rfl 93 dX5_now_90 rfl rfl rfl rfl (A_X5_sumOf _ _ 5 σ) rfl (fun q7 => ?_)
    exact af_reti K dX5_now_93
  refine af_ite (fun hx => ?_) (fun hx7 => ?_)
  · refine af_tin K 94 7 hx dX5_now_1 (by decide) (by decide) rfl rfl ?_
    refine af_aload_n K 95 dX5_now_94 rfl rfl ?_
    refine af_aload_n K 96 dX5_now_95 rfl rfl ?_
    refine af_callV_i K (b := 26) (vs := []) mv_X5_todays lk_873 ((hp_at _ (Nat.le_of_ble_eq_true rfl)).trans rfl) rfl 99 dX5_now_96 rfl rfl rfl rfl (A_X5_todays _ _ σ) rfl (fun q8 => ?_)
    refine af_bipush K 101 dX5_now_99 rfl cs_bipush_10 ?_
    refine af_idiv K 102 dX5_now_101 rfl cs_nz_10 ?_
    refine af_aload_n K 103 dX5_now_102 rfl rfl ?_
    refine af_callV_i K (b := 26) (vs := []) mv_X5_todays lk_873 ((hp_at _ (Nat.le_of_ble_eq_true rfl)).trans rfl) rfl 106 dX5_now_103 rfl rfl rfl rfl (A_X5_todays _ _ q8.2) rfl (fun q9 => ?_)
    refine af_bipush K 108 dX5_now_106 rfl cs_bipush_10 ?_
    refine af_irem K 109 dX5_now_108 rfl cs_nz_10 ?_
    refine af_callV_z K (b := 26) (vs := [.int (q8.1 / 10), .int (q9.1 - q9.1 / 10 * 10)]) mv_X5_areTwo lk_832 ((hp_at _ (Nat.le_of_ble_eq_true rfl)).trans rfl) rfl 112 dX5_now_109 rfl rfl rfl rfl (A_X5_areTwo _ _ (q8.1 / 10) (q9.1 - q9.1 / 10 * 10) q9.2) rfl (fun q10 => ?_)
    refine af_if_eq K 115 119 dX5_now_112 rfl rfl (fun _ => ?_) (fun _ => ?_)
    · refine af_iconst K 120 dX5_now_119 rfl cs_iconst_0 ?_
      exact af_reti K dX5_now_120
    · refine af_iconst K 116 dX5_now_115 rfl cs_iconst_1 ?_
      refine af_goto K 120 dX5_now_116 rfl ?_
      exact af_reti K dX5_now_120
  refine af_tout K 121 dX5_now_1 (tsw_0_7 hx0 hx1 hx2 hx3 hx4 hx5 hx6 hx7) rfl ?_
  refine af_aload_n K 122 dX5_now_121 rfl rfl ?_
  refine af_iconst K 123 dX5_now_122 rfl cs_iconst_0 ?_
  refine af_callV_i K (b := 26) (vs := [.int 0]) mv_X5_finds lk_760 ((hp_at _ (Nat.le_of_ble_eq_true rfl)).trans rfl) rfl 126 dX5_now_123 rfl rfl rfl rfl (A_X5_finds _ _ 0 σ) rfl (fun q11 => ?_)
  exact af_reti K dX5_now_126
def F_X5_behind (x1 : Int32) (x2 : Int32) (σ : fk_T) : Option (Int32 × fk_T) := (F_X5_daysGo x1 σ).bind (fun q1 => fk_A (q1.1 27) 135 x2 (fun y2 => (F_X5_copies 29 27 q1).bind (fun q3 => some (y2, q3))))
set_option maxRecDepth 100000 in
set_option maxHeartbeats 4000000 in
theorem A_X5_behind (X : aw_X) (l : Launch) (x1 : Int32) (x2 : Int32) (σ : fk_T) : af_G X l mX5_behind [.ref 26, .int x1, .int x2] (hp σ) ρi (F_X5_behind x1 x2 σ) := by
  refine af_mk (by decide) rfl (fun q _ => aw_oki q) [some (.ref 26), some (.int x1), some (.int x2), none] rfl ?_
  rintro cx rfl rfl hN K
  replace hN : aw_nL cx = 4 := hN
  replace K : aw_K cx cX5_behind RX5 rX5_behind := K
  unfold F_X5_behind
  refine af_aload_n K 1 dX5_behind_0 rfl rfl ?_
  refine af_iload_n K 2 dX5_behind_1 rfl rfl ?_
  refine af_callV_v K (b := 26) (vs := [.int x1]) mv_X5_daysGo lk_865 ((hp_at _ (Nat.le_of_ble_eq_true rfl)).trans rfl) rfl 5 dX5_behind_2 rfl rfl rfl rfl (A_X5_daysGo _ _ x1 σ) rfl (fun q1 => ?_)
  refine af_aload_n K 6 dX5_behind_5 rfl rfl ?_
  refine af_get K 9 dX5_behind_6 rfl fl_X5_7 (Nat.le_of_ble_eq_true rfl) rfl rfl ?_
  refine af_iload_n K 10 dX5_behind_9 rfl rfl ?_
  refine af_iald K 11 dX5_behind_10 rfl (Nat.le_of_ble_eq_true rfl) rfl (fun y2 => ?_)
  refine af_istore_n K 12 [some (.ref 26), some (.int x1), some (.int x2), some (.int y2)] dX5_behind_11 rfl (by rw [hN]; exact Nat.le_of_ble_eq_true rfl) rfl ?_
  refine af_aload_n K 13 dX5_behind_12 rfl rfl ?_
  refine af_get K 16 dX5_behind_13 rfl fl_X5_16 (Nat.le_of_ble_eq_true rfl) rfl rfl ?_
  refine af_aload_n K 17 dX5_behind_16 rfl rfl ?_
  refine af_get K 20 dX5_behind_17 rfl fl_X5_7 (Nat.le_of_ble_eq_true rfl) rfl rfl ?_
  refine af_callS_v K (vs := [.ref 29, .ref 27]) ms_X5_copies lk_910 23 dX5_behind_20 rfl rfl rfl rfl (A_X5_copies _ _ 29 (Or.inr (Or.inr (Or.inl rfl))) 27 (Or.inl rfl) q1) rfl (fun q3 => ?_)
  refine af_iload_n K 24 dX5_behind_23 rfl rfl ?_
  exact af_reti K dX5_behind_24
def F_X5_ahead (x1 : Int32) (x2 : Int32) (x3 : Int32) (σ : fk_T) : Option (Int32 × fk_T) := (F_X5_isPotter x1 σ).bind (fun q1 => if (fk_b q1.1) = 0 then ((F_X5_finds 0 q1.2).bind (fun q2 => some (q2.1, q2.2))) else (if x2 = 1 then ((F_X5_in (x3.toInt64) 0 100 q1.2).bind (fun q3 => if (fk_b q3.1) = 0 then ((F_X5_finds 0 q3.2).bind (fun q10 => some (q10.1, q10.2))) else ((F_X5_copies 27 29 q3.2).bind (fun q4 => (F_X5_daysGo x3 q4).bind (fun q5 => if x2 = 6 then ((F_X5_pushes x1 q5).bind (fun q8 => (F_X5_copies 29 27 q8.2).bind (fun q9 => some (q8.1, q9)))) else ((F_X5_its x1 x2 q5).bind (fun q6 => (F_X5_copies 29 27 q6.2).bind (fun q7 => some (q6.1, q7))))))))) else ((F_X5_in (x2.toInt64) 3 6 q1.2).bind (fun q11 => if (fk_b q11.1) = 0 then ((F_X5_finds 0 q11.2).bind (fun q12 => some (q12.1, q12.2))) else ((F_X5_in (x3.toInt64) 0 100 q11.2).bind (fun q13 => if (fk_b q13.1) = 0 then ((F_X5_finds 0 q13.2).bind (fun q20 => some (q20.1, q20.2))) else ((F_X5_copies 27 29 q13.2).bind (fun q14 => (F_X5_daysGo x3 q14).bind (fun q15 => if x2 = 6 then ((F_X5_pushes x1 q15).bind (fun q18 => (F_X5_copies 29 27 q18.2).bind (fun q19 => some (q18.1, q19)))) else ((F_X5_its x1 x2 q15).bind (fun q16 => (F_X5_copies 29 27 q16.2).bind (fun q17 => some (q16.1, q17)))))))))))))
set_option maxRecDepth 100000 in
set_option maxHeartbeats 4000000 in
theorem A_X5_ahead (X : aw_X) (l : Launch) (x1 : Int32) (x2 : Int32) (x3 : Int32) (σ : fk_T) : af_G X l mX5_ahead [.ref 26, .int x1, .int x2, .int x3] (hp σ) ρi (F_X5_ahead x1 x2 x3 σ) := by
  refine af_mk (by decide) rfl (fun q _ => aw_oki q) [some (.ref 26), some (.int x1), some (.int x2), some (.int x3), none] rfl ?_
  rintro cx rfl rfl hN K
  replace hN : aw_nL cx = 5 := hN
  replace K : aw_K cx cX5_ahead RX5 rX5_ahead := K
  unfold F_X5_ahead
  refine af_aload_n K 1 dX5_ahead_0 rfl rfl ?_
  refine af_iload_n K 2 dX5_ahead_1 rfl rfl ?_
  refine af_callV_z K (b := 26) (vs := [.int x1]) mv_X5_isPotter lk_793 ((hp_at _ (Nat.le_of_ble_eq_true rfl)).trans rfl) rfl 5 dX5_ahead_2 rfl rfl rfl rfl (A_X5_isPotter _ _ x1 σ) rfl (fun q1 => ?_)
  refine af_if_eq K 8 39 dX5_ahead_5 rfl rfl (fun _ => ?_) (fun _ => ?_)
  · refine af_aload_n K 40 dX5_ahead_39 rfl rfl ?_
    refine af_iconst K 41 dX5_ahead_40 rfl cs_iconst_0 ?_
    refine af_callV_i K (b := 26) (vs := [.int 0]) mv_X5_finds lk_760 ((hp_at _ (Nat.le_of_ble_eq_true rfl)).trans rfl) rfl 44 dX5_ahead_41 rfl rfl rfl rfl (A_X5_finds _ _ 0 q1.2) rfl (fun q2 => ?_)
    exact af_reti K dX5_ahead_44
  · refine af_iload_n K 9 dX5_ahead_8 rfl rfl ?_
    refine af_iconst K 10 dX5_ahead_9 rfl cs_iconst_1 ?_
    refine af_icmp_eq K 13 27 dX5_ahead_10 rfl rfl (fun _ => ?_) (fun _ => ?_)
    · refine af_iload_n K 28 dX5_ahead_27 rfl rfl ?_
      refine af_i2l K 29 dX5_ahead_28 rfl ?_
      refine af_lconst K 30 dX5_ahead_29 rfl cs_lconst_0 ?_
      refine af_ldc2 K 33 dX5_ahead_30 rfl lk_909 ?_
      refine af_callS_z K (vs := [.long (x3.toInt64), .long 0, .long 100]) ms_X5_in lk_753 36 dX5_ahead_33 rfl rfl rfl rfl (A_X5_in _ _ (x3.toInt64) 0 100 q1.2) rfl (fun q3 => ?_)
      refine af_if_ne K 39 45 dX5_ahead_36 rfl rfl (fun _ => ?_) (fun _ => ?_)
      · refine af_aload_n K 46 dX5_ahead_45 rfl rfl ?_
        refine af_get K 49 dX5_ahead_46 rfl fl_X5_7 (Nat.le_of_ble_eq_true rfl) rfl rfl ?_
        refine af_aload_n K 50 dX5_ahead_49 rfl rfl ?_
        refine af_get K 53 dX5_ahead_50 rfl fl_X5_16 (Nat.le_of_ble_eq_true rfl) rfl rfl ?_
        refine af_callS_v K (vs := [.ref 27, .ref 29]) ms_X5_copies lk_910 56 dX5_ahead_53 rfl rfl rfl rfl (A_X5_copies _ _ 27 (Or.inl rfl) 29 (Or.inr (Or.inr (Or.inl rfl))) q3.2) rfl (fun q4 => ?_)
        refine af_aload_n K 57 dX5_ahead_56 rfl rfl ?_
        refine af_iload_n K 58 dX5_ahead_57 rfl rfl ?_
        refine af_callV_v K (b := 26) (vs := [.int x3]) mv_X5_daysGo lk_865 ((hp_at _ (Nat.le_of_ble_eq_true rfl)).trans rfl) rfl 61 dX5_ahead_58 rfl rfl rfl rfl (A_X5_daysGo _ _ x3 q4) rfl (fun q5 => ?_)
        refine af_iload_n K 62 dX5_ahead_61 rfl rfl ?_
        refine af_bipush K 64 dX5_ahead_62 rfl cs_bipush_6 ?_
        refine af_icmp_ne K 67 75 dX5_ahead_64 rfl rfl (fun _ => ?_) (fun _ => ?_)
        · refine af_aload_n K 76 dX5_ahead_75 rfl rfl ?_
          refine af_iload_n K 77 dX5_ahead_76 rfl rfl ?_
          refine af_iload_n K 78 dX5_ahead_77 rfl rfl ?_
          refine af_callV_i K (b := 26) (vs := [.int x1, .int x2]) mv_X5_its lk_802 ((hp_at _ (Nat.le_of_ble_eq_true rfl)).trans rfl) rfl 81 dX5_ahead_78 rfl rfl rfl rfl (A_X5_its _ _ x1 x2 q5) rfl (fun q6 => ?_)
          refine af_istore K 83 [some (.ref 26), some (.int x1), some (.int x2), some (.int x3), some (.int q6.1)] dX5_ahead_81 rfl (by rw [hN]; exact Nat.le_of_ble_eq_true rfl) rfl ?_
          refine af_aload_n K 84 dX5_ahead_83 rfl rfl ?_
          refine af_get K 87 dX5_ahead_84 rfl fl_X5_16 (Nat.le_of_ble_eq_true rfl) rfl rfl ?_
          refine af_aload_n K 88 dX5_ahead_87 rfl rfl ?_
          refine af_get K 91 dX5_ahead_88 rfl fl_X5_7 (Nat.le_of_ble_eq_true rfl) rfl rfl ?_
          refine af_callS_v K (vs := [.ref 29, .ref 27]) ms_X5_copies lk_910 94 dX5_ahead_91 rfl rfl rfl rfl (A_X5_copies _ _ 29 (Or.inr (Or.inr (Or.inl rfl))) 27 (Or.inl rfl) q6.2) rfl (fun q7 => ?_)
          refine af_iload K 96 dX5_ahead_94 rfl rfl ?_
          exact af_reti K dX5_ahead_96
        · refine af_aload_n K 68 dX5_ahead_67 rfl rfl ?_
          refine af_iload_n K 69 dX5_ahead_68 rfl rfl ?_
          refine af_callV_i K (b := 26) (vs := [.int x1]) mv_X5_pushes lk_798 ((hp_at _ (Nat.le_of_ble_eq_true rfl)).trans rfl) rfl 72 dX5_ahead_69 rfl rfl rfl rfl (A_X5_pushes _ _ x1 q5) rfl (fun q8 => ?_)
          refine af_goto K 81 dX5_ahead_72 rfl ?_
          refine af_istore K 83 [some (.ref 26), some (.int x1), some (.int x2), some (.int x3), some (.int q8.1)] dX5_ahead_81 rfl (by rw [hN]; exact Nat.le_of_ble_eq_true rfl) rfl ?_
          refine af_aload_n K 84 dX5_ahead_83 rfl rfl ?_
          refine af_get K 87 dX5_ahead_84 rfl fl_X5_16 (Nat.le_of_ble_eq_true rfl) rfl rfl ?_
          refine af_aload_n K 88 dX5_ahead_87 rfl rfl ?_
          refine af_get K 91 dX5_ahead_88 rfl fl_X5_7 (Nat.le_of_ble_eq_true rfl) rfl rfl ?_
          refine af_callS_v K (vs := [.ref 29, .ref 27]) ms_X5_copies lk_910 94 dX5_ahead_91 rfl rfl rfl rfl (A_X5_copies _ _ 29 (Or.inr (Or.inr (Or.inl rfl))) 27 (Or.inl rfl) q8.2) rfl (fun q9 => ?_)
          refine af_iload K 96 dX5_ahead_94 rfl rfl ?_
          exact af_reti K dX5_ahead_96
      · refine af_aload_n K 40 dX5_ahead_39 rfl rfl ?_
        refine af_iconst K 41 dX5_ahead_40 rfl cs_iconst_0 ?_
        refine af_callV_i K (b := 26) (vs := [.int 0]) mv_X5_finds lk_760 ((hp_at _ (Nat.le_of_ble_eq_true rfl)).trans rfl) rfl 44 dX5_ahead_41 rfl rfl rfl rfl (A_X5_finds _ _ 0 q3.2) rfl (fun q10 => ?_)
        exact af_reti K dX5_ahead_44
    · refine af_iload_n K 14 dX5_ahead_13 rfl rfl ?_
      refine af_i2l K 15 dX5_ahead_14 rfl ?_
      refine af_ldc2 K 18 dX5_ahead_15 rfl lk_843 ?_
      refine af_ldc2 K 21 dX5_ahead_18 rfl lk_779 ?_
      refine af_callS_z K (vs := [.long (x2.toInt64), .long 3, .long 6]) ms_X5_in lk_753 24 dX5_ahead_21 rfl rfl rfl rfl (A_X5_in _ _ (x2.toInt64) 3 6 q1.2) rfl (fun q11 => ?_)
      refine af_if_eq K 27 39 dX5_ahead_24 rfl rfl (fun _ => ?_) (fun _ => ?_)
      · refine af_aload_n K 40 dX5_ahead_39 rfl rfl ?_
        refine af_iconst K 41 dX5_ahead_40 rfl cs_iconst_0 ?_
        refine af_callV_i K (b := 26) (vs := [.int 0]) mv_X5_finds lk_760 ((hp_at _ (Nat.le_of_ble_eq_true rfl)).trans rfl) rfl 44 dX5_ahead_41 rfl rfl rfl rfl (A_X5_finds _ _ 0 q11.2) rfl (fun q12 => ?_)
        exact af_reti K dX5_ahead_44
      · refine af_iload_n K 28 dX5_ahead_27 rfl rfl ?_
        refine af_i2l K 29 dX5_ahead_28 rfl ?_
        refine af_lconst K 30 dX5_ahead_29 rfl cs_lconst_0 ?_
        refine af_ldc2 K 33 dX5_ahead_30 rfl lk_909 ?_
        refine af_callS_z K (vs := [.long (x3.toInt64), .long 0, .long 100]) ms_X5_in lk_753 36 dX5_ahead_33 rfl rfl rfl rfl (A_X5_in _ _ (x3.toInt64) 0 100 q11.2) rfl (fun q13 => ?_)
        refine af_if_ne K 39 45 dX5_ahead_36 rfl rfl (fun _ => ?_) (fun _ => ?_)
        · refine af_aload_n K 46 dX5_ahead_45 rfl rfl ?_
          refine af_get K 49 dX5_ahead_46 rfl fl_X5_7 (Nat.le_of_ble_eq_true rfl) rfl rfl ?_
          refine af_aload_n K 50 dX5_ahead_49 rfl rfl ?_
          refine af_get K 53 dX5_ahead_50 rfl fl_X5_16 (Nat.le_of_ble_eq_true rfl) rfl rfl ?_
          refine af_callS_v K (vs := [.ref 27, .ref 29]) ms_X5_copies lk_910 56 dX5_ahead_53 rfl rfl rfl rfl (A_X5_copies _ _ 27 (Or.inl rfl) 29 (Or.inr (Or.inr (Or.inl rfl))) q13.2) rfl (fun q14 => ?_)
          refine af_aload_n K 57 dX5_ahead_56 rfl rfl ?_
          refine af_iload_n K 58 dX5_ahead_57 rfl rfl ?_
          refine af_callV_v K (b := 26) (vs := [.int x3]) mv_X5_daysGo lk_865 ((hp_at _ (Nat.le_of_ble_eq_true rfl)).trans rfl) rfl 61 dX5_ahead_58 rfl rfl rfl rfl (A_X5_daysGo _ _ x3 q14) rfl (fun q15 => ?_)
          refine af_iload_n K 62 dX5_ahead_61 rfl rfl ?_
          refine af_bipush K 64 dX5_ahead_62 rfl cs_bipush_6 ?_
          refine af_icmp_ne K 67 75 dX5_ahead_64 rfl rfl (fun _ => ?_) (fun _ => ?_)
          · refine af_aload_n K 76 dX5_ahead_75 rfl rfl ?_
            refine af_iload_n K 77 dX5_ahead_76 rfl rfl ?_
            refine af_iload_n K 78 dX5_ahead_77 rfl rfl ?_
            refine af_callV_i K (b := 26) (vs := [.int x1, .int x2]) mv_X5_its lk_802 ((hp_at _ (Nat.le_of_ble_eq_true rfl)).trans rfl) rfl 81 dX5_ahead_78 rfl rfl rfl rfl (A_X5_its _ _ x1 x2 q15) rfl (fun q16 => ?_)
            refine af_istore K 83 [some (.ref 26), some (.int x1), some (.int x2), some (.int x3), some (.int q16.1)] dX5_ahead_81 rfl (by rw [hN]; exact Nat.le_of_ble_eq_true rfl) rfl ?_
            refine af_aload_n K 84 dX5_ahead_83 rfl rfl ?_
            refine af_get K 87 dX5_ahead_84 rfl fl_X5_16 (Nat.le_of_ble_eq_true rfl) rfl rfl ?_
            refine af_aload_n K 88 dX5_ahead_87 rfl rfl ?_
            refine af_get K 91 dX5_ahead_88 rfl fl_X5_7 (Nat.le_of_ble_eq_true rfl) rfl rfl ?_
            refine af_callS_v K (vs := [.ref 29, .ref 27]) ms_X5_copies lk_910 94 dX5_ahead_91 rfl rfl rfl rfl (A_X5_copies _ _ 29 (Or.inr (Or.inr (Or.inl rfl))) 27 (Or.inl rfl) q16.2) rfl (fun q17 => ?_)
            refine af_iload K 96 dX5_ahead_94 rfl rfl ?_
            exact af_reti K dX5_ahead_96
          · refine af_aload_n K 68 dX5_ahead_67 rfl rfl ?_
            refine af_iload_n K 69 dX5_ahead_68 rfl rfl ?_
            refine af_callV_i K (b := 26) (vs := [.int x1]) mv_X5_pushes lk_798 ((hp_at _ (Nat.le_of_ble_eq_true rfl)).trans rfl) rfl 72 dX5_ahead_69 rfl rfl rfl rfl (A_X5_pushes _ _ x1 q15) rfl (fun q18 => ?_)
            refine af_goto K 81 dX5_ahead_72 rfl ?_
            refine af_istore K 83 [some (.ref 26), some (.int x1), some (.int x2), some (.int x3), some (.int q18.1)] dX5_ahead_81 rfl (by rw [hN]; exact Nat.le_of_ble_eq_true rfl) rfl ?_
            refine af_aload_n K 84 dX5_ahead_83 rfl rfl ?_
            refine af_get K 87 dX5_ahead_84 rfl fl_X5_16 (Nat.le_of_ble_eq_true rfl) rfl rfl ?_
            refine af_aload_n K 88 dX5_ahead_87 rfl rfl ?_
            refine af_get K 91 dX5_ahead_88 rfl fl_X5_7 (Nat.le_of_ble_eq_true rfl) rfl rfl ?_
            refine af_callS_v K (vs := [.ref 29, .ref 27]) ms_X5_copies lk_910 94 dX5_ahead_91 rfl rfl rfl rfl (A_X5_copies _ _ 29 (Or.inr (Or.inr (Or.inl rfl))) 27 (Or.inl rfl) q18.2) rfl (fun q19 => ?_)
            refine af_iload K 96 dX5_ahead_94 rfl rfl ?_
            exact af_reti K dX5_ahead_96
        · refine af_aload_n K 40 dX5_ahead_39 rfl rfl ?_
          refine af_iconst K 41 dX5_ahead_40 rfl cs_iconst_0 ?_
          refine af_callV_i K (b := 26) (vs := [.int 0]) mv_X5_finds lk_760 ((hp_at _ (Nat.le_of_ble_eq_true rfl)).trans rfl) rfl 44 dX5_ahead_41 rfl rfl rfl rfl (A_X5_finds _ _ 0 q13.2) rfl (fun q20 => ?_)
          exact af_reti K dX5_ahead_44
def F_X5_terms (x1 : Int32) (x2 : Int32) (x3 : Int32) (σ : fk_T) : Option (Int32 × fk_T) := (F_X5_areTwo x1 x2 σ).bind (fun q1 => if (fk_b q1.1) = 0 then ((F_X5_finds 0 q1.2).bind (fun q2 => some (q2.1, q2.2))) else ((F_X5_in (x3.toInt64) 0 100 q1.2).bind (fun q3 => if (fk_b q3.1) = 0 then ((F_X5_finds 0 q3.2).bind (fun q7 => some (q7.1, q7.2))) else ((F_X5_copies 27 29 q3.2).bind (fun q4 => (F_X5_between x1 x2 q4).bind (fun q5 => (F_X5_behind x3 q5.1 q5.2).bind (fun q6 => some (q6.1, q6.2))))))))
set_option maxRecDepth 100000 in
set_option maxHeartbeats 4000000 in
theorem A_X5_terms (X : aw_X) (l : Launch) (x1 : Int32) (x2 : Int32) (x3 : Int32) (σ : fk_T) : af_G X l mX5_terms [.ref 26, .int x1, .int x2, .int x3] (hp σ) ρi (F_X5_terms x1 x2 x3 σ) := by
  refine af_mk (by decide) rfl (fun q _ => aw_oki q) [some (.ref 26), some (.int x1), some (.int x2), some (.int x3)] rfl ?_
  rintro cx rfl rfl hN K
  replace hN : aw_nL cx = 4 := hN
  replace K : aw_K cx cX5_terms RX5 rX5_terms := K
  unfold F_X5_terms
  refine af_aload_n K 1 dX5_terms_0 rfl rfl ?_
  refine af_iload_n K 2 dX5_terms_1 rfl rfl ?_
  refine af_iload_n K 3 dX5_terms_2 rfl rfl ?_
  refine af_callV_z K (b := 26) (vs := [.int x1, .int x2]) mv_X5_areTwo lk_832 ((hp_at _ (Nat.le_of_ble_eq_true rfl)).trans rfl) rfl 6 dX5_terms_3 rfl rfl rfl rfl (A_X5_areTwo _ _ x1 x2 σ) rfl (fun q1 => ?_)
  refine af_if_eq K 9 21 dX5_terms_6 rfl rfl (fun _ => ?_) (fun _ => ?_)
  · refine af_aload_n K 22 dX5_terms_21 rfl rfl ?_
    refine af_iconst K 23 dX5_terms_22 rfl cs_iconst_0 ?_
    refine af_callV_i K (b := 26) (vs := [.int 0]) mv_X5_finds lk_760 ((hp_at _ (Nat.le_of_ble_eq_true rfl)).trans rfl) rfl 26 dX5_terms_23 rfl rfl rfl rfl (A_X5_finds _ _ 0 q1.2) rfl (fun q2 => ?_)
    exact af_reti K dX5_terms_26
  · refine af_iload_n K 10 dX5_terms_9 rfl rfl ?_
    refine af_i2l K 11 dX5_terms_10 rfl ?_
    refine af_lconst K 12 dX5_terms_11 rfl cs_lconst_0 ?_
    refine af_ldc2 K 15 dX5_terms_12 rfl lk_909 ?_
    refine af_callS_z K (vs := [.long (x3.toInt64), .long 0, .long 100]) ms_X5_in lk_753 18 dX5_terms_15 rfl rfl rfl rfl (A_X5_in _ _ (x3.toInt64) 0 100 q1.2) rfl (fun q3 => ?_)
    refine af_if_ne K 21 27 dX5_terms_18 rfl rfl (fun _ => ?_) (fun _ => ?_)
    · refine af_aload_n K 28 dX5_terms_27 rfl rfl ?_
      refine af_get K 31 dX5_terms_28 rfl fl_X5_7 (Nat.le_of_ble_eq_true rfl) rfl rfl ?_
      refine af_aload_n K 32 dX5_terms_31 rfl rfl ?_
      refine af_get K 35 dX5_terms_32 rfl fl_X5_16 (Nat.le_of_ble_eq_true rfl) rfl rfl ?_
      refine af_callS_v K (vs := [.ref 27, .ref 29]) ms_X5_copies lk_910 38 dX5_terms_35 rfl rfl rfl rfl (A_X5_copies _ _ 27 (Or.inl rfl) 29 (Or.inr (Or.inr (Or.inl rfl))) q3.2) rfl (fun q4 => ?_)
      refine af_aload_n K 39 dX5_terms_38 rfl rfl ?_
      refine af_iload_n K 40 dX5_terms_39 rfl rfl ?_
      refine af_iload_n K 41 dX5_terms_40 rfl rfl ?_
      refine af_iload_n K 42 dX5_terms_41 rfl rfl ?_
      refine af_callS_i K (vs := [.int x1, .int x2]) ms_X5_between lk_836 45 dX5_terms_42 rfl rfl rfl rfl (A_X5_between _ _ x1 x2 q4) rfl (fun q5 => ?_)
      refine af_callV_i K (b := 26) (vs := [.int x3, .int q5.1]) mv_X5_behind lk_917 ((hp_at _ (Nat.le_of_ble_eq_true rfl)).trans rfl) rfl 48 dX5_terms_45 rfl rfl rfl rfl (A_X5_behind _ _ x3 q5.1 q5.2) rfl (fun q6 => ?_)
      exact af_reti K dX5_terms_48
    · refine af_aload_n K 22 dX5_terms_21 rfl rfl ?_
      refine af_iconst K 23 dX5_terms_22 rfl cs_iconst_0 ?_
      refine af_callV_i K (b := 26) (vs := [.int 0]) mv_X5_finds lk_760 ((hp_at _ (Nat.le_of_ble_eq_true rfl)).trans rfl) rfl 26 dX5_terms_23 rfl rfl rfl rfl (A_X5_finds _ _ 0 q3.2) rfl (fun q7 => ?_)
      exact af_reti K dX5_terms_26
def L_X5_firstOf_14  : Nat → Int32 → Int32 → Int32 → Int32 → fk_T → (Int32 → Int32 → Int32 → Int32 → fk_T → Option (Int32 × fk_T)) → Option (Int32 × fk_T)
  | 0, _, _, _, _, _, _ => none
  | fu + 1, x1, x2, x3, x4, σ, k => if 200 ≤ x4 then (k x1 x2 x3 x4 σ) else (fk_A (σ.1 27) 135 x1 (fun y2 => (F_X5_in (y2.toInt64) (x2.toInt64) (x3.toInt64) σ).bind (fun q3 => if (fk_b q3.1) = 0 then ((F_X5_dayGoes  q3.2).bind (fun q4 => fk_B (x4 + 1) (fun y5 => L_X5_firstOf_14 fu x1 x2 x3 y5 q4 k))) else (k x1 x2 x3 x4 q3.2))))
def F_X5_firstOf (x1 : Int32) (x2 : Int32) (x3 : Int32) (σ : fk_T) : Option (Int32 × fk_T) := (F_X5_copies 27 29 σ).bind (fun q1 => L_X5_firstOf_14 fk_N x1 x2 x3 0 q1 (fun y7 y8 y9 y10 s6 => fk_A (s6.1 27) 135 y7 (fun y11 => (F_X5_in (y11.toInt64) (y8.toInt64) (y9.toInt64) s6).bind (fun q12 => fk_B (fk_b q12.1) (fun y13 => (F_X5_copies 29 27 q12.2).bind (fun q14 => if y13 = 0 then ((F_X5_finds 3 q14).bind (fun q15 => some (q15.1, q15.2))) else (some (y10, q14))))))))
set_option maxRecDepth 100000 in
set_option maxHeartbeats 4000000 in
theorem W_X5_firstOf_14 {cx : aw_C} (hN : aw_nL cx = 6) (K : aw_K cx cX5_firstOf RX5 rX5_firstOf)  : ∀ (fu : Nat) (x1 : Int32) (x2 : Int32) (x3 : Int32) (x4 : Int32) (σ : fk_T) (k : Int32 → Int32 → Int32 → Int32 → fk_T → Option (Int32 × fk_T)), (∀ (x1 : Int32) (x2 : Int32) (x3 : Int32) (x4 : Int32) (σ : fk_T), af cx ρi 49 [some (.ref 26), some (.int x1), some (.int x2), some (.int x3), some (.int x4), none] [] (hp σ) (k x1 x2 x3 x4 σ)) → af cx ρi 14 [some (.ref 26), some (.int x1), some (.int x2), some (.int x3), some (.int x4), none] [] (hp σ) (L_X5_firstOf_14 fu x1 x2 x3 x4 σ k) := by
  intro fu
  induction fu with
  | zero => intros; exact af_none
  | succ fu ih14 =>
    intro x1 x2 x3 x4 σ k hk14
    rw [L_X5_firstOf_14]
    refine af_iload K 16 dX5_firstOf_14 rfl rfl ?_
    refine af_sipush K 19 dX5_firstOf_16 rfl cs_sipush_200 ?_
    refine af_icmp_ge K 22 49 dX5_firstOf_19 rfl rfl (fun _ => ?_) (fun _ => ?_)
    · refine af_lm [true, true, true, true, true, false] rfl ?_
      exact hk14 _ _ _ _ _
    · refine af_aload_n K 23 dX5_firstOf_22 rfl rfl ?_
      refine af_get K 26 dX5_firstOf_23 rfl fl_X5_7 (Nat.le_of_ble_eq_true rfl) rfl rfl ?_
      refine af_iload_n K 27 dX5_firstOf_26 rfl rfl ?_
      refine af_iald K 28 dX5_firstOf_27 rfl (Nat.le_of_ble_eq_true rfl) rfl (fun y2 => ?_)
      refine af_i2l K 29 dX5_firstOf_28 rfl ?_
      refine af_iload_n K 30 dX5_firstOf_29 rfl rfl ?_
      refine af_i2l K 31 dX5_firstOf_30 rfl ?_
      refine af_iload_n K 32 dX5_firstOf_31 rfl rfl ?_
      refine af_i2l K 33 dX5_firstOf_32 rfl ?_
      refine af_callS_z K (vs := [.long (y2.toInt64), .long (x2.toInt64), .long (x3.toInt64)]) ms_X5_in lk_753 36 dX5_firstOf_33 rfl rfl rfl rfl (A_X5_in _ _ (y2.toInt64) (x2.toInt64) (x3.toInt64) σ) rfl (fun q3 => ?_)
      refine af_if_ne K 39 49 dX5_firstOf_36 rfl rfl (fun _ => ?_) (fun _ => ?_)
      · refine af_lm [true, true, true, true, true, false] rfl ?_
        exact hk14 _ _ _ _ _
      · refine af_aload_n K 40 dX5_firstOf_39 rfl rfl ?_
        refine af_callV_v K (b := 26) (vs := []) mv_X5_dayGoes lk_869 ((hp_at _ (Nat.le_of_ble_eq_true rfl)).trans rfl) rfl 43 dX5_firstOf_40 rfl rfl rfl rfl (A_X5_dayGoes _ _ q3.2) rfl (fun q4 => ?_)
        refine af_iincB K 46 (fun yy => [some (.ref 26), some (.int x1), some (.int x2), some (.int x3), some (.int yy), none]) dX5_firstOf_43 rfl (by rw [hN]; exact Nat.le_of_ble_eq_true rfl) rfl cs_iconst_1 (fun _ => rfl) (fun y5 => ?_)
        refine af_goto K 14 dX5_firstOf_46 rfl ?_
        refine af_lm [true, true, true, true, true, false] rfl ?_
        exact ih14 _ _ _ _ _ _ hk14
set_option maxRecDepth 100000 in
set_option maxHeartbeats 4000000 in
theorem A_X5_firstOf (X : aw_X) (l : Launch) (x1 : Int32) (x2 : Int32) (x3 : Int32) (σ : fk_T) : af_G X l mX5_firstOf [.ref 26, .int x1, .int x2, .int x3] (hp σ) ρi (F_X5_firstOf x1 x2 x3 σ) := by
  refine af_mk (by decide) rfl (fun q _ => aw_oki q) [some (.ref 26), some (.int x1), some (.int x2), some (.int x3), none, none] rfl ?_
  rintro cx rfl rfl hN K
  replace hN : aw_nL cx = 6 := hN
  replace K : aw_K cx cX5_firstOf RX5 rX5_firstOf := K
  unfold F_X5_firstOf
  refine af_aload_n K 1 dX5_firstOf_0 rfl rfl ?_
  refine af_get K 4 dX5_firstOf_1 rfl fl_X5_7 (Nat.le_of_ble_eq_true rfl) rfl rfl ?_
  refine af_aload_n K 5 dX5_firstOf_4 rfl rfl ?_
  refine af_get K 8 dX5_firstOf_5 rfl fl_X5_16 (Nat.le_of_ble_eq_true rfl) rfl rfl ?_
  refine af_callS_v K (vs := [.ref 27, .ref 29]) ms_X5_copies lk_910 11 dX5_firstOf_8 rfl rfl rfl rfl (A_X5_copies _ _ 27 (Or.inl rfl) 29 (Or.inr (Or.inr (Or.inl rfl))) σ) rfl (fun q1 => ?_)
  refine af_iconst K 12 dX5_firstOf_11 rfl cs_iconst_0 ?_
  refine af_istore K 14 [some (.ref 26), some (.int x1), some (.int x2), some (.int x3), some (.int 0), none] dX5_firstOf_12 rfl (by rw [hN]; exact Nat.le_of_ble_eq_true rfl) rfl ?_
  refine af_lm [true, true, true, true, true, false] rfl ?_
  refine W_X5_firstOf_14 hN K  fk_N _ _ _ _ _ _ (fun y7 y8 y9 y10 s6 => ?_)
  refine af_aload_n K 50 dX5_firstOf_49 rfl rfl ?_
  refine af_get K 53 dX5_firstOf_50 rfl fl_X5_7 (Nat.le_of_ble_eq_true rfl) rfl rfl ?_
  refine af_iload_n K 54 dX5_firstOf_53 rfl rfl ?_
  refine af_iald K 55 dX5_firstOf_54 rfl (Nat.le_of_ble_eq_true rfl) rfl (fun y11 => ?_)
  refine af_i2l K 56 dX5_firstOf_55 rfl ?_
  refine af_iload_n K 57 dX5_firstOf_56 rfl rfl ?_
  refine af_i2l K 58 dX5_firstOf_57 rfl ?_
  refine af_iload_n K 59 dX5_firstOf_58 rfl rfl ?_
  refine af_i2l K 60 dX5_firstOf_59 rfl ?_
  refine af_callS_z K (vs := [.long (y11.toInt64), .long (y8.toInt64), .long (y9.toInt64)]) ms_X5_in lk_753 63 dX5_firstOf_60 rfl rfl rfl rfl (A_X5_in _ _ (y11.toInt64) (y8.toInt64) (y9.toInt64) s6) rfl (fun q12 => ?_)
  refine af_Bi (fun y13 => ?_)
  refine af_istore K 65 [some (.ref 26), some (.int y7), some (.int y8), some (.int y9), some (.int y10), some (.int y13)] dX5_firstOf_63 rfl (by rw [hN]; exact Nat.le_of_ble_eq_true rfl) rfl ?_
  refine af_aload_n K 66 dX5_firstOf_65 rfl rfl ?_
  refine af_get K 69 dX5_firstOf_66 rfl fl_X5_16 (Nat.le_of_ble_eq_true rfl) rfl rfl ?_
  refine af_aload_n K 70 dX5_firstOf_69 rfl rfl ?_
  refine af_get K 73 dX5_firstOf_70 rfl fl_X5_7 (Nat.le_of_ble_eq_true rfl) rfl rfl ?_
  refine af_callS_v K (vs := [.ref 29, .ref 27]) ms_X5_copies lk_910 76 dX5_firstOf_73 rfl rfl rfl rfl (A_X5_copies _ _ 29 (Or.inr (Or.inr (Or.inl rfl))) 27 (Or.inl rfl) q12.2) rfl (fun q14 => ?_)
  refine af_iload K 78 dX5_firstOf_76 rfl rfl ?_
  refine af_if_eq K 81 86 dX5_firstOf_78 rfl rfl (fun _ => ?_) (fun _ => ?_)
  · refine af_aload_n K 87 dX5_firstOf_86 rfl rfl ?_
    refine af_iconst K 88 dX5_firstOf_87 rfl cs_iconst_3 ?_
    refine af_callV_i K (b := 26) (vs := [.int 3]) mv_X5_finds lk_760 ((hp_at _ (Nat.le_of_ble_eq_true rfl)).trans rfl) rfl 91 dX5_firstOf_88 rfl rfl rfl rfl (A_X5_finds _ _ 3 q14) rfl (fun q15 => ?_)
    exact af_reti K dX5_firstOf_91
  · refine af_iload K 83 dX5_firstOf_81 rfl rfl ?_
    refine af_goto K 91 dX5_firstOf_83 rfl ?_
    exact af_reti K dX5_firstOf_91
def F_X5_next (x1 : Int32) (σ : fk_T) : Option (Int32 × fk_T) := (F_X5_in (x1.toInt64) 0 1 σ).bind (fun q1 => if (fk_b q1.1) = 0 then ((F_X5_finds 0 q1.2).bind (fun q2 => some (q2.1, q2.2))) else (fk_A (q1.2.1 27) 135 (5 + x1) (fun y3 => (F_X5_firstOf (5 + x1) (y3 + 1) 9999 q1.2).bind (fun q4 => some (q4.1, q4.2)))))
set_option maxRecDepth 100000 in
set_option maxHeartbeats 4000000 in
theorem A_X5_next (X : aw_X) (l : Launch) (x1 : Int32) (σ : fk_T) : af_G X l mX5_next [.ref 26, .int x1] (hp σ) ρi (F_X5_next x1 σ) := by
  refine af_mk (by decide) rfl (fun q _ => aw_oki q) [some (.ref 26), some (.int x1)] rfl ?_
  rintro cx rfl rfl hN K
  replace hN : aw_nL cx = 2 := hN
  replace K : aw_K cx cX5_next RX5 rX5_next := K
  unfold F_X5_next
  refine af_iload_n K 1 dX5_next_0 rfl rfl ?_
  refine af_i2l K 2 dX5_next_1 rfl ?_
  refine af_lconst K 3 dX5_next_2 rfl cs_lconst_0 ?_
  refine af_lconst K 4 dX5_next_3 rfl cs_lconst_1 ?_
  refine af_callS_z K (vs := [.long (x1.toInt64), .long 0, .long 1]) ms_X5_in lk_753 7 dX5_next_4 rfl rfl rfl rfl (A_X5_in _ _ (x1.toInt64) 0 1 σ) rfl (fun q1 => ?_)
  refine af_if_eq K 10 33 dX5_next_7 rfl rfl (fun _ => ?_) (fun _ => ?_)
  · refine af_aload_n K 34 dX5_next_33 rfl rfl ?_
    refine af_iconst K 35 dX5_next_34 rfl cs_iconst_0 ?_
    refine af_callV_i K (b := 26) (vs := [.int 0]) mv_X5_finds lk_760 ((hp_at _ (Nat.le_of_ble_eq_true rfl)).trans rfl) rfl 38 dX5_next_35 rfl rfl rfl rfl (A_X5_finds _ _ 0 q1.2) rfl (fun q2 => ?_)
    exact af_reti K dX5_next_38
  · refine af_aload_n K 11 dX5_next_10 rfl rfl ?_
    refine af_iconst K 12 dX5_next_11 rfl cs_iconst_5 ?_
    refine af_iload_n K 13 dX5_next_12 rfl rfl ?_
    refine af_iadd K 14 dX5_next_13 rfl ?_
    refine af_aload_n K 15 dX5_next_14 rfl rfl ?_
    refine af_get K 18 dX5_next_15 rfl fl_X5_7 (Nat.le_of_ble_eq_true rfl) rfl rfl ?_
    refine af_iconst K 19 dX5_next_18 rfl cs_iconst_5 ?_
    refine af_iload_n K 20 dX5_next_19 rfl rfl ?_
    refine af_iadd K 21 dX5_next_20 rfl ?_
    refine af_iald K 22 dX5_next_21 rfl (Nat.le_of_ble_eq_true rfl) rfl (fun y3 => ?_)
    refine af_iconst K 23 dX5_next_22 rfl cs_iconst_1 ?_
    refine af_iadd K 24 dX5_next_23 rfl ?_
    refine af_sipush K 27 dX5_next_24 rfl cs_sipush_9999 ?_
    refine af_callV_i K (b := 26) (vs := [.int (5 + x1), .int (y3 + 1), .int 9999]) mv_X5_firstOf lk_925 ((hp_at _ (Nat.le_of_ble_eq_true rfl)).trans rfl) rfl 30 dX5_next_27 rfl rfl rfl rfl (A_X5_firstOf _ _ (5 + x1) (y3 + 1) 9999 q1.2) rfl (fun q4 => ?_)
    refine af_goto K 38 dX5_next_30 rfl ?_
    exact af_reti K dX5_next_38
def F_X5_peace (x1 : Int32) (x2 : Int32) (x3 : Int32) (σ : fk_T) : Option (Int32 × fk_T) := (F_X5_areTwo x1 x2 σ).bind (fun q1 => if (fk_b q1.1) = 0 then ((F_X5_finds 0 q1.2).bind (fun q2 => some (q2.1, q2.2))) else ((F_X5_in (x3.toInt64) 0 99 q1.2).bind (fun q3 => if (fk_b q3.1) = 0 then ((F_X5_finds 0 q3.2).bind (fun q4 => some (q4.1, q4.2))) else ((F_X5_between x1 x2 q3.2).bind (fun q5 => (F_X5_firstOf q5.1 0 x3 q5.2).bind (fun q6 => some (q6.1, q6.2)))))))
set_option maxRecDepth 100000 in
set_option maxHeartbeats 4000000 in
theorem A_X5_peace (X : aw_X) (l : Launch) (x1 : Int32) (x2 : Int32) (x3 : Int32) (σ : fk_T) : af_G X l mX5_peace [.ref 26, .int x1, .int x2, .int x3] (hp σ) ρi (F_X5_peace x1 x2 x3 σ) := by
  refine af_mk (by decide) rfl (fun q _ => aw_oki q) [some (.ref 26), some (.int x1), some (.int x2), some (.int x3)] rfl ?_
  rintro cx rfl rfl hN K
  replace hN : aw_nL cx = 4 := hN
  replace K : aw_K cx cX5_peace RX5 rX5_peace := K
  unfold F_X5_peace
  refine af_aload_n K 1 dX5_peace_0 rfl rfl ?_
  refine af_iload_n K 2 dX5_peace_1 rfl rfl ?_
  refine af_iload_n K 3 dX5_peace_2 rfl rfl ?_
  refine af_callV_z K (b := 26) (vs := [.int x1, .int x2]) mv_X5_areTwo lk_832 ((hp_at _ (Nat.le_of_ble_eq_true rfl)).trans rfl) rfl 6 dX5_peace_3 rfl rfl rfl rfl (A_X5_areTwo _ _ x1 x2 σ) rfl (fun q1 => ?_)
  refine af_if_eq K 9 35 dX5_peace_6 rfl rfl (fun _ => ?_) (fun _ => ?_)
  · refine af_aload_n K 36 dX5_peace_35 rfl rfl ?_
    refine af_iconst K 37 dX5_peace_36 rfl cs_iconst_0 ?_
    refine af_callV_i K (b := 26) (vs := [.int 0]) mv_X5_finds lk_760 ((hp_at _ (Nat.le_of_ble_eq_true rfl)).trans rfl) rfl 40 dX5_peace_37 rfl rfl rfl rfl (A_X5_finds _ _ 0 q1.2) rfl (fun q2 => ?_)
    exact af_reti K dX5_peace_40
  · refine af_iload_n K 10 dX5_peace_9 rfl rfl ?_
    refine af_i2l K 11 dX5_peace_10 rfl ?_
    refine af_lconst K 12 dX5_peace_11 rfl cs_lconst_0 ?_
    refine af_ldc2 K 15 dX5_peace_12 rfl lk_780 ?_
    refine af_callS_z K (vs := [.long (x3.toInt64), .long 0, .long 99]) ms_X5_in lk_753 18 dX5_peace_15 rfl rfl rfl rfl (A_X5_in _ _ (x3.toInt64) 0 99 q1.2) rfl (fun q3 => ?_)
    refine af_if_eq K 21 35 dX5_peace_18 rfl rfl (fun _ => ?_) (fun _ => ?_)
    · refine af_aload_n K 36 dX5_peace_35 rfl rfl ?_
      refine af_iconst K 37 dX5_peace_36 rfl cs_iconst_0 ?_
      refine af_callV_i K (b := 26) (vs := [.int 0]) mv_X5_finds lk_760 ((hp_at _ (Nat.le_of_ble_eq_true rfl)).trans rfl) rfl 40 dX5_peace_37 rfl rfl rfl rfl (A_X5_finds _ _ 0 q3.2) rfl (fun q4 => ?_)
      exact af_reti K dX5_peace_40
    · refine af_aload_n K 22 dX5_peace_21 rfl rfl ?_
      refine af_iload_n K 23 dX5_peace_22 rfl rfl ?_
      refine af_iload_n K 24 dX5_peace_23 rfl rfl ?_
      refine af_callS_i K (vs := [.int x1, .int x2]) ms_X5_between lk_836 27 dX5_peace_24 rfl rfl rfl rfl (A_X5_between _ _ x1 x2 q3.2) rfl (fun q5 => ?_)
      refine af_iconst K 28 dX5_peace_27 rfl cs_iconst_0 ?_
      refine af_iload_n K 29 dX5_peace_28 rfl rfl ?_
      refine af_callV_i K (b := 26) (vs := [.int q5.1, .int 0, .int x3]) mv_X5_firstOf lk_925 ((hp_at _ (Nat.le_of_ble_eq_true rfl)).trans rfl) rfl 32 dX5_peace_29 rfl rfl rfl rfl (A_X5_firstOf _ _ q5.1 0 x3 q5.2) rfl (fun q6 => ?_)
      refine af_goto K 40 dX5_peace_32 rfl ?_
      exact af_reti K dX5_peace_40
def F_X5_when (x1 : Int32) (x2 : Int32) (σ : fk_T) : Option (Int32 × fk_T) := (F_X5_isPotter x1 σ).bind (fun q1 => if (fk_b q1.1) = 0 then ((F_X5_finds 0 q1.2).bind (fun q2 => some (q2.1, q2.2))) else ((F_X5_in (x2.toInt64) 0 9999 q1.2).bind (fun q3 => if (fk_b q3.1) = 0 then ((F_X5_finds 0 q3.2).bind (fun q4 => some (q4.1, q4.2))) else ((F_X5_firstOf (45 + x1) x2 9999 q3.2).bind (fun q5 => some (q5.1, q5.2))))))
set_option maxRecDepth 100000 in
set_option maxHeartbeats 4000000 in
theorem A_X5_when (X : aw_X) (l : Launch) (x1 : Int32) (x2 : Int32) (σ : fk_T) : af_G X l mX5_when [.ref 26, .int x1, .int x2] (hp σ) ρi (F_X5_when x1 x2 σ) := by
  refine af_mk (by decide) rfl (fun q _ => aw_oki q) [some (.ref 26), some (.int x1), some (.int x2)] rfl ?_
  rintro cx rfl rfl hN K
  replace hN : aw_nL cx = 3 := hN
  replace K : aw_K cx cX5_when RX5 rX5_when := K
  unfold F_X5_when
  refine af_aload_n K 1 dX5_when_0 rfl rfl ?_
  refine af_iload_n K 2 dX5_when_1 rfl rfl ?_
  refine af_callV_z K (b := 26) (vs := [.int x1]) mv_X5_isPotter lk_793 ((hp_at _ (Nat.le_of_ble_eq_true rfl)).trans rfl) rfl 5 dX5_when_2 rfl rfl rfl rfl (A_X5_isPotter _ _ x1 σ) rfl (fun q1 => ?_)
  refine af_if_eq K 8 35 dX5_when_5 rfl rfl (fun _ => ?_) (fun _ => ?_)
  · refine af_aload_n K 36 dX5_when_35 rfl rfl ?_
    refine af_iconst K 37 dX5_when_36 rfl cs_iconst_0 ?_
    refine af_callV_i K (b := 26) (vs := [.int 0]) mv_X5_finds lk_760 ((hp_at _ (Nat.le_of_ble_eq_true rfl)).trans rfl) rfl 40 dX5_when_37 rfl rfl rfl rfl (A_X5_finds _ _ 0 q1.2) rfl (fun q2 => ?_)
    exact af_reti K dX5_when_40
  · refine af_iload_n K 9 dX5_when_8 rfl rfl ?_
    refine af_i2l K 10 dX5_when_9 rfl ?_
    refine af_lconst K 11 dX5_when_10 rfl cs_lconst_0 ?_
    refine af_ldc2 K 14 dX5_when_11 rfl lk_937 ?_
    refine af_callS_z K (vs := [.long (x2.toInt64), .long 0, .long 9999]) ms_X5_in lk_753 17 dX5_when_14 rfl rfl rfl rfl (A_X5_in _ _ (x2.toInt64) 0 9999 q1.2) rfl (fun q3 => ?_)
    refine af_if_eq K 20 35 dX5_when_17 rfl rfl (fun _ => ?_) (fun _ => ?_)
    · refine af_aload_n K 36 dX5_when_35 rfl rfl ?_
      refine af_iconst K 37 dX5_when_36 rfl cs_iconst_0 ?_
      refine af_callV_i K (b := 26) (vs := [.int 0]) mv_X5_finds lk_760 ((hp_at _ (Nat.le_of_ble_eq_true rfl)).trans rfl) rfl 40 dX5_when_37 rfl rfl rfl rfl (A_X5_finds _ _ 0 q3.2) rfl (fun q4 => ?_)
      exact af_reti K dX5_when_40
    · refine af_aload_n K 21 dX5_when_20 rfl rfl ?_
      refine af_bipush K 23 dX5_when_21 rfl cs_bipush_45 ?_
      refine af_iload_n K 24 dX5_when_23 rfl rfl ?_
      refine af_iadd K 25 dX5_when_24 rfl ?_
      refine af_iload_n K 26 dX5_when_25 rfl rfl ?_
      refine af_sipush K 29 dX5_when_26 rfl cs_sipush_9999 ?_
      refine af_callV_i K (b := 26) (vs := [.int (45 + x1), .int x2, .int 9999]) mv_X5_firstOf lk_925 ((hp_at _ (Nat.le_of_ble_eq_true rfl)).trans rfl) rfl 32 dX5_when_29 rfl rfl rfl rfl (A_X5_firstOf _ _ (45 + x1) x2 9999 q3.2) rfl (fun q5 => ?_)
      refine af_goto K 40 dX5_when_32 rfl ?_
      exact af_reti K dX5_when_40
def F_X5_isShort (x0 : Int32) (σ : fk_T) : Option (Bool × fk_T) := (F_X5_in (x0.toInt64) 0 60 σ).bind (fun q1 => some (q1.1, q1.2))
set_option maxRecDepth 100000 in
set_option maxHeartbeats 4000000 in
theorem A_X5_isShort (X : aw_X) (l : Launch) (x0 : Int32) (σ : fk_T) : af_G X l mX5_isShort [.int x0] (hp σ) ρz (F_X5_isShort x0 σ) := by
  refine af_mk (by decide) rfl (fun q _ => aw_okz q) [some (.int x0)] rfl ?_
  rintro cx rfl rfl hN K
  replace hN : aw_nL cx = 1 := hN
  replace K : aw_K cx cX5_isShort RX5 rX5_isShort := K
  unfold F_X5_isShort
  refine af_iload_n K 1 dX5_isShort_0 rfl rfl ?_
  refine af_i2l K 2 dX5_isShort_1 rfl ?_
  refine af_lconst K 3 dX5_isShort_2 rfl cs_lconst_0 ?_
  refine af_ldc2 K 6 dX5_isShort_3 rfl lk_863 ?_
  refine af_callS_z K (vs := [.long (x0.toInt64), .long 0, .long 60]) ms_X5_in lk_753 9 dX5_isShort_6 rfl rfl rfl rfl (A_X5_in _ _ (x0.toInt64) 0 60 σ) rfl (fun q1 => ?_)
  exact af_retz K rfl dX5_isShort_9
