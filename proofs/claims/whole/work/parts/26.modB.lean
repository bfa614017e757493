def L_X5_setWith_53  : Nat → Int32 → Int32 → Int32 → Int32 → Int32 → Int32 → fk_T → (Int32 → Int32 → Int32 → Int32 → Int32 → Int32 → fk_T → Option (Int32 × fk_T)) → Option (Int32 × fk_T)
  | 0, _, _, _, _, _, _, _, _ => none
  | fu + 1, x1, x2, x3, x4, x5, x6, σ, k => fk_A (σ.1 27) 135 0 (fun y7 => if y7 ≤ x6 then (k x1 x2 x3 x4 x5 x6 σ) else (if x6 = x2 then (fk_B (x6 + 1) (fun y8 => L_X5_setWith_53 fu x1 x2 x3 x4 x5 y8 σ k)) else (fk_S σ 27 135 (7 + x1) ((10 * x2) + x6) (fun s9 => (F_X5_behind x3 4 s9).bind (fun q10 => if q10.1 ≤ x5 then (fk_B (x6 + 1) (fun y11 => L_X5_setWith_53 fu x1 x2 x3 x4 x5 y11 q10.2 k)) else (fk_B (x6 + 1) (fun y12 => L_X5_setWith_53 fu x1 x2 x3 x6 q10.1 y12 q10.2 k)))))))
def F_X5_setWith (x1 : Int32) (x2 : Int32) (x3 : Int32) (σ : fk_T) : Option (Int32 × fk_T) := (F_X5_in (x1.toInt64) 0 5 σ).bind (fun q1 => if (fk_b q1.1) = 0 then ((F_X5_finds 0 q1.2).bind (fun q2 => some (q2.1, q2.2))) else ((F_X5_isPotter x2 q1.2).bind (fun q3 => if (fk_b q3.1) = 0 then ((F_X5_finds 0 q3.2).bind (fun q4 => some (q4.1, q4.2))) else ((F_X5_isShort x3 q3.2).bind (fun q5 => if (fk_b q5.1) = 0 then ((F_X5_finds 0 q5.2).bind (fun q21 => some (q21.1, q21.2))) else ((F_X5_copies 27 29 q5.2).bind (fun q6 => L_X5_setWith_53 fk_N x1 x2 x3 (-1) (-1) 0 q6 (fun y14 y15 y16 y17 y18 y19 s13 => if 0 ≤ y17 then (some (y17, s13)) else ((F_X5_finds 3 s13).bind (fun q20 => some (q20.1, q20.2)))))))))))
set_option maxRecDepth 100000 in
set_option maxHeartbeats 4000000 in
theorem W_X5_setWith_53 {cx : aw_C} (hN : aw_nL cx = 8) (K : aw_K cx cX5_setWith RX5 rX5_setWith)  : ∀ (fu : Nat) (x1 : Int32) (x2 : Int32) (x3 : Int32) (x4 : Int32) (x5 : Int32) (x6 : Int32) (σ : fk_T) (k : Int32 → Int32 → Int32 → Int32 → Int32 → Int32 → fk_T → Option (Int32 × fk_T)), (∀ (x1 : Int32) (x2 : Int32) (x3 : Int32) (x4 : Int32) (x5 : Int32) (x6 : Int32) (σ : fk_T), af cx ρi 115 [some (.ref 26), some (.int x1), some (.int x2), some (.int x3), some (.int x4), some (.int x5), some (.int x6), none] [] (hp σ) (k x1 x2 x3 x4 x5 x6 σ)) → af cx ρi 53 [some (.ref 26), some (.int x1), some (.int x2), some (.int x3), some (.int x4), some (.int x5), some (.int x6), none] [] (hp σ) (L_X5_setWith_53 fu x1 x2 x3 x4 x5 x6 σ k) := by
  intro fu
  induction fu with
  | zero => intros; exact af_none
  | succ fu ih53 =>
    intro x1 x2 x3 x4 x5 x6 σ k hk53
    rw [L_X5_setWith_53]
    refine af_iload K 55 dX5_setWith_53 rfl rfl ?_
    refine af_aload_n K 56 dX5_setWith_55 rfl rfl ?_
    refine af_get K 59 dX5_setWith_56 rfl fl_X5_7 (Nat.le_of_ble_eq_true rfl) rfl rfl ?_
    refine af_iconst K 60 dX5_setWith_59 rfl cs_iconst_0 ?_
    refine af_iald K 61 dX5_setWith_60 rfl (Nat.le_of_ble_eq_true rfl) rfl (fun y7 => ?_)
    refine af_icmp_ge K 64 115 dX5_setWith_61 rfl rfl (fun _ => ?_) (fun _ => ?_)
    · refine af_lm [true, true, true, true, true, true, true, false] rfl ?_
      exact hk53 _ _ _ _ _ _ _
    · refine af_iload K 66 dX5_setWith_64 rfl rfl ?_
      refine af_iload_n K 67 dX5_setWith_66 rfl rfl ?_
      refine af_icmp_eq K 70 109 dX5_setWith_67 rfl rfl (fun _ => ?_) (fun _ => ?_)
      · refine af_iincB K 112 (fun yy => [some (.ref 26), some (.int x1), some (.int x2), some (.int x3), some (.int x4), some (.int x5), some (.int yy), none]) dX5_setWith_109 rfl (by rw [hN]; exact Nat.le_of_ble_eq_true rfl) rfl cs_iconst_1 (fun _ => rfl) (fun y8 => ?_)
        refine af_goto K 53 dX5_setWith_112 rfl ?_
        refine af_lm [true, true, true, true, true, true, true, false] rfl ?_
        exact ih53 _ _ _ _ _ _ _ _ hk53
      · refine af_aload_n K 71 dX5_setWith_70 rfl rfl ?_
        refine af_get K 74 dX5_setWith_71 rfl fl_X5_7 (Nat.le_of_ble_eq_true rfl) rfl rfl ?_
        refine af_bipush K 76 dX5_setWith_74 rfl cs_bipush_7 ?_
        refine af_iload_n K 77 dX5_setWith_76 rfl rfl ?_
        refine af_iadd K 78 dX5_setWith_77 rfl ?_
        refine af_bipush K 80 dX5_setWith_78 rfl cs_bipush_10 ?_
        refine af_iload_n K 81 dX5_setWith_80 rfl rfl ?_
        refine af_imul K 82 dX5_setWith_81 rfl ?_
        refine af_iload K 84 dX5_setWith_82 rfl rfl ?_
        refine af_iadd K 85 dX5_setWith_84 rfl ?_
        refine af_iast K 86 dX5_setWith_85 rfl (Nat.le_of_ble_eq_true rfl) (fun _ _ => rfl) (fun s9 => ?_)
        refine af_aload_n K 87 dX5_setWith_86 rfl rfl ?_
        refine af_iload_n K 88 dX5_setWith_87 rfl rfl ?_
        refine af_iconst K 89 dX5_setWith_88 rfl cs_iconst_4 ?_
        refine af_callV_i K (b := 26) (vs := [.int x3, .int 4]) mv_X5_behind lk_917 ((hp_at _ (Nat.le_of_ble_eq_true rfl)).trans rfl) rfl 92 dX5_setWith_89 rfl rfl rfl rfl (A_X5_behind _ _ x3 4 s9) rfl (fun q10 => ?_)
        refine af_istore K 94 [some (.ref 26), some (.int x1), some (.int x2), some (.int x3), some (.int x4), some (.int x5), some (.int x6), some (.int q10.1)] dX5_setWith_92 rfl (by rw [hN]; exact Nat.le_of_ble_eq_true rfl) rfl ?_
        refine af_iload K 96 dX5_setWith_94 rfl rfl ?_
        refine af_iload K 98 dX5_setWith_96 rfl rfl ?_
        refine af_icmp_le K 101 109 dX5_setWith_98 rfl rfl (fun _ => ?_) (fun _ => ?_)
        · refine af_iincB K 112 (fun yy => [some (.ref 26), some (.int x1), some (.int x2), some (.int x3), some (.int x4), some (.int x5), some (.int yy), some (.int q10.1)]) dX5_setWith_109 rfl (by rw [hN]; exact Nat.le_of_ble_eq_true rfl) rfl cs_iconst_1 (fun _ => rfl) (fun y11 => ?_)
          refine af_goto K 53 dX5_setWith_112 rfl ?_
          refine af_lm [true, true, true, true, true, true, true, false] rfl ?_
          exact ih53 _ _ _ _ _ _ _ _ hk53
        · refine af_iload K 103 dX5_setWith_101 rfl rfl ?_
          refine af_istore K 105 [some (.ref 26), some (.int x1), some (.int x2), some (.int x3), some (.int x6), some (.int x5), some (.int x6), some (.int q10.1)] dX5_setWith_103 rfl (by rw [hN]; exact Nat.le_of_ble_eq_true rfl) rfl ?_
          refine af_iload K 107 dX5_setWith_105 rfl rfl ?_
          refine af_istore K 109 [some (.ref 26), some (.int x1), some (.int x2), some (.int x3), some (.int x6), some (.int q10.1), some (.int x6), some (.int q10.1)] dX5_setWith_107 rfl (by rw [hN]; exact Nat.le_of_ble_eq_true rfl) rfl ?_
          refine af_iincB K 112 (fun yy => [some (.ref 26), some (.int x1), some (.int x2), some (.int x3), some (.int x6), some (.int q10.1), some (.int yy), some (.int q10.1)]) dX5_setWith_109 rfl (by rw [hN]; exact Nat.le_of_ble_eq_true rfl) rfl cs_iconst_1 (fun _ => rfl) (fun y12 => ?_)
          refine af_goto K 53 dX5_setWith_112 rfl ?_
          refine af_lm [true, true, true, true, true, true, true, false] rfl ?_
          exact ih53 _ _ _ _ _ _ _ _ hk53
set_option maxRecDepth 100000 in
set_option maxHeartbeats 4000000 in
theorem A_X5_setWith (X : aw_X) (l : Launch) (x1 : Int32) (x2 : Int32) (x3 : Int32) (σ : fk_T) : af_G X l mX5_setWith [.ref 26, .int x1, .int x2, .int x3] (hp σ) ρi (F_X5_setWith x1 x2 x3 σ) := by
  refine af_mk (by decide) rfl (fun q _ => aw_oki q) [some (.ref 26), some (.int x1), some (.int x2), some (.int x3), none, none, none, none] rfl ?_
  rintro cx rfl rfl hN K
  replace hN : aw_nL cx = 8 := hN
  replace K : aw_K cx cX5_setWith RX5 rX5_setWith := K
  unfold F_X5_setWith
  refine af_iload_n K 1 dX5_setWith_0 rfl rfl ?_
  refine af_i2l K 2 dX5_setWith_1 rfl ?_
  refine af_lconst K 3 dX5_setWith_2 rfl cs_lconst_0 ?_
  refine af_ldc2 K 6 dX5_setWith_3 rfl lk_769 ?_
  refine af_callS_z K (vs := [.long (x1.toInt64), .long 0, .long 5]) ms_X5_in lk_753 9 dX5_setWith_6 rfl rfl rfl rfl (A_X5_in _ _ (x1.toInt64) 0 5 σ) rfl (fun q1 => ?_)
  refine af_if_eq K 12 27 dX5_setWith_9 rfl rfl (fun _ => ?_) (fun _ => ?_)
  · refine af_aload_n K 28 dX5_setWith_27 rfl rfl ?_
    refine af_iconst K 29 dX5_setWith_28 rfl cs_iconst_0 ?_
    refine af_callV_i K (b := 26) (vs := [.int 0]) mv_X5_finds lk_760 ((hp_at _ (Nat.le_of_ble_eq_true rfl)).trans rfl) rfl 32 dX5_setWith_29 rfl rfl rfl rfl (A_X5_finds _ _ 0 q1.2) rfl (fun q2 => ?_)
    exact af_reti K dX5_setWith_32
  · refine af_aload_n K 13 dX5_setWith_12 rfl rfl ?_
    refine af_iload_n K 14 dX5_setWith_13 rfl rfl ?_
    refine af_callV_z K (b := 26) (vs := [.int x2]) mv_X5_isPotter lk_793 ((hp_at _ (Nat.le_of_ble_eq_true rfl)).trans rfl) rfl 17 dX5_setWith_14 rfl rfl rfl rfl (A_X5_isPotter _ _ x2 q1.2) rfl (fun q3 => ?_)
    refine af_if_eq K 20 27 dX5_setWith_17 rfl rfl (fun _ => ?_) (fun _ => ?_)
    · refine af_aload_n K 28 dX5_setWith_27 rfl rfl ?_
      refine af_iconst K 29 dX5_setWith_28 rfl cs_iconst_0 ?_
      refine af_callV_i K (b := 26) (vs := [.int 0]) mv_X5_finds lk_760 ((hp_at _ (Nat.le_of_ble_eq_true rfl)).trans rfl) rfl 32 dX5_setWith_29 rfl rfl rfl rfl (A_X5_finds _ _ 0 q3.2) rfl (fun q4 => ?_)
      exact af_reti K dX5_setWith_32
    · refine af_iload_n K 21 dX5_setWith_20 rfl rfl ?_
      refine af_callS_z K (vs := [.int x3]) ms_X5_isShort lk_942 24 dX5_setWith_21 rfl rfl rfl rfl (A_X5_isShort _ _ x3 q3.2) rfl (fun q5 => ?_)
      refine af_if_ne K 27 33 dX5_setWith_24 rfl rfl (fun _ => ?_) (fun _ => ?_)
      · refine af_aload_n K 34 dX5_setWith_33 rfl rfl ?_
        refine af_get K 37 dX5_setWith_34 rfl fl_X5_7 (Nat.le_of_ble_eq_true rfl) rfl rfl ?_
        refine af_aload_n K 38 dX5_setWith_37 rfl rfl ?_
        refine af_get K 41 dX5_setWith_38 rfl fl_X5_16 (Nat.le_of_ble_eq_true rfl) rfl rfl ?_
        refine af_callS_v K (vs := [.ref 27, .ref 29]) ms_X5_copies lk_910 44 dX5_setWith_41 rfl rfl rfl rfl (A_X5_copies _ _ 27 (Or.inl rfl) 29 (Or.inr (Or.inr (Or.inl rfl))) q5.2) rfl (fun q6 => ?_)
        refine af_iconst K 45 dX5_setWith_44 rfl cs_iconst_m1 ?_
        refine af_istore K 47 [some (.ref 26), some (.int x1), some (.int x2), some (.int x3), some (.int (-1)), none, none, none] dX5_setWith_45 rfl (by rw [hN]; exact Nat.le_of_ble_eq_true rfl) rfl ?_
        refine af_iconst K 48 dX5_setWith_47 rfl cs_iconst_m1 ?_
        refine af_istore K 50 [some (.ref 26), some (.int x1), some (.int x2), some (.int x3), some (.int (-1)), some (.int (-1)), none, none] dX5_setWith_48 rfl (by rw [hN]; exact Nat.le_of_ble_eq_true rfl) rfl ?_
        refine af_iconst K 51 dX5_setWith_50 rfl cs_iconst_0 ?_
        refine af_istore K 53 [some (.ref 26), some (.int x1), some (.int x2), some (.int x3), some (.int (-1)), some (.int (-1)), some (.int 0), none] dX5_setWith_51 rfl (by rw [hN]; exact Nat.le_of_ble_eq_true rfl) rfl ?_
        refine af_lm [true, true, true, true, true, true, true, false] rfl ?_
        refine W_X5_setWith_53 hN K  fk_N _ _ _ _ _ _ _ _ (fun y14 y15 y16 y17 y18 y19 s13 => ?_)
        refine af_iload K 117 dX5_setWith_115 rfl rfl ?_
        refine af_if_ge K 120 128 dX5_setWith_117 rfl rfl (fun _ => ?_) (fun _ => ?_)
        · refine af_iload K 130 dX5_setWith_128 rfl rfl ?_
          exact af_reti K dX5_setWith_130
        · refine af_aload_n K 121 dX5_setWith_120 rfl rfl ?_
          refine af_iconst K 122 dX5_setWith_121 rfl cs_iconst_3 ?_
          refine af_callV_i K (b := 26) (vs := [.int 3]) mv_X5_finds lk_760 ((hp_at _ (Nat.le_of_ble_eq_true rfl)).trans rfl) rfl 125 dX5_setWith_122 rfl rfl rfl rfl (A_X5_finds _ _ 3 s13) rfl (fun q20 => ?_)
          refine af_goto K 130 dX5_setWith_125 rfl ?_
          exact af_reti K dX5_setWith_130
      · refine af_aload_n K 28 dX5_setWith_27 rfl rfl ?_
        refine af_iconst K 29 dX5_setWith_28 rfl cs_iconst_0 ?_
        refine af_callV_i K (b := 26) (vs := [.int 0]) mv_X5_finds lk_760 ((hp_at _ (Nat.le_of_ble_eq_true rfl)).trans rfl) rfl 32 dX5_setWith_29 rfl rfl rfl rfl (A_X5_finds _ _ 0 q5.2) rfl (fun q21 => ?_)
        exact af_reti K dX5_setWith_32
def L_X5_bestOf_20  : Nat → Int32 → Int32 → Int32 → Int32 → Int32 → Int32 → fk_T → (Int32 → Int32 → Int32 → Int32 → Int32 → Int32 → fk_T → Option (Int32 × fk_T)) → Option (Int32 × fk_T)
  | 0, _, _, _, _, _, _, _, _ => none
  | fu + 1, x1, x2, x3, x4, x5, x6, σ, k => if x2 < x6 then (k x1 x2 x3 x4 x5 x6 σ) else (fk_S σ 27 135 x1 x6 (fun s2 => (F_X5_behind x3 4 s2).bind (fun q3 => if q3.1 ≤ x5 then (fk_B (x6 + 1) (fun y4 => L_X5_bestOf_20 fu x1 x2 x3 x4 x5 y4 q3.2 k)) else (fk_B (x6 + 1) (fun y5 => L_X5_bestOf_20 fu x1 x2 x3 x6 q3.1 y5 q3.2 k)))))
def F_X5_bestOf (x1 : Int32) (x2 : Int32) (x3 : Int32) (σ : fk_T) : Option (Int32 × fk_T) := (F_X5_copies 27 29 σ).bind (fun q1 => L_X5_bestOf_20 fk_N x1 x2 x3 0 (-1) 0 q1 (fun y7 y8 y9 y10 y11 y12 s6 => some (y10, s6)))
set_option maxRecDepth 100000 in
set_option maxHeartbeats 4000000 in
theorem W_X5_bestOf_20 {cx : aw_C} (hN : aw_nL cx = 8) (K : aw_K cx cX5_bestOf RX5 rX5_bestOf)  : ∀ (fu : Nat) (x1 : Int32) (x2 : Int32) (x3 : Int32) (x4 : Int32) (x5 : Int32) (x6 : Int32) (σ : fk_T) (k : Int32 → Int32 → Int32 → Int32 → Int32 → Int32 → fk_T → Option (Int32 × fk_T)), (∀ (x1 : Int32) (x2 : Int32) (x3 : Int32) (x4 : Int32) (x5 : Int32) (x6 : Int32) (σ : fk_T), af cx ρi 63 [some (.ref 26), some (.int x1), some (.int x2), some (.int x3), some (.int x4), some (.int x5), some (.int x6), none] [] (hp σ) (k x1 x2 x3 x4 x5 x6 σ)) → af cx ρi 20 [some (.ref 26), some (.int x1), some (.int x2), some (.int x3), some (.int x4), some (.int x5), some (.int x6), none] [] (hp σ) (L_X5_bestOf_20 fu x1 x2 x3 x4 x5 x6 σ k) := by
  intro fu
  induction fu with
  | zero => intros; exact af_none
  | succ fu ih20 =>
    intro x1 x2 x3 x4 x5 x6 σ k hk20
    rw [L_X5_bestOf_20]
    refine af_iload K 22 dX5_bestOf_20 rfl rfl ?_
    refine af_iload_n K 23 dX5_bestOf_22 rfl rfl ?_
    refine af_icmp_gt K 26 63 dX5_bestOf_23 rfl rfl (fun _ => ?_) (fun _ => ?_)
    · refine af_lm [true, true, true, true, true, true, true, false] rfl ?_
      exact hk20 _ _ _ _ _ _ _
    · refine af_aload_n K 27 dX5_bestOf_26 rfl rfl ?_
      refine af_get K 30 dX5_bestOf_27 rfl fl_X5_7 (Nat.le_of_ble_eq_true rfl) rfl rfl ?_
      refine af_iload_n K 31 dX5_bestOf_30 rfl rfl ?_
      refine af_iload K 33 dX5_bestOf_31 rfl rfl ?_
      refine af_iast K 34 dX5_bestOf_33 rfl (Nat.le_of_ble_eq_true rfl) (fun _ _ => rfl) (fun s2 => ?_)
      refine af_aload_n K 35 dX5_bestOf_34 rfl rfl ?_
      refine af_iload_n K 36 dX5_bestOf_35 rfl rfl ?_
      refine af_iconst K 37 dX5_bestOf_36 rfl cs_iconst_4 ?_
      refine af_callV_i K (b := 26) (vs := [.int x3, .int 4]) mv_X5_behind lk_917 ((hp_at _ (Nat.le_of_ble_eq_true rfl)).trans rfl) rfl 40 dX5_bestOf_37 rfl rfl rfl rfl (A_X5_behind _ _ x3 4 s2) rfl (fun q3 => ?_)
      refine af_istore K 42 [some (.ref 26), some (.int x1), some (.int x2), some (.int x3), some (.int x4), some (.int x5), some (.int x6), some (.int q3.1)] dX5_bestOf_40 rfl (by rw [hN]; exact Nat.le_of_ble_eq_true rfl) rfl ?_
      refine af_iload K 44 dX5_bestOf_42 rfl rfl ?_
      refine af_iload K 46 dX5_bestOf_44 rfl rfl ?_
      refine af_icmp_le K 49 57 dX5_bestOf_46 rfl rfl (fun _ => ?_) (fun _ => ?_)
      · refine af_iincB K 60 (fun yy => [some (.ref 26), some (.int x1), some (.int x2), some (.int x3), some (.int x4), some (.int x5), some (.int yy), some (.int q3.1)]) dX5_bestOf_57 rfl (by rw [hN]; exact Nat.le_of_ble_eq_true rfl) rfl cs_iconst_1 (fun _ => rfl) (fun y4 => ?_)
        refine af_goto K 20 dX5_bestOf_60 rfl ?_
        refine af_lm [true, true, true, true, true, true, true, false] rfl ?_
        exact ih20 _ _ _ _ _ _ _ _ hk20
      · refine af_iload K 51 dX5_bestOf_49 rfl rfl ?_
        refine af_istore K 53 [some (.ref 26), some (.int x1), some (.int x2), some (.int x3), some (.int x6), some (.int x5), some (.int x6), some (.int q3.1)] dX5_bestOf_51 rfl (by rw [hN]; exact Nat.le_of_ble_eq_true rfl) rfl ?_
        refine af_iload K 55 dX5_bestOf_53 rfl rfl ?_
        refine af_istore K 57 [some (.ref 26), some (.int x1), some (.int x2), some (.int x3), some (.int x6), some (.int q3.1), some (.int x6), some (.int q3.1)] dX5_bestOf_55 rfl (by rw [hN]; exact Nat.le_of_ble_eq_true rfl) rfl ?_
        refine af_iincB K 60 (fun yy => [some (.ref 26), some (.int x1), some (.int x2), some (.int x3), some (.int x6), some (.int q3.1), some (.int yy), some (.int q3.1)]) dX5_bestOf_57 rfl (by rw [hN]; exact Nat.le_of_ble_eq_true rfl) rfl cs_iconst_1 (fun _ => rfl) (fun y5 => ?_)
        refine af_goto K 20 dX5_bestOf_60 rfl ?_
        refine af_lm [true, true, true, true, true, true, true, false] rfl ?_
        exact ih20 _ _ _ _ _ _ _ _ hk20
set_option maxRecDepth 100000 in
set_option maxHeartbeats 4000000 in
theorem A_X5_bestOf (X : aw_X) (l : Launch) (x1 : Int32) (x2 : Int32) (x3 : Int32) (σ : fk_T) : af_G X l mX5_bestOf [.ref 26, .int x1, .int x2, .int x3] (hp σ) ρi (F_X5_bestOf x1 x2 x3 σ) := by
  refine af_mk (by decide) rfl (fun q _ => aw_oki q) [some (.ref 26), some (.int x1), some (.int x2), some (.int x3), none, none, none, none] rfl ?_
  rintro cx rfl rfl hN K
  replace hN : aw_nL cx = 8 := hN
  replace K : aw_K cx cX5_bestOf RX5 rX5_bestOf := K
  unfold F_X5_bestOf
  refine af_aload_n K 1 dX5_bestOf_0 rfl rfl ?_
  refine af_get K 4 dX5_bestOf_1 rfl fl_X5_7 (Nat.le_of_ble_eq_true rfl) rfl rfl ?_
  refine af_aload_n K 5 dX5_bestOf_4 rfl rfl ?_
  refine af_get K 8 dX5_bestOf_5 rfl fl_X5_16 (Nat.le_of_ble_eq_true rfl) rfl rfl ?_
  refine af_callS_v K (vs := [.ref 27, .ref 29]) ms_X5_copies lk_910 11 dX5_bestOf_8 rfl rfl rfl rfl (A_X5_copies _ _ 27 (Or.inl rfl) 29 (Or.inr (Or.inr (Or.inl rfl))) σ) rfl (fun q1 => ?_)
  refine af_iconst K 12 dX5_bestOf_11 rfl cs_iconst_0 ?_
  refine af_istore K 14 [some (.ref 26), some (.int x1), some (.int x2), some (.int x3), some (.int 0), none, none, none] dX5_bestOf_12 rfl (by rw [hN]; exact Nat.le_of_ble_eq_true rfl) rfl ?_
  refine af_iconst K 15 dX5_bestOf_14 rfl cs_iconst_m1 ?_
  refine af_istore K 17 [some (.ref 26), some (.int x1), some (.int x2), some (.int x3), some (.int 0), some (.int (-1)), none, none] dX5_bestOf_15 rfl (by rw [hN]; exact Nat.le_of_ble_eq_true rfl) rfl ?_
  refine af_iconst K 18 dX5_bestOf_17 rfl cs_iconst_0 ?_
  refine af_istore K 20 [some (.ref 26), some (.int x1), some (.int x2), some (.int x3), some (.int 0), some (.int (-1)), some (.int 0), none] dX5_bestOf_18 rfl (by rw [hN]; exact Nat.le_of_ble_eq_true rfl) rfl ?_
  refine af_lm [true, true, true, true, true, true, true, false] rfl ?_
  refine W_X5_bestOf_20 hN K  fk_N _ _ _ _ _ _ _ _ (fun y7 y8 y9 y10 y11 y12 s6 => ?_)
  refine af_iload K 65 dX5_bestOf_63 rfl rfl ?_
  exact af_reti K dX5_bestOf_65
def F_X5_heatFor (x1 : Int32) (x2 : Int32) (σ : fk_T) : Option (Int32 × fk_T) := (F_X5_isPotter x1 σ).bind (fun q1 => if (fk_b q1.1) = 0 then ((F_X5_finds 0 q1.2).bind (fun q2 => some (q2.1, q2.2))) else ((F_X5_isShort x2 q1.2).bind (fun q3 => if (fk_b q3.1) = 0 then ((F_X5_finds 0 q3.2).bind (fun q4 => some (q4.1, q4.2))) else ((F_X5_bestOf (21 + x1) 99 x2 q3.2).bind (fun q5 => some (q5.1, q5.2))))))
set_option maxRecDepth 100000 in
set_option maxHeartbeats 4000000 in
theorem A_X5_heatFor (X : aw_X) (l : Launch) (x1 : Int32) (x2 : Int32) (σ : fk_T) : af_G X l mX5_heatFor [.ref 26, .int x1, .int x2] (hp σ) ρi (F_X5_heatFor x1 x2 σ) := by
  refine af_mk (by decide) rfl (fun q _ => aw_oki q) [some (.ref 26), some (.int x1), some (.int x2)] rfl ?_
  rintro cx rfl rfl hN K
  replace hN : aw_nL cx = 3 := hN
  replace K : aw_K cx cX5_heatFor RX5 rX5_heatFor := K
  unfold F_X5_heatFor
  refine af_aload_n K 1 dX5_heatFor_0 rfl rfl ?_
  refine af_iload_n K 2 dX5_heatFor_1 rfl rfl ?_
  refine af_callV_z K (b := 26) (vs := [.int x1]) mv_X5_isPotter lk_793 ((hp_at _ (Nat.le_of_ble_eq_true rfl)).trans rfl) rfl 5 dX5_heatFor_2 rfl rfl rfl rfl (A_X5_isPotter _ _ x1 σ) rfl (fun q1 => ?_)
  refine af_if_eq K 8 29 dX5_heatFor_5 rfl rfl (fun _ => ?_) (fun _ => ?_)
  · refine af_aload_n K 30 dX5_heatFor_29 rfl rfl ?_
    refine af_iconst K 31 dX5_heatFor_30 rfl cs_iconst_0 ?_
    refine af_callV_i K (b := 26) (vs := [.int 0]) mv_X5_finds lk_760 ((hp_at _ (Nat.le_of_ble_eq_true rfl)).trans rfl) rfl 34 dX5_heatFor_31 rfl rfl rfl rfl (A_X5_finds _ _ 0 q1.2) rfl (fun q2 => ?_)
    exact af_reti K dX5_heatFor_34
  · refine af_iload_n K 9 dX5_heatFor_8 rfl rfl ?_
    refine af_callS_z K (vs := [.int x2]) ms_X5_isShort lk_942 12 dX5_heatFor_9 rfl rfl rfl rfl (A_X5_isShort _ _ x2 q1.2) rfl (fun q3 => ?_)
    refine af_if_eq K 15 29 dX5_heatFor_12 rfl rfl (fun _ => ?_) (fun _ => ?_)
    · refine af_aload_n K 30 dX5_heatFor_29 rfl rfl ?_
      refine af_iconst K 31 dX5_heatFor_30 rfl cs_iconst_0 ?_
      refine af_callV_i K (b := 26) (vs := [.int 0]) mv_X5_finds lk_760 ((hp_at _ (Nat.le_of_ble_eq_true rfl)).trans rfl) rfl 34 dX5_heatFor_31 rfl rfl rfl rfl (A_X5_finds _ _ 0 q3.2) rfl (fun q4 => ?_)
      exact af_reti K dX5_heatFor_34
    · refine af_aload_n K 16 dX5_heatFor_15 rfl rfl ?_
      refine af_bipush K 18 dX5_heatFor_16 rfl cs_bipush_21 ?_
      refine af_iload_n K 19 dX5_heatFor_18 rfl rfl ?_
      refine af_iadd K 20 dX5_heatFor_19 rfl ?_
      refine af_bipush K 22 dX5_heatFor_20 rfl cs_bipush_99 ?_
      refine af_iload_n K 23 dX5_heatFor_22 rfl rfl ?_
      refine af_callV_i K (b := 26) (vs := [.int (21 + x1), .int 99, .int x2]) mv_X5_bestOf lk_949 ((hp_at _ (Nat.le_of_ble_eq_true rfl)).trans rfl) rfl 26 dX5_heatFor_23 rfl rfl rfl rfl (A_X5_bestOf _ _ (21 + x1) 99 x2 q3.2) rfl (fun q5 => ?_)
      refine af_goto K 34 dX5_heatFor_26 rfl ?_
      exact af_reti K dX5_heatFor_34
def F_X5_kindFor (x1 : Int32) (x2 : Int32) (σ : fk_T) : Option (Int32 × fk_T) := (F_X5_isPotter x1 σ).bind (fun q1 => if (fk_b q1.1) = 0 then ((F_X5_finds 0 q1.2).bind (fun q2 => some (q2.1, q2.2))) else ((F_X5_isShort x2 q1.2).bind (fun q3 => if (fk_b q3.1) = 0 then ((F_X5_finds 0 q3.2).bind (fun q4 => some (q4.1, q4.2))) else ((F_X5_bestOf (13 + x1) 6 x2 q3.2).bind (fun q5 => some (q5.1, q5.2))))))
set_option maxRecDepth 100000 in
set_option maxHeartbeats 4000000 in
theorem A_X5_kindFor (X : aw_X) (l : Launch) (x1 : Int32) (x2 : Int32) (σ : fk_T) : af_G X l mX5_kindFor [.ref 26, .int x1, .int x2] (hp σ) ρi (F_X5_kindFor x1 x2 σ) := by
  refine af_mk (by decide) rfl (fun q _ => aw_oki q) [some (.ref 26), some (.int x1), some (.int x2)] rfl ?_
  rintro cx rfl rfl hN K
  replace hN : aw_nL cx = 3 := hN
  replace K : aw_K cx cX5_kindFor RX5 rX5_kindFor := K
  unfold F_X5_kindFor
  refine af_aload_n K 1 dX5_kindFor_0 rfl rfl ?_
  refine af_iload_n K 2 dX5_kindFor_1 rfl rfl ?_
  refine af_callV_z K (b := 26) (vs := [.int x1]) mv_X5_isPotter lk_793 ((hp_at _ (Nat.le_of_ble_eq_true rfl)).trans rfl) rfl 5 dX5_kindFor_2 rfl rfl rfl rfl (A_X5_isPotter _ _ x1 σ) rfl (fun q1 => ?_)
  refine af_if_eq K 8 29 dX5_kindFor_5 rfl rfl (fun _ => ?_) (fun _ => ?_)
  · refine af_aload_n K 30 dX5_kindFor_29 rfl rfl ?_
    refine af_iconst K 31 dX5_kindFor_30 rfl cs_iconst_0 ?_
    refine af_callV_i K (b := 26) (vs := [.int 0]) mv_X5_finds lk_760 ((hp_at _ (Nat.le_of_ble_eq_true rfl)).trans rfl) rfl 34 dX5_kindFor_31 rfl rfl rfl rfl (A_X5_finds _ _ 0 q1.2) rfl (fun q2 => ?_)
    exact af_reti K dX5_kindFor_34
  · refine af_iload_n K 9 dX5_kindFor_8 rfl rfl ?_
    refine af_callS_z K (vs := [.int x2]) ms_X5_isShort lk_942 12 dX5_kindFor_9 rfl rfl rfl rfl (A_X5_isShort _ _ x2 q1.2) rfl (fun q3 => ?_)
    refine af_if_eq K 15 29 dX5_kindFor_12 rfl rfl (fun _ => ?_) (fun _ => ?_)
    · refine af_aload_n K 30 dX5_kindFor_29 rfl rfl ?_
      refine af_iconst K 31 dX5_kindFor_30 rfl cs_iconst_0 ?_
      refine af_callV_i K (b := 26) (vs := [.int 0]) mv_X5_finds lk_760 ((hp_at _ (Nat.le_of_ble_eq_true rfl)).trans rfl) rfl 34 dX5_kindFor_31 rfl rfl rfl rfl (A_X5_finds _ _ 0 q3.2) rfl (fun q4 => ?_)
      exact af_reti K dX5_kindFor_34
    · refine af_aload_n K 16 dX5_kindFor_15 rfl rfl ?_
      refine af_bipush K 18 dX5_kindFor_16 rfl cs_bipush_13 ?_
      refine af_iload_n K 19 dX5_kindFor_18 rfl rfl ?_
      refine af_iadd K 20 dX5_kindFor_19 rfl ?_
      refine af_bipush K 22 dX5_kindFor_20 rfl cs_bipush_6 ?_
      refine af_iload_n K 23 dX5_kindFor_22 rfl rfl ?_
      refine af_callV_i K (b := 26) (vs := [.int (13 + x1), .int 6, .int x2]) mv_X5_bestOf lk_949 ((hp_at _ (Nat.le_of_ble_eq_true rfl)).trans rfl) rfl 26 dX5_kindFor_23 rfl rfl rfl rfl (A_X5_bestOf _ _ (13 + x1) 6 x2 q3.2) rfl (fun q5 => ?_)
      refine af_goto K 34 dX5_kindFor_26 rfl ?_
      exact af_reti K dX5_kindFor_34
def L_X5_clayFor_34  : Nat → Int32 → Int32 → Int32 → fk_T → (Int32 → Int32 → Int32 → fk_T → Option (Int32 × fk_T)) → Option (Int32 × fk_T)
  | 0, _, _, _, _, _ => none
  | fu + 1, x1, x2, x3, σ, k => if 20 < x3 then (k x1 x2 x3 σ) else (fk_S σ 27 135 3 x3 (fun s5 => (F_X5_behind x2 (53 + x1) s5).bind (fun q6 => (F_X5_its x1 5 q6.2).bind (fun q7 => if q6.1 = q7.1 then (some (x3, q7.2)) else (fk_B (x3 + 1) (fun y8 => L_X5_clayFor_34 fu x1 x2 y8 q7.2 k))))))
def F_X5_clayFor (x1 : Int32) (x2 : Int32) (σ : fk_T) : Option (Int32 × fk_T) := (F_X5_isPotter x1 σ).bind (fun q1 => if (fk_b q1.1) = 0 then ((F_X5_finds 0 q1.2).bind (fun q2 => some (q2.1, q2.2))) else ((F_X5_isShort x2 q1.2).bind (fun q3 => if (fk_b q3.1) = 0 then ((F_X5_finds 0 q3.2).bind (fun q14 => some (q14.1, q14.2))) else ((F_X5_copies 27 29 q3.2).bind (fun q4 => L_X5_clayFor_34 fk_N x1 x2 1 q4 (fun y10 y11 y12 s9 => (F_X5_finds 3 s9).bind (fun q13 => some (q13.1, q13.2))))))))
set_option maxRecDepth 100000 in
set_option maxHeartbeats 4000000 in
theorem W_X5_clayFor_34 {cx : aw_C} (hN : aw_nL cx = 4) (K : aw_K cx cX5_clayFor RX5 rX5_clayFor)  : ∀ (fu : Nat) (x1 : Int32) (x2 : Int32) (x3 : Int32) (σ : fk_T) (k : Int32 → Int32 → Int32 → fk_T → Option (Int32 × fk_T)), (∀ (x1 : Int32) (x2 : Int32) (x3 : Int32) (σ : fk_T), af cx ρi 73 [some (.ref 26), some (.int x1), some (.int x2), some (.int x3)] [] (hp σ) (k x1 x2 x3 σ)) → af cx ρi 34 [some (.ref 26), some (.int x1), some (.int x2), some (.int x3)] [] (hp σ) (L_X5_clayFor_34 fu x1 x2 x3 σ k) := by
  intro fu
  induction fu with
  | zero => intros; exact af_none
  | succ fu ih34 =>
    intro x1 x2 x3 σ k hk34
    rw [L_X5_clayFor_34]
    refine af_iload_n K 35 dX5_clayFor_34 rfl rfl ?_
    refine af_bipush K 37 dX5_clayFor_35 rfl cs_bipush_20 ?_
    refine af_icmp_gt K 40 73 dX5_clayFor_37 rfl rfl (fun _ => ?_) (fun _ => ?_)
    · refine af_lm [true, true, true, true] rfl ?_
      exact hk34 _ _ _ _
    · refine af_aload_n K 41 dX5_clayFor_40 rfl rfl ?_
      refine af_get K 44 dX5_clayFor_41 rfl fl_X5_7 (Nat.le_of_ble_eq_true rfl) rfl rfl ?_
      refine af_iconst K 45 dX5_clayFor_44 rfl cs_iconst_3 ?_
      refine af_iload_n K 46 dX5_clayFor_45 rfl rfl ?_
      refine af_iast K 47 dX5_clayFor_46 rfl (Nat.le_of_ble_eq_true rfl) (fun _ _ => rfl) (fun s5 => ?_)
      refine af_aload_n K 48 dX5_clayFor_47 rfl rfl ?_
      refine af_iload_n K 49 dX5_clayFor_48 rfl rfl ?_
      refine af_bipush K 51 dX5_clayFor_49 rfl cs_bipush_53 ?_
      refine af_iload_n K 52 dX5_clayFor_51 rfl rfl ?_
      refine af_iadd K 53 dX5_clayFor_52 rfl ?_
      refine af_callV_i K (b := 26) (vs := [.int x2, .int (53 + x1)]) mv_X5_behind lk_917 ((hp_at _ (Nat.le_of_ble_eq_true rfl)).trans rfl) rfl 56 dX5_clayFor_53 rfl rfl rfl rfl (A_X5_behind _ _ x2 (53 + x1) s5) rfl (fun q6 => ?_)
      refine af_aload_n K 57 dX5_clayFor_56 rfl rfl ?_
      refine af_iload_n K 58 dX5_clayFor_57 rfl rfl ?_
      refine af_iconst K 59 dX5_clayFor_58 rfl cs_iconst_5 ?_
      refine af_callV_i K (b := 26) (vs := [.int x1, .int 5]) mv_X5_its lk_802 ((hp_at _ (Nat.le_of_ble_eq_true rfl)).trans rfl) rfl 62 dX5_clayFor_59 rfl rfl rfl rfl (A_X5_its _ _ x1 5 q6.2) rfl (fun q7 => ?_)
      refine af_icmp_ne K 65 67 dX5_clayFor_62 rfl rfl (fun _ => ?_) (fun _ => ?_)
      · refine af_iincB K 70 (fun yy => [some (.ref 26), some (.int x1), some (.int x2), some (.int yy)]) dX5_clayFor_67 rfl (by rw [hN]; exact Nat.le_of_ble_eq_true rfl) rfl cs_iconst_1 (fun _ => rfl) (fun y8 => ?_)
        refine af_goto K 34 dX5_clayFor_70 rfl ?_
        refine af_lm [true, true, true, true] rfl ?_
        exact ih34 _ _ _ _ _ hk34
      · refine af_iload_n K 66 dX5_clayFor_65 rfl rfl ?_
        exact af_reti K dX5_clayFor_66
set_option maxRecDepth 100000 in
set_option maxHeartbeats 4000000 in
theorem A_X5_clayFor (X : aw_X) (l : Launch) (x1 : Int32) (x2 : Int32) (σ : fk_T) : af_G X l mX5_clayFor [.ref 26, .int x1, .int x2] (hp σ) ρi (F_X5_clayFor x1 x2 σ) := by
  refine af_mk (by decide) rfl (fun q _ => aw_oki q) [some (.ref 26), some (.int x1), some (.int x2), none] rfl ?_
  rintro cx rfl rfl hN K
  replace hN : aw_nL cx = 4 := hN
  replace K : aw_K cx cX5_clayFor RX5 rX5_clayFor := K
  unfold F_X5_clayFor
  refine af_aload_n K 1 dX5_clayFor_0 rfl rfl ?_
  refine af_iload_n K 2 dX5_clayFor_1 rfl rfl ?_
  refine af_callV_z K (b := 26) (vs := [.int x1]) mv_X5_isPotter lk_793 ((hp_at _ (Nat.le_of_ble_eq_true rfl)).trans rfl) rfl 5 dX5_clayFor_2 rfl rfl rfl rfl (A_X5_isPotter _ _ x1 σ) rfl (fun q1 => ?_)
  refine af_if_eq K 8 15 dX5_clayFor_5 rfl rfl (fun _ => ?_) (fun _ => ?_)
  · refine af_aload_n K 16 dX5_clayFor_15 rfl rfl ?_
    refine af_iconst K 17 dX5_clayFor_16 rfl cs_iconst_0 ?_
    refine af_callV_i K (b := 26) (vs := [.int 0]) mv_X5_finds lk_760 ((hp_at _ (Nat.le_of_ble_eq_true rfl)).trans rfl) rfl 20 dX5_clayFor_17 rfl rfl rfl rfl (A_X5_finds _ _ 0 q1.2) rfl (fun q2 => ?_)
    exact af_reti K dX5_clayFor_20
  · refine af_iload_n K 9 dX5_clayFor_8 rfl rfl ?_
    refine af_callS_z K (vs := [.int x2]) ms_X5_isShort lk_942 12 dX5_clayFor_9 rfl rfl rfl rfl (A_X5_isShort _ _ x2 q1.2) rfl (fun q3 => ?_)
    refine af_if_ne K 15 21 dX5_clayFor_12 rfl rfl (fun _ => ?_) (fun _ => ?_)
    · refine af_aload_n K 22 dX5_clayFor_21 rfl rfl ?_
      refine af_get K 25 dX5_clayFor_22 rfl fl_X5_7 (Nat.le_of_ble_eq_true rfl) rfl rfl ?_
      refine af_aload_n K 26 dX5_clayFor_25 rfl rfl ?_
      refine af_get K 29 dX5_clayFor_26 rfl fl_X5_16 (Nat.le_of_ble_eq_true rfl) rfl rfl ?_
      refine af_callS_v K (vs := [.ref 27, .ref 29]) ms_X5_copies lk_910 32 dX5_clayFor_29 rfl rfl rfl rfl (A_X5_copies _ _ 27 (Or.inl rfl) 29 (Or.inr (Or.inr (Or.inl rfl))) q3.2) rfl (fun q4 => ?_)
      refine af_iconst K 33 dX5_clayFor_32 rfl cs_iconst_1 ?_
      refine af_istore_n K 34 [some (.ref 26), some (.int x1), some (.int x2), some (.int 1)] dX5_clayFor_33 rfl (by rw [hN]; exact Nat.le_of_ble_eq_true rfl) rfl ?_
      refine af_lm [true, true, true, true] rfl ?_
      refine W_X5_clayFor_34 hN K  fk_N _ _ _ _ _ (fun y10 y11 y12 s9 => ?_)
      refine af_aload_n K 74 dX5_clayFor_73 rfl rfl ?_
      refine af_iconst K 75 dX5_clayFor_74 rfl cs_iconst_3 ?_
      refine af_callV_i K (b := 26) (vs := [.int 3]) mv_X5_finds lk_760 ((hp_at _ (Nat.le_of_ble_eq_true rfl)).trans rfl) rfl 78 dX5_clayFor_75 rfl rfl rfl rfl (A_X5_finds _ _ 3 s9) rfl (fun q13 => ?_)
      exact af_reti K dX5_clayFor_78
    · refine af_aload_n K 16 dX5_clayFor_15 rfl rfl ?_
      refine af_iconst K 17 dX5_clayFor_16 rfl cs_iconst_0 ?_
      refine af_callV_i K (b := 26) (vs := [.int 0]) mv_X5_finds lk_760 ((hp_at _ (Nat.le_of_ble_eq_true rfl)).trans rfl) rfl 20 dX5_clayFor_17 rfl rfl rfl rfl (A_X5_finds _ _ 0 q3.2) rfl (fun q14 => ?_)
      exact af_reti K dX5_clayFor_20
def L_X5_reconciles_16  : Nat → Int32 → Int32 → Int32 → fk_T → (Int32 → Int32 → Int32 → fk_T → Option (fk_T)) → Option (fk_T)
  | 0, _, _, _, _, _ => none
  | fu + 1, x1, x2, x3, σ, k => fk_A (σ.1 27) 135 0 (fun y3 => if y3 ≤ x3 then (k x1 x2 x3 σ) else (if ((x1 >>> (x2 &&& 31)) &&& 1) = 1 then (if ((x1 >>> (x3 &&& 31)) &&& 1) = 1 then (fk_S σ 27 135 ((61 + (8 * x2)) + x3) 0 (fun s6 => fk_B (x3 + 1) (fun y7 => L_X5_reconciles_16 fu x1 x2 y7 s6 k))) else (fk_B (x3 + 1) (fun y5 => L_X5_reconciles_16 fu x1 x2 y5 σ k))) else (fk_B (x3 + 1) (fun y4 => L_X5_reconciles_16 fu x1 x2 y4 σ k))))
def L_X5_reconciles_2  : Nat → Int32 → Int32 → fk_T → (Int32 → Int32 → fk_T → Option (fk_T)) → Option (fk_T)
  | 0, _, _, _, _ => none
  | fu + 1, x1, x2, σ, k => fk_A (σ.1 27) 135 0 (fun y1 => if y1 ≤ x2 then (k x1 x2 σ) else (fk_B (x2 + 1) (fun y2 => L_X5_reconciles_16 fk_N x1 x2 y2 σ (fun y9 y10 y11 s8 => fk_B (y10 + 1) (fun y12 => L_X5_reconciles_2 fu y9 y12 s8 k)))))
def F_X5_reconciles (x1 : Int32) (σ : fk_T) : Option (fk_T) := L_X5_reconciles_2 fk_N x1 0 σ (fun y14 y15 s13 => some s13)
set_option maxRecDepth 100000 in
set_option maxHeartbeats 4000000 in
theorem W_X5_reconciles_16 {cx : aw_C} (hN : aw_nL cx = 4) (K : aw_K cx cX5_reconciles RX5 rX5_reconciles)  : ∀ (fu : Nat) (x1 : Int32) (x2 : Int32) (x3 : Int32) (σ : fk_T) (k : Int32 → Int32 → Int32 → fk_T → Option (fk_T)), (∀ (x1 : Int32) (x2 : Int32) (x3 : Int32) (σ : fk_T), af cx ρv 65 [some (.ref 26), some (.int x1), some (.int x2), some (.int x3)] [] (hp σ) (k x1 x2 x3 σ)) → af cx ρv 16 [some (.ref 26), some (.int x1), some (.int x2), some (.int x3)] [] (hp σ) (L_X5_reconciles_16 fu x1 x2 x3 σ k) := by
  intro fu
  induction fu with
  | zero => intros; exact af_none
  | succ fu ih16 =>
    intro x1 x2 x3 σ k hk16
    rw [L_X5_reconciles_16]
    refine af_iload_n K 17 dX5_reconciles_16 rfl rfl ?_
    refine af_aload_n K 18 dX5_reconciles_17 rfl rfl ?_
    refine af_get K 21 dX5_reconciles_18 rfl fl_X5_7 (Nat.le_of_ble_eq_true rfl) rfl rfl ?_
    refine af_iconst K 22 dX5_reconciles_21 rfl cs_iconst_0 ?_
    refine af_iald K 23 dX5_reconciles_22 rfl (Nat.le_of_ble_eq_true rfl) rfl (fun y3 => ?_)
    refine af_icmp_ge K 26 65 dX5_reconciles_23 rfl rfl (fun _ => ?_) (fun _ => ?_)
    · refine af_lm [true, true, true, true] rfl ?_
      exact hk16 _ _ _ _
    · refine af_iload_n K 27 dX5_reconciles_26 rfl rfl ?_
      refine af_iload_n K 28 dX5_reconciles_27 rfl rfl ?_
      refine af_ishr K 29 dX5_reconciles_28 rfl ?_
      refine af_iconst K 30 dX5_reconciles_29 rfl cs_iconst_1 ?_
      refine af_iand K 31 dX5_reconciles_30 rfl ?_
      refine af_iconst K 32 dX5_reconciles_31 rfl cs_iconst_1 ?_
      refine af_icmp_ne K 35 59 dX5_reconciles_32 rfl rfl (fun _ => ?_) (fun _ => ?_)
      · refine af_iincB K 62 (fun yy => [some (.ref 26), some (.int x1), some (.int x2), some (.int yy)]) dX5_reconciles_59 rfl (by rw [hN]; exact Nat.le_of_ble_eq_true rfl) rfl cs_iconst_1 (fun _ => rfl) (fun y4 => ?_)
        refine af_goto K 16 dX5_reconciles_62 rfl ?_
        refine af_lm [true, true, true, true] rfl ?_
        exact ih16 _ _ _ _ _ hk16
      · refine af_iload_n K 36 dX5_reconciles_35 rfl rfl ?_
        refine af_iload_n K 37 dX5_reconciles_36 rfl rfl ?_
        refine af_ishr K 38 dX5_reconciles_37 rfl ?_
        refine af_iconst K 39 dX5_reconciles_38 rfl cs_iconst_1 ?_
        refine af_iand K 40 dX5_reconciles_39 rfl ?_
        refine af_iconst K 41 dX5_reconciles_40 rfl cs_iconst_1 ?_
        refine af_icmp_ne K 44 59 dX5_reconciles_41 rfl rfl (fun _ => ?_) (fun _ => ?_)
        · refine af_iincB K 62 (fun yy => [some (.ref 26), some (.int x1), some (.int x2), some (.int yy)]) dX5_reconciles_59 rfl (by rw [hN]; exact Nat.le_of_ble_eq_true rfl) rfl cs_iconst_1 (fun _ => rfl) (fun y5 => ?_)
          refine af_goto K 16 dX5_reconciles_62 rfl ?_
          refine af_lm [true, true, true, true] rfl ?_
          exact ih16 _ _ _ _ _ hk16
        · refine af_aload_n K 45 dX5_reconciles_44 rfl rfl ?_
          refine af_get K 48 dX5_reconciles_45 rfl fl_X5_7 (Nat.le_of_ble_eq_true rfl) rfl rfl ?_
          refine af_bipush K 50 dX5_reconciles_48 rfl cs_bipush_61 ?_
          refine af_bipush K 52 dX5_reconciles_50 rfl cs_bipush_8 ?_
          refine af_iload_n K 53 dX5_reconciles_52 rfl rfl ?_
          refine af_imul K 54 dX5_reconciles_53 rfl ?_
          refine af_iadd K 55 dX5_reconciles_54 rfl ?_
          refine af_iload_n K 56 dX5_reconciles_55 rfl rfl ?_
          refine af_iadd K 57 dX5_reconciles_56 rfl ?_
          refine af_iconst K 58 dX5_reconciles_57 rfl cs_iconst_0 ?_
          refine af_iast K 59 dX5_reconciles_58 rfl (Nat.le_of_ble_eq_true rfl) (fun _ _ => rfl) (fun s6 => ?_)
          refine af_iincB K 62 (fun yy => [some (.ref 26), some (.int x1), some (.int x2), some (.int yy)]) dX5_reconciles_59 rfl (by rw [hN]; exact Nat.le_of_ble_eq_true rfl) rfl cs_iconst_1 (fun _ => rfl) (fun y7 => ?_)
          refine af_goto K 16 dX5_reconciles_62 rfl ?_
          refine af_lm [true, true, true, true] rfl ?_
          exact ih16 _ _ _ _ _ hk16
set_option maxRecDepth 100000 in
set_option maxHeartbeats 4000000 in
theorem W_X5_reconciles_2 {cx : aw_C} (hN : aw_nL cx = 4) (K : aw_K cx cX5_reconciles RX5 rX5_reconciles)  : ∀ (fu : Nat) (x1 : Int32) (x2 : Int32) (σ : fk_T) (k : Int32 → Int32 → fk_T → Option (fk_T)), (∀ (x1 : Int32) (x2 : Int32) (σ : fk_T), af cx ρv 71 [some (.ref 26), some (.int x1), some (.int x2), none] [] (hp σ) (k x1 x2 σ)) → af cx ρv 2 [some (.ref 26), some (.int x1), some (.int x2), none] [] (hp σ) (L_X5_reconciles_2 fu x1 x2 σ k) := by
  intro fu
  induction fu with
  | zero => intros; exact af_none
  | succ fu ih2 =>
    intro x1 x2 σ k hk2
    rw [L_X5_reconciles_2]
    refine af_iload_n K 3 dX5_reconciles_2 rfl rfl ?_
    refine af_aload_n K 4 dX5_reconciles_3 rfl rfl ?_
    refine af_get K 7 dX5_reconciles_4 rfl fl_X5_7 (Nat.le_of_ble_eq_true rfl) rfl rfl ?_
    refine af_iconst K 8 dX5_reconciles_7 rfl cs_iconst_0 ?_
    refine af_iald K 9 dX5_reconciles_8 rfl (Nat.le_of_ble_eq_true rfl) rfl (fun y1 => ?_)
    refine af_icmp_ge K 12 71 dX5_reconciles_9 rfl rfl (fun _ => ?_) (fun _ => ?_)
    · refine af_lm [true, true, true, false] rfl ?_
      exact hk2 _ _ _
    · refine af_iload_n K 13 dX5_reconciles_12 rfl rfl ?_
      refine af_iconst K 14 dX5_reconciles_13 rfl cs_iconst_1 ?_
      refine af_iadd K 15 dX5_reconciles_14 rfl ?_
      refine af_Bi (fun y2 => ?_)
      refine af_istore_n K 16 [some (.ref 26), some (.int x1), some (.int x2), some (.int y2)] dX5_reconciles_15 rfl (by rw [hN]; exact Nat.le_of_ble_eq_true rfl) rfl ?_
      refine af_lm [true, true, true, true] rfl ?_
      refine W_X5_reconciles_16 hN K  fk_N _ _ _ _ _ (fun y9 y10 y11 s8 => ?_)
      refine af_iincB K 68 (fun yy => [some (.ref 26), some (.int y9), some (.int yy), some (.int y11)]) dX5_reconciles_65 rfl (by rw [hN]; exact Nat.le_of_ble_eq_true rfl) rfl cs_iconst_1 (fun _ => rfl) (fun y12 => ?_)
      refine af_goto K 2 dX5_reconciles_68 rfl ?_
      refine af_lm [true, true, true, false] rfl ?_
      exact ih2 _ _ _ _ hk2
set_option maxRecDepth 100000 in
set_option maxHeartbeats 4000000 in
theorem A_X5_reconciles (X : aw_X) (l : Launch) (x1 : Int32) (σ : fk_T) : af_G X l mX5_reconciles [.ref 26, .int x1] (hp σ) ρv (F_X5_reconciles x1 σ) := by
  refine af_mk (by decide) rfl (fun q _ => aw_okv q) [some (.ref 26), some (.int x1), none, none] rfl ?_
  rintro cx rfl rfl hN K
  replace hN : aw_nL cx = 4 := hN
  replace K : aw_K cx cX5_reconciles RX5 rX5_reconciles := K
  unfold F_X5_reconciles
  refine af_iconst K 1 dX5_reconciles_0 rfl cs_iconst_0 ?_
  refine af_istore_n K 2 [some (.ref 26), some (.int x1), some (.int 0), none] dX5_reconciles_1 rfl (by rw [hN]; exact Nat.le_of_ble_eq_true rfl) rfl ?_
  refine af_lm [true, true, true, false] rfl ?_
  refine W_X5_reconciles_2 hN K  fk_N _ _ _ _ (fun y14 y15 s13 => ?_)
  exact af_retv K dX5_reconciles_71
def L_X5_reconcile_33  : Nat → Int32 → Int32 → Int32 → fk_T → (Int32 → Int32 → Int32 → fk_T → Option (Int32 × fk_T)) → Option (Int32 × fk_T)
  | 0, _, _, _, _, _ => none
  | fu + 1, x1, x2, x3, σ, k => fk_A (σ.1 27) 135 0 (fun y3 => if (1 <<< (y3 &&& 31)) ≤ x3 then (k x1 x2 x3 σ) else (if x2 < 0 then ((F_X5_reconciles x3 σ).bind (fun q4 => (F_X5_behind x1 5 q4).bind (fun q5 => fk_A (q5.2.1 27) 135 5 (fun y6 => if q5.1 = y6 then (fk_B (x3 + 1) (fun y8 => L_X5_reconcile_33 fu x1 x3 y8 q5.2 k)) else (fk_B (x3 + 1) (fun y7 => L_X5_reconcile_33 fu x1 x2 y7 q5.2 k)))))) else ((F_X5_ones x3 σ).bind (fun q9 => (F_X5_ones x2 q9.2).bind (fun q10 => if q9.1 < q10.1 then ((F_X5_reconciles x3 q10.2).bind (fun q11 => (F_X5_behind x1 5 q11).bind (fun q12 => fk_A (q12.2.1 27) 135 5 (fun y13 => if q12.1 = y13 then (fk_B (x3 + 1) (fun y15 => L_X5_reconcile_33 fu x1 x3 y15 q12.2 k)) else (fk_B (x3 + 1) (fun y14 => L_X5_reconcile_33 fu x1 x2 y14 q12.2 k)))))) else (fk_B (x3 + 1) (fun y16 => L_X5_reconcile_33 fu x1 x2 y16 q10.2 k)))))))
def F_X5_reconcile (x1 : Int32) (σ : fk_T) : Option (Int32 × fk_T) := (F_X5_in (x1.toInt64) 0 20 σ).bind (fun q1 => if (fk_b q1.1) = 0 then ((F_X5_finds 0 q1.2).bind (fun q22 => some (q22.1, q22.2))) else ((F_X5_copies 27 29 q1.2).bind (fun q2 => L_X5_reconcile_33 fk_N x1 (-1) 0 q2 (fun y18 y19 y20 s17 => if 0 ≤ y19 then (some (y19, s17)) else ((F_X5_finds 3 s17).bind (fun q21 => some (q21.1, q21.2)))))))
set_option maxRecDepth 100000 in
set_option maxHeartbeats 4000000 in
theorem W_X5_reconcile_33 {cx : aw_C} (hN : aw_nL cx = 4) (K : aw_K cx cX5_reconcile RX5 rX5_reconcile)  : ∀ (fu : Nat) (x1 : Int32) (x2 : Int32) (x3 : Int32) (σ : fk_T) (k : Int32 → Int32 → Int32 → fk_T → Option (Int32 × fk_T)), (∀ (x1 : Int32) (x2 : Int32) (x3 : Int32) (σ : fk_T), af cx ρi 95 [some (.ref 26), some (.int x1), some (.int x2), some (.int x3)] [] (hp σ) (k x1 x2 x3 σ)) → af cx ρi 33 [some (.ref 26), some (.int x1), some (.int x2), some (.int x3)] [] (hp σ) (L_X5_reconcile_33 fu x1 x2 x3 σ k) := by
  intro fu
  induction fu with
  | zero => intros; exact af_none
  | succ fu ih33 =>
    intro x1 x2 x3 σ k hk33
    rw [L_X5_reconcile_33]
    refine af_iload_n K 34 dX5_reconcile_33 rfl rfl ?_
    refine af_iconst K 35 dX5_reconcile_34 rfl cs_iconst_1 ?_
    refine af_aload_n K 36 dX5_reconcile_35 rfl rfl ?_
    refine af_get K 39 dX5_reconcile_36 rfl fl_X5_7 (Nat.le_of_ble_eq_true rfl) rfl rfl ?_
    refine af_iconst K 40 dX5_reconcile_39 rfl cs_iconst_0 ?_
    refine af_iald K 41 dX5_reconcile_40 rfl (Nat.le_of_ble_eq_true rfl) rfl (fun y3 => ?_)
    refine af_ishl K 42 dX5_reconcile_41 rfl ?_
    refine af_icmp_ge K 45 95 dX5_reconcile_42 rfl rfl (fun _ => ?_) (fun _ => ?_)
    · refine af_lm [true, true, true, true] rfl ?_
      exact hk33 _ _ _ _
    · refine af_iload_n K 46 dX5_reconcile_45 rfl rfl ?_
      refine af_if_lt K 49 63 dX5_reconcile_46 rfl rfl (fun _ => ?_) (fun _ => ?_)
      · refine af_aload_n K 64 dX5_reconcile_63 rfl rfl ?_
        refine af_iload_n K 65 dX5_reconcile_64 rfl rfl ?_
        refine af_callV_v K (b := 26) (vs := [.int x3]) mv_X5_reconciles lk_968 ((hp_at _ (Nat.le_of_ble_eq_true rfl)).trans rfl) rfl 68 dX5_reconcile_65 rfl rfl rfl rfl (A_X5_reconciles _ _ x3 σ) rfl (fun q4 => ?_)
        refine af_aload_n K 69 dX5_reconcile_68 rfl rfl ?_
        refine af_iload_n K 70 dX5_reconcile_69 rfl rfl ?_
        refine af_iconst K 71 dX5_reconcile_70 rfl cs_iconst_5 ?_
        refine af_callV_i K (b := 26) (vs := [.int x1, .int 5]) mv_X5_behind lk_917 ((hp_at _ (Nat.le_of_ble_eq_true rfl)).trans rfl) rfl 74 dX5_reconcile_71 rfl rfl rfl rfl (A_X5_behind _ _ x1 5 q4) rfl (fun q5 => ?_)
        refine af_aload_n K 75 dX5_reconcile_74 rfl rfl ?_
        refine af_get K 78 dX5_reconcile_75 rfl fl_X5_7 (Nat.le_of_ble_eq_true rfl) rfl rfl ?_
        refine af_iconst K 79 dX5_reconcile_78 rfl cs_iconst_5 ?_
        refine af_iald K 80 dX5_reconcile_79 rfl (Nat.le_of_ble_eq_true rfl) rfl (fun y6 => ?_)
        refine af_icmp_ne K 83 87 dX5_reconcile_80 rfl rfl (fun _ => ?_) (fun _ => ?_)
        · refine af_iload_n K 88 dX5_reconcile_87 rfl rfl ?_
          refine af_istore_n K 89 [some (.ref 26), some (.int x1), some (.int x2), some (.int x3)] dX5_reconcile_88 rfl (by rw [hN]; exact Nat.le_of_ble_eq_true rfl) rfl ?_
          refine af_iincB K 92 (fun yy => [some (.ref 26), some (.int x1), some (.int x2), some (.int yy)]) dX5_reconcile_89 rfl (by rw [hN]; exact Nat.le_of_ble_eq_true rfl) rfl cs_iconst_1 (fun _ => rfl) (fun y7 => ?_)
          refine af_goto K 33 dX5_reconcile_92 rfl ?_
          refine af_lm [true, true, true, true] rfl ?_
          exact ih33 _ _ _ _ _ hk33
        · refine af_iload_n K 84 dX5_reconcile_83 rfl rfl ?_
          refine af_goto K 88 dX5_reconcile_84 rfl ?_
          refine af_istore_n K 89 [some (.ref 26), some (.int x1), some (.int x3), some (.int x3)] dX5_reconcile_88 rfl (by rw [hN]; exact Nat.le_of_ble_eq_true rfl) rfl ?_
          refine af_iincB K 92 (fun yy => [some (.ref 26), some (.int x1), some (.int x3), some (.int yy)]) dX5_reconcile_89 rfl (by rw [hN]; exact Nat.le_of_ble_eq_true rfl) rfl cs_iconst_1 (fun _ => rfl) (fun y8 => ?_)
          refine af_goto K 33 dX5_reconcile_92 rfl ?_
          refine af_lm [true, true, true, true] rfl ?_
          exact ih33 _ _ _ _ _ hk33
      · refine af_iload_n K 50 dX5_reconcile_49 rfl rfl ?_
        refine af_callS_i K (vs := [.int x3]) ms_X5_ones lk_965 53 dX5_reconcile_50 rfl rfl rfl rfl (A_X5_ones _ _ x3 σ) rfl (fun q9 => ?_)
        refine af_iload_n K 54 dX5_reconcile_53 rfl rfl ?_
        refine af_callS_i K (vs := [.int x2]) ms_X5_ones lk_965 57 dX5_reconcile_54 rfl rfl rfl rfl (A_X5_ones _ _ x2 q9.2) rfl (fun q10 => ?_)
        refine af_icmp_lt K 60 63 dX5_reconcile_57 rfl rfl (fun _ => ?_) (fun _ => ?_)
        · refine af_aload_n K 64 dX5_reconcile_63 rfl rfl ?_
          refine af_iload_n K 65 dX5_reconcile_64 rfl rfl ?_
          refine af_callV_v K (b := 26) (vs := [.int x3]) mv_X5_reconciles lk_968 ((hp_at _ (Nat.le_of_ble_eq_true rfl)).trans rfl) rfl 68 dX5_reconcile_65 rfl rfl rfl rfl (A_X5_reconciles _ _ x3 q10.2) rfl (fun q11 => ?_)
          refine af_aload_n K 69 dX5_reconcile_68 rfl rfl ?_
          refine af_iload_n K 70 dX5_reconcile_69 rfl rfl ?_
          refine af_iconst K 71 dX5_reconcile_70 rfl cs_iconst_5 ?_
          refine af_callV_i K (b := 26) (vs := [.int x1, .int 5]) mv_X5_behind lk_917 ((hp_at _ (Nat.le_of_ble_eq_true rfl)).trans rfl) rfl 74 dX5_reconcile_71 rfl rfl rfl rfl (A_X5_behind _ _ x1 5 q11) rfl (fun q12 => ?_)
          refine af_aload_n K 75 dX5_reconcile_74 rfl rfl ?_
          refine af_get K 78 dX5_reconcile_75 rfl fl_X5_7 (Nat.le_of_ble_eq_true rfl) rfl rfl ?_
          refine af_iconst K 79 dX5_reconcile_78 rfl cs_iconst_5 ?_
          refine af_iald K 80 dX5_reconcile_79 rfl (Nat.le_of_ble_eq_true rfl) rfl (fun y13 => ?_)
          refine af_icmp_ne K 83 87 dX5_reconcile_80 rfl rfl (fun _ => ?_) (fun _ => ?_)
          · refine af_iload_n K 88 dX5_reconcile_87 rfl rfl ?_
            refine af_istore_n K 89 [some (.ref 26), some (.int x1), some (.int x2), some (.int x3)] dX5_reconcile_88 rfl (by rw [hN]; exact Nat.le_of_ble_eq_true rfl) rfl ?_
            refine af_iincB K 92 (fun yy => [some (.ref 26), some (.int x1), some (.int x2), some (.int yy)]) dX5_reconcile_89 rfl (by rw [hN]; exact Nat.le_of_ble_eq_true rfl) rfl cs_iconst_1 (fun _ => rfl) (fun y14 => ?_)
            refine af_goto K 33 dX5_reconcile_92 rfl ?_
            refine af_lm [true, true, true, true] rfl ?_
            exact ih33 _ _ _ _ _ hk33
          · refine af_iload_n K 84 dX5_reconcile_83 rfl rfl ?_
            refine af_goto K 88 dX5_reconcile_84 rfl ?_
            refine af_istore_n K 89 [some (.ref 26), some (.int x1), some (.int x3), some (.int x3)] dX5_reconcile_88 rfl (by rw [hN]; exact Nat.le_of_ble_eq_true rfl) rfl ?_
            refine af_iincB K 92 (fun yy => [some (.ref 26), some (.int x1), some (.int x3), some (.int yy)]) dX5_reconcile_89 rfl (by rw [hN]; exact Nat.le_of_ble_eq_true rfl) rfl cs_iconst_1 (fun _ => rfl) (fun y15 => ?_)
            refine af_goto K 33 dX5_reconcile_92 rfl ?_
            refine af_lm [true, true, true, true] rfl ?_
            exact ih33 _ _ _ _ _ hk33
        · refine af_goto K 89 dX5_reconcile_60 rfl ?_
          refine af_iincB K 92 (fun yy => [some (.ref 26), some (.int x1), some (.int x2), some (.int yy)]) dX5_reconcile_89 rfl (by rw [hN]; exact Nat.le_of_ble_eq_true rfl) rfl cs_iconst_1 (fun _ => rfl) (fun y16 => ?_)
          refine af_goto K 33 dX5_reconcile_92 rfl ?_
          refine af_lm [true, true, true, true] rfl ?_
          exact ih33 _ _ _ _ _ hk33
set_option maxRecDepth 100000 in
set_option maxHeartbeats 4000000 in
theorem A_X5_reconcile (X : aw_X) (l : Launch) (x1 : Int32) (σ : fk_T) : af_G X l mX5_reconcile [.ref 26, .int x1] (hp σ) ρi (F_X5_reconcile x1 σ) := by
  refine af_mk (by decide) rfl (fun q _ => aw_oki q) [some (.ref 26), some (.int x1), none, none] rfl ?_
  rintro cx rfl rfl hN K
  replace hN : aw_nL cx = 4 := hN
  replace K : aw_K cx cX5_reconcile RX5 rX5_reconcile := K
  unfold F_X5_reconcile
  refine af_iload_n K 1 dX5_reconcile_0 rfl rfl ?_
  refine af_i2l K 2 dX5_reconcile_1 rfl ?_
  refine af_lconst K 3 dX5_reconcile_2 rfl cs_lconst_0 ?_
  refine af_ldc2 K 6 dX5_reconcile_3 rfl lk_752 ?_
  refine af_callS_z K (vs := [.long (x1.toInt64), .long 0, .long 20]) ms_X5_in lk_753 9 dX5_reconcile_6 rfl rfl rfl rfl (A_X5_in _ _ (x1.toInt64) 0 20 σ) rfl (fun q1 => ?_)
  refine af_if_ne K 12 18 dX5_reconcile_9 rfl rfl (fun _ => ?_) (fun _ => ?_)
  · refine af_aload_n K 19 dX5_reconcile_18 rfl rfl ?_
    refine af_get K 22 dX5_reconcile_19 rfl fl_X5_7 (Nat.le_of_ble_eq_true rfl) rfl rfl ?_
    refine af_aload_n K 23 dX5_reconcile_22 rfl rfl ?_
    refine af_get K 26 dX5_reconcile_23 rfl fl_X5_16 (Nat.le_of_ble_eq_true rfl) rfl rfl ?_
    refine af_callS_v K (vs := [.ref 27, .ref 29]) ms_X5_copies lk_910 29 dX5_reconcile_26 rfl rfl rfl rfl (A_X5_copies _ _ 27 (Or.inl rfl) 29 (Or.inr (Or.inr (Or.inl rfl))) q1.2) rfl (fun q2 => ?_)
    refine af_iconst K 30 dX5_reconcile_29 rfl cs_iconst_m1 ?_
    refine af_istore_n K 31 [some (.ref 26), some (.int x1), some (.int (-1)), none] dX5_reconcile_30 rfl (by rw [hN]; exact Nat.le_of_ble_eq_true rfl) rfl ?_
    refine af_iconst K 32 dX5_reconcile_31 rfl cs_iconst_0 ?_
    refine af_istore_n K 33 [some (.ref 26), some (.int x1), some (.int (-1)), some (.int 0)] dX5_reconcile_32 rfl (by rw [hN]; exact Nat.le_of_ble_eq_true rfl) rfl ?_
    refine af_lm [true, true, true, true] rfl ?_
    refine W_X5_reconcile_33 hN K  fk_N _ _ _ _ _ (fun y18 y19 y20 s17 => ?_)
    refine af_iload_n K 96 dX5_reconcile_95 rfl rfl ?_
    refine af_if_ge K 99 107 dX5_reconcile_96 rfl rfl (fun _ => ?_) (fun _ => ?_)
    · refine af_iload_n K 108 dX5_reconcile_107 rfl rfl ?_
      exact af_reti K dX5_reconcile_108
    · refine af_aload_n K 100 dX5_reconcile_99 rfl rfl ?_
      refine af_iconst K 101 dX5_reconcile_100 rfl cs_iconst_3 ?_
      refine af_callV_i K (b := 26) (vs := [.int 3]) mv_X5_finds lk_760 ((hp_at _ (Nat.le_of_ble_eq_true rfl)).trans rfl) rfl 104 dX5_reconcile_101 rfl rfl rfl rfl (A_X5_finds _ _ 3 s17) rfl (fun q21 => ?_)
      refine af_goto K 108 dX5_reconcile_104 rfl ?_
      exact af_reti K dX5_reconcile_108
  · refine af_aload_n K 13 dX5_reconcile_12 rfl rfl ?_
    refine af_iconst K 14 dX5_reconcile_13 rfl cs_iconst_0 ?_
    refine af_callV_i K (b := 26) (vs := [.int 0]) mv_X5_finds lk_760 ((hp_at _ (Nat.le_of_ble_eq_true rfl)).trans rfl) rfl 17 dX5_reconcile_14 rfl rfl rfl rfl (A_X5_finds _ _ 0 q1.2) rfl (fun q22 => ?_)
    exact af_reti K dX5_reconcile_17
def L_X5_fitting_40  : Nat → Int32 → Int32 → Int32 → Int32 → Int32 → Int32 → Int32 → Int32 → Int32 → Int32 → fk_T → (Int32 → Int32 → Int32 → Int32 → Int32 → Int32 → Int32 → Int32 → Int32 → Int32 → fk_T → Option (Int32 × fk_T)) → Option (Int32 × fk_T)
  | 0, _, _, _, _, _, _, _, _, _, _, _, _ => none
  | fu + 1, x1, x2, x3, x4, x5, x6, x7, x8, x9, x10, σ, k => fk_A (σ.1 34) 4 x1 (fun y3 => if y3 ≤ x10 then (k x1 x2 x3 x4 x5 x6 x7 x8 x9 x10 σ) else (if x9 = 0 then (k x1 x2 x3 x4 x5 x6 x7 x8 x9 x10 σ) else (fk_A (σ.1 35) 160 ((40 * x1) + x10) (fun y4 => if y4 = (-1) then ((F_X5_dayGoes  σ).bind (fun q5 => fk_B (x10 + 1) (fun y6 => L_X5_fitting_40 fu x1 x2 x3 x4 x5 x6 x7 x8 1 y6 q5 k))) else (fk_A (σ.1 27) 135 x4 (fun y7 => if y4 = y7 then ((F_X5_dayGoes  σ).bind (fun q10 => fk_B (x10 + 1) (fun y11 => L_X5_fitting_40 fu x1 x2 x3 x4 x5 x6 x7 x8 1 y11 q10 k))) else ((F_X5_dayGoes  σ).bind (fun q8 => fk_B (x10 + 1) (fun y9 => L_X5_fitting_40 fu x1 x2 x3 x4 x5 x6 x7 x8 0 y9 q8 k)))))))))
def L_X5_fitting_20  : Nat → Int32 → Int32 → Int32 → Int32 → Int32 → Int32 → Int32 → Int32 → fk_T → (Int32 → Int32 → Int32 → Int32 → Int32 → Int32 → Int32 → Int32 → fk_T → Option (Int32 × fk_T)) → Option (Int32 × fk_T)
  | 0, _, _, _, _, _, _, _, _, _, _ => none
  | fu + 1, x1, x2, x3, x4, x5, x6, x7, x8, σ, k => if x3 < x8 then (k x1 x2 x3 x4 x5 x6 x7 x8 σ) else (fk_S σ 27 135 x2 x8 (fun s2 => L_X5_fitting_40 fk_N x1 x2 x3 x4 x5 x6 x7 x8 1 0 s2 (fun y13 y14 y15 y16 y17 y18 y19 y20 y21 y22 s12 => (F_X5_copies 29 27 s12).bind (fun q23 => if y21 = 0 then (fk_B (y18 ||| 0) (fun y24 => if y21 = 0 then (fk_B (y19 + 0) (fun y25 => fk_B (y20 + 1) (fun y26 => L_X5_fitting_20 fu y13 y14 y15 y16 y17 y24 y25 y26 q23 k))) else (fk_B (y19 + 1) (fun y27 => fk_B (y20 + 1) (fun y28 => L_X5_fitting_20 fu y13 y14 y15 y16 y17 y24 y27 y28 q23 k))))) else (if y17 = 0 then (fk_B (y18 ||| 0) (fun y29 => if y21 = 0 then (fk_B (y19 + 0) (fun y30 => fk_B (y20 + 1) (fun y31 => L_X5_fitting_20 fu y13 y14 y15 y16 y17 y29 y30 y31 q23 k))) else (fk_B (y19 + 1) (fun y32 => fk_B (y20 + 1) (fun y33 => L_X5_fitting_20 fu y13 y14 y15 y16 y17 y29 y32 y33 q23 k))))) else (fk_B (y18 ||| (1 <<< (y20 &&& 31))) (fun y34 => if y21 = 0 then (fk_B (y19 + 0) (fun y35 => fk_B (y20 + 1) (fun y36 => L_X5_fitting_20 fu y13 y14 y15 y16 y17 y34 y35 y36 q23 k))) else (fk_B (y19 + 1) (fun y37 => fk_B (y20 + 1) (fun y38 => L_X5_fitting_20 fu y13 y14 y15 y16 y17 y34 y37 y38 q23 k))))))))))
def F_X5_fitting (x1 : Int32) (x2 : Int32) (x3 : Int32) (x4 : Int32) (x5 : Int32) (σ : fk_T) : Option (Int32 × fk_T) := (F_X5_copies 27 29 σ).bind (fun q1 => L_X5_fitting_20 fk_N x1 x2 x3 x4 x5 0 0 0 q1 (fun y40 y41 y42 y43 y44 y45 y46 y47 s39 => if y44 = 0 then (some (y46, s39)) else (some (y45, s39))))
set_option maxRecDepth 100000 in
set_option maxHeartbeats 4000000 in
theorem W_X5_fitting_40 {cx : aw_C} (hN : aw_nL cx = 12) (K : aw_K cx cX5_fitting RX5 rX5_fitting)  : ∀ (fu : Nat) (x1 : Int32) (x2 : Int32) (x3 : Int32) (x4 : Int32) (x5 : Int32) (x6 : Int32) (x7 : Int32) (x8 : Int32) (x9 : Int32) (x10 : Int32) (σ : fk_T) (k : Int32 → Int32 → Int32 → Int32 → Int32 → Int32 → Int32 → Int32 → Int32 → Int32 → fk_T → Option (Int32 × fk_T)), (∀ (x1 : Int32) (x2 : Int32) (x3 : Int32) (x4 : Int32) (x5 : Int32) (x6 : Int32) (x7 : Int32) (x8 : Int32) (x9 : Int32) (x10 : Int32) (σ : fk_T), af cx ρi 105 [some (.ref 26), some (.int x1), some (.int x2), some (.int x3), some (.int x4), some (.int x5), some (.int x6), some (.int x7), some (.int x8), some (.int x9), some (.int x10), none] [] (hp σ) (k x1 x2 x3 x4 x5 x6 x7 x8 x9 x10 σ)) → af cx ρi 40 [some (.ref 26), some (.int x1), some (.int x2), some (.int x3), some (.int x4), some (.int x5), some (.int x6), some (.int x7), some (.int x8), some (.int x9), some (.int x10), none] [] (hp σ) (L_X5_fitting_40 fu x1 x2 x3 x4 x5 x6 x7 x8 x9 x10 σ k) := by
  intro fu
  induction fu with
  | zero => intros; exact af_none
  | succ fu ih40 =>
    intro x1 x2 x3 x4 x5 x6 x7 x8 x9 x10 σ k hk40
    rw [L_X5_fitting_40]
    refine af_iload K 42 dX5_fitting_40 rfl rfl ?_
    refine af_aload_n K 43 dX5_fitting_42 rfl rfl ?_
    refine af_get K 46 dX5_fitting_43 rfl fl_X5_32 (Nat.le_of_ble_eq_true rfl) rfl rfl ?_
    refine af_iload_n K 47 dX5_fitting_46 rfl rfl ?_
    refine af_iald K 48 dX5_fitting_47 rfl (Nat.le_of_ble_eq_true rfl) rfl (fun y3 => ?_)
    refine af_icmp_ge K 51 105 dX5_fitting_48 rfl rfl (fun _ => ?_) (fun _ => ?_)
    · refine af_lm [true, true, true, true, true, true, true, true, true, true, true, false] rfl ?_
      exact hk40 _ _ _ _ _ _ _ _ _ _ _
    · refine af_iload K 53 dX5_fitting_51 rfl rfl ?_
      refine af_if_eq K 56 105 dX5_fitting_53 rfl rfl (fun _ => ?_) (fun _ => ?_)
      · refine af_lm [true, true, true, true, true, true, true, true, true, true, true, false] rfl ?_
        exact hk40 _ _ _ _ _ _ _ _ _ _ _
      · refine af_aload_n K 57 dX5_fitting_56 rfl rfl ?_
        refine af_get K 60 dX5_fitting_57 rfl fl_X5_35 (Nat.le_of_ble_eq_true rfl) rfl rfl ?_
        refine af_bipush K 62 dX5_fitting_60 rfl cs_bipush_40 ?_
        refine af_iload_n K 63 dX5_fitting_62 rfl rfl ?_
        refine af_imul K 64 dX5_fitting_63 rfl ?_
        refine af_iload K 66 dX5_fitting_64 rfl rfl ?_
        refine af_iadd K 67 dX5_fitting_66 rfl ?_
        refine af_iald K 68 dX5_fitting_67 rfl (Nat.le_of_ble_eq_true rfl) rfl (fun y4 => ?_)
        refine af_istore K 70 [some (.ref 26), some (.int x1), some (.int x2), some (.int x3), some (.int x4), some (.int x5), some (.int x6), some (.int x7), some (.int x8), some (.int x9), some (.int x10), some (.int y4)] dX5_fitting_68 rfl (by rw [hN]; exact Nat.le_of_ble_eq_true rfl) rfl ?_
        refine af_iload K 72 dX5_fitting_70 rfl rfl ?_
        refine af_iconst K 73 dX5_fitting_72 rfl cs_iconst_m1 ?_
        refine af_icmp_eq K 76 88 dX5_fitting_73 rfl rfl (fun _ => ?_) (fun _ => ?_)
        · refine af_iconst K 89 dX5_fitting_88 rfl cs_iconst_1 ?_
          refine af_goto K 93 dX5_fitting_89 rfl ?_
          refine af_istore K 95 [some (.ref 26), some (.int x1), some (.int x2), some (.int x3), some (.int x4), some (.int x5), some (.int x6), some (.int x7), some (.int x8), some (.int 1), some (.int x10), some (.int y4)] dX5_fitting_93 rfl (by rw [hN]; exact Nat.le_of_ble_eq_true rfl) rfl ?_
          refine af_aload_n K 96 dX5_fitting_95 rfl rfl ?_
          refine af_callV_v K (b := 26) (vs := []) mv_X5_dayGoes lk_869 ((hp_at _ (Nat.le_of_ble_eq_true rfl)).trans rfl) rfl 99 dX5_fitting_96 rfl rfl rfl rfl (A_X5_dayGoes _ _ σ) rfl (fun q5 => ?_)
          refine af_iincB K 102 (fun yy => [some (.ref 26), some (.int x1), some (.int x2), some (.int x3), some (.int x4), some (.int x5), some (.int x6), some (.int x7), some (.int x8), some (.int 1), some (.int yy), some (.int y4)]) dX5_fitting_99 rfl (by rw [hN]; exact Nat.le_of_ble_eq_true rfl) rfl cs_iconst_1 (fun _ => rfl) (fun y6 => ?_)
          refine af_goto K 40 dX5_fitting_102 rfl ?_
          refine af_lm [true, true, true, true, true, true, true, true, true, true, true, false] rfl ?_
          exact ih40 _ _ _ _ _ _ _ _ _ _ _ _ hk40
        · refine af_iload K 78 dX5_fitting_76 rfl rfl ?_
          refine af_aload_n K 79 dX5_fitting_78 rfl rfl ?_
          refine af_get K 82 dX5_fitting_79 rfl fl_X5_7 (Nat.le_of_ble_eq_true rfl) rfl rfl ?_
          refine af_iload K 84 dX5_fitting_82 rfl rfl ?_
          refine af_iald K 85 dX5_fitting_84 rfl (Nat.le_of_ble_eq_true rfl) rfl (fun y7 => ?_)
          refine af_icmp_ne K 88 92 dX5_fitting_85 rfl rfl (fun _ => ?_) (fun _ => ?_)
          · refine af_iconst K 93 dX5_fitting_92 rfl cs_iconst_0 ?_
            refine af_istore K 95 [some (.ref 26), some (.int x1), some (.int x2), some (.int x3), some (.int x4), some (.int x5), some (.int x6), some (.int x7), some (.int x8), some (.int 0), some (.int x10), some (.int y4)] dX5_fitting_93 rfl (by rw [hN]; exact Nat.le_of_ble_eq_true rfl) rfl ?_
            refine af_aload_n K 96 dX5_fitting_95 rfl rfl ?_
            refine af_callV_v K (b := 26) (vs := []) mv_X5_dayGoes lk_869 ((hp_at _ (Nat.le_of_ble_eq_true rfl)).trans rfl) rfl 99 dX5_fitting_96 rfl rfl rfl rfl (A_X5_dayGoes _ _ σ) rfl (fun q8 => ?_)
            refine af_iincB K 102 (fun yy => [some (.ref 26), some (.int x1), some (.int x2), some (.int x3), some (.int x4), some (.int x5), some (.int x6), some (.int x7), some (.int x8), some (.int 0), some (.int yy), some (.int y4)]) dX5_fitting_99 rfl (by rw [hN]; exact Nat.le_of_ble_eq_true rfl) rfl cs_iconst_1 (fun _ => rfl) (fun y9 => ?_)
            refine af_goto K 40 dX5_fitting_102 rfl ?_
            refine af_lm [true, true, true, true, true, true, true, true, true, true, true, false] rfl ?_
            exact ih40 _ _ _ _ _ _ _ _ _ _ _ _ hk40
          · refine af_iconst K 89 dX5_fitting_88 rfl cs_iconst_1 ?_
            refine af_goto K 93 dX5_fitting_89 rfl ?_
            refine af_istore K 95 [some (.ref 26), some (.int x1), some (.int x2), some (.int x3), some (.int x4), some (.int x5), some (.int x6), some (.int x7), some (.int x8), some (.int 1), some (.int x10), some (.int y4)] dX5_fitting_93 rfl (by rw [hN]; exact Nat.le_of_ble_eq_true rfl) rfl ?_
            refine af_aload_n K 96 dX5_fitting_95 rfl rfl ?_
            refine af_callV_v K (b := 26) (vs := []) mv_X5_dayGoes lk_869 ((hp_at _ (Nat.le_of_ble_eq_true rfl)).trans rfl) rfl 99 dX5_fitting_96 rfl rfl rfl rfl (A_X5_dayGoes _ _ σ) rfl (fun q10 => ?_)
            refine af_iincB K 102 (fun yy => [some (.ref 26), some (.int x1), some (.int x2), some (.int x3), some (.int x4), some (.int x5), some (.int x6), some (.int x7), some (.int x8), some (.int 1), some (.int yy), some (.int y4)]) dX5_fitting_99 rfl (by rw [hN]; exact Nat.le_of_ble_eq_true rfl) rfl cs_iconst_1 (fun _ => rfl) (fun y11 => ?_)
            refine af_goto K 40 dX5_fitting_102 rfl ?_
            refine af_lm [true, true, true, true, true, true, true, true, true, true, true, false] rfl ?_
            exact ih40 _ _ _ _ _ _ _ _ _ _ _ _ hk40
set_option maxRecDepth 100000 in
set_option maxHeartbeats 4000000 in
theorem W_X5_fitting_20 {cx : aw_C} (hN : aw_nL cx = 12) (K : aw_K cx cX5_fitting RX5 rX5_fitting)  : ∀ (fu : Nat) (x1 : Int32) (x2 : Int32) (x3 : Int32) (x4 : Int32) (x5 : Int32) (x6 : Int32) (x7 : Int32) (x8 : Int32) (σ : fk_T) (k : Int32 → Int32 → Int32 → Int32 → Int32 → Int32 → Int32 → Int32 → fk_T → Option (Int32 × fk_T)), (∀ (x1 : Int32) (x2 : Int32) (x3 : Int32) (x4 : Int32) (x5 : Int32) (x6 : Int32) (x7 : Int32) (x8 : Int32) (σ : fk_T), af cx ρi 160 [some (.ref 26), some (.int x1), some (.int x2), some (.int x3), some (.int x4), some (.int x5), some (.int x6), some (.int x7), some (.int x8), none, none, none] [] (hp σ) (k x1 x2 x3 x4 x5 x6 x7 x8 σ)) → af cx ρi 20 [some (.ref 26), some (.int x1), some (.int x2), some (.int x3), some (.int x4), some (.int x5), some (.int x6), some (.int x7), some (.int x8), none, none, none] [] (hp σ) (L_X5_fitting_20 fu x1 x2 x3 x4 x5 x6 x7 x8 σ k) := by
  intro fu
  induction fu with
  | zero => intros; exact af_none
  | succ fu ih20 =>
    intro x1 x2 x3 x4 x5 x6 x7 x8 σ k hk20
    rw [L_X5_fitting_20]
    refine af_iload K 22 dX5_fitting_20 rfl rfl ?_
    refine af_iload_n K 23 dX5_fitting_22 rfl rfl ?_
    refine af_icmp_gt K 26 160 dX5_fitting_23 rfl rfl (fun _ => ?_) (fun _ => ?_)
    · refine af_lm [true, true, true, true, true, true, true, true, true, false, false, false] rfl ?_
      exact hk20 _ _ _ _ _ _ _ _ _
    · refine af_aload_n K 27 dX5_fitting_26 rfl rfl ?_
      refine af_get K 30 dX5_fitting_27 rfl fl_X5_7 (Nat.le_of_ble_eq_true rfl) rfl rfl ?_
      refine af_iload_n K 31 dX5_fitting_30 rfl rfl ?_
      refine af_iload K 33 dX5_fitting_31 rfl rfl ?_
      refine af_iast K 34 dX5_fitting_33 rfl (Nat.le_of_ble_eq_true rfl) (fun _ _ => rfl) (fun s2 => ?_)
      refine af_iconst K 35 dX5_fitting_34 rfl cs_iconst_1 ?_
      refine af_istore K 37 [some (.ref 26), some (.int x1), some (.int x2), some (.int x3), some (.int x4), some (.int x5), some (.int x6), some (.int x7), some (.int x8), some (.int 1), none, none] dX5_fitting_35 rfl (by rw [hN]; exact Nat.le_of_ble_eq_true rfl) rfl ?_
      refine af_iconst K 38 dX5_fitting_37 rfl cs_iconst_0 ?_
      refine af_istore K 40 [some (.ref 26), some (.int x1), some (.int x2), some (.int x3), some (.int x4), some (.int x5), some (.int x6), some (.int x7), some (.int x8), some (.int 1), some (.int 0), none] dX5_fitting_38 rfl (by rw [hN]; exact Nat.le_of_ble_eq_true rfl) rfl ?_
      refine af_lm [true, true, true, true, true, true, true, true, true, true, true, false] rfl ?_
      refine W_X5_fitting_40 hN K  fk_N _ _ _ _ _ _ _ _ _ _ _ _ (fun y13 y14 y15 y16 y17 y18 y19 y20 y21 y22 s12 => ?_)
      refine af_aload_n K 106 dX5_fitting_105 rfl rfl ?_
      refine af_get K 109 dX5_fitting_106 rfl fl_X5_16 (Nat.le_of_ble_eq_true rfl) rfl rfl ?_
      refine af_aload_n K 110 dX5_fitting_109 rfl rfl ?_
      refine af_get K 113 dX5_fitting_110 rfl fl_X5_7 (Nat.le_of_ble_eq_true rfl) rfl rfl ?_
      refine af_callS_v K (vs := [.ref 29, .ref 27]) ms_X5_copies lk_910 116 dX5_fitting_113 rfl rfl rfl rfl (A_X5_copies _ _ 29 (Or.inr (Or.inr (Or.inl rfl))) 27 (Or.inl rfl) s12) rfl (fun q23 => ?_)
      refine af_iload K 118 dX5_fitting_116 rfl rfl ?_
      refine af_iload K 120 dX5_fitting_118 rfl rfl ?_
      refine af_if_eq K 123 135 dX5_fitting_120 rfl rfl (fun _ => ?_) (fun _ => ?_)
      · refine af_iconst K 136 dX5_fitting_135 rfl cs_iconst_0 ?_
        refine af_ior K 137 dX5_fitting_136 rfl ?_
        refine af_Bi (fun y24 => ?_)
        refine af_istore K 139 [some (.ref 26), some (.int y13), some (.int y14), some (.int y15), some (.int y16), some (.int y17), some (.int y24), some (.int y19), some (.int y20), some (.int y21), some (.int y22), none] dX5_fitting_137 rfl (by rw [hN]; exact Nat.le_of_ble_eq_true rfl) rfl ?_
        refine af_iload K 141 dX5_fitting_139 rfl rfl ?_
        refine af_iload K 143 dX5_fitting_141 rfl rfl ?_
        refine af_if_eq K 146 150 dX5_fitting_143 rfl rfl (fun _ => ?_) (fun _ => ?_)
        · refine af_iconst K 151 dX5_fitting_150 rfl cs_iconst_0 ?_
          refine af_iadd K 152 dX5_fitting_151 rfl ?_
          refine af_Bi (fun y25 => ?_)
          refine af_istore K 154 [some (.ref 26), some (.int y13), some (.int y14), some (.int y15), some (.int y16), some (.int y17), some (.int y24), some (.int y25), some (.int y20), some (.int y21), some (.int y22), none] dX5_fitting_152 rfl (by rw [hN]; exact Nat.le_of_ble_eq_true rfl) rfl ?_
          refine af_iincB K 157 (fun yy => [some (.ref 26), some (.int y13), some (.int y14), some (.int y15), some (.int y16), some (.int y17), some (.int y24), some (.int y25), some (.int yy), some (.int y21), some (.int y22), none]) dX5_fitting_154 rfl (by rw [hN]; exact Nat.le_of_ble_eq_true rfl) rfl cs_iconst_1 (fun _ => rfl) (fun y26 => ?_)
          refine af_goto K 20 dX5_fitting_157 rfl ?_
          refine af_lm [true, true, true, true, true, true, true, true, true, false, false, false] rfl ?_
          exact ih20 _ _ _ _ _ _ _ _ _ _ hk20
        · refine af_iconst K 147 dX5_fitting_146 rfl cs_iconst_1 ?_
          refine af_goto K 151 dX5_fitting_147 rfl ?_
          refine af_iadd K 152 dX5_fitting_151 rfl ?_
          refine af_Bi (fun y27 => ?_)
          refine af_istore K 154 [some (.ref 26), some (.int y13), some (.int y14), some (.int y15), some (.int y16), some (.int y17), some (.int y24), some (.int y27), some (.int y20), some (.int y21), some (.int y22), none] dX5_fitting_152 rfl (by rw [hN]; exact Nat.le_of_ble_eq_true rfl) rfl ?_
          refine af_iincB K 157 (fun yy => [some (.ref 26), some (.int y13), some (.int y14), some (.int y15), some (.int y16), some (.int y17), some (.int y24), some (.int y27), some (.int yy), some (.int y21), some (.int y22), none]) dX5_fitting_154 rfl (by rw [hN]; exact Nat.le_of_ble_eq_true rfl) rfl cs_iconst_1 (fun _ => rfl) (fun y28 => ?_)
          refine af_goto K 20 dX5_fitting_157 rfl ?_
          refine af_lm [true, true, true, true, true, true, true, true, true, false, false, false] rfl ?_
          exact ih20 _ _ _ _ _ _ _ _ _ _ hk20
      · refine af_iload K 125 dX5_fitting_123 rfl rfl ?_
        refine af_if_eq K 128 135 dX5_fitting_125 rfl rfl (fun _ => ?_) (fun _ => ?_)
        · refine af_iconst K 136 dX5_fitting_135 rfl cs_iconst_0 ?_
          refine af_ior K 137 dX5_fitting_136 rfl ?_
          refine af_Bi (fun y29 => ?_)
          refine af_istore K 139 [some (.ref 26), some (.int y13), some (.int y14), some (.int y15), some (.int y16), some (.int y17), some (.int y29), some (.int y19), some (.int y20), some (.int y21), some (.int y22), none] dX5_fitting_137 rfl (by rw [hN]; exact Nat.le_of_ble_eq_true rfl) rfl ?_
          refine af_iload K 141 dX5_fitting_139 rfl rfl ?_
          refine af_iload K 143 dX5_fitting_141 rfl rfl ?_
          refine af_if_eq K 146 150 dX5_fitting_143 rfl rfl (fun _ => ?_) (fun _ => ?_)
          · refine af_iconst K 151 dX5_fitting_150 rfl cs_iconst_0 ?_
            refine af_iadd K 152 dX5_fitting_151 rfl ?_
            refine af_Bi (fun y30 => ?_)
            refine af_istore K 154 [some (.ref 26), some (.int y13), some (.int y14), some (.int y15), some (.int y16), some (.int y17), some (.int y29), some (.int y30), some (.int y20), some (.int y21), some (.int y22), none] dX5_fitting_152 rfl (by rw [hN]; exact Nat.le_of_ble_eq_true rfl) rfl ?_
            refine af_iincB K 157 (fun yy => [some (.ref 26), some (.int y13), some (.int y14), some (.int y15), some (.int y16), some (.int y17), some (.int y29), some (.int y30), some (.int yy), some (.int y21), some (.int y22), none]) dX5_fitting_154 rfl (by rw [hN]; exact Nat.le_of_ble_eq_true rfl) rfl cs_iconst_1 (fun _ => rfl) (fun y31 => ?_)
            refine af_goto K 20 dX5_fitting_157 rfl ?_
            refine af_lm [true, true, true, true, true, true, true, true, true, false, false, false] rfl ?_
            exact ih20 _ _ _ _ _ _ _ _ _ _ hk20
          · refine af_iconst K 147 dX5_fitting_146 rfl cs_iconst_1 ?_
            refine af_goto K 151 dX5_fitting_147 rfl ?_
            refine af_iadd K 152 dX5_fitting_151 rfl ?_
            refine af_Bi (fun y32 => ?_)
            refine af_istore K 154 [some (.ref 26), some (.int y13), some (.int y14), some (.int y15), some (.int y16), some (.int y17), some (.int y29), some (.int y32), some (.int y20), some (.int y21), some (.int y22), none] dX5_fitting_152 rfl (by rw [hN]; exact Nat.le_of_ble_eq_true rfl) rfl ?_
            refine af_iincB K 157 (fun yy => [some (.ref 26), some (.int y13), some (.int y14), some (.int y15), some (.int y16), some (.int y17), some (.int y29), some (.int y32), some (.int yy), some (.int y21), some (.int y22), none]) dX5_fitting_154 rfl (by rw [hN]; exact Nat.le_of_ble_eq_true rfl) rfl cs_iconst_1 (fun _ => rfl) (fun y33 => ?_)
            refine af_goto K 20 dX5_fitting_157 rfl ?_
            refine af_lm [true, true, true, true, true, true, true, true, true, false, false, false] rfl ?_
            exact ih20 _ _ _ _ _ _ _ _ _ _ hk20
        · refine af_iconst K 129 dX5_fitting_128 rfl cs_iconst_1 ?_
          refine af_iload K 131 dX5_fitting_129 rfl rfl ?_
          refine af_ishl K 132 dX5_fitting_131 rfl ?_
          refine af_goto K 136 dX5_fitting_132 rfl ?_
          refine af_ior K 137 dX5_fitting_136 rfl ?_
          refine af_Bi (fun y34 => ?_)
          refine af_istore K 139 [some (.ref 26), some (.int y13), some (.int y14), some (.int y15), some (.int y16), some (.int y17), some (.int y34), some (.int y19), some (.int y20), some (.int y21), some (.int y22), none] dX5_fitting_137 rfl (by rw [hN]; exact Nat.le_of_ble_eq_true rfl) rfl ?_
          refine af_iload K 141 dX5_fitting_139 rfl rfl ?_
          refine af_iload K 143 dX5_fitting_141 rfl rfl ?_
          refine af_if_eq K 146 150 dX5_fitting_143 rfl rfl (fun _ => ?_) (fun _ => ?_)
          · refine af_iconst K 151 dX5_fitting_150 rfl cs_iconst_0 ?_
            refine af_iadd K 152 dX5_fitting_151 rfl ?_
            refine af_Bi (fun y35 => ?_)
            refine af_istore K 154 [some (.ref 26), some (.int y13), some (.int y14), some (.int y15), some (.int y16), some (.int y17), some (.int y34), some (.int y35), some (.int y20), some (.int y21), some (.int y22), none] dX5_fitting_152 rfl (by rw [hN]; exact Nat.le_of_ble_eq_true rfl) rfl ?_
            refine af_iincB K 157 (fun yy => [some (.ref 26), some (.int y13), some (.int y14), some (.int y15), some (.int y16), some (.int y17), some (.int y34), some (.int y35), some (.int yy), some (.int y21), some (.int y22), none]) dX5_fitting_154 rfl (by rw [hN]; exact Nat.le_of_ble_eq_true rfl) rfl cs_iconst_1 (fun _ => rfl) (fun y36 => ?_)
            refine af_goto K 20 dX5_fitting_157 rfl ?_
            refine af_lm [true, true, true, true, true, true, true, true, true, false, false, false] rfl ?_
            exact ih20 _ _ _ _ _ _ _ _ _ _ hk20
          · refine af_iconst K 147 dX5_fitting_146 rfl cs_iconst_1 ?_
            refine af_goto K 151 dX5_fitting_147 rfl ?_
            refine af_iadd K 152 dX5_fitting_151 rfl ?_
            refine af_Bi (fun y37 => ?_)
            refine af_istore K 154 [some (.ref 26), some (.int y13), some (.int y14), some (.int y15), some (.int y16), some (.int y17), some (.int y34), some (.int y37), some (.int y20), some (.int y21), some (.int y22), none] dX5_fitting_152 rfl (by rw [hN]; exact Nat.le_of_ble_eq_true rfl) rfl ?_
            refine af_iincB K 157 (fun yy => [some (.ref 26), some (.int y13), some (.int y14), some (.int y15), some (.int y16), some (.int y17), some (.int y34), some (.int y37), some (.int yy), some (.int y21), some (.int y22), none]) dX5_fitting_154 rfl (by rw [hN]; exact Nat.le_of_ble_eq_true rfl) rfl cs_iconst_1 (fun _ => rfl) (fun y38 => ?_)
            refine af_goto K 20 dX5_fitting_157 rfl ?_
            refine af_lm [true, true, true, true, true, true, true, true, true, false, false, false] rfl ?_
            exact ih20 _ _ _ _ _ _ _ _ _ _ hk20
set_option maxRecDepth 100000 in
set_option maxHeartbeats 4000000 in
theorem A_X5_fitting (X : aw_X) (l : Launch) (x1 : Int32) (x2 : Int32) (x3 : Int32) (x4 : Int32) (x5 : Int32) (σ : fk_T) : af_G X l mX5_fitting [.ref 26, .int x1, .int x2, .int x3, .int x4, .int x5] (hp σ) ρi (F_X5_fitting x1 x2 x3 x4 x5 σ) := by
  refine af_mk (by decide) rfl (fun q _ => aw_oki q) [some (.ref 26), some (.int x1), some (.int x2), some (.int x3), some (.int x4), some (.int x5), none, none, none, none, none, none] rfl ?_
  rintro cx rfl rfl hN K
  replace hN : aw_nL cx = 12 := hN
  replace K : aw_K cx cX5_fitting RX5 rX5_fitting := K
  unfold F_X5_fitting
  refine af_aload_n K 1 dX5_fitting_0 rfl rfl ?_
  refine af_get K 4 dX5_fitting_1 rfl fl_X5_7 (Nat.le_of_ble_eq_true rfl) rfl rfl ?_
  refine af_aload_n K 5 dX5_fitting_4 rfl rfl ?_
  refine af_get K 8 dX5_fitting_5 rfl fl_X5_16 (Nat.le_of_ble_eq_true rfl) rfl rfl ?_
  refine af_callS_v K (vs := [.ref 27, .ref 29]) ms_X5_copies lk_910 11 dX5_fitting_8 rfl rfl rfl rfl (A_X5_copies _ _ 27 (Or.inl rfl) 29 (Or.inr (Or.inr (Or.inl rfl))) σ) rfl (fun q1 => ?_)
  refine af_iconst K 12 dX5_fitting_11 rfl cs_iconst_0 ?_
  refine af_istore K 14 [some (.ref 26), some (.int x1), some (.int x2), some (.int x3), some (.int x4), some (.int x5), some (.int 0), none, none, none, none, none] dX5_fitting_12 rfl (by rw [hN]; exact Nat.le_of_ble_eq_true rfl) rfl ?_
  refine af_iconst K 15 dX5_fitting_14 rfl cs_iconst_0 ?_
  refine af_istore K 17 [some (.ref 26), some (.int x1), some (.int x2), some (.int x3), some (.int x4), some (.int x5), some (.int 0), some (.int 0), none, none, none, none] dX5_fitting_15 rfl (by rw [hN]; exact Nat.le_of_ble_eq_true rfl) rfl ?_
  refine af_iconst K 18 dX5_fitting_17 rfl cs_iconst_0 ?_
  refine af_istore K 20 [some (.ref 26), some (.int x1), some (.int x2), some (.int x3), some (.int x4), some (.int x5), some (.int 0), some (.int 0), some (.int 0), none, none, none] dX5_fitting_18 rfl (by rw [hN]; exact Nat.le_of_ble_eq_true rfl) rfl ?_
  refine af_lm [true, true, true, true, true, true, true, true, true, false, false, false] rfl ?_
  refine W_X5_fitting_20 hN K  fk_N _ _ _ _ _ _ _ _ _ _ (fun y40 y41 y42 y43 y44 y45 y46 y47 s39 => ?_)
  refine af_iload K 162 dX5_fitting_160 rfl rfl ?_
  refine af_if_eq K 165 170 dX5_fitting_162 rfl rfl (fun _ => ?_) (fun _ => ?_)
  · refine af_iload K 172 dX5_fitting_170 rfl rfl ?_
    exact af_reti K dX5_fitting_172
  · refine af_iload K 167 dX5_fitting_165 rfl rfl ?_
    refine af_goto K 172 dX5_fitting_167 rfl ?_
    exact af_reti K dX5_fitting_172
def F_X5_isSheet (x0 : Int32) (σ : fk_T) : Option (Bool × fk_T) := (F_X5_in (x0.toInt64) 0 3 σ).bind (fun q1 => some (q1.1, q1.2))
set_option maxRecDepth 100000 in
set_option maxHeartbeats 4000000 in
theorem A_X5_isSheet (X : aw_X) (l : Launch) (x0 : Int32) (σ : fk_T) : af_G X l mX5_isSheet [.int x0] (hp σ) ρz (F_X5_isSheet x0 σ) := by
  refine af_mk (by decide) rfl (fun q _ => aw_okz q) [some (.int x0)] rfl ?_
  rintro cx rfl rfl hN K
  replace hN : aw_nL cx = 1 := hN
  replace K : aw_K cx cX5_isSheet RX5 rX5_isSheet := K
  unfold F_X5_isSheet
  refine af_iload_n K 1 dX5_isSheet_0 rfl rfl ?_
  refine af_i2l K 2 dX5_isSheet_1 rfl ?_
  refine af_lconst K 3 dX5_isSheet_2 rfl cs_lconst_0 ?_
  refine af_ldc2 K 6 dX5_isSheet_3 rfl lk_843 ?_
  refine af_callS_z K (vs := [.long (x0.toInt64), .long 0, .long 3]) ms_X5_in lk_753 9 dX5_isSheet_6 rfl rfl rfl rfl (A_X5_in _ _ (x0.toInt64) 0 3 σ) rfl (fun q1 => ?_)
  exact af_retz K rfl dX5_isSheet_9
def F_X5_whyNone (x1 : Int32) (σ : fk_T) : Option (Int32 × fk_T) := (F_X5_isSheet x1 σ).bind (fun q1 => if (fk_b q1.1) = 0 then (some (0, q1.2)) else (fk_A (q1.2.1 33) 4 x1 (fun y2 => if y2 = 0 then (some (5, q1.2)) else (some ((-1), q1.2)))))
set_option maxRecDepth 100000 in
set_option maxHeartbeats 4000000 in
theorem A_X5_whyNone (X : aw_X) (l : Launch) (x1 : Int32) (σ : fk_T) : af_G X l mX5_whyNone [.ref 26, .int x1] (hp σ) ρi (F_X5_whyNone x1 σ) := by
  refine af_mk (by decide) rfl (fun q _ => aw_oki q) [some (.ref 26), some (.int x1)] rfl ?_
  rintro cx rfl rfl hN K
  replace hN : aw_nL cx = 2 := hN
  replace K : aw_K cx cX5_whyNone RX5 rX5_whyNone := K
  unfold F_X5_whyNone
  refine af_iload_n K 1 dX5_whyNone_0 rfl rfl ?_
  refine af_callS_z K (vs := [.int x1]) ms_X5_isSheet lk_980 4 dX5_whyNone_1 rfl rfl rfl rfl (A_X5_isSheet _ _ x1 σ) rfl (fun q1 => ?_)
  refine af_if_ne K 7 11 dX5_whyNone_4 rfl rfl (fun _ => ?_) (fun _ => ?_)
  · refine af_aload_n K 12 dX5_whyNone_11 rfl rfl ?_
    refine af_get K 15 dX5_whyNone_12 rfl fl_X5_29 (Nat.le_of_ble_eq_true rfl) rfl rfl ?_
    refine af_iload_n K 16 dX5_whyNone_15 rfl rfl ?_
    refine af_iald K 17 dX5_whyNone_16 rfl (Nat.le_of_ble_eq_true rfl) rfl (fun y2 => ?_)
    refine af_if_ne K 20 24 dX5_whyNone_17 rfl rfl (fun _ => ?_) (fun _ => ?_)
    · refine af_iconst K 25 dX5_whyNone_24 rfl cs_iconst_m1 ?_
      exact af_reti K dX5_whyNone_25
    · refine af_iconst K 21 dX5_whyNone_20 rfl cs_iconst_5 ?_
      refine af_goto K 25 dX5_whyNone_21 rfl ?_
      exact af_reti K dX5_whyNone_25
  · refine af_iconst K 8 dX5_whyNone_7 rfl cs_iconst_0 ?_
    refine af_goto K 25 dX5_whyNone_8 rfl ?_
    exact af_reti K dX5_whyNone_25
def F_X5_fits (x1 : Int32) (x2 : Int32) (x3 : Int32) (σ : fk_T) : Option (Int32 × fk_T) := (F_X5_whyNone x1 σ).bind (fun q1 => if q1.1 < 0 then ((F_X5_areTwo x2 x3 q1.2).bind (fun q2 => if (fk_b q2.1) = 0 then ((F_X5_finds 0 q2.2).bind (fun q3 => some (q3.1, q3.2))) else ((F_X5_between x2 x3 q2.2).bind (fun q4 => (F_X5_between x2 x3 q4.2).bind (fun q5 => (F_X5_fitting x1 q4.1 99 q5.1 0 q5.2).bind (fun q6 => some (q6.1, q6.2))))))) else ((F_X5_finds q1.1 q1.2).bind (fun q7 => some (q7.1, q7.2))))
set_option maxRecDepth 100000 in
set_option maxHeartbeats 4000000 in
theorem A_X5_fits (X : aw_X) (l : Launch) (x1 : Int32) (x2 : Int32) (x3 : Int32) (σ : fk_T) : af_G X l mX5_fits [.ref 26, .int x1, .int x2, .int x3] (hp σ) ρi (F_X5_fits x1 x2 x3 σ) := by
  refine af_mk (by decide) rfl (fun q _ => aw_oki q) [some (.ref 26), some (.int x1), some (.int x2), some (.int x3), none] rfl ?_
  rintro cx rfl rfl hN K
  replace hN : aw_nL cx = 5 := hN
  replace K : aw_K cx cX5_fits RX5 rX5_fits := K
  unfold F_X5_fits
  refine af_aload_n K 1 dX5_fits_0 rfl rfl ?_
  refine af_iload_n K 2 dX5_fits_1 rfl rfl ?_
  refine af_callV_i K (b := 26) (vs := [.int x1]) mv_X5_whyNone lk_976 ((hp_at _ (Nat.le_of_ble_eq_true rfl)).trans rfl) rfl 5 dX5_fits_2 rfl rfl rfl rfl (A_X5_whyNone _ _ x1 σ) rfl (fun q1 => ?_)
  refine af_istore K 7 [some (.ref 26), some (.int x1), some (.int x2), some (.int x3), some (.int q1.1)] dX5_fits_5 rfl (by rw [hN]; exact Nat.le_of_ble_eq_true rfl) rfl ?_
  refine af_iload K 9 dX5_fits_7 rfl rfl ?_
  refine af_if_lt K 12 19 dX5_fits_9 rfl rfl (fun _ => ?_) (fun _ => ?_)
  · refine af_aload_n K 20 dX5_fits_19 rfl rfl ?_
    refine af_iload_n K 21 dX5_fits_20 rfl rfl ?_
    refine af_iload_n K 22 dX5_fits_21 rfl rfl ?_
    refine af_callV_z K (b := 26) (vs := [.int x2, .int x3]) mv_X5_areTwo lk_832 ((hp_at _ (Nat.le_of_ble_eq_true rfl)).trans rfl) rfl 25 dX5_fits_22 rfl rfl rfl rfl (A_X5_areTwo _ _ x2 x3 q1.2) rfl (fun q2 => ?_)
    refine af_if_eq K 28 49 dX5_fits_25 rfl rfl (fun _ => ?_) (fun _ => ?_)
    · refine af_aload_n K 50 dX5_fits_49 rfl rfl ?_
      refine af_iconst K 51 dX5_fits_50 rfl cs_iconst_0 ?_
      refine af_callV_i K (b := 26) (vs := [.int 0]) mv_X5_finds lk_760 ((hp_at _ (Nat.le_of_ble_eq_true rfl)).trans rfl) rfl 54 dX5_fits_51 rfl rfl rfl rfl (A_X5_finds _ _ 0 q2.2) rfl (fun q3 => ?_)
      exact af_reti K dX5_fits_54
    · refine af_aload_n K 29 dX5_fits_28 rfl rfl ?_
      refine af_iload_n K 30 dX5_fits_29 rfl rfl ?_
      refine af_iload_n K 31 dX5_fits_30 rfl rfl ?_
      refine af_iload_n K 32 dX5_fits_31 rfl rfl ?_
      refine af_callS_i K (vs := [.int x2, .int x3]) ms_X5_between lk_836 35 dX5_fits_32 rfl rfl rfl rfl (A_X5_between _ _ x2 x3 q2.2) rfl (fun q4 => ?_)
      refine af_bipush K 37 dX5_fits_35 rfl cs_bipush_99 ?_
      refine af_iload_n K 38 dX5_fits_37 rfl rfl ?_
      refine af_iload_n K 39 dX5_fits_38 rfl rfl ?_
      refine af_callS_i K (vs := [.int x2, .int x3]) ms_X5_between lk_836 42 dX5_fits_39 rfl rfl rfl rfl (A_X5_between _ _ x2 x3 q4.2) rfl (fun q5 => ?_)
      refine af_iconst K 43 dX5_fits_42 rfl cs_iconst_0 ?_
      refine af_callV_i K (b := 26) (vs := [.int x1, .int q4.1, .int 99, .int q5.1, .int 0]) mv_X5_fitting lk_983 ((hp_at _ (Nat.le_of_ble_eq_true rfl)).trans rfl) rfl 46 dX5_fits_43 rfl rfl rfl rfl (A_X5_fitting _ _ x1 q4.1 99 q5.1 0 q5.2) rfl (fun q6 => ?_)
      refine af_goto K 54 dX5_fits_46 rfl ?_
      exact af_reti K dX5_fits_54
  · refine af_aload_n K 13 dX5_fits_12 rfl rfl ?_
    refine af_iload K 15 dX5_fits_13 rfl rfl ?_
    refine af_callV_i K (b := 26) (vs := [.int q1.1]) mv_X5_finds lk_760 ((hp_at _ (Nat.le_of_ble_eq_true rfl)).trans rfl) rfl 18 dX5_fits_15 rfl rfl rfl rfl (A_X5_finds _ _ q1.1 q1.2) rfl (fun q7 => ?_)
    exact af_reti K dX5_fits_18
def F_X5_kinds (x1 : Int32) (x2 : Int32) (σ : fk_T) : Option (Int32 × fk_T) := (F_X5_whyNone x1 σ).bind (fun q1 => if q1.1 < 0 then ((F_X5_isPotter x2 q1.2).bind (fun q2 => if (fk_b q2.1) = 0 then ((F_X5_finds 0 q2.2).bind (fun q3 => some (q3.1, q3.2))) else ((F_X5_fitting x1 (13 + x2) 6 (21 + x2) 1 q2.2).bind (fun q4 => some (q4.1, q4.2))))) else ((F_X5_finds q1.1 q1.2).bind (fun q5 => some (q5.1, q5.2))))
set_option maxRecDepth 100000 in
set_option maxHeartbeats 4000000 in
theorem A_X5_kinds (X : aw_X) (l : Launch) (x1 : Int32) (x2 : Int32) (σ : fk_T) : af_G X l mX5_kinds [.ref 26, .int x1, .int x2] (hp σ) ρi (F_X5_kinds x1 x2 σ) := by
  refine af_mk (by decide) rfl (fun q _ => aw_oki q) [some (.ref 26), some (.int x1), some (.int x2), none] rfl ?_
  rintro cx rfl rfl hN K
  replace hN : aw_nL cx = 4 := hN
  replace K : aw_K cx cX5_kinds RX5 rX5_kinds := K
  unfold F_X5_kinds
  refine af_aload_n K 1 dX5_kinds_0 rfl rfl ?_
  refine af_iload_n K 2 dX5_kinds_1 rfl rfl ?_
  refine af_callV_i K (b := 26) (vs := [.int x1]) mv_X5_whyNone lk_976 ((hp_at _ (Nat.le_of_ble_eq_true rfl)).trans rfl) rfl 5 dX5_kinds_2 rfl rfl rfl rfl (A_X5_whyNone _ _ x1 σ) rfl (fun q1 => ?_)
  refine af_istore_n K 6 [some (.ref 26), some (.int x1), some (.int x2), some (.int q1.1)] dX5_kinds_5 rfl (by rw [hN]; exact Nat.le_of_ble_eq_true rfl) rfl ?_
  refine af_iload_n K 7 dX5_kinds_6 rfl rfl ?_
  refine af_if_lt K 10 16 dX5_kinds_7 rfl rfl (fun _ => ?_) (fun _ => ?_)
  · refine af_aload_n K 17 dX5_kinds_16 rfl rfl ?_
    refine af_iload_n K 18 dX5_kinds_17 rfl rfl ?_
    refine af_callV_z K (b := 26) (vs := [.int x2]) mv_X5_isPotter lk_793 ((hp_at _ (Nat.le_of_ble_eq_true rfl)).trans rfl) rfl 21 dX5_kinds_18 rfl rfl rfl rfl (A_X5_isPotter _ _ x2 q1.2) rfl (fun q2 => ?_)
    refine af_if_eq K 24 43 dX5_kinds_21 rfl rfl (fun _ => ?_) (fun _ => ?_)
    · refine af_aload_n K 44 dX5_kinds_43 rfl rfl ?_
      refine af_iconst K 45 dX5_kinds_44 rfl cs_iconst_0 ?_
      refine af_callV_i K (b := 26) (vs := [.int 0]) mv_X5_finds lk_760 ((hp_at _ (Nat.le_of_ble_eq_true rfl)).trans rfl) rfl 48 dX5_kinds_45 rfl rfl rfl rfl (A_X5_finds _ _ 0 q2.2) rfl (fun q3 => ?_)
      exact af_reti K dX5_kinds_48
    · refine af_aload_n K 25 dX5_kinds_24 rfl rfl ?_
      refine af_iload_n K 26 dX5_kinds_25 rfl rfl ?_
      refine af_bipush K 28 dX5_kinds_26 rfl cs_bipush_13 ?_
      refine af_iload_n K 29 dX5_kinds_28 rfl rfl ?_
      refine af_iadd K 30 dX5_kinds_29 rfl ?_
      refine af_bipush K 32 dX5_kinds_30 rfl cs_bipush_6 ?_
      refine af_bipush K 34 dX5_kinds_32 rfl cs_bipush_21 ?_
      refine af_iload_n K 35 dX5_kinds_34 rfl rfl ?_
      refine af_iadd K 36 dX5_kinds_35 rfl ?_
      refine af_iconst K 37 dX5_kinds_36 rfl cs_iconst_1 ?_
      refine af_callV_i K (b := 26) (vs := [.int x1, .int (13 + x2), .int 6, .int (21 + x2), .int 1]) mv_X5_fitting lk_983 ((hp_at _ (Nat.le_of_ble_eq_true rfl)).trans rfl) rfl 40 dX5_kinds_37 rfl rfl rfl rfl (A_X5_fitting _ _ x1 (13 + x2) 6 (21 + x2) 1 q2.2) rfl (fun q4 => ?_)
      refine af_goto K 48 dX5_kinds_40 rfl ?_
      exact af_reti K dX5_kinds_48
  · refine af_aload_n K 11 dX5_kinds_10 rfl rfl ?_
    refine af_iload_n K 12 dX5_kinds_11 rfl rfl ?_
    refine af_callV_i K (b := 26) (vs := [.int q1.1]) mv_X5_finds lk_760 ((hp_at _ (Nat.le_of_ble_eq_true rfl)).trans rfl) rfl 15 dX5_kinds_12 rfl rfl rfl rfl (A_X5_finds _ _ q1.1 q1.2) rfl (fun q5 => ?_)
    exact af_reti K dX5_kinds_15
def F_X5_draw  (σ : fk_T) : Option (Int32 × fk_T) := fk_A (σ.1 27) 135 2 (fun y1 => fk_S σ 27 135 2 ((y1 * 1103515245) + 12345) (fun s2 => fk_A (s2.1 27) 135 2 (fun y3 => some (((y3.toUInt32 >>> ((8 : Int32).toUInt32 &&& Int32.toUInt32 31)).toInt32), s2))))
set_option maxRecDepth 100000 in
set_option maxHeartbeats 4000000 in
theorem A_X5_draw (X : aw_X) (l : Launch)  (σ : fk_T) : af_G X l mX5_draw [.ref 26] (hp σ) ρi (F_X5_draw  σ) := by
  refine af_mk (by decide) rfl (fun q _ => aw_oki q) [some (.ref 26)] rfl ?_
  rintro cx rfl rfl hN K
  replace hN : aw_nL cx = 1 := hN
  replace K : aw_K cx cX5_draw RX5 rX5_draw := K
  unfold F_X5_draw
  refine af_aload_n K 1 dX5_draw_0 rfl rfl ?_
  refine af_get K 4 dX5_draw_1 rfl fl_X5_7 (Nat.le_of_ble_eq_true rfl) rfl rfl ?_
  refine af_iconst K 5 dX5_draw_4 rfl cs_iconst_2 ?_
  refine af_aload_n K 6 dX5_draw_5 rfl rfl ?_
  refine af_get K 9 dX5_draw_6 rfl fl_X5_7 (Nat.le_of_ble_eq_true rfl) rfl rfl ?_
  refine af_iconst K 10 dX5_draw_9 rfl cs_iconst_2 ?_
  refine af_iald K 11 dX5_draw_10 rfl (Nat.le_of_ble_eq_true rfl) rfl (fun y1 => ?_)
  refine af_ldc K 13 dX5_draw_11 rfl lk_999 ?_
  refine af_imul K 14 dX5_draw_13 rfl ?_
  refine af_sipush K 17 dX5_draw_14 rfl cs_sipush_12345 ?_
  refine af_iadd K 18 dX5_draw_17 rfl ?_
  refine af_iast K 19 dX5_draw_18 rfl (Nat.le_of_ble_eq_true rfl) (fun _ _ => rfl) (fun s2 => ?_)
  refine af_aload_n K 20 dX5_draw_19 rfl rfl ?_
  refine af_get K 23 dX5_draw_20 rfl fl_X5_7 (Nat.le_of_ble_eq_true rfl) rfl rfl ?_
  refine af_iconst K 24 dX5_draw_23 rfl cs_iconst_2 ?_
  refine af_iald K 25 dX5_draw_24 rfl (Nat.le_of_ble_eq_true rfl) rfl (fun y3 => ?_)
  refine af_bipush K 27 dX5_draw_25 rfl cs_bipush_8 ?_
  refine af_iushr K 28 dX5_draw_27 rfl ?_
  exact af_reti K dX5_draw_28
def L_X5_market_39  : Nat → Int32 → Int32 → fk_T → (Int32 → Int32 → fk_T → Option (Int32 × fk_T)) → Option (Int32 × fk_T)
  | 0, _, _, _, _ => none
  | fu + 1, x1, x2, σ, k => if x1 ≤ x2 then (k x1 x2 σ) else ((F_X5_draw  σ).bind (fun q3 => fk_B (q3.1 - q3.1 / 8 * 8) (fun y4 => (F_X5_draw  q3.2).bind (fun q5 => fk_B (q5.1 - q5.1 / 8 * 8) (fun y6 => fk_A (q5.2.1 27) 135 1 (fun y7 => fk_S q5.2 27 135 (7 + (y7 - y7 / 6 * 6)) ((10 * y4) + y6) (fun s8 => (F_X5_draw  s8).bind (fun q9 => fk_S q9.2 27 135 3 (1 + (q9.1 - q9.1 / 20 * 20)) (fun s10 => (F_X5_dayGoes  s10).bind (fun q11 => fk_B (x2 + 1) (fun y12 => L_X5_market_39 fu x1 y12 q11 k)))))))))))
def F_X5_market (x1 : Int32) (σ : fk_T) : Option (Int32 × fk_T) := (F_X5_in (x1.toInt64) 1 20 σ).bind (fun q1 => if (fk_b q1.1) = 0 then ((F_X5_finds 0 q1.2).bind (fun q18 => some (q18.1, q18.2))) else (fk_A (q1.2.1 27) 135 1 (fun y2 => if (y2 + x1) ≤ 99999 then (L_X5_market_39 fk_N x1 0 q1.2 (fun y14 y15 s13 => fk_A (s13.1 27) 135 4 (fun y16 => some (y16, s13)))) else ((F_X5_finds 4 q1.2).bind (fun q17 => some (q17.1, q17.2))))))
set_option maxRecDepth 100000 in
set_option maxHeartbeats 4000000 in
theorem W_X5_market_39 {cx : aw_C} (hN : aw_nL cx = 5) (K : aw_K cx cX5_market RX5 rX5_market)  : ∀ (fu : Nat) (x1 : Int32) (x2 : Int32) (σ : fk_T) (k : Int32 → Int32 → fk_T → Option (Int32 × fk_T)), (∀ (x1 : Int32) (x2 : Int32) (σ : fk_T), af cx ρi 110 [some (.ref 26), some (.int x1), some (.int x2), none, none] [] (hp σ) (k x1 x2 σ)) → af cx ρi 39 [some (.ref 26), some (.int x1), some (.int x2), none, none] [] (hp σ) (L_X5_market_39 fu x1 x2 σ k) := by
  intro fu
  induction fu with
  | zero => intros; exact af_none
  | succ fu ih39 =>
    intro x1 x2 σ k hk39
    rw [L_X5_market_39]
    refine af_iload_n K 40 dX5_market_39 rfl rfl ?_
    refine af_iload_n K 41 dX5_market_40 rfl rfl ?_
    refine af_icmp_ge K 44 110 dX5_market_41 rfl rfl (fun _ => ?_) (fun _ => ?_)
    · refine af_lm [true, true, true, false, false] rfl ?_
      exact hk39 _ _ _
    · refine af_aload_n K 45 dX5_market_44 rfl rfl ?_
      refine af_callV_i K (b := 26) (vs := []) mv_X5_draw lk_995 ((hp_at _ (Nat.le_of_ble_eq_true rfl)).trans rfl) rfl 48 dX5_market_45 rfl rfl rfl rfl (A_X5_draw _ _ σ) rfl (fun q3 => ?_)
      refine af_bipush K 50 dX5_market_48 rfl cs_bipush_8 ?_
      refine af_irem K 51 dX5_market_50 rfl cs_nz_8 ?_
      refine af_Bi (fun y4 => ?_)
      refine af_istore_n K 52 [some (.ref 26), some (.int x1), some (.int x2), some (.int y4), none] dX5_market_51 rfl (by rw [hN]; exact Nat.le_of_ble_eq_true rfl) rfl ?_
      refine af_aload_n K 53 dX5_market_52 rfl rfl ?_
      refine af_callV_i K (b := 26) (vs := []) mv_X5_draw lk_995 ((hp_at _ (Nat.le_of_ble_eq_true rfl)).trans rfl) rfl 56 dX5_market_53 rfl rfl rfl rfl (A_X5_draw _ _ q3.2) rfl (fun q5 => ?_)
      refine af_bipush K 58 dX5_market_56 rfl cs_bipush_8 ?_
      refine af_irem K 59 dX5_market_58 rfl cs_nz_8 ?_
      refine af_Bi (fun y6 => ?_)
      refine af_istore K 61 [some (.ref 26), some (.int x1), some (.int x2), some (.int y4), some (.int y6)] dX5_market_59 rfl (by rw [hN]; exact Nat.le_of_ble_eq_true rfl) rfl ?_
      refine af_aload_n K 62 dX5_market_61 rfl rfl ?_
      refine af_get K 65 dX5_market_62 rfl fl_X5_7 (Nat.le_of_ble_eq_true rfl) rfl rfl ?_
      refine af_bipush K 67 dX5_market_65 rfl cs_bipush_7 ?_
      refine af_aload_n K 68 dX5_market_67 rfl rfl ?_
      refine af_get K 71 dX5_market_68 rfl fl_X5_7 (Nat.le_of_ble_eq_true rfl) rfl rfl ?_
      refine af_iconst K 72 dX5_market_71 rfl cs_iconst_1 ?_
      refine af_iald K 73 dX5_market_72 rfl (Nat.le_of_ble_eq_true rfl) rfl (fun y7 => ?_)
      refine af_bipush K 75 dX5_market_73 rfl cs_bipush_6 ?_
      refine af_irem K 76 dX5_market_75 rfl cs_nz_6 ?_
      refine af_iadd K 77 dX5_market_76 rfl ?_
      refine af_bipush K 79 dX5_market_77 rfl cs_bipush_10 ?_
      refine af_iload_n K 80 dX5_market_79 rfl rfl ?_
      refine af_imul K 81 dX5_market_80 rfl ?_
      refine af_iload K 83 dX5_market_81 rfl rfl ?_
      refine af_iadd K 84 dX5_market_83 rfl ?_
      refine af_iast K 85 dX5_market_84 rfl (Nat.le_of_ble_eq_true rfl) (fun _ _ => rfl) (fun s8 => ?_)
      refine af_aload_n K 86 dX5_market_85 rfl rfl ?_
      refine af_get K 89 dX5_market_86 rfl fl_X5_7 (Nat.le_of_ble_eq_true rfl) rfl rfl ?_
      refine af_iconst K 90 dX5_market_89 rfl cs_iconst_3 ?_
      refine af_iconst K 91 dX5_market_90 rfl cs_iconst_1 ?_
      refine af_aload_n K 92 dX5_market_91 rfl rfl ?_
      refine af_callV_i K (b := 26) (vs := []) mv_X5_draw lk_995 ((hp_at _ (Nat.le_of_ble_eq_true rfl)).trans rfl) rfl 95 dX5_market_92 rfl rfl rfl rfl (A_X5_draw _ _ s8) rfl (fun q9 => ?_)
      refine af_bipush K 97 dX5_market_95 rfl cs_bipush_20 ?_
      refine af_irem K 98 dX5_market_97 rfl cs_nz_20 ?_
      refine af_iadd K 99 dX5_market_98 rfl ?_
      refine af_iast K 100 dX5_market_99 rfl (Nat.le_of_ble_eq_true rfl) (fun _ _ => rfl) (fun s10 => ?_)
      refine af_aload_n K 101 dX5_market_100 rfl rfl ?_
      refine af_callV_v K (b := 26) (vs := []) mv_X5_dayGoes lk_869 ((hp_at _ (Nat.le_of_ble_eq_true rfl)).trans rfl) rfl 104 dX5_market_101 rfl rfl rfl rfl (A_X5_dayGoes _ _ s10) rfl (fun q11 => ?_)
      refine af_iincB K 107 (fun yy => [some (.ref 26), some (.int x1), some (.int yy), some (.int y4), some (.int y6)]) dX5_market_104 rfl (by rw [hN]; exact Nat.le_of_ble_eq_true rfl) rfl cs_iconst_1 (fun _ => rfl) (fun y12 => ?_)
      refine af_goto K 39 dX5_market_107 rfl ?_
      refine af_lm [true, true, true, false, false] rfl ?_
      exact ih39 _ _ _ _ hk39
set_option maxRecDepth 100000 in
set_option maxHeartbeats 4000000 in
theorem A_X5_market (X : aw_X) (l : Launch) (x1 : Int32) (σ : fk_T) : af_G X l mX5_market [.ref 26, .int x1] (hp σ) ρi (F_X5_market x1 σ) := by
  refine af_mk (by decide) rfl (fun q _ => aw_oki q) [some (.ref 26), some (.int x1), none, none, none] rfl ?_
  rintro cx rfl rfl hN K
  replace hN : aw_nL cx = 5 := hN
  replace K : aw_K cx cX5_market RX5 rX5_market := K
  unfold F_X5_market
  refine af_iload_n K 1 dX5_market_0 rfl rfl ?_
  refine af_i2l K 2 dX5_market_1 rfl ?_
  refine af_lconst K 3 dX5_market_2 rfl cs_lconst_1 ?_
  refine af_ldc2 K 6 dX5_market_3 rfl lk_752 ?_
  refine af_callS_z K (vs := [.long (x1.toInt64), .long 1, .long 20]) ms_X5_in lk_753 9 dX5_market_6 rfl rfl rfl rfl (A_X5_in _ _ (x1.toInt64) 1 20 σ) rfl (fun q1 => ?_)
  refine af_if_ne K 12 18 dX5_market_9 rfl rfl (fun _ => ?_) (fun _ => ?_)
  · refine af_aload_n K 19 dX5_market_18 rfl rfl ?_
    refine af_get K 22 dX5_market_19 rfl fl_X5_7 (Nat.le_of_ble_eq_true rfl) rfl rfl ?_
    refine af_iconst K 23 dX5_market_22 rfl cs_iconst_1 ?_
    refine af_iald K 24 dX5_market_23 rfl (Nat.le_of_ble_eq_true rfl) rfl (fun y2 => ?_)
    refine af_iload_n K 25 dX5_market_24 rfl rfl ?_
    refine af_iadd K 26 dX5_market_25 rfl ?_
    refine af_ldc K 28 dX5_market_26 rfl lk_864 ?_
    refine af_icmp_le K 31 37 dX5_market_28 rfl rfl (fun _ => ?_) (fun _ => ?_)
    · refine af_iconst K 38 dX5_market_37 rfl cs_iconst_0 ?_
      refine af_istore_n K 39 [some (.ref 26), some (.int x1), some (.int 0), none, none] dX5_market_38 rfl (by rw [hN]; exact Nat.le_of_ble_eq_true rfl) rfl ?_
      refine af_lm [true, true, true, false, false] rfl ?_
      refine W_X5_market_39 hN K  fk_N _ _ _ _ (fun y14 y15 s13 => ?_)
      refine af_aload_n K 111 dX5_market_110 rfl rfl ?_
      refine af_get K 114 dX5_market_111 rfl fl_X5_7 (Nat.le_of_ble_eq_true rfl) rfl rfl ?_
      refine af_iconst K 115 dX5_market_114 rfl cs_iconst_4 ?_
      refine af_iald K 116 dX5_market_115 rfl (Nat.le_of_ble_eq_true rfl) rfl (fun y16 => ?_)
      exact af_reti K dX5_market_116
    · refine af_aload_n K 32 dX5_market_31 rfl rfl ?_
      refine af_iconst K 33 dX5_market_32 rfl cs_iconst_4 ?_
      refine af_callV_i K (b := 26) (vs := [.int 4]) mv_X5_finds lk_760 ((hp_at _ (Nat.le_of_ble_eq_true rfl)).trans rfl) rfl 36 dX5_market_33 rfl rfl rfl rfl (A_X5_finds _ _ 4 q1.2) rfl (fun q17 => ?_)
      exact af_reti K dX5_market_36
  · refine af_aload_n K 13 dX5_market_12 rfl rfl ?_
    refine af_iconst K 14 dX5_market_13 rfl cs_iconst_0 ?_
    refine af_callV_i K (b := 26) (vs := [.int 0]) mv_X5_finds lk_760 ((hp_at _ (Nat.le_of_ble_eq_true rfl)).trans rfl) rfl 17 dX5_market_14 rfl rfl rfl rfl (A_X5_finds _ _ 0 q1.2) rfl (fun q18 => ?_)
    exact af_reti K dX5_market_17
def L_X5_common_4  : Nat → Int32 → Int32 → fk_T → (Int32 → Int32 → fk_T → Option (Int32 × fk_T)) → Option (Int32 × fk_T)
  | 0, _, _, _, _ => none
  | fu + 1, x2, x3, σ, k => if x3 = 0 then (k x2 x3 σ) else (fk_D x3 (fk_B (x2 - x2 / x3 * x3) (fun y1 => L_X5_common_4 fu x3 y1 σ k)))
def F_X5_common (x0 : Int32) (x1 : Int32) (σ : fk_T) : Option (Int32 × fk_T) := L_X5_common_4 fk_N x0 x1 σ (fun y3 y4 s2 => some (y3, s2))
set_option maxRecDepth 100000 in
set_option maxHeartbeats 4000000 in
theorem W_X5_common_4 {cx : aw_C} (hN : aw_nL cx = 5) (K : aw_K cx cX5_common RX5 rX5_common)  : ∀ (fu : Nat) (x2 : Int32) (x3 : Int32) (σ : fk_T) (k : Int32 → Int32 → fk_T → Option (Int32 × fk_T)), (∀ (x2 : Int32) (x3 : Int32) (σ : fk_T), af cx ρi 21 [none, none, some (.int x2), some (.int x3), none] [] (hp σ) (k x2 x3 σ)) → af cx ρi 4 [none, none, some (.int x2), some (.int x3), none] [] (hp σ) (L_X5_common_4 fu x2 x3 σ k) := by
  intro fu
  induction fu with
  | zero => intros; exact af_none
  | succ fu ih4 =>
    intro x2 x3 σ k hk4
    rw [L_X5_common_4]
    refine af_iload_n K 5 dX5_common_4 rfl rfl ?_
    refine af_if_eq K 8 21 dX5_common_5 rfl rfl (fun _ => ?_) (fun _ => ?_)
    · refine af_lm [false, false, true, true, false] rfl ?_
      exact hk4 _ _ _
    · refine af_iload_n K 9 dX5_common_8 rfl rfl ?_
      refine af_iload_n K 10 dX5_common_9 rfl rfl ?_
      refine af_iremD K 11 dX5_common_10 rfl ?_
      refine af_Bi (fun y1 => ?_)
      refine af_istore K 13 [none, none, some (.int x2), some (.int x3), some (.int y1)] dX5_common_11 rfl (by rw [hN]; exact Nat.le_of_ble_eq_true rfl) rfl ?_
      refine af_iload_n K 14 dX5_common_13 rfl rfl ?_
      refine af_istore_n K 15 [none, none, some (.int x3), some (.int x3), some (.int y1)] dX5_common_14 rfl (by rw [hN]; exact Nat.le_of_ble_eq_true rfl) rfl ?_
      refine af_iload K 17 dX5_common_15 rfl rfl ?_
      refine af_istore_n K 18 [none, none, some (.int x3), some (.int y1), some (.int y1)] dX5_common_17 rfl (by rw [hN]; exact Nat.le_of_ble_eq_true rfl) rfl ?_
      refine af_goto K 4 dX5_common_18 rfl ?_
      refine af_lm [false, false, true, true, false] rfl ?_
      exact ih4 _ _ _ _ hk4
set_option maxRecDepth 100000 in
set_option maxHeartbeats 4000000 in
theorem A_X5_common (X : aw_X) (l : Launch) (x0 : Int32) (x1 : Int32) (σ : fk_T) : af_G X l mX5_common [.int x0, .int x1] (hp σ) ρi (F_X5_common x0 x1 σ) := by
  refine af_mk (by decide) rfl (fun q _ => aw_oki q) [some (.int x0), some (.int x1), none, none, none] rfl ?_
  rintro cx rfl rfl hN K
  replace hN : aw_nL cx = 5 := hN
  replace K : aw_K cx cX5_common RX5 rX5_common := K
  unfold F_X5_common
  refine af_iload_n K 1 dX5_common_0 rfl rfl ?_
  refine af_istore_n K 2 [some (.int x0), some (.int x1), some (.int x0), none, none] dX5_common_1 rfl (by rw [hN]; exact Nat.le_of_ble_eq_true rfl) rfl ?_
  refine af_iload_n K 3 dX5_common_2 rfl rfl ?_
  refine af_istore_n K 4 [some (.int x0), some (.int x1), some (.int x0), some (.int x1), none] dX5_common_3 rfl (by rw [hN]; exact Nat.le_of_ble_eq_true rfl) rfl ?_
  refine af_lm [false, false, true, true, false] rfl ?_
  refine W_X5_common_4 hN K  fk_N _ _ _ _ (fun y3 y4 s2 => ?_)
  refine af_iload_n K 22 dX5_common_21 rfl rfl ?_
  exact af_reti K dX5_common_22
def L_X5_odds_53  : Nat → Int32 → Int32 → Int32 → Int32 → Int32 → Int32 → Int32 → fk_T → (Int32 → Int32 → Int32 → Int32 → Int32 → Int32 → Int32 → fk_T → Option (Int64 × fk_T)) → Option (Int64 × fk_T)
  | 0, _, _, _, _, _, _, _, _, _ => none
  | fu + 1, x1, x2, x3, x4, x5, x6, x7, σ, k => if 20 < x7 then (k x1 x2 x3 x4 x5 x6 x7 σ) else (fk_S σ 27 135 3 x7 (fun s7 => (F_X5_isFlop x1 x2 s7).bind (fun q8 => if (fk_b q8.1) = 0 then (fk_B (x6 + 1) (fun y9 => fk_B (x7 + 1) (fun y10 => L_X5_odds_53 fu x1 x2 x3 x4 x5 y9 y10 q8.2 k))) else (fk_B (x6 + 0) (fun y11 => fk_B (x7 + 1) (fun y12 => L_X5_odds_53 fu x1 x2 x3 x4 x5 y11 y12 q8.2 k))))))
def L_X5_odds_116  : Nat → Int32 → Int32 → Int32 → Int32 → Int64 → Int32 → fk_T → (Int32 → Int32 → Int32 → Int32 → Int64 → Int32 → fk_T → Option (Int64 × fk_T)) → Option (Int64 × fk_T)
  | 0, _, _, _, _, _, _, _, _ => none
  | fu + 1, x3, x4, x6, x7, x8, x10, σ, k => if x3 ≤ x10 then (k x3 x4 x6 x7 x8 x10 σ) else (if x4 = 0 then (fk_D x7 (fk_B (x8 * ((x6 / x7).toInt64)) (fun y25 => fk_B (x10 + 1) (fun y26 => L_X5_odds_116 fu x3 x4 x6 x7 y25 y26 σ k)))) else (fk_D x7 (fk_B (x8 * ((20 / x7).toInt64)) (fun y23 => fk_B (x10 + 1) (fun y24 => L_X5_odds_116 fu x3 x4 x6 x7 y23 y24 σ k)))))
def F_X5_odds (x1 : Int32) (x2 : Int32) (x3 : Int32) (x4 : Int32) (σ : fk_T) : Option (Int64 × fk_T) := (F_X5_areTwo x1 x2 σ).bind (fun q1 => if (fk_b q1.1) = 0 then ((F_X5_finds 0 q1.2).bind (fun q2 => some ((q2.1.toInt64), q2.2))) else ((F_X5_in (x3.toInt64) 0 14 q1.2).bind (fun q3 => if (fk_b q3.1) = 0 then ((F_X5_finds 0 q3.2).bind (fun q4 => some ((q4.1.toInt64), q4.2))) else ((F_X5_in (x4.toInt64) 0 1 q3.2).bind (fun q5 => if (fk_b q5.1) = 0 then ((F_X5_finds 0 q5.2).bind (fun q34 => some ((q34.1.toInt64), q34.2))) else (fk_A (q5.2.1 27) 135 3 (fun y6 => L_X5_odds_53 fk_N x1 x2 x3 x4 y6 0 1 q5.2 (fun y14 y15 y16 y17 y18 y19 y20 s13 => fk_S s13 27 135 3 y18 (fun s21 => (F_X5_common y19 20 s21).bind (fun q22 => L_X5_odds_116 fk_N y16 y17 y19 q22.1 1 0 q22.2 (fun y28 y29 y30 y31 y32 y33 s27 => some (y32, s27))))))))))))
set_option maxRecDepth 100000 in
set_option maxHeartbeats 4000000 in
theorem W_X5_odds_53 {cx : aw_C} (hN : aw_nL cx = 11) (K : aw_K cx cX5_odds RX5 rX5_odds)  : ∀ (fu : Nat) (x1 : Int32) (x2 : Int32) (x3 : Int32) (x4 : Int32) (x5 : Int32) (x6 : Int32) (x7 : Int32) (σ : fk_T) (k : Int32 → Int32 → Int32 → Int32 → Int32 → Int32 → Int32 → fk_T → Option (Int64 × fk_T)), (∀ (x1 : Int32) (x2 : Int32) (x3 : Int32) (x4 : Int32) (x5 : Int32) (x6 : Int32) (x7 : Int32) (σ : fk_T), af cx ρl 93 [some (.ref 26), some (.int x1), some (.int x2), some (.int x3), some (.int x4), some (.int x5), some (.int x6), some (.int x7), none, none, none] [] (hp σ) (k x1 x2 x3 x4 x5 x6 x7 σ)) → af cx ρl 53 [some (.ref 26), some (.int x1), some (.int x2), some (.int x3), some (.int x4), some (.int x5), some (.int x6), some (.int x7), none, none, none] [] (hp σ) (L_X5_odds_53 fu x1 x2 x3 x4 x5 x6 x7 σ k) := by
  intro fu
  induction fu with
  | zero => intros; exact af_none
  | succ fu ih53 =>
    intro x1 x2 x3 x4 x5 x6 x7 σ k hk53
    rw [L_X5_odds_53]
    refine af_iload K 55 dX5_odds_53 rfl rfl ?_
    refine af_bipush K 57 dX5_odds_55 rfl cs_bipush_20 ?_
    refine af_icmp_gt K 60 93 dX5_odds_57 rfl rfl (fun _ => ?_) (fun _ => ?_)
    · refine af_lm [true, true, true, true, true, true, true, true, false, false, false] rfl ?_
      exact hk53 _ _ _ _ _ _ _ _
    · refine af_aload_n K 61 dX5_odds_60 rfl rfl ?_
      refine af_get K 64 dX5_odds_61 rfl fl_X5_7 (Nat.le_of_ble_eq_true rfl) rfl rfl ?_
      refine af_iconst K 65 dX5_odds_64 rfl cs_iconst_3 ?_
      refine af_iload K 67 dX5_odds_65 rfl rfl ?_
      refine af_iast K 68 dX5_odds_67 rfl (Nat.le_of_ble_eq_true rfl) (fun _ _ => rfl) (fun s7 => ?_)
      refine af_iload K 70 dX5_odds_68 rfl rfl ?_
      refine af_aload_n K 71 dX5_odds_70 rfl rfl ?_
      refine af_iload_n K 72 dX5_odds_71 rfl rfl ?_
      refine af_iload_n K 73 dX5_odds_72 rfl rfl ?_
      refine af_callV_z K (b := 26) (vs := [.int x1, .int x2]) mv_X5_isFlop lk_852 ((hp_at _ (Nat.le_of_ble_eq_true rfl)).trans rfl) rfl 76 dX5_odds_73 rfl rfl rfl rfl (A_X5_isFlop _ _ x1 x2 s7) rfl (fun q8 => ?_)
      refine af_if_eq K 79 83 dX5_odds_76 rfl rfl (fun _ => ?_) (fun _ => ?_)
      · refine af_iconst K 84 dX5_odds_83 rfl cs_iconst_1 ?_
        refine af_iadd K 85 dX5_odds_84 rfl ?_
        refine af_Bi (fun y9 => ?_)
        refine af_istore K 87 [some (.ref 26), some (.int x1), some (.int x2), some (.int x3), some (.int x4), some (.int x5), some (.int y9), some (.int x7), none, none, none] dX5_odds_85 rfl (by rw [hN]; exact Nat.le_of_ble_eq_true rfl) rfl ?_
        refine af_iincB K 90 (fun yy => [some (.ref 26), some (.int x1), some (.int x2), some (.int x3), some (.int x4), some (.int x5), some (.int y9), some (.int yy), none, none, none]) dX5_odds_87 rfl (by rw [hN]; exact Nat.le_of_ble_eq_true rfl) rfl cs_iconst_1 (fun _ => rfl) (fun y10 => ?_)
        refine af_goto K 53 dX5_odds_90 rfl ?_
        refine af_lm [true, true, true, true, true, true, true, true, false, false, false] rfl ?_
        exact ih53 _ _ _ _ _ _ _ _ _ hk53
      · refine af_iconst K 80 dX5_odds_79 rfl cs_iconst_0 ?_
        refine af_goto K 84 dX5_odds_80 rfl ?_
        refine af_iadd K 85 dX5_odds_84 rfl ?_
        refine af_Bi (fun y11 => ?_)
        refine af_istore K 87 [some (.ref 26), some (.int x1), some (.int x2), some (.int x3), some (.int x4), some (.int x5), some (.int y11), some (.int x7), none, none, none] dX5_odds_85 rfl (by rw [hN]; exact Nat.le_of_ble_eq_true rfl) rfl ?_
        refine af_iincB K 90 (fun yy => [some (.ref 26), some (.int x1), some (.int x2), some (.int x3), some (.int x4), some (.int x5), some (.int y11), some (.int yy), none, none, none]) dX5_odds_87 rfl (by rw [hN]; exact Nat.le_of_ble_eq_true rfl) rfl cs_iconst_1 (fun _ => rfl) (fun y12 => ?_)
        refine af_goto K 53 dX5_odds_90 rfl ?_
        refine af_lm [true, true, true, true, true, true, true, true, false, false, false] rfl ?_
        exact ih53 _ _ _ _ _ _ _ _ _ hk53
set_option maxRecDepth 100000 in
set_option maxHeartbeats 4000000 in
theorem W_X5_odds_116 {cx : aw_C} (hN : aw_nL cx = 11) (K : aw_K cx cX5_odds RX5 rX5_odds)  : ∀ (fu : Nat) (x3 : Int32) (x4 : Int32) (x6 : Int32) (x7 : Int32) (x8 : Int64) (x10 : Int32) (σ : fk_T) (k : Int32 → Int32 → Int32 → Int32 → Int64 → Int32 → fk_T → Option (Int64 × fk_T)), (∀ (x3 : Int32) (x4 : Int32) (x6 : Int32) (x7 : Int32) (x8 : Int64) (x10 : Int32) (σ : fk_T), af cx ρl 153 [none, none, none, some (.int x3), some (.int x4), none, some (.int x6), some (.int x7), some (.long x8), none, some (.int x10)] [] (hp σ) (k x3 x4 x6 x7 x8 x10 σ)) → af cx ρl 116 [none, none, none, some (.int x3), some (.int x4), none, some (.int x6), some (.int x7), some (.long x8), none, some (.int x10)] [] (hp σ) (L_X5_odds_116 fu x3 x4 x6 x7 x8 x10 σ k) := by
  intro fu
  induction fu with
  | zero => intros; exact af_none
  | succ fu ih116 =>
    intro x3 x4 x6 x7 x8 x10 σ k hk116
    rw [L_X5_odds_116]
    refine af_iload K 118 dX5_odds_116 rfl rfl ?_
    refine af_iload_n K 119 dX5_odds_118 rfl rfl ?_
    refine af_icmp_ge K 122 153 dX5_odds_119 rfl rfl (fun _ => ?_) (fun _ => ?_)
    · refine af_lm [false, false, false, true, true, false, true, true, true, false, true] rfl ?_
      exact hk116 _ _ _ _ _ _ _
    · refine af_lload K 124 dX5_odds_122 rfl rfl ?_
      refine af_iload K 126 dX5_odds_124 rfl rfl ?_
      refine af_if_ne K 129 138 dX5_odds_126 rfl rfl (fun _ => ?_) (fun _ => ?_)
      · refine af_bipush K 140 dX5_odds_138 rfl cs_bipush_20 ?_
        refine af_iload K 142 dX5_odds_140 rfl rfl ?_
        refine af_idivD K 143 dX5_odds_142 rfl ?_
        refine af_i2l K 144 dX5_odds_143 rfl ?_
        refine af_lmul K 145 dX5_odds_144 rfl ?_
        refine af_Bl (fun y23 => ?_)
        refine af_lstore K 147 [none, none, none, some (.int x3), some (.int x4), none, some (.int x6), some (.int x7), some (.long y23), none, some (.int x10)] dX5_odds_145 rfl (by rw [hN]; exact Nat.le_of_ble_eq_true rfl) rfl ?_
        refine af_iincB K 150 (fun yy => [none, none, none, some (.int x3), some (.int x4), none, some (.int x6), some (.int x7), some (.long y23), none, some (.int yy)]) dX5_odds_147 rfl (by rw [hN]; exact Nat.le_of_ble_eq_true rfl) rfl cs_iconst_1 (fun _ => rfl) (fun y24 => ?_)
        refine af_goto K 116 dX5_odds_150 rfl ?_
        refine af_lm [false, false, false, true, true, false, true, true, true, false, true] rfl ?_
        exact ih116 _ _ _ _ _ _ _ _ hk116
      · refine af_iload K 131 dX5_odds_129 rfl rfl ?_
        refine af_iload K 133 dX5_odds_131 rfl rfl ?_
        refine af_idivD K 134 dX5_odds_133 rfl ?_
        refine af_i2l K 135 dX5_odds_134 rfl ?_
        refine af_goto K 144 dX5_odds_135 rfl ?_
        refine af_lmul K 145 dX5_odds_144 rfl ?_
        refine af_Bl (fun y25 => ?_)
        refine af_lstore K 147 [none, none, none, some (.int x3), some (.int x4), none, some (.int x6), some (.int x7), some (.long y25), none, some (.int x10)] dX5_odds_145 rfl (by rw [hN]; exact Nat.le_of_ble_eq_true rfl) rfl ?_
        refine af_iincB K 150 (fun yy => [none, none, none, some (.int x3), some (.int x4), none, some (.int x6), some (.int x7), some (.long y25), none, some (.int yy)]) dX5_odds_147 rfl (by rw [hN]; exact Nat.le_of_ble_eq_true rfl) rfl cs_iconst_1 (fun _ => rfl) (fun y26 => ?_)
        refine af_goto K 116 dX5_odds_150 rfl ?_
        refine af_lm [false, false, false, true, true, false, true, true, true, false, true] rfl ?_
        exact ih116 _ _ _ _ _ _ _ _ hk116
set_option maxRecDepth 100000 in
set_option maxHeartbeats 4000000 in
theorem A_X5_odds (X : aw_X) (l : Launch) (x1 : Int32) (x2 : Int32) (x3 : Int32) (x4 : Int32) (σ : fk_T) : af_G X l mX5_odds [.ref 26, .int x1, .int x2, .int x3, .int x4] (hp σ) ρl (F_X5_odds x1 x2 x3 x4 σ) := by
  refine af_mk (by decide) rfl (fun q _ => aw_okl q) [some (.ref 26), some (.int x1), some (.int x2), some (.int x3), some (.int x4), none, none, none, none, none, none] rfl ?_
  rintro cx rfl rfl hN K
  replace hN : aw_nL cx = 11 := hN
  replace K : aw_K cx cX5_odds RX5 rX5_odds := K
  unfold F_X5_odds
  refine af_aload_n K 1 dX5_odds_0 rfl rfl ?_
  refine af_iload_n K 2 dX5_odds_1 rfl rfl ?_
  refine af_iload_n K 3 dX5_odds_2 rfl rfl ?_
  refine af_callV_z K (b := 26) (vs := [.int x1, .int x2]) mv_X5_areTwo lk_832 ((hp_at _ (Nat.le_of_ble_eq_true rfl)).trans rfl) rfl 6 dX5_odds_3 rfl rfl rfl rfl (A_X5_areTwo _ _ x1 x2 σ) rfl (fun q1 => ?_)
  refine af_if_eq K 9 32 dX5_odds_6 rfl rfl (fun _ => ?_) (fun _ => ?_)
  · refine af_aload_n K 33 dX5_odds_32 rfl rfl ?_
    refine af_iconst K 34 dX5_odds_33 rfl cs_iconst_0 ?_
    refine af_callV_i K (b := 26) (vs := [.int 0]) mv_X5_finds lk_760 ((hp_at _ (Nat.le_of_ble_eq_true rfl)).trans rfl) rfl 37 dX5_odds_34 rfl rfl rfl rfl (A_X5_finds _ _ 0 q1.2) rfl (fun q2 => ?_)
    refine af_i2l K 38 dX5_odds_37 rfl ?_
    exact af_retl K dX5_odds_38
  · refine af_iload_n K 10 dX5_odds_9 rfl rfl ?_
    refine af_i2l K 11 dX5_odds_10 rfl ?_
    refine af_lconst K 12 dX5_odds_11 rfl cs_lconst_0 ?_
    refine af_ldc2 K 15 dX5_odds_12 rfl lk_1004 ?_
    refine af_callS_z K (vs := [.long (x3.toInt64), .long 0, .long 14]) ms_X5_in lk_753 18 dX5_odds_15 rfl rfl rfl rfl (A_X5_in _ _ (x3.toInt64) 0 14 q1.2) rfl (fun q3 => ?_)
    refine af_if_eq K 21 32 dX5_odds_18 rfl rfl (fun _ => ?_) (fun _ => ?_)
    · refine af_aload_n K 33 dX5_odds_32 rfl rfl ?_
      refine af_iconst K 34 dX5_odds_33 rfl cs_iconst_0 ?_
      refine af_callV_i K (b := 26) (vs := [.int 0]) mv_X5_finds lk_760 ((hp_at _ (Nat.le_of_ble_eq_true rfl)).trans rfl) rfl 37 dX5_odds_34 rfl rfl rfl rfl (A_X5_finds _ _ 0 q3.2) rfl (fun q4 => ?_)
      refine af_i2l K 38 dX5_odds_37 rfl ?_
      exact af_retl K dX5_odds_38
    · refine af_iload K 23 dX5_odds_21 rfl rfl ?_
      refine af_i2l K 24 dX5_odds_23 rfl ?_
      refine af_lconst K 25 dX5_odds_24 rfl cs_lconst_0 ?_
      refine af_lconst K 26 dX5_odds_25 rfl cs_lconst_1 ?_
      refine af_callS_z K (vs := [.long (x4.toInt64), .long 0, .long 1]) ms_X5_in lk_753 29 dX5_odds_26 rfl rfl rfl rfl (A_X5_in _ _ (x4.toInt64) 0 1 q3.2) rfl (fun q5 => ?_)
      refine af_if_ne K 32 39 dX5_odds_29 rfl rfl (fun _ => ?_) (fun _ => ?_)
      · refine af_aload_n K 40 dX5_odds_39 rfl rfl ?_
        refine af_get K 43 dX5_odds_40 rfl fl_X5_7 (Nat.le_of_ble_eq_true rfl) rfl rfl ?_
        refine af_iconst K 44 dX5_odds_43 rfl cs_iconst_3 ?_
        refine af_iald K 45 dX5_odds_44 rfl (Nat.le_of_ble_eq_true rfl) rfl (fun y6 => ?_)
        refine af_istore K 47 [some (.ref 26), some (.int x1), some (.int x2), some (.int x3), some (.int x4), some (.int y6), none, none, none, none, none] dX5_odds_45 rfl (by rw [hN]; exact Nat.le_of_ble_eq_true rfl) rfl ?_
        refine af_iconst K 48 dX5_odds_47 rfl cs_iconst_0 ?_
        refine af_istore K 50 [some (.ref 26), some (.int x1), some (.int x2), some (.int x3), some (.int x4), some (.int y6), some (.int 0), none, none, none, none] dX5_odds_48 rfl (by rw [hN]; exact Nat.le_of_ble_eq_true rfl) rfl ?_
        refine af_iconst K 51 dX5_odds_50 rfl cs_iconst_1 ?_
        refine af_istore K 53 [some (.ref 26), some (.int x1), some (.int x2), some (.int x3), some (.int x4), some (.int y6), some (.int 0), some (.int 1), none, none, none] dX5_odds_51 rfl (by rw [hN]; exact Nat.le_of_ble_eq_true rfl) rfl ?_
        refine af_lm [true, true, true, true, true, true, true, true, false, false, false] rfl ?_
        refine W_X5_odds_53 hN K  fk_N _ _ _ _ _ _ _ _ _ (fun y14 y15 y16 y17 y18 y19 y20 s13 => ?_)
        refine af_aload_n K 94 dX5_odds_93 rfl rfl ?_
        refine af_get K 97 dX5_odds_94 rfl fl_X5_7 (Nat.le_of_ble_eq_true rfl) rfl rfl ?_
        refine af_iconst K 98 dX5_odds_97 rfl cs_iconst_3 ?_
        refine af_iload K 100 dX5_odds_98 rfl rfl ?_
        refine af_iast K 101 dX5_odds_100 rfl (Nat.le_of_ble_eq_true rfl) (fun _ _ => rfl) (fun s21 => ?_)
        refine af_iload K 103 dX5_odds_101 rfl rfl ?_
        refine af_bipush K 105 dX5_odds_103 rfl cs_bipush_20 ?_
        refine af_callS_i K (vs := [.int y19, .int 20]) ms_X5_common lk_1005 108 dX5_odds_105 rfl rfl rfl rfl (A_X5_common _ _ y19 20 s21) rfl (fun q22 => ?_)
        refine af_istore K 110 [some (.ref 26), some (.int y14), some (.int y15), some (.int y16), some (.int y17), some (.int y18), some (.int y19), some (.int q22.1), none, none, none] dX5_odds_108 rfl (by rw [hN]; exact Nat.le_of_ble_eq_true rfl) rfl ?_
        refine af_lconst K 111 dX5_odds_110 rfl cs_lconst_1 ?_
        refine af_lstore K 113 [some (.ref 26), some (.int y14), some (.int y15), some (.int y16), some (.int y17), some (.int y18), some (.int y19), some (.int q22.1), some (.long 1), none, none] dX5_odds_111 rfl (by rw [hN]; exact Nat.le_of_ble_eq_true rfl) rfl ?_
        refine af_iconst K 114 dX5_odds_113 rfl cs_iconst_0 ?_
        refine af_istore K 116 [some (.ref 26), some (.int y14), some (.int y15), some (.int y16), some (.int y17), some (.int y18), some (.int y19), some (.int q22.1), some (.long 1), none, some (.int 0)] dX5_odds_114 rfl (by rw [hN]; exact Nat.le_of_ble_eq_true rfl) rfl ?_
        refine af_lm [false, false, false, true, true, false, true, true, true, false, true] rfl ?_
        refine W_X5_odds_116 hN K  fk_N _ _ _ _ _ _ _ _ (fun y28 y29 y30 y31 y32 y33 s27 => ?_)
        refine af_lload K 155 dX5_odds_153 rfl rfl ?_
        exact af_retl K dX5_odds_155
      · refine af_aload_n K 33 dX5_odds_32 rfl rfl ?_
        refine af_iconst K 34 dX5_odds_33 rfl cs_iconst_0 ?_
        refine af_callV_i K (b := 26) (vs := [.int 0]) mv_X5_finds lk_760 ((hp_at _ (Nat.le_of_ble_eq_true rfl)).trans rfl) rfl 37 dX5_odds_34 rfl rfl rfl rfl (A_X5_finds _ _ 0 q5.2) rfl (fun q34 => ?_)
        refine af_i2l K 38 dX5_odds_37 rfl ?_
        exact af_retl K dX5_odds_38
def F_X5_seed (x1 : Int32) (σ : fk_T) : Option (Int32 × fk_T) := (F_X5_becomes 2 x1 σ).bind (fun q1 => some (q1.1, q1.2))
set_option maxRecDepth 100000 in
set_option maxHeartbeats 4000000 in
theorem A_X5_seed (X : aw_X) (l : Launch) (x1 : Int32) (σ : fk_T) : af_G X l mX5_seed [.ref 26, .int x1] (hp σ) ρi (F_X5_seed x1 σ) := by
  refine af_mk (by decide) rfl (fun q _ => aw_oki q) [some (.ref 26), some (.int x1)] rfl ?_
  rintro cx rfl rfl hN K
  replace hN : aw_nL cx = 2 := hN
  replace K : aw_K cx cX5_seed RX5 rX5_seed := K
  unfold F_X5_seed
  refine af_aload_n K 1 dX5_seed_0 rfl rfl ?_
  refine af_iconst K 2 dX5_seed_1 rfl cs_iconst_2 ?_
  refine af_iload_n K 3 dX5_seed_2 rfl rfl ?_
  refine af_callV_i K (b := 26) (vs := [.int 2, .int x1]) mv_X5_becomes lk_756 ((hp_at _ (Nat.le_of_ble_eq_true rfl)).trans rfl) rfl 6 dX5_seed_3 rfl rfl rfl rfl (A_X5_becomes _ _ 2 x1 σ) rfl (fun q1 => ?_)
  exact af_reti K dX5_seed_6
def L_X5_feed_39  : Nat → Int32 → Int32 → fk_T → (Int32 → Int32 → fk_T → Option (Int32 × fk_T)) → Option (Int32 × fk_T)
  | 0, _, _, _, _ => none
  | fu + 1, x1, x3, σ, k => if x3 < 0 then (k x1 x3 σ) else (fk_S σ 32 120 (σ.1 26 7) (((x1 >>> ((8 * x3) &&& 31)).toInt8.toInt32).toInt8.toInt32) (fun s3 => fk_B (fk_w s3 26 (upd (s3.1 26) 7 ((s3.1 26 7) + 1))) (fun s4 => fk_B (x3 + (-1)) (fun y5 => L_X5_feed_39 fu x1 y5 s4 k))))
def F_X5_feed (x1 : Int32) (x2 : Int32) (σ : fk_T) : Option (Int32 × fk_T) := (F_X5_in (x2.toInt64) 1 4 σ).bind (fun q1 => if (fk_b q1.1) = 0 then ((F_X5_finds 0 q1.2).bind (fun q10 => some (q10.1, q10.2))) else (if ((q1.2.1 26 7) + x2) ≤ 120 then (fk_B (x2 - 1) (fun y2 => L_X5_feed_39 fk_N x1 y2 q1.2 (fun y7 y8 s6 => some ((s6.1 26 7), s6)))) else ((F_X5_finds 1 q1.2).bind (fun q9 => some (q9.1, q9.2)))))
set_option maxRecDepth 100000 in
set_option maxHeartbeats 4000000 in
theorem W_X5_feed_39 {cx : aw_C} (hN : aw_nL cx = 4) (K : aw_K cx cX5_feed RX5 rX5_feed)  : ∀ (fu : Nat) (x1 : Int32) (x3 : Int32) (σ : fk_T) (k : Int32 → Int32 → fk_T → Option (Int32 × fk_T)), (∀ (x1 : Int32) (x3 : Int32) (σ : fk_T), af cx ρi 75 [some (.ref 26), some (.int x1), none, some (.int x3)] [] (hp σ) (k x1 x3 σ)) → af cx ρi 39 [some (.ref 26), some (.int x1), none, some (.int x3)] [] (hp σ) (L_X5_feed_39 fu x1 x3 σ k) := by
  intro fu
  induction fu with
  | zero => intros; exact af_none
  | succ fu ih39 =>
    intro x1 x3 σ k hk39
    rw [L_X5_feed_39]
    refine af_iload_n K 40 dX5_feed_39 rfl rfl ?_
    refine af_if_lt K 43 75 dX5_feed_40 rfl rfl (fun _ => ?_) (fun _ => ?_)
    · refine af_lm [true, true, false, true] rfl ?_
      exact hk39 _ _ _
    · refine af_aload_n K 44 dX5_feed_43 rfl rfl ?_
      refine af_get K 47 dX5_feed_44 rfl fl_X5_25 (Nat.le_of_ble_eq_true rfl) rfl rfl ?_
      refine af_aload_n K 48 dX5_feed_47 rfl rfl ?_
      refine af_get K 51 dX5_feed_48 rfl fl_X5_197 (Nat.le_of_ble_eq_true rfl) rfl rfl ?_
      refine af_iload_n K 52 dX5_feed_51 rfl rfl ?_
      refine af_bipush K 54 dX5_feed_52 rfl cs_bipush_8 ?_
      refine af_iload_n K 55 dX5_feed_54 rfl rfl ?_
      refine af_imul K 56 dX5_feed_55 rfl ?_
      refine af_ishr K 57 dX5_feed_56 rfl ?_
      refine af_i2b K 58 dX5_feed_57 rfl ?_
      refine af_bast K 59 dX5_feed_58 rfl (Nat.le_of_ble_eq_true rfl) (fun _ _ => rfl) (fun s3 => ?_)
      refine af_aload_n K 60 dX5_feed_59 rfl rfl ?_
      refine af_dup K 61 dX5_feed_60 rfl rfl ?_
      refine af_get K 64 dX5_feed_61 rfl fl_X5_197 (Nat.le_of_ble_eq_true rfl) rfl rfl ?_
      refine af_iconst K 65 dX5_feed_64 rfl cs_iconst_1 ?_
      refine af_iadd K 66 dX5_feed_65 rfl ?_
      refine af_put K 69 dX5_feed_66 rfl fp_X5_197 (Nat.le_of_ble_eq_true rfl) rfl (Nat.le_of_ble_eq_true rfl) rfl (fun s4 => ?_)
      refine af_iincB K 72 (fun yy => [some (.ref 26), some (.int x1), none, some (.int yy)]) dX5_feed_69 rfl (by rw [hN]; exact Nat.le_of_ble_eq_true rfl) rfl cs_iconst_m1 (fun _ => rfl) (fun y5 => ?_)
      refine af_goto K 39 dX5_feed_72 rfl ?_
      refine af_lm [true, true, false, true] rfl ?_
      exact ih39 _ _ _ _ hk39
set_option maxRecDepth 100000 in
set_option maxHeartbeats 4000000 in
theorem A_X5_feed (X : aw_X) (l : Launch) (x1 : Int32) (x2 : Int32) (σ : fk_T) : af_G X l mX5_feed [.ref 26, .int x1, .int x2] (hp σ) ρi (F_X5_feed x1 x2 σ) := by
  refine af_mk (by decide) rfl (fun q _ => aw_oki q) [some (.ref 26), some (.int x1), some (.int x2), none] rfl ?_
  rintro cx rfl rfl hN K
  replace hN : aw_nL cx = 4 := hN
  replace K : aw_K cx cX5_feed RX5 rX5_feed := K
  unfold F_X5_feed
  refine af_iload_n K 1 dX5_feed_0 rfl rfl ?_
  refine af_i2l K 2 dX5_feed_1 rfl ?_
  refine af_lconst K 3 dX5_feed_2 rfl cs_lconst_1 ?_
  refine af_ldc2 K 6 dX5_feed_3 rfl lk_1016 ?_
  refine af_callS_z K (vs := [.long (x2.toInt64), .long 1, .long 4]) ms_X5_in lk_753 9 dX5_feed_6 rfl rfl rfl rfl (A_X5_in _ _ (x2.toInt64) 1 4 σ) rfl (fun q1 => ?_)
  refine af_if_ne K 12 18 dX5_feed_9 rfl rfl (fun _ => ?_) (fun _ => ?_)
  · refine af_aload_n K 19 dX5_feed_18 rfl rfl ?_
    refine af_get K 22 dX5_feed_19 rfl fl_X5_197 (Nat.le_of_ble_eq_true rfl) rfl rfl ?_
    refine af_iload_n K 23 dX5_feed_22 rfl rfl ?_
    refine af_iadd K 24 dX5_feed_23 rfl ?_
    refine af_bipush K 26 dX5_feed_24 rfl cs_bipush_120 ?_
    refine af_icmp_le K 29 35 dX5_feed_26 rfl rfl (fun _ => ?_) (fun _ => ?_)
    · refine af_iload_n K 36 dX5_feed_35 rfl rfl ?_
      refine af_iconst K 37 dX5_feed_36 rfl cs_iconst_1 ?_
      refine af_isub K 38 dX5_feed_37 rfl ?_
      refine af_Bi (fun y2 => ?_)
      refine af_istore_n K 39 [some (.ref 26), some (.int x1), some (.int x2), some (.int y2)] dX5_feed_38 rfl (by rw [hN]; exact Nat.le_of_ble_eq_true rfl) rfl ?_
      refine af_lm [true, true, false, true] rfl ?_
      refine W_X5_feed_39 hN K  fk_N _ _ _ _ (fun y7 y8 s6 => ?_)
      refine af_aload_n K 76 dX5_feed_75 rfl rfl ?_
      refine af_get K 79 dX5_feed_76 rfl fl_X5_197 (Nat.le_of_ble_eq_true rfl) rfl rfl ?_
      exact af_reti K dX5_feed_79
    · refine af_aload_n K 30 dX5_feed_29 rfl rfl ?_
      refine af_iconst K 31 dX5_feed_30 rfl cs_iconst_1 ?_
      refine af_callV_i K (b := 26) (vs := [.int 1]) mv_X5_finds lk_760 ((hp_at _ (Nat.le_of_ble_eq_true rfl)).trans rfl) rfl 34 dX5_feed_31 rfl rfl rfl rfl (A_X5_finds _ _ 1 q1.2) rfl (fun q9 => ?_)
      exact af_reti K dX5_feed_34
  · refine af_aload_n K 13 dX5_feed_12 rfl rfl ?_
    refine af_iconst K 14 dX5_feed_13 rfl cs_iconst_0 ?_
    refine af_callV_i K (b := 26) (vs := [.int 0]) mv_X5_finds lk_760 ((hp_at _ (Nat.le_of_ble_eq_true rfl)).trans rfl) rfl 17 dX5_feed_14 rfl rfl rfl rfl (A_X5_finds _ _ 0 q1.2) rfl (fun q10 => ?_)
    exact af_reti K dX5_feed_17
def F_X5_wipe  (σ : fk_T) : Option (Int32 × fk_T) := fk_B (σ.1 26 7) (fun y1 => fk_B (fk_w σ 26 (upd (σ.1 26) 7 0)) (fun s2 => some (y1, s2)))
set_option maxRecDepth 100000 in
set_option maxHeartbeats 4000000 in
theorem A_X5_wipe (X : aw_X) (l : Launch)  (σ : fk_T) : af_G X l mX5_wipe [.ref 26] (hp σ) ρi (F_X5_wipe  σ) := by
  refine af_mk (by decide) rfl (fun q _ => aw_oki q) [some (.ref 26), none] rfl ?_
  rintro cx rfl rfl hN K
  replace hN : aw_nL cx = 2 := hN
  replace K : aw_K cx cX5_wipe RX5 rX5_wipe := K
  unfold F_X5_wipe
  refine af_aload_n K 1 dX5_wipe_0 rfl rfl ?_
  refine af_get K 4 dX5_wipe_1 rfl fl_X5_197 (Nat.le_of_ble_eq_true rfl) rfl rfl ?_
  refine af_Bi (fun y1 => ?_)
  refine af_istore_n K 5 [some (.ref 26), some (.int y1)] dX5_wipe_4 rfl (by rw [hN]; exact Nat.le_of_ble_eq_true rfl) rfl ?_
  refine af_aload_n K 6 dX5_wipe_5 rfl rfl ?_
  refine af_iconst K 7 dX5_wipe_6 rfl cs_iconst_0 ?_
  refine af_put K 10 dX5_wipe_7 rfl fp_X5_197 (Nat.le_of_ble_eq_true rfl) rfl (Nat.le_of_ble_eq_true rfl) rfl (fun s2 => ?_)
  refine af_iload_n K 11 dX5_wipe_10 rfl rfl ?_
  exact af_reti K dX5_wipe_11
def F_X5_letter (x0 : Int32) (σ : fk_T) : Option (Int32 × fk_T) := if x0 < 97 then (some (0, σ)) else (if 122 < x0 then (some (0, σ)) else (some (((x0 - 97) + 1), σ)))
set_option maxRecDepth 100000 in
set_option maxHeartbeats 4000000 in
theorem A_X5_letter (X : aw_X) (l : Launch) (x0 : Int32) (σ : fk_T) : af_G X l mX5_letter [.int x0] (hp σ) ρi (F_X5_letter x0 σ) := by
  refine af_mk (by decide) rfl (fun q _ => aw_oki q) [some (.int x0)] rfl ?_
  rintro cx rfl rfl hN K
  replace hN : aw_nL cx = 1 := hN
  replace K : aw_K cx cX5_letter RX5 rX5_letter := K
  unfold F_X5_letter
  refine af_iload_n K 1 dX5_letter_0 rfl rfl ?_
  refine af_bipush K 3 dX5_letter_1 rfl cs_bipush_97 ?_
  refine af_icmp_lt K 6 21 dX5_letter_3 rfl rfl (fun _ => ?_) (fun _ => ?_)
  · refine af_iconst K 22 dX5_letter_21 rfl cs_iconst_0 ?_
    exact af_reti K dX5_letter_22
  · refine af_iload_n K 7 dX5_letter_6 rfl rfl ?_
    refine af_bipush K 9 dX5_letter_7 rfl cs_bipush_122 ?_
    refine af_icmp_gt K 12 21 dX5_letter_9 rfl rfl (fun _ => ?_) (fun _ => ?_)
    · refine af_iconst K 22 dX5_letter_21 rfl cs_iconst_0 ?_
      exact af_reti K dX5_letter_22
    · refine af_iload_n K 13 dX5_letter_12 rfl rfl ?_
      refine af_bipush K 15 dX5_letter_13 rfl cs_bipush_97 ?_
      refine af_isub K 16 dX5_letter_15 rfl ?_
      refine af_iconst K 17 dX5_letter_16 rfl cs_iconst_1 ?_
      refine af_iadd K 18 dX5_letter_17 rfl ?_
      refine af_goto K 22 dX5_letter_18 rfl ?_
      exact af_reti K dX5_letter_22
def F_X5_isDigit (x0 : Int32) (σ : fk_T) : Option (Bool × fk_T) := if x0 < 48 then (some (false, σ)) else (if 57 < x0 then (some (false, σ)) else (some (true, σ)))
set_option maxRecDepth 100000 in
set_option maxHeartbeats 4000000 in
theorem A_X5_isDigit (X : aw_X) (l : Launch) (x0 : Int32) (σ : fk_T) : af_G X l mX5_isDigit [.int x0] (hp σ) ρz (F_X5_isDigit x0 σ) := by
  refine af_mk (by decide) rfl (fun q _ => aw_okz q) [some (.int x0)] rfl ?_
  rintro cx rfl rfl hN K
  replace hN : aw_nL cx = 1 := hN
  replace K : aw_K cx cX5_isDigit RX5 rX5_isDigit := K
  unfold F_X5_isDigit
  refine af_iload_n K 1 dX5_isDigit_0 rfl rfl ?_
  refine af_bipush K 3 dX5_isDigit_1 rfl cs_bipush_48 ?_
  refine af_icmp_lt K 6 16 dX5_isDigit_3 rfl rfl (fun _ => ?_) (fun _ => ?_)
  · refine af_iconst K 17 dX5_isDigit_16 rfl cs_iconst_0 ?_
    exact af_retz K rfl dX5_isDigit_17
  · refine af_iload_n K 7 dX5_isDigit_6 rfl rfl ?_
    refine af_bipush K 9 dX5_isDigit_7 rfl cs_bipush_57 ?_
    refine af_icmp_gt K 12 16 dX5_isDigit_9 rfl rfl (fun _ => ?_) (fun _ => ?_)
    · refine af_iconst K 17 dX5_isDigit_16 rfl cs_iconst_0 ?_
      exact af_retz K rfl dX5_isDigit_17
    · refine af_iconst K 13 dX5_isDigit_12 rfl cs_iconst_1 ?_
      refine af_goto K 17 dX5_isDigit_13 rfl ?_
      exact af_retz K rfl dX5_isDigit_17
def F_X5_byteAt (x1 : Int32) (σ : fk_T) : Option (Int32 × fk_T) := if (σ.1 26 7) ≤ x1 then (some ((-1), σ)) else (fk_A (σ.1 32) 120 x1 (fun y1 => some (y1, σ)))
set_option maxRecDepth 100000 in
set_option maxHeartbeats 4000000 in
theorem A_X5_byteAt (X : aw_X) (l : Launch) (x1 : Int32) (σ : fk_T) : af_G X l mX5_byteAt [.ref 26, .int x1] (hp σ) ρi (F_X5_byteAt x1 σ) := by
  refine af_mk (by decide) rfl (fun q _ => aw_oki q) [some (.ref 26), some (.int x1)] rfl ?_
  rintro cx rfl rfl hN K
  replace hN : aw_nL cx = 2 := hN
  replace K : aw_K cx cX5_byteAt RX5 rX5_byteAt := K
  unfold F_X5_byteAt
  refine af_iload_n K 1 dX5_byteAt_0 rfl rfl ?_
  refine af_aload_n K 2 dX5_byteAt_1 rfl rfl ?_
  refine af_get K 5 dX5_byteAt_2 rfl fl_X5_197 (Nat.le_of_ble_eq_true rfl) rfl rfl ?_
  refine af_icmp_ge K 8 17 dX5_byteAt_5 rfl rfl (fun _ => ?_) (fun _ => ?_)
  · refine af_iconst K 18 dX5_byteAt_17 rfl cs_iconst_m1 ?_
    exact af_reti K dX5_byteAt_18
  · refine af_aload_n K 9 dX5_byteAt_8 rfl rfl ?_
    refine af_get K 12 dX5_byteAt_9 rfl fl_X5_25 (Nat.le_of_ble_eq_true rfl) rfl rfl ?_
    refine af_iload_n K 13 dX5_byteAt_12 rfl rfl ?_
    refine af_bald K 14 dX5_byteAt_13 rfl (Nat.le_of_ble_eq_true rfl) rfl (fun y1 => ?_)
    refine af_goto K 18 dX5_byteAt_14 rfl ?_
    exact af_reti K dX5_byteAt_18
def L_X5_next__0  : Nat → fk_T → (fk_T → Option (fk_T)) → Option (fk_T)
  | 0, _, _ => none
  | fu + 1, σ, k => (F_X5_byteAt (σ.1 26 8) σ).bind (fun q1 => if q1.1 = 32 then (fk_B (fk_w q1.2 26 (upd (q1.2.1 26) 8 ((q1.2.1 26 8) + 1))) (fun s2 => L_X5_next__0 fu s2 k)) else (k q1.2))
def L_X5_next__185  : Nat → fk_T → (fk_T → Option (fk_T)) → Option (fk_T)
  | 0, _, _ => none
  | fu + 1, σ, k => (F_X5_byteAt (σ.1 26 8) σ).bind (fun q11 => (F_X5_isDigit q11.1 q11.2).bind (fun q12 => if (fk_b q12.1) = 0 then (k q12.2) else (if (lg_cmp q12.2.2 999) ≤ 0 then ((F_X5_byteAt (q12.2.1 26 8) q12.2).bind (fun q13 => fk_B ((q13.2.1, (((q12.2.2 * 10) + (q13.1.toInt64)) - 48)) : fk_T) (fun s14 => fk_B (fk_w s14 26 (upd (s14.1 26) 8 ((s14.1 26 8) + 1))) (fun s15 => L_X5_next__185 fu s15 k)))) else (fk_B ((q12.2.1, q12.2.2) : fk_T) (fun s16 => fk_B (fk_w s16 26 (upd (s16.1 26) 8 ((s16.1 26 8) + 1))) (fun s17 => L_X5_next__185 fu s17 k))))))
def L_X5_next__103  : Nat → fk_T → (fk_T → Option (fk_T)) → Option (fk_T)
  | 0, _, _ => none
  | fu + 1, σ, k => (F_X5_byteAt (σ.1 26 8) σ).bind (fun q20 => (F_X5_letter q20.1 q20.2).bind (fun q21 => if q21.1 ≤ 0 then (k q21.2) else (if (lg_cmp q21.2.2 100000000000000000) ≤ 0 then ((F_X5_byteAt (q21.2.1 26 8) q21.2).bind (fun q22 => (F_X5_letter q22.1 q22.2).bind (fun q23 => fk_B ((q23.2.1, ((q21.2.2 * 27) + (q23.1.toInt64))) : fk_T) (fun s24 => fk_B (fk_w s24 26 (upd (s24.1 26) 8 ((s24.1 26 8) + 1))) (fun s25 => L_X5_next__103 fu s25 k))))) else (fk_B ((q21.2.1, q21.2.2) : fk_T) (fun s26 => fk_B (fk_w s26 26 (upd (s26.1 26) 8 ((s26.1 26 8) + 1))) (fun s27 => L_X5_next__103 fu s27 k))))))
def F_X5_next_  (σ : fk_T) : Option (fk_T) := L_X5_next__0 fk_N  σ (fun  s3 => fk_B (fk_w s3 26 (upd (s3.1 26) 10 (s3.1 26 8))) (fun s4 => fk_B ((s4.1, 0) : fk_T) (fun s5 => (F_X5_byteAt (s5.1 26 8) s5).bind (fun q6 => if (q6.2.1 26 8) = (q6.2.1 26 7) then (fk_B (fk_w q6.2 26 (upd (q6.2.1 26) 9 0)) (fun s31 => some s31)) else (if q6.1 = 59 then (fk_B (fk_w q6.2 26 (upd (q6.2.1 26) 9 3)) (fun s29 => fk_B (fk_w s29 26 (upd (s29.1 26) 8 ((s29.1 26 8) + 1))) (fun s30 => some s30))) else ((F_X5_letter q6.1 q6.2).bind (fun q7 => if q7.1 ≤ 0 then ((F_X5_isDigit q6.1 q7.2).bind (fun q8 => if (fk_b q8.1) = 0 then (fk_B (fk_w q8.2 26 (upd (q8.2.1 26) 9 4)) (fun s9 => some s9)) else (fk_B (fk_w q8.2 26 (upd (q8.2.1 26) 9 2)) (fun s10 => L_X5_next__185 fk_N  s10 (fun  s18 => some s18))))) else (fk_B (fk_w q7.2 26 (upd (q7.2.1 26) 9 1)) (fun s19 => L_X5_next__103 fk_N  s19 (fun  s28 => some s28))))))))))
set_option maxRecDepth 100000 in
set_option maxHeartbeats 4000000 in
theorem W_X5_next__0 {cx : aw_C} (hN : aw_nL cx = 2) (K : aw_K cx cX5_next_ RX5 rX5_next_)  : ∀ (fu : Nat)  (σ : fk_T) (k : fk_T → Option (fk_T)), (∀  (σ : fk_T), af cx ρv 26 [some (.ref 26), none] [] (hp σ) (k  σ)) → af cx ρv 0 [some (.ref 26), none] [] (hp σ) (L_X5_next__0 fu  σ k) := by
  intro fu
  induction fu with
  | zero => intros; exact af_none
  | succ fu ih0 =>
    intro  σ k hk0
    rw [L_X5_next__0]
    refine af_aload_n K 1 dX5_next__0 rfl rfl ?_
    refine af_aload_n K 2 dX5_next__1 rfl rfl ?_
    refine af_get K 5 dX5_next__2 rfl fl_X5_201 (Nat.le_of_ble_eq_true rfl) rfl rfl ?_
    refine af_callV_i K (b := 26) (vs := [.int (σ.1 26 8)]) mv_X5_byteAt lk_1033 ((hp_at _ (Nat.le_of_ble_eq_true rfl)).trans rfl) rfl 8 dX5_next__5 rfl rfl rfl rfl (A_X5_byteAt _ _ (σ.1 26 8) σ) rfl (fun q1 => ?_)
    refine af_bipush K 10 dX5_next__8 rfl cs_bipush_32 ?_
    refine af_icmp_ne K 13 26 dX5_next__10 rfl rfl (fun _ => ?_) (fun _ => ?_)
    · refine af_lm [true, false] rfl ?_
      exact hk0  _
    · refine af_aload_n K 14 dX5_next__13 rfl rfl ?_
      refine af_dup K 15 dX5_next__14 rfl rfl ?_
      refine af_get K 18 dX5_next__15 rfl fl_X5_201 (Nat.le_of_ble_eq_true rfl) rfl rfl ?_
      refine af_iconst K 19 dX5_next__18 rfl cs_iconst_1 ?_
      refine af_iadd K 20 dX5_next__19 rfl ?_
      refine af_put K 23 dX5_next__20 rfl fp_X5_201 (Nat.le_of_ble_eq_true rfl) rfl (Nat.le_of_ble_eq_true rfl) rfl (fun s2 => ?_)
      refine af_goto K 0 dX5_next__23 rfl ?_
      refine af_lm [true, false] rfl ?_
      exact ih0  _ _ hk0
set_option maxRecDepth 100000 in
set_option maxHeartbeats 4000000 in
theorem W_X5_next__185 {cx : aw_C} (hN : aw_nL cx = 2) (K : aw_K cx cX5_next_ RX5 rX5_next_)  : ∀ (fu : Nat)  (σ : fk_T) (k : fk_T → Option (fk_T)), (∀  (σ : fk_T), af cx ρv 261 [some (.ref 26), none] [] (hp σ) (k  σ)) → af cx ρv 185 [some (.ref 26), none] [] (hp σ) (L_X5_next__185 fu  σ k) := by
  intro fu
  induction fu with
  | zero => intros; exact af_none
  | succ fu ih185 =>
    intro  σ k hk185
    rw [L_X5_next__185]
    refine af_aload_n K 186 dX5_next__185 rfl rfl ?_
    refine af_aload_n K 187 dX5_next__186 rfl rfl ?_
    refine af_get K 190 dX5_next__187 rfl fl_X5_201 (Nat.le_of_ble_eq_true rfl) rfl rfl ?_
    refine af_callV_i K (b := 26) (vs := [.int (σ.1 26 8)]) mv_X5_byteAt lk_1033 ((hp_at _ (Nat.le_of_ble_eq_true rfl)).trans rfl) rfl 193 dX5_next__190 rfl rfl rfl rfl (A_X5_byteAt _ _ (σ.1 26 8) σ) rfl (fun q11 => ?_)
    refine af_callS_z K (vs := [.int q11.1]) ms_X5_isDigit lk_1042 196 dX5_next__193 rfl rfl rfl rfl (A_X5_isDigit _ _ q11.1 q11.2) rfl (fun q12 => ?_)
    refine af_if_eq K 199 261 dX5_next__196 rfl rfl (fun _ => ?_) (fun _ => ?_)
    · refine af_lm [true, false] rfl ?_
      exact hk185  _
    · refine af_aload_n K 200 dX5_next__199 rfl rfl ?_
      refine af_aload_n K 201 dX5_next__200 rfl rfl ?_
      refine af_get K 204 dX5_next__201 rfl fl_X5_210 (Nat.le_of_ble_eq_true rfl) rfl rfl ?_
      refine af_ldc2 K 207 dX5_next__204 rfl lk_1045 ?_
      refine af_lcmp K 208 dX5_next__207 rfl ?_
      refine af_if_le K 211 218 dX5_next__208 rfl rfl (fun _ => ?_) (fun _ => ?_)
      · refine af_aload_n K 219 dX5_next__218 rfl rfl ?_
        refine af_get K 222 dX5_next__219 rfl fl_X5_210 (Nat.le_of_ble_eq_true rfl) rfl rfl ?_
        refine af_ldc2 K 225 dX5_next__222 rfl lk_1046 ?_
        refine af_lmul K 226 dX5_next__225 rfl ?_
        refine af_aload_n K 227 dX5_next__226 rfl rfl ?_
        refine af_aload_n K 228 dX5_next__227 rfl rfl ?_
        refine af_get K 231 dX5_next__228 rfl fl_X5_201 (Nat.le_of_ble_eq_true rfl) rfl rfl ?_
        refine af_callV_i K (b := 26) (vs := [.int (q12.2.1 26 8)]) mv_X5_byteAt lk_1033 ((hp_at _ (Nat.le_of_ble_eq_true rfl)).trans rfl) rfl 234 dX5_next__231 rfl rfl rfl rfl (A_X5_byteAt _ _ (q12.2.1 26 8) q12.2) rfl (fun q13 => ?_)
        refine af_i2l K 235 dX5_next__234 rfl ?_
        refine af_ladd K 236 dX5_next__235 rfl ?_
        refine af_ldc2 K 239 dX5_next__236 rfl lk_1047 ?_
        refine af_lsub K 240 dX5_next__239 rfl ?_
        refine af_putL K 243 dX5_next__240 rfl fp_X5_210 (fun s14 => ?_)
        refine af_aload_n K 244 dX5_next__243 rfl rfl ?_
        refine af_dup K 245 dX5_next__244 rfl rfl ?_
        refine af_get K 248 dX5_next__245 rfl fl_X5_201 (Nat.le_of_ble_eq_true rfl) rfl rfl ?_
        refine af_iconst K 249 dX5_next__248 rfl cs_iconst_1 ?_
        refine af_iadd K 250 dX5_next__249 rfl ?_
        refine af_put K 253 dX5_next__250 rfl fp_X5_201 (Nat.le_of_ble_eq_true rfl) rfl (Nat.le_of_ble_eq_true rfl) rfl (fun s15 => ?_)
        refine af_goto K 185 dX5_next__253 rfl ?_
        refine af_lm [true, false] rfl ?_
        exact ih185  _ _ hk185
      · refine af_aload_n K 212 dX5_next__211 rfl rfl ?_
        refine af_get K 215 dX5_next__212 rfl fl_X5_210 (Nat.le_of_ble_eq_true rfl) rfl rfl ?_
        refine af_goto K 240 dX5_next__215 rfl ?_
        refine af_putL K 243 dX5_next__240 rfl fp_X5_210 (fun s16 => ?_)
        refine af_aload_n K 244 dX5_next__243 rfl rfl ?_
        refine af_dup K 245 dX5_next__244 rfl rfl ?_
        refine af_get K 248 dX5_next__245 rfl fl_X5_201 (Nat.le_of_ble_eq_true rfl) rfl rfl ?_
        refine af_iconst K 249 dX5_next__248 rfl cs_iconst_1 ?_
        refine af_iadd K 250 dX5_next__249 rfl ?_
        refine af_put K 253 dX5_next__250 rfl fp_X5_201 (Nat.le_of_ble_eq_true rfl) rfl (Nat.le_of_ble_eq_true rfl) rfl (fun s17 => ?_)
        refine af_goto K 185 dX5_next__253 rfl ?_
        refine af_lm [true, false] rfl ?_
        exact ih185  _ _ hk185
set_option maxRecDepth 100000 in
set_option maxHeartbeats 4000000 in
theorem W_X5_next__103 {cx : aw_C} (hN : aw_nL cx = 2) (K : aw_K cx cX5_next_ RX5 rX5_next_)  : ∀ (fu : Nat)  (σ : fk_T) (k : fk_T → Option (fk_T)), (∀  (σ : fk_T), af cx ρv 261 [some (.ref 26), none] [] (hp σ) (k  σ)) → af cx ρv 103 [some (.ref 26), none] [] (hp σ) (L_X5_next__103 fu  σ k) := by
  intro fu
  induction fu with
  | zero => intros; exact af_none
  | succ fu ih103 =>
    intro  σ k hk103
    rw [L_X5_next__103]
    refine af_aload_n K 104 dX5_next__103 rfl rfl ?_
    refine af_aload_n K 105 dX5_next__104 rfl rfl ?_
    refine af_get K 108 dX5_next__105 rfl fl_X5_201 (Nat.le_of_ble_eq_true rfl) rfl rfl ?_
    refine af_callV_i K (b := 26) (vs := [.int (σ.1 26 8)]) mv_X5_byteAt lk_1033 ((hp_at _ (Nat.le_of_ble_eq_true rfl)).trans rfl) rfl 111 dX5_next__108 rfl rfl rfl rfl (A_X5_byteAt _ _ (σ.1 26 8) σ) rfl (fun q20 => ?_)
    refine af_callS_i K (vs := [.int q20.1]) ms_X5_letter lk_1037 114 dX5_next__111 rfl rfl rfl rfl (A_X5_letter _ _ q20.1 q20.2) rfl (fun q21 => ?_)
    refine af_if_le K 117 261 dX5_next__114 rfl rfl (fun _ => ?_) (fun _ => ?_)
    · refine af_lm [true, false] rfl ?_
      exact hk103  _
    · refine af_aload_n K 118 dX5_next__117 rfl rfl ?_
      refine af_aload_n K 119 dX5_next__118 rfl rfl ?_
      refine af_get K 122 dX5_next__119 rfl fl_X5_210 (Nat.le_of_ble_eq_true rfl) rfl rfl ?_
      refine af_ldc2 K 125 dX5_next__122 rfl lk_1040 ?_
      refine af_lcmp K 126 dX5_next__125 rfl ?_
      refine af_if_le K 129 136 dX5_next__126 rfl rfl (fun _ => ?_) (fun _ => ?_)
      · refine af_aload_n K 137 dX5_next__136 rfl rfl ?_
        refine af_get K 140 dX5_next__137 rfl fl_X5_210 (Nat.le_of_ble_eq_true rfl) rfl rfl ?_
        refine af_ldc2 K 143 dX5_next__140 rfl lk_1041 ?_
        refine af_lmul K 144 dX5_next__143 rfl ?_
        refine af_aload_n K 145 dX5_next__144 rfl rfl ?_
        refine af_aload_n K 146 dX5_next__145 rfl rfl ?_
        refine af_get K 149 dX5_next__146 rfl fl_X5_201 (Nat.le_of_ble_eq_true rfl) rfl rfl ?_
        refine af_callV_i K (b := 26) (vs := [.int (q21.2.1 26 8)]) mv_X5_byteAt lk_1033 ((hp_at _ (Nat.le_of_ble_eq_true rfl)).trans rfl) rfl 152 dX5_next__149 rfl rfl rfl rfl (A_X5_byteAt _ _ (q21.2.1 26 8) q21.2) rfl (fun q22 => ?_)
        refine af_callS_i K (vs := [.int q22.1]) ms_X5_letter lk_1037 155 dX5_next__152 rfl rfl rfl rfl (A_X5_letter _ _ q22.1 q22.2) rfl (fun q23 => ?_)
        refine af_i2l K 156 dX5_next__155 rfl ?_
        refine af_ladd K 157 dX5_next__156 rfl ?_
        refine af_putL K 160 dX5_next__157 rfl fp_X5_210 (fun s24 => ?_)
        refine af_aload_n K 161 dX5_next__160 rfl rfl ?_
        refine af_dup K 162 dX5_next__161 rfl rfl ?_
        refine af_get K 165 dX5_next__162 rfl fl_X5_201 (Nat.le_of_ble_eq_true rfl) rfl rfl ?_
        refine af_iconst K 166 dX5_next__165 rfl cs_iconst_1 ?_
        refine af_iadd K 167 dX5_next__166 rfl ?_
        refine af_put K 170 dX5_next__167 rfl fp_X5_201 (Nat.le_of_ble_eq_true rfl) rfl (Nat.le_of_ble_eq_true rfl) rfl (fun s25 => ?_)
        refine af_goto K 103 dX5_next__170 rfl ?_
        refine af_lm [true, false] rfl ?_
        exact ih103  _ _ hk103
      · refine af_aload_n K 130 dX5_next__129 rfl rfl ?_
        refine af_get K 133 dX5_next__130 rfl fl_X5_210 (Nat.le_of_ble_eq_true rfl) rfl rfl ?_
        refine af_goto K 157 dX5_next__133 rfl ?_
        refine af_putL K 160 dX5_next__157 rfl fp_X5_210 (fun s26 => ?_)
        refine af_aload_n K 161 dX5_next__160 rfl rfl ?_
        refine af_dup K 162 dX5_next__161 rfl rfl ?_
        refine af_get K 165 dX5_next__162 rfl fl_X5_201 (Nat.le_of_ble_eq_true rfl) rfl rfl ?_
        refine af_iconst K 166 dX5_next__165 rfl cs_iconst_1 ?_
        refine af_iadd K 167 dX5_next__166 rfl ?_
        refine af_put K 170 dX5_next__167 rfl fp_X5_201 (Nat.le_of_ble_eq_true rfl) rfl (Nat.le_of_ble_eq_true rfl) rfl (fun s27 => ?_)
        refine af_goto K 103 dX5_next__170 rfl ?_
        refine af_lm [true, false] rfl ?_
        exact ih103  _ _ hk103
set_option maxRecDepth 100000 in
set_option maxHeartbeats 4000000 in
theorem A_X5_next_ (X : aw_X) (l : Launch)  (σ : fk_T) : af_G X l mX5_next_ [.ref 26] (hp σ) ρv (F_X5_next_  σ) := by
  refine af_mk (by decide) rfl (fun q _ => aw_okv q) [some (.ref 26), none] rfl ?_
  rintro cx rfl rfl hN K
  replace hN : aw_nL cx = 2 := hN
  replace K : aw_K cx cX5_next_ RX5 rX5_next_ := K
  unfold F_X5_next_
  refine af_lm [true, false] rfl ?_
  refine W_X5_next__0 hN K  fk_N  _ _ (fun  s3 => ?_)
  refine af_aload_n K 27 dX5_next__26 rfl rfl ?_
  refine af_aload_n K 28 dX5_next__27 rfl rfl ?_
  refine af_get K 31 dX5_next__28 rfl fl_X5_201 (Nat.le_of_ble_eq_true rfl) rfl rfl ?_
  refine af_put K 34 dX5_next__31 rfl fp_X5_207 (Nat.le_of_ble_eq_true rfl) rfl (Nat.le_of_ble_eq_true rfl) rfl (fun s4 => ?_)
  refine af_aload_n K 35 dX5_next__34 rfl rfl ?_
  refine af_lconst K 36 dX5_next__35 rfl cs_lconst_0 ?_
  refine af_putL K 39 dX5_next__36 rfl fp_X5_210 (fun s5 => ?_)
  refine af_aload_n K 40 dX5_next__39 rfl rfl ?_
  refine af_aload_n K 41 dX5_next__40 rfl rfl ?_
  refine af_get K 44 dX5_next__41 rfl fl_X5_201 (Nat.le_of_ble_eq_true rfl) rfl rfl ?_
  refine af_callV_i K (b := 26) (vs := [.int (s5.1 26 8)]) mv_X5_byteAt lk_1033 ((hp_at _ (Nat.le_of_ble_eq_true rfl)).trans rfl) rfl 47 dX5_next__44 rfl rfl rfl rfl (A_X5_byteAt _ _ (s5.1 26 8) s5) rfl (fun q6 => ?_)
  refine af_istore_n K 48 [some (.ref 26), some (.int q6.1)] dX5_next__47 rfl (by rw [hN]; exact Nat.le_of_ble_eq_true rfl) rfl ?_
  refine af_aload_n K 49 dX5_next__48 rfl rfl ?_
  refine af_get K 52 dX5_next__49 rfl fl_X5_201 (Nat.le_of_ble_eq_true rfl) rfl rfl ?_
  refine af_aload_n K 53 dX5_next__52 rfl rfl ?_
  refine af_get K 56 dX5_next__53 rfl fl_X5_197 (Nat.le_of_ble_eq_true rfl) rfl rfl ?_
  refine af_icmp_ne K 59 67 dX5_next__56 rfl rfl (fun _ => ?_) (fun _ => ?_)
  · refine af_iload_n K 68 dX5_next__67 rfl rfl ?_
    refine af_bipush K 70 dX5_next__68 rfl cs_bipush_59 ?_
    refine af_icmp_ne K 73 91 dX5_next__70 rfl rfl (fun _ => ?_) (fun _ => ?_)
    · refine af_iload_n K 92 dX5_next__91 rfl rfl ?_
      refine af_callS_i K (vs := [.int q6.1]) ms_X5_letter lk_1037 95 dX5_next__92 rfl rfl rfl rfl (A_X5_letter _ _ q6.1 q6.2) rfl (fun q7 => ?_)
      refine af_if_le K 98 173 dX5_next__95 rfl rfl (fun _ => ?_) (fun _ => ?_)
      · refine af_iload_n K 174 dX5_next__173 rfl rfl ?_
        refine af_callS_z K (vs := [.int q6.1]) ms_X5_isDigit lk_1042 177 dX5_next__174 rfl rfl rfl rfl (A_X5_isDigit _ _ q6.1 q7.2) rfl (fun q8 => ?_)
        refine af_if_eq K 180 256 dX5_next__177 rfl rfl (fun _ => ?_) (fun _ => ?_)
        · refine af_aload_n K 257 dX5_next__256 rfl rfl ?_
          refine af_iconst K 258 dX5_next__257 rfl cs_iconst_4 ?_
          refine af_put K 261 dX5_next__258 rfl fp_X5_214 (Nat.le_of_ble_eq_true rfl) rfl (Nat.le_of_ble_eq_true rfl) rfl (fun s9 => ?_)
          exact af_retv K dX5_next__261
        · refine af_aload_n K 181 dX5_next__180 rfl rfl ?_
          refine af_iconst K 182 dX5_next__181 rfl cs_iconst_2 ?_
          refine af_put K 185 dX5_next__182 rfl fp_X5_214 (Nat.le_of_ble_eq_true rfl) rfl (Nat.le_of_ble_eq_true rfl) rfl (fun s10 => ?_)
          refine af_lm [true, false] rfl ?_
          refine W_X5_next__185 hN K  fk_N  _ _ (fun  s18 => ?_)
          exact af_retv K dX5_next__261
      · refine af_aload_n K 99 dX5_next__98 rfl rfl ?_
        refine af_iconst K 100 dX5_next__99 rfl cs_iconst_1 ?_
        refine af_put K 103 dX5_next__100 rfl fp_X5_214 (Nat.le_of_ble_eq_true rfl) rfl (Nat.le_of_ble_eq_true rfl) rfl (fun s19 => ?_)
        refine af_lm [true, false] rfl ?_
        refine W_X5_next__103 hN K  fk_N  _ _ (fun  s28 => ?_)
        exact af_retv K dX5_next__261
    · refine af_aload_n K 74 dX5_next__73 rfl rfl ?_
      refine af_iconst K 75 dX5_next__74 rfl cs_iconst_3 ?_
      refine af_put K 78 dX5_next__75 rfl fp_X5_214 (Nat.le_of_ble_eq_true rfl) rfl (Nat.le_of_ble_eq_true rfl) rfl (fun s29 => ?_)
      refine af_aload_n K 79 dX5_next__78 rfl rfl ?_
      refine af_dup K 80 dX5_next__79 rfl rfl ?_
      refine af_get K 83 dX5_next__80 rfl fl_X5_201 (Nat.le_of_ble_eq_true rfl) rfl rfl ?_
      refine af_iconst K 84 dX5_next__83 rfl cs_iconst_1 ?_
      refine af_iadd K 85 dX5_next__84 rfl ?_
      refine af_put K 88 dX5_next__85 rfl fp_X5_201 (Nat.le_of_ble_eq_true rfl) rfl (Nat.le_of_ble_eq_true rfl) rfl (fun s30 => ?_)
      refine af_goto K 261 dX5_next__88 rfl ?_
      exact af_retv K dX5_next__261
  · refine af_aload_n K 60 dX5_next__59 rfl rfl ?_
    refine af_iconst K 61 dX5_next__60 rfl cs_iconst_0 ?_
    refine af_put K 64 dX5_next__61 rfl fp_X5_214 (Nat.le_of_ble_eq_true rfl) rfl (Nat.le_of_ble_eq_true rfl) rfl (fun s31 => ?_)
    refine af_goto K 261 dX5_next__64 rfl ?_
    exact af_retv K dX5_next__261
def F_X5_wrongHere  (σ : fk_T) : Option (fk_T) := if 0 ≤ (σ.1 26 12) then (fk_B (fk_w σ 26 (upd (σ.1 26) 12 (σ.1 26 12))) (fun s1 => some s1)) else (fk_B (fk_w σ 26 (upd (σ.1 26) 12 (σ.1 26 10))) (fun s2 => some s2))
set_option maxRecDepth 100000 in
set_option maxHeartbeats 4000000 in
theorem A_X5_wrongHere (X : aw_X) (l : Launch)  (σ : fk_T) : af_G X l mX5_wrongHere [.ref 26] (hp σ) ρv (F_X5_wrongHere  σ) := by
  refine af_mk (by decide) rfl (fun q _ => aw_okv q) [some (.ref 26)] rfl ?_
  rintro cx rfl rfl hN K
  replace hN : aw_nL cx = 1 := hN
  replace K : aw_K cx cX5_wrongHere RX5 rX5_wrongHere := K
  unfold F_X5_wrongHere
  refine af_aload_n K 1 dX5_wrongHere_0 rfl rfl ?_
  refine af_aload_n K 2 dX5_wrongHere_1 rfl rfl ?_
  refine af_get K 5 dX5_wrongHere_2 rfl fl_X5_233 (Nat.le_of_ble_eq_true rfl) rfl rfl ?_
  refine af_if_ge K 8 15 dX5_wrongHere_5 rfl rfl (fun _ => ?_) (fun _ => ?_)
  · refine af_aload_n K 16 dX5_wrongHere_15 rfl rfl ?_
    refine af_get K 19 dX5_wrongHere_16 rfl fl_X5_233 (Nat.le_of_ble_eq_true rfl) rfl rfl ?_
    refine af_put K 22 dX5_wrongHere_19 rfl fp_X5_233 (Nat.le_of_ble_eq_true rfl) rfl (Nat.le_of_ble_eq_true rfl) rfl (fun s1 => ?_)
    exact af_retv K dX5_wrongHere_22
  · refine af_aload_n K 9 dX5_wrongHere_8 rfl rfl ?_
    refine af_get K 12 dX5_wrongHere_9 rfl fl_X5_207 (Nat.le_of_ble_eq_true rfl) rfl rfl ?_
    refine af_goto K 19 dX5_wrongHere_12 rfl ?_
    refine af_put K 22 dX5_wrongHere_19 rfl fp_X5_233 (Nat.le_of_ble_eq_true rfl) rfl (Nat.le_of_ble_eq_true rfl) rfl (fun s2 => ?_)
    exact af_retv K dX5_wrongHere_22
def F_X5_isWord (x1 : Int64) (σ : fk_T) : Option (Bool × fk_T) := if (σ.1 26 9) = 1 then (if (lg_cmp σ.2 x1) = 0 then (some (true, σ)) else (some (false, σ))) else (some (false, σ))
set_option maxRecDepth 100000 in
set_option maxHeartbeats 4000000 in
theorem A_X5_isWord (X : aw_X) (l : Launch) (x1 : Int64) (σ : fk_T) : af_G X l mX5_isWord [.ref 26, .long x1] (hp σ) ρz (F_X5_isWord x1 σ) := by
  refine af_mk (by decide) rfl (fun q _ => aw_okz q) [some (.ref 26), some (.long x1), none] rfl ?_
  rintro cx rfl rfl hN K
  replace hN : aw_nL cx = 3 := hN
  replace K : aw_K cx cX5_isWord RX5 rX5_isWord := K
  unfold F_X5_isWord
  refine af_aload_n K 1 dX5_isWord_0 rfl rfl ?_
  refine af_get K 4 dX5_isWord_1 rfl fl_X5_214 (Nat.le_of_ble_eq_true rfl) rfl rfl ?_
  refine af_iconst K 5 dX5_isWord_4 rfl cs_iconst_1 ?_
  refine af_icmp_ne K 8 21 dX5_isWord_5 rfl rfl (fun _ => ?_) (fun _ => ?_)
  · refine af_iconst K 22 dX5_isWord_21 rfl cs_iconst_0 ?_
    exact af_retz K rfl dX5_isWord_22
  · refine af_aload_n K 9 dX5_isWord_8 rfl rfl ?_
    refine af_get K 12 dX5_isWord_9 rfl fl_X5_210 (Nat.le_of_ble_eq_true rfl) rfl rfl ?_
    refine af_lload_n K 13 dX5_isWord_12 rfl rfl ?_
    refine af_lcmp K 14 dX5_isWord_13 rfl ?_
    refine af_if_ne K 17 21 dX5_isWord_14 rfl rfl (fun _ => ?_) (fun _ => ?_)
    · refine af_iconst K 22 dX5_isWord_21 rfl cs_iconst_0 ?_
      exact af_retz K rfl dX5_isWord_22
    · refine af_iconst K 18 dX5_isWord_17 rfl cs_iconst_1 ?_
      refine af_goto K 22 dX5_isWord_18 rfl ?_
      exact af_retz K rfl dX5_isWord_22
def F_X5_kindHere  (σ : fk_T) : Option (Int32 × fk_T) := (F_X5_isWord 237962520 σ).bind (fun q1 => if (fk_b q1.1) = 0 then ((F_X5_isWord 3410828815 q1.2).bind (fun q2 => if (fk_b q2.1) = 0 then ((F_X5_isWord 14270 q2.2).bind (fun q3 => if (fk_b q3.1) = 0 then ((F_X5_isWord 87024528 q3.2).bind (fun q4 => if (fk_b q4.1) = 0 then ((F_X5_isWord 6223046688 q4.2).bind (fun q5 => if (fk_b q5.1) = 0 then ((F_X5_isWord 206754213222 q5.2).bind (fun q6 => if (fk_b q6.1) = 0 then ((F_X5_isWord 1888 q6.2).bind (fun q7 => if (fk_b q7.1) = 0 then (some ((-1), q7.2)) else (some (6, q7.2)))) else (some (5, q6.2)))) else (some (4, q5.2)))) else (some (3, q4.2)))) else (some (2, q3.2)))) else (some (1, q2.2)))) else (some (0, q1.2)))
set_option maxRecDepth 100000 in
set_option maxHeartbeats 4000000 in
theorem A_X5_kindHere (X : aw_X) (l : Launch)  (σ : fk_T) : af_G X l mX5_kindHere [.ref 26] (hp σ) ρi (F_X5_kindHere  σ) := by
  refine af_mk (by decide) rfl (fun q _ => aw_oki q) [some (.ref 26)] rfl ?_
  rintro cx rfl rfl hN K
  replace hN : aw_nL cx = 1 := hN
  replace K : aw_K cx cX5_kindHere RX5 rX5_kindHere := K
  unfold F_X5_kindHere
  refine af_aload_n K 1 dX5_kindHere_0 rfl rfl ?_
  refine af_ldc2 K 4 dX5_kindHere_1 rfl lk_1056 ?_
  refine af_callV_z K (b := 26) (vs := [.long 237962520]) mv_X5_isWord lk_1057 ((hp_at _ (Nat.le_of_ble_eq_true rfl)).trans rfl) rfl 7 dX5_kindHere_4 rfl rfl rfl rfl (A_X5_isWord _ _ 237962520 σ) rfl (fun q1 => ?_)
  refine af_if_eq K 10 14 dX5_kindHere_7 rfl rfl (fun _ => ?_) (fun _ => ?_)
  · refine af_aload_n K 15 dX5_kindHere_14 rfl rfl ?_
    refine af_ldc2 K 18 dX5_kindHere_15 rfl lk_1061 ?_
    refine af_callV_z K (b := 26) (vs := [.long 3410828815]) mv_X5_isWord lk_1057 ((hp_at _ (Nat.le_of_ble_eq_true rfl)).trans rfl) rfl 21 dX5_kindHere_18 rfl rfl rfl rfl (A_X5_isWord _ _ 3410828815 q1.2) rfl (fun q2 => ?_)
    refine af_if_eq K 24 28 dX5_kindHere_21 rfl rfl (fun _ => ?_) (fun _ => ?_)
    · refine af_aload_n K 29 dX5_kindHere_28 rfl rfl ?_
      refine af_ldc2 K 32 dX5_kindHere_29 rfl lk_1062 ?_
      refine af_callV_z K (b := 26) (vs := [.long 14270]) mv_X5_isWord lk_1057 ((hp_at _ (Nat.le_of_ble_eq_true rfl)).trans rfl) rfl 35 dX5_kindHere_32 rfl rfl rfl rfl (A_X5_isWord _ _ 14270 q2.2) rfl (fun q3 => ?_)
      refine af_if_eq K 38 42 dX5_kindHere_35 rfl rfl (fun _ => ?_) (fun _ => ?_)
      · refine af_aload_n K 43 dX5_kindHere_42 rfl rfl ?_
        refine af_ldc2 K 46 dX5_kindHere_43 rfl lk_1063 ?_
        refine af_callV_z K (b := 26) (vs := [.long 87024528]) mv_X5_isWord lk_1057 ((hp_at _ (Nat.le_of_ble_eq_true rfl)).trans rfl) rfl 49 dX5_kindHere_46 rfl rfl rfl rfl (A_X5_isWord _ _ 87024528 q3.2) rfl (fun q4 => ?_)
        refine af_if_eq K 52 56 dX5_kindHere_49 rfl rfl (fun _ => ?_) (fun _ => ?_)
        · refine af_aload_n K 57 dX5_kindHere_56 rfl rfl ?_
          refine af_ldc2 K 60 dX5_kindHere_57 rfl lk_1064 ?_
          refine af_callV_z K (b := 26) (vs := [.long 6223046688]) mv_X5_isWord lk_1057 ((hp_at _ (Nat.le_of_ble_eq_true rfl)).trans rfl) rfl 63 dX5_kindHere_60 rfl rfl rfl rfl (A_X5_isWord _ _ 6223046688 q4.2) rfl (fun q5 => ?_)
          refine af_if_eq K 66 70 dX5_kindHere_63 rfl rfl (fun _ => ?_) (fun _ => ?_)
          · refine af_aload_n K 71 dX5_kindHere_70 rfl rfl ?_
            refine af_ldc2 K 74 dX5_kindHere_71 rfl lk_1065 ?_
            refine af_callV_z K (b := 26) (vs := [.long 206754213222]) mv_X5_isWord lk_1057 ((hp_at _ (Nat.le_of_ble_eq_true rfl)).trans rfl) rfl 77 dX5_kindHere_74 rfl rfl rfl rfl (A_X5_isWord _ _ 206754213222 q5.2) rfl (fun q6 => ?_)
            refine af_if_eq K 80 84 dX5_kindHere_77 rfl rfl (fun _ => ?_) (fun _ => ?_)
            · refine af_aload_n K 85 dX5_kindHere_84 rfl rfl ?_
              refine af_ldc2 K 88 dX5_kindHere_85 rfl lk_1066 ?_
              refine af_callV_z K (b := 26) (vs := [.long 1888]) mv_X5_isWord lk_1057 ((hp_at _ (Nat.le_of_ble_eq_true rfl)).trans rfl) rfl 91 dX5_kindHere_88 rfl rfl rfl rfl (A_X5_isWord _ _ 1888 q6.2) rfl (fun q7 => ?_)
              refine af_if_eq K 94 99 dX5_kindHere_91 rfl rfl (fun _ => ?_) (fun _ => ?_)
              · refine af_iconst K 100 dX5_kindHere_99 rfl cs_iconst_m1 ?_
                exact af_reti K dX5_kindHere_100
              · refine af_bipush K 96 dX5_kindHere_94 rfl cs_bipush_6 ?_
                refine af_goto K 100 dX5_kindHere_96 rfl ?_
                exact af_reti K dX5_kindHere_100
            · refine af_iconst K 81 dX5_kindHere_80 rfl cs_iconst_5 ?_
              refine af_goto K 100 dX5_kindHere_81 rfl ?_
              exact af_reti K dX5_kindHere_100
          · refine af_iconst K 67 dX5_kindHere_66 rfl cs_iconst_4 ?_
            refine af_goto K 100 dX5_kindHere_67 rfl ?_
            exact af_reti K dX5_kindHere_100
        · refine af_iconst K 53 dX5_kindHere_52 rfl cs_iconst_3 ?_
          refine af_goto K 100 dX5_kindHere_53 rfl ?_
          exact af_reti K dX5_kindHere_100
      · refine af_iconst K 39 dX5_kindHere_38 rfl cs_iconst_2 ?_
        refine af_goto K 100 dX5_kindHere_39 rfl ?_
        exact af_reti K dX5_kindHere_100
    · refine af_iconst K 25 dX5_kindHere_24 rfl cs_iconst_1 ?_
      refine af_goto K 100 dX5_kindHere_25 rfl ?_
      exact af_reti K dX5_kindHere_100
  · refine af_iconst K 11 dX5_kindHere_10 rfl cs_iconst_0 ?_
    refine af_goto K 100 dX5_kindHere_11 rfl ?_
    exact af_reti K dX5_kindHere_100
def F_X5_numberHere (x1 : Int32) (x2 : Int32) (x3 : Int32) (σ : fk_T) : Option (Int32 × fk_T) := fk_B (σ.2.toInt32) (fun y1 => if (σ.1 26 9) = 2 then ((F_X5_in σ.2 (x1.toInt64) (x2.toInt64) σ).bind (fun q3 => if (fk_b q3.1) = 0 then ((F_X5_wrongHere  q3.2).bind (fun q4 => some (0, q4))) else (if y1 = x3 then ((F_X5_wrongHere  q3.2).bind (fun q6 => some (0, q6))) else ((F_X5_next_  q3.2).bind (fun q5 => some (y1, q5)))))) else ((F_X5_wrongHere  σ).bind (fun q2 => some (0, q2))))
set_option maxRecDepth 100000 in
set_option maxHeartbeats 4000000 in
theorem A_X5_numberHere (X : aw_X) (l : Launch) (x1 : Int32) (x2 : Int32) (x3 : Int32) (σ : fk_T) : af_G X l mX5_numberHere [.ref 26, .int x1, .int x2, .int x3] (hp σ) ρi (F_X5_numberHere x1 x2 x3 σ) := by
  refine af_mk (by decide) rfl (fun q _ => aw_oki q) [some (.ref 26), some (.int x1), some (.int x2), some (.int x3), none] rfl ?_
  rintro cx rfl rfl hN K
  replace hN : aw_nL cx = 5 := hN
  replace K : aw_K cx cX5_numberHere RX5 rX5_numberHere := K
  unfold F_X5_numberHere
  refine af_aload_n K 1 dX5_numberHere_0 rfl rfl ?_
  refine af_get K 4 dX5_numberHere_1 rfl fl_X5_210 (Nat.le_of_ble_eq_true rfl) rfl rfl ?_
  refine af_l2i K 5 dX5_numberHere_4 rfl ?_
  refine af_Bi (fun y1 => ?_)
  refine af_istore K 7 [some (.ref 26), some (.int x1), some (.int x2), some (.int x3), some (.int y1)] dX5_numberHere_5 rfl (by rw [hN]; exact Nat.le_of_ble_eq_true rfl) rfl ?_
  refine af_aload_n K 8 dX5_numberHere_7 rfl rfl ?_
  refine af_get K 11 dX5_numberHere_8 rfl fl_X5_214 (Nat.le_of_ble_eq_true rfl) rfl rfl ?_
  refine af_iconst K 12 dX5_numberHere_11 rfl cs_iconst_2 ?_
  refine af_icmp_ne K 15 35 dX5_numberHere_12 rfl rfl (fun _ => ?_) (fun _ => ?_)
  · refine af_aload_n K 36 dX5_numberHere_35 rfl rfl ?_
    refine af_callV_v K (b := 26) (vs := []) mv_X5_wrongHere lk_1071 ((hp_at _ (Nat.le_of_ble_eq_true rfl)).trans rfl) rfl 39 dX5_numberHere_36 rfl rfl rfl rfl (A_X5_wrongHere _ _ σ) rfl (fun q2 => ?_)
    refine af_iconst K 40 dX5_numberHere_39 rfl cs_iconst_0 ?_
    exact af_reti K dX5_numberHere_40
  · refine af_aload_n K 16 dX5_numberHere_15 rfl rfl ?_
    refine af_get K 19 dX5_numberHere_16 rfl fl_X5_210 (Nat.le_of_ble_eq_true rfl) rfl rfl ?_
    refine af_iload_n K 20 dX5_numberHere_19 rfl rfl ?_
    refine af_i2l K 21 dX5_numberHere_20 rfl ?_
    refine af_iload_n K 22 dX5_numberHere_21 rfl rfl ?_
    refine af_i2l K 23 dX5_numberHere_22 rfl ?_
    refine af_callS_z K (vs := [.long σ.2, .long (x1.toInt64), .long (x2.toInt64)]) ms_X5_in lk_753 26 dX5_numberHere_23 rfl rfl rfl rfl (A_X5_in _ _ σ.2 (x1.toInt64) (x2.toInt64) σ) rfl (fun q3 => ?_)
    refine af_if_eq K 29 35 dX5_numberHere_26 rfl rfl (fun _ => ?_) (fun _ => ?_)
    · refine af_aload_n K 36 dX5_numberHere_35 rfl rfl ?_
      refine af_callV_v K (b := 26) (vs := []) mv_X5_wrongHere lk_1071 ((hp_at _ (Nat.le_of_ble_eq_true rfl)).trans rfl) rfl 39 dX5_numberHere_36 rfl rfl rfl rfl (A_X5_wrongHere _ _ q3.2) rfl (fun q4 => ?_)
      refine af_iconst K 40 dX5_numberHere_39 rfl cs_iconst_0 ?_
      exact af_reti K dX5_numberHere_40
    · refine af_iload K 31 dX5_numberHere_29 rfl rfl ?_
      refine af_iload_n K 32 dX5_numberHere_31 rfl rfl ?_
      refine af_icmp_ne K 35 41 dX5_numberHere_32 rfl rfl (fun _ => ?_) (fun _ => ?_)
      · refine af_aload_n K 42 dX5_numberHere_41 rfl rfl ?_
        refine af_callV_v K (b := 26) (vs := []) mv_X5_next_ lk_1029 ((hp_at _ (Nat.le_of_ble_eq_true rfl)).trans rfl) rfl 45 dX5_numberHere_42 rfl rfl rfl rfl (A_X5_next_ _ _ q3.2) rfl (fun q5 => ?_)
        refine af_iload K 47 dX5_numberHere_45 rfl rfl ?_
        exact af_reti K dX5_numberHere_47
      · refine af_aload_n K 36 dX5_numberHere_35 rfl rfl ?_
        refine af_callV_v K (b := 26) (vs := []) mv_X5_wrongHere lk_1071 ((hp_at _ (Nat.le_of_ble_eq_true rfl)).trans rfl) rfl 39 dX5_numberHere_36 rfl rfl rfl rfl (A_X5_wrongHere _ _ q3.2) rfl (fun q6 => ?_)
        refine af_iconst K 40 dX5_numberHere_39 rfl cs_iconst_0 ?_
        exact af_reti K dX5_numberHere_40
def F_X5_perhaps (x1 : Int64) (x3 : Int32) (x4 : Int32) (σ : fk_T) : Option (fk_T) := if 0 ≤ (σ.1 26 12) then (some σ) else ((F_X5_isWord x1 σ).bind (fun q1 => if (fk_b q1.1) = 0 then (some q1.2) else ((F_X5_next_  q1.2).bind (fun q2 => (F_X5_numberHere 0 99 (-1) q2).bind (fun q3 => if 0 ≤ (q3.2.1 26 12) then (some q3.2) else ((F_X5_sets x3 x4 q3.1 q3.2).bind (fun q4 => some q4)))))))
set_option maxRecDepth 100000 in
set_option maxHeartbeats 4000000 in
theorem A_X5_perhaps (X : aw_X) (l : Launch) (x1 : Int64) (x3 : Int32) (x4 : Int32) (σ : fk_T) : af_G X l mX5_perhaps [.ref 26, .long x1, .int x3, .int x4] (hp σ) ρv (F_X5_perhaps x1 x3 x4 σ) := by
  refine af_mk (by decide) rfl (fun q _ => aw_okv q) [some (.ref 26), some (.long x1), none, some (.int x3), some (.int x4), none] rfl ?_
  rintro cx rfl rfl hN K
  replace hN : aw_nL cx = 6 := hN
  replace K : aw_K cx cX5_perhaps RX5 rX5_perhaps := K
  unfold F_X5_perhaps
  refine af_aload_n K 1 dX5_perhaps_0 rfl rfl ?_
  refine af_get K 4 dX5_perhaps_1 rfl fl_X5_233 (Nat.le_of_ble_eq_true rfl) rfl rfl ?_
  refine af_if_ge K 7 45 dX5_perhaps_4 rfl rfl (fun _ => ?_) (fun _ => ?_)
  · exact af_retv K dX5_perhaps_45
  · refine af_aload_n K 8 dX5_perhaps_7 rfl rfl ?_
    refine af_lload_n K 9 dX5_perhaps_8 rfl rfl ?_
    refine af_callV_z K (b := 26) (vs := [.long x1]) mv_X5_isWord lk_1057 ((hp_at _ (Nat.le_of_ble_eq_true rfl)).trans rfl) rfl 12 dX5_perhaps_9 rfl rfl rfl rfl (A_X5_isWord _ _ x1 σ) rfl (fun q1 => ?_)
    refine af_if_eq K 15 45 dX5_perhaps_12 rfl rfl (fun _ => ?_) (fun _ => ?_)
    · exact af_retv K dX5_perhaps_45
    · refine af_aload_n K 16 dX5_perhaps_15 rfl rfl ?_
      refine af_callV_v K (b := 26) (vs := []) mv_X5_next_ lk_1029 ((hp_at _ (Nat.le_of_ble_eq_true rfl)).trans rfl) rfl 19 dX5_perhaps_16 rfl rfl rfl rfl (A_X5_next_ _ _ q1.2) rfl (fun q2 => ?_)
      refine af_aload_n K 20 dX5_perhaps_19 rfl rfl ?_
      refine af_iconst K 21 dX5_perhaps_20 rfl cs_iconst_0 ?_
      refine af_bipush K 23 dX5_perhaps_21 rfl cs_bipush_99 ?_
      refine af_iconst K 24 dX5_perhaps_23 rfl cs_iconst_m1 ?_
      refine af_callV_i K (b := 26) (vs := [.int 0, .int 99, .int (-1)]) mv_X5_numberHere lk_1080 ((hp_at _ (Nat.le_of_ble_eq_true rfl)).trans rfl) rfl 27 dX5_perhaps_24 rfl rfl rfl rfl (A_X5_numberHere _ _ 0 99 (-1) q2) rfl (fun q3 => ?_)
      refine af_istore K 29 [some (.ref 26), some (.long x1), none, some (.int x3), some (.int x4), some (.int q3.1)] dX5_perhaps_27 rfl (by rw [hN]; exact Nat.le_of_ble_eq_true rfl) rfl ?_
      refine af_aload_n K 30 dX5_perhaps_29 rfl rfl ?_
      refine af_get K 33 dX5_perhaps_30 rfl fl_X5_233 (Nat.le_of_ble_eq_true rfl) rfl rfl ?_
      refine af_if_ge K 36 45 dX5_perhaps_33 rfl rfl (fun _ => ?_) (fun _ => ?_)
      · exact af_retv K dX5_perhaps_45
      · refine af_aload_n K 37 dX5_perhaps_36 rfl rfl ?_
        refine af_iload_n K 38 dX5_perhaps_37 rfl rfl ?_
        refine af_iload K 40 dX5_perhaps_38 rfl rfl ?_
        refine af_iload K 42 dX5_perhaps_40 rfl rfl ?_
        refine af_callV_v K (b := 26) (vs := [.int x3, .int x4, .int q3.1]) mv_X5_sets lk_785 ((hp_at _ (Nat.le_of_ble_eq_true rfl)).trans rfl) rfl 45 dX5_perhaps_42 rfl rfl rfl rfl (A_X5_sets _ _ x3 x4 q3.1 q3.2) rfl (fun q4 => ?_)
        exact af_retv K dX5_perhaps_45
def F_X5_potterHere (x1 : Int32) (σ : fk_T) : Option (fk_T) := fk_A (σ.1 27) 135 0 (fun y1 => if y1 = 8 then ((F_X5_wrongHere  σ).bind (fun q7 => some q7)) else ((F_X5_next_  σ).bind (fun q2 => (F_X5_comes x1 30 q2).bind (fun q3 => (F_X5_perhaps 161156 q3.1 1 q3.2).bind (fun q4 => (F_X5_perhaps 60269 q3.1 2 q4).bind (fun q5 => (F_X5_perhaps 13385674 q3.1 3 q5).bind (fun q6 => some q6)))))))
set_option maxRecDepth 100000 in
set_option maxHeartbeats 4000000 in
theorem A_X5_potterHere (X : aw_X) (l : Launch) (x1 : Int32) (σ : fk_T) : af_G X l mX5_potterHere [.ref 26, .int x1] (hp σ) ρv (F_X5_potterHere x1 σ) := by
  refine af_mk (by decide) rfl (fun q _ => aw_okv q) [some (.ref 26), some (.int x1), none] rfl ?_
  rintro cx rfl rfl hN K
  replace hN : aw_nL cx = 3 := hN
  replace K : aw_K cx cX5_potterHere RX5 rX5_potterHere := K
  unfold F_X5_potterHere
  refine af_aload_n K 1 dX5_potterHere_0 rfl rfl ?_
  refine af_get K 4 dX5_potterHere_1 rfl fl_X5_7 (Nat.le_of_ble_eq_true rfl) rfl rfl ?_
  refine af_iconst K 5 dX5_potterHere_4 rfl cs_iconst_0 ?_
  refine af_iald K 6 dX5_potterHere_5 rfl (Nat.le_of_ble_eq_true rfl) rfl (fun y1 => ?_)
  refine af_bipush K 8 dX5_potterHere_6 rfl cs_bipush_8 ?_
  refine af_icmp_ne K 11 16 dX5_potterHere_8 rfl rfl (fun _ => ?_) (fun _ => ?_)
  · refine af_aload_n K 17 dX5_potterHere_16 rfl rfl ?_
    refine af_callV_v K (b := 26) (vs := []) mv_X5_next_ lk_1029 ((hp_at _ (Nat.le_of_ble_eq_true rfl)).trans rfl) rfl 20 dX5_potterHere_17 rfl rfl rfl rfl (A_X5_next_ _ _ σ) rfl (fun q2 => ?_)
    refine af_aload_n K 21 dX5_potterHere_20 rfl rfl ?_
    refine af_iload_n K 22 dX5_potterHere_21 rfl rfl ?_
    refine af_bipush K 24 dX5_potterHere_22 rfl cs_bipush_30 ?_
    refine af_callV_i K (b := 26) (vs := [.int x1, .int 30]) mv_X5_comes lk_781 ((hp_at _ (Nat.le_of_ble_eq_true rfl)).trans rfl) rfl 27 dX5_potterHere_24 rfl rfl rfl rfl (A_X5_comes _ _ x1 30 q2) rfl (fun q3 => ?_)
    refine af_istore_n K 28 [some (.ref 26), some (.int x1), some (.int q3.1)] dX5_potterHere_27 rfl (by rw [hN]; exact Nat.le_of_ble_eq_true rfl) rfl ?_
    refine af_aload_n K 29 dX5_potterHere_28 rfl rfl ?_
    refine af_ldc2 K 32 dX5_potterHere_29 rfl lk_1075 ?_
    refine af_iload_n K 33 dX5_potterHere_32 rfl rfl ?_
    refine af_iconst K 34 dX5_potterHere_33 rfl cs_iconst_1 ?_
    refine af_callV_v K (b := 26) (vs := [.long 161156, .int q3.1, .int 1]) mv_X5_perhaps lk_1076 ((hp_at _ (Nat.le_of_ble_eq_true rfl)).trans rfl) rfl 37 dX5_potterHere_34 rfl rfl rfl rfl (A_X5_perhaps _ _ 161156 q3.1 1 q3.2) rfl (fun q4 => ?_)
    refine af_aload_n K 38 dX5_potterHere_37 rfl rfl ?_
    refine af_ldc2 K 41 dX5_potterHere_38 rfl lk_1084 ?_
    refine af_iload_n K 42 dX5_potterHere_41 rfl rfl ?_
    refine af_iconst K 43 dX5_potterHere_42 rfl cs_iconst_2 ?_
    refine af_callV_v K (b := 26) (vs := [.long 60269, .int q3.1, .int 2]) mv_X5_perhaps lk_1076 ((hp_at _ (Nat.le_of_ble_eq_true rfl)).trans rfl) rfl 46 dX5_potterHere_43 rfl rfl rfl rfl (A_X5_perhaps _ _ 60269 q3.1 2 q4) rfl (fun q5 => ?_)
    refine af_aload_n K 47 dX5_potterHere_46 rfl rfl ?_
    refine af_ldc2 K 50 dX5_potterHere_47 rfl lk_1085 ?_
    refine af_iload_n K 51 dX5_potterHere_50 rfl rfl ?_
    refine af_iconst K 52 dX5_potterHere_51 rfl cs_iconst_3 ?_
    refine af_callV_v K (b := 26) (vs := [.long 13385674, .int q3.1, .int 3]) mv_X5_perhaps lk_1076 ((hp_at _ (Nat.le_of_ble_eq_true rfl)).trans rfl) rfl 55 dX5_potterHere_52 rfl rfl rfl rfl (A_X5_perhaps _ _ 13385674 q3.1 3 q5) rfl (fun q6 => ?_)
    exact af_retv K dX5_potterHere_55
  · refine af_aload_n K 12 dX5_potterHere_11 rfl rfl ?_
    refine af_callV_v K (b := 26) (vs := []) mv_X5_wrongHere lk_1071 ((hp_at _ (Nat.le_of_ble_eq_true rfl)).trans rfl) rfl 15 dX5_potterHere_12 rfl rfl rfl rfl (A_X5_wrongHere _ _ σ) rfl (fun q7 => ?_)
    exact af_retv K dX5_potterHere_15
def F_X5_riftHere  (σ : fk_T) : Option (fk_T) := (F_X5_next_  σ).bind (fun q1 => fk_A (q1.1 27) 135 0 (fun y2 => (F_X5_numberHere 0 (y2 - 1) (-1) q1).bind (fun q3 => if 0 ≤ (q3.2.1 26 12) then (if 0 ≤ (q3.2.1 26 12) then (if 0 ≤ (q3.2.1 26 12) then (some q3.2) else ((F_X5_between q3.1 0 q3.2).bind (fun q4 => fk_S q4.2 27 135 q4.1 0 (fun s5 => some s5)))) else ((F_X5_numberHere 0 99 (-1) q3.2).bind (fun q6 => if 0 ≤ (q6.2.1 26 12) then (some q6.2) else ((F_X5_between q3.1 0 q6.2).bind (fun q7 => fk_S q7.2 27 135 q7.1 q6.1 (fun s8 => some s8)))))) else (fk_A (q3.2.1 27) 135 0 (fun y9 => (F_X5_numberHere 0 (y9 - 1) q3.1 q3.2).bind (fun q10 => if 0 ≤ (q10.2.1 26 12) then (if 0 ≤ (q10.2.1 26 12) then (some q10.2) else ((F_X5_between q3.1 q10.1 q10.2).bind (fun q11 => fk_S q11.2 27 135 q11.1 0 (fun s12 => some s12)))) else ((F_X5_numberHere 0 99 (-1) q10.2).bind (fun q13 => if 0 ≤ (q13.2.1 26 12) then (some q13.2) else ((F_X5_between q3.1 q10.1 q13.2).bind (fun q14 => fk_S q14.2 27 135 q14.1 q13.1 (fun s15 => some s15)))))))))))
set_option maxRecDepth 100000 in
set_option maxHeartbeats 4000000 in
theorem A_X5_riftHere (X : aw_X) (l : Launch)  (σ : fk_T) : af_G X l mX5_riftHere [.ref 26] (hp σ) ρv (F_X5_riftHere  σ) := by
  refine af_mk (by decide) rfl (fun q _ => aw_okv q) [some (.ref 26), none, none, none] rfl ?_
  rintro cx rfl rfl hN K
  replace hN : aw_nL cx = 4 := hN
  replace K : aw_K cx cX5_riftHere RX5 rX5_riftHere := K
  unfold F_X5_riftHere
  refine af_aload_n K 1 dX5_riftHere_0 rfl rfl ?_
  refine af_callV_v K (b := 26) (vs := []) mv_X5_next_ lk_1029 ((hp_at _ (Nat.le_of_ble_eq_true rfl)).trans rfl) rfl 4 dX5_riftHere_1 rfl rfl rfl rfl (A_X5_next_ _ _ σ) rfl (fun q1 => ?_)
  refine af_aload_n K 5 dX5_riftHere_4 rfl rfl ?_
  refine af_iconst K 6 dX5_riftHere_5 rfl cs_iconst_0 ?_
  refine af_aload_n K 7 dX5_riftHere_6 rfl rfl ?_
  refine af_get K 10 dX5_riftHere_7 rfl fl_X5_7 (Nat.le_of_ble_eq_true rfl) rfl rfl ?_
  refine af_iconst K 11 dX5_riftHere_10 rfl cs_iconst_0 ?_
  refine af_iald K 12 dX5_riftHere_11 rfl (Nat.le_of_ble_eq_true rfl) rfl (fun y2 => ?_)
  refine af_iconst K 13 dX5_riftHere_12 rfl cs_iconst_1 ?_
  refine af_isub K 14 dX5_riftHere_13 rfl ?_
  refine af_iconst K 15 dX5_riftHere_14 rfl cs_iconst_m1 ?_
  refine af_callV_i K (b := 26) (vs := [.int 0, .int (y2 - 1), .int (-1)]) mv_X5_numberHere lk_1080 ((hp_at _ (Nat.le_of_ble_eq_true rfl)).trans rfl) rfl 18 dX5_riftHere_15 rfl rfl rfl rfl (A_X5_numberHere _ _ 0 (y2 - 1) (-1) q1) rfl (fun q3 => ?_)
  refine af_istore_n K 19 [some (.ref 26), some (.int q3.1), none, none] dX5_riftHere_18 rfl (by rw [hN]; exact Nat.le_of_ble_eq_true rfl) rfl ?_
  refine af_aload_n K 20 dX5_riftHere_19 rfl rfl ?_
  refine af_get K 23 dX5_riftHere_20 rfl fl_X5_233 (Nat.le_of_ble_eq_true rfl) rfl rfl ?_
  refine af_if_ge K 26 43 dX5_riftHere_23 rfl rfl (fun _ => ?_) (fun _ => ?_)
  · refine af_iconst K 44 dX5_riftHere_43 rfl cs_iconst_0 ?_
    refine af_istore_n K 45 [some (.ref 26), some (.int q3.1), some (.int 0), none] dX5_riftHere_44 rfl (by rw [hN]; exact Nat.le_of_ble_eq_true rfl) rfl ?_
    refine af_aload_n K 46 dX5_riftHere_45 rfl rfl ?_
    refine af_get K 49 dX5_riftHere_46 rfl fl_X5_233 (Nat.le_of_ble_eq_true rfl) rfl rfl ?_
    refine af_if_ge K 52 63 dX5_riftHere_49 rfl rfl (fun _ => ?_) (fun _ => ?_)
    · refine af_iconst K 64 dX5_riftHere_63 rfl cs_iconst_0 ?_
      refine af_istore_n K 65 [some (.ref 26), some (.int q3.1), some (.int 0), some (.int 0)] dX5_riftHere_64 rfl (by rw [hN]; exact Nat.le_of_ble_eq_true rfl) rfl ?_
      refine af_aload_n K 66 dX5_riftHere_65 rfl rfl ?_
      refine af_get K 69 dX5_riftHere_66 rfl fl_X5_233 (Nat.le_of_ble_eq_true rfl) rfl rfl ?_
      refine af_if_ge K 72 83 dX5_riftHere_69 rfl rfl (fun _ => ?_) (fun _ => ?_)
      · exact af_retv K dX5_riftHere_83
      · refine af_aload_n K 73 dX5_riftHere_72 rfl rfl ?_
        refine af_get K 76 dX5_riftHere_73 rfl fl_X5_7 (Nat.le_of_ble_eq_true rfl) rfl rfl ?_
        refine af_iload_n K 77 dX5_riftHere_76 rfl rfl ?_
        refine af_iload_n K 78 dX5_riftHere_77 rfl rfl ?_
        refine af_callS_i K (vs := [.int q3.1, .int 0]) ms_X5_between lk_836 81 dX5_riftHere_78 rfl rfl rfl rfl (A_X5_between _ _ q3.1 0 q3.2) rfl (fun q4 => ?_)
        refine af_iload_n K 82 dX5_riftHere_81 rfl rfl ?_
        refine af_iast K 83 dX5_riftHere_82 rfl (Nat.le_of_ble_eq_true rfl) (fun _ _ => rfl) (fun s5 => ?_)
        exact af_retv K dX5_riftHere_83
    · refine af_aload_n K 53 dX5_riftHere_52 rfl rfl ?_
      refine af_iconst K 54 dX5_riftHere_53 rfl cs_iconst_0 ?_
      refine af_bipush K 56 dX5_riftHere_54 rfl cs_bipush_99 ?_
      refine af_iconst K 57 dX5_riftHere_56 rfl cs_iconst_m1 ?_
      refine af_callV_i K (b := 26) (vs := [.int 0, .int 99, .int (-1)]) mv_X5_numberHere lk_1080 ((hp_at _ (Nat.le_of_ble_eq_true rfl)).trans rfl) rfl 60 dX5_riftHere_57 rfl rfl rfl rfl (A_X5_numberHere _ _ 0 99 (-1) q3.2) rfl (fun q6 => ?_)
      refine af_goto K 64 dX5_riftHere_60 rfl ?_
      refine af_istore_n K 65 [some (.ref 26), some (.int q3.1), some (.int 0), some (.int q6.1)] dX5_riftHere_64 rfl (by rw [hN]; exact Nat.le_of_ble_eq_true rfl) rfl ?_
      refine af_aload_n K 66 dX5_riftHere_65 rfl rfl ?_
      refine af_get K 69 dX5_riftHere_66 rfl fl_X5_233 (Nat.le_of_ble_eq_true rfl) rfl rfl ?_
      refine af_if_ge K 72 83 dX5_riftHere_69 rfl rfl (fun _ => ?_) (fun _ => ?_)
      · exact af_retv K dX5_riftHere_83
      · refine af_aload_n K 73 dX5_riftHere_72 rfl rfl ?_
        refine af_get K 76 dX5_riftHere_73 rfl fl_X5_7 (Nat.le_of_ble_eq_true rfl) rfl rfl ?_
        refine af_iload_n K 77 dX5_riftHere_76 rfl rfl ?_
        refine af_iload_n K 78 dX5_riftHere_77 rfl rfl ?_
        refine af_callS_i K (vs := [.int q3.1, .int 0]) ms_X5_between lk_836 81 dX5_riftHere_78 rfl rfl rfl rfl (A_X5_between _ _ q3.1 0 q6.2) rfl (fun q7 => ?_)
        refine af_iload_n K 82 dX5_riftHere_81 rfl rfl ?_
        refine af_iast K 83 dX5_riftHere_82 rfl (Nat.le_of_ble_eq_true rfl) (fun _ _ => rfl) (fun s8 => ?_)
        exact af_retv K dX5_riftHere_83
  · refine af_aload_n K 27 dX5_riftHere_26 rfl rfl ?_
    refine af_iconst K 28 dX5_riftHere_27 rfl cs_iconst_0 ?_
    refine af_aload_n K 29 dX5_riftHere_28 rfl rfl ?_
    refine af_get K 32 dX5_riftHere_29 rfl fl_X5_7 (Nat.le_of_ble_eq_true rfl) rfl rfl ?_
    refine af_iconst K 33 dX5_riftHere_32 rfl cs_iconst_0 ?_
    refine af_iald K 34 dX5_riftHere_33 rfl (Nat.le_of_ble_eq_true rfl) rfl (fun y9 => ?_)
    refine af_iconst K 35 dX5_riftHere_34 rfl cs_iconst_1 ?_
    refine af_isub K 36 dX5_riftHere_35 rfl ?_
    refine af_iload_n K 37 dX5_riftHere_36 rfl rfl ?_
    refine af_callV_i K (b := 26) (vs := [.int 0, .int (y9 - 1), .int q3.1]) mv_X5_numberHere lk_1080 ((hp_at _ (Nat.le_of_ble_eq_true rfl)).trans rfl) rfl 40 dX5_riftHere_37 rfl rfl rfl rfl (A_X5_numberHere _ _ 0 (y9 - 1) q3.1 q3.2) rfl (fun q10 => ?_)
    refine af_goto K 44 dX5_riftHere_40 rfl ?_
    refine af_istore_n K 45 [some (.ref 26), some (.int q3.1), some (.int q10.1), none] dX5_riftHere_44 rfl (by rw [hN]; exact Nat.le_of_ble_eq_true rfl) rfl ?_
    refine af_aload_n K 46 dX5_riftHere_45 rfl rfl ?_
    refine af_get K 49 dX5_riftHere_46 rfl fl_X5_233 (Nat.le_of_ble_eq_true rfl) rfl rfl ?_
    refine af_if_ge K 52 63 dX5_riftHere_49 rfl rfl (fun _ => ?_) (fun _ => ?_)
    · refine af_iconst K 64 dX5_riftHere_63 rfl cs_iconst_0 ?_
      refine af_istore_n K 65 [some (.ref 26), some (.int q3.1), some (.int q10.1), some (.int 0)] dX5_riftHere_64 rfl (by rw [hN]; exact Nat.le_of_ble_eq_true rfl) rfl ?_
      refine af_aload_n K 66 dX5_riftHere_65 rfl rfl ?_
      refine af_get K 69 dX5_riftHere_66 rfl fl_X5_233 (Nat.le_of_ble_eq_true rfl) rfl rfl ?_
      refine af_if_ge K 72 83 dX5_riftHere_69 rfl rfl (fun _ => ?_) (fun _ => ?_)
      · exact af_retv K dX5_riftHere_83
      · refine af_aload_n K 73 dX5_riftHere_72 rfl rfl ?_
        refine af_get K 76 dX5_riftHere_73 rfl fl_X5_7 (Nat.le_of_ble_eq_true rfl) rfl rfl ?_
        refine af_iload_n K 77 dX5_riftHere_76 rfl rfl ?_
        refine af_iload_n K 78 dX5_riftHere_77 rfl rfl ?_
        refine af_callS_i K (vs := [.int q3.1, .int q10.1]) ms_X5_between lk_836 81 dX5_riftHere_78 rfl rfl rfl rfl (A_X5_between _ _ q3.1 q10.1 q10.2) rfl (fun q11 => ?_)
        refine af_iload_n K 82 dX5_riftHere_81 rfl rfl ?_
        refine af_iast K 83 dX5_riftHere_82 rfl (Nat.le_of_ble_eq_true rfl) (fun _ _ => rfl) (fun s12 => ?_)
        exact af_retv K dX5_riftHere_83
    · refine af_aload_n K 53 dX5_riftHere_52 rfl rfl ?_
      refine af_iconst K 54 dX5_riftHere_53 rfl cs_iconst_0 ?_
      refine af_bipush K 56 dX5_riftHere_54 rfl cs_bipush_99 ?_
      refine af_iconst K 57 dX5_riftHere_56 rfl cs_iconst_m1 ?_
      refine af_callV_i K (b := 26) (vs := [.int 0, .int 99, .int (-1)]) mv_X5_numberHere lk_1080 ((hp_at _ (Nat.le_of_ble_eq_true rfl)).trans rfl) rfl 60 dX5_riftHere_57 rfl rfl rfl rfl (A_X5_numberHere _ _ 0 99 (-1) q10.2) rfl (fun q13 => ?_)
      refine af_goto K 64 dX5_riftHere_60 rfl ?_
      refine af_istore_n K 65 [some (.ref 26), some (.int q3.1), some (.int q10.1), some (.int q13.1)] dX5_riftHere_64 rfl (by rw [hN]; exact Nat.le_of_ble_eq_true rfl) rfl ?_
      refine af_aload_n K 66 dX5_riftHere_65 rfl rfl ?_
      refine af_get K 69 dX5_riftHere_66 rfl fl_X5_233 (Nat.le_of_ble_eq_true rfl) rfl rfl ?_
      refine af_if_ge K 72 83 dX5_riftHere_69 rfl rfl (fun _ => ?_) (fun _ => ?_)
      · exact af_retv K dX5_riftHere_83
      · refine af_aload_n K 73 dX5_riftHere_72 rfl rfl ?_
        refine af_get K 76 dX5_riftHere_73 rfl fl_X5_7 (Nat.le_of_ble_eq_true rfl) rfl rfl ?_
        refine af_iload_n K 77 dX5_riftHere_76 rfl rfl ?_
        refine af_iload_n K 78 dX5_riftHere_77 rfl rfl ?_
        refine af_callS_i K (vs := [.int q3.1, .int q10.1]) ms_X5_between lk_836 81 dX5_riftHere_78 rfl rfl rfl rfl (A_X5_between _ _ q3.1 q10.1 q13.2) rfl (fun q14 => ?_)
        refine af_iload_n K 82 dX5_riftHere_81 rfl rfl ?_
        refine af_iast K 83 dX5_riftHere_82 rfl (Nat.le_of_ble_eq_true rfl) (fun _ _ => rfl) (fun s15 => ?_)
        exact af_retv K dX5_riftHere_83
def F_X5_pairHere  (σ : fk_T) : Option (fk_T) := (F_X5_next_  σ).bind (fun q1 => (F_X5_numberHere 0 5 (-1) q1).bind (fun q2 => if 0 ≤ (q2.2.1 26 12) then (if 0 ≤ (q2.2.1 26 12) then (if 0 ≤ (q2.2.1 26 12) then (some q2.2) else (fk_S q2.2 27 135 (7 + q2.1) ((10 * 0) + 0) (fun s3 => some s3))) else ((F_X5_numberHere 0 7 (-1) q2.2).bind (fun q4 => if 0 ≤ (q4.2.1 26 12) then (some q4.2) else (fk_S q4.2 27 135 (7 + q2.1) ((10 * 0) + q4.1) (fun s5 => some s5))))) else ((F_X5_numberHere 0 7 (-1) q2.2).bind (fun q6 => if 0 ≤ (q6.2.1 26 12) then (if 0 ≤ (q6.2.1 26 12) then (some q6.2) else (fk_S q6.2 27 135 (7 + q2.1) ((10 * q6.1) + 0) (fun s7 => some s7))) else ((F_X5_numberHere 0 7 (-1) q6.2).bind (fun q8 => if 0 ≤ (q8.2.1 26 12) then (some q8.2) else (fk_S q8.2 27 135 (7 + q2.1) ((10 * q6.1) + q8.1) (fun s9 => some s9))))))))
set_option maxRecDepth 100000 in
set_option maxHeartbeats 4000000 in
theorem A_X5_pairHere (X : aw_X) (l : Launch)  (σ : fk_T) : af_G X l mX5_pairHere [.ref 26] (hp σ) ρv (F_X5_pairHere  σ) := by
  refine af_mk (by decide) rfl (fun q _ => aw_okv q) [some (.ref 26), none, none, none] rfl ?_
  rintro cx rfl rfl hN K
  replace hN : aw_nL cx = 4 := hN
  replace K : aw_K cx cX5_pairHere RX5 rX5_pairHere := K
  unfold F_X5_pairHere
  refine af_aload_n K 1 dX5_pairHere_0 rfl rfl ?_
  refine af_callV_v K (b := 26) (vs := []) mv_X5_next_ lk_1029 ((hp_at _ (Nat.le_of_ble_eq_true rfl)).trans rfl) rfl 4 dX5_pairHere_1 rfl rfl rfl rfl (A_X5_next_ _ _ σ) rfl (fun q1 => ?_)
  refine af_aload_n K 5 dX5_pairHere_4 rfl rfl ?_
  refine af_iconst K 6 dX5_pairHere_5 rfl cs_iconst_0 ?_
  refine af_iconst K 7 dX5_pairHere_6 rfl cs_iconst_5 ?_
  refine af_iconst K 8 dX5_pairHere_7 rfl cs_iconst_m1 ?_
  refine af_callV_i K (b := 26) (vs := [.int 0, .int 5, .int (-1)]) mv_X5_numberHere lk_1080 ((hp_at _ (Nat.le_of_ble_eq_true rfl)).trans rfl) rfl 11 dX5_pairHere_8 rfl rfl rfl rfl (A_X5_numberHere _ _ 0 5 (-1) q1) rfl (fun q2 => ?_)
  refine af_istore_n K 12 [some (.ref 26), some (.int q2.1), none, none] dX5_pairHere_11 rfl (by rw [hN]; exact Nat.le_of_ble_eq_true rfl) rfl ?_
  refine af_aload_n K 13 dX5_pairHere_12 rfl rfl ?_
  refine af_get K 16 dX5_pairHere_13 rfl fl_X5_233 (Nat.le_of_ble_eq_true rfl) rfl rfl ?_
  refine af_if_ge K 19 30 dX5_pairHere_16 rfl rfl (fun _ => ?_) (fun _ => ?_)
  · refine af_iconst K 31 dX5_pairHere_30 rfl cs_iconst_0 ?_
    refine af_istore_n K 32 [some (.ref 26), some (.int q2.1), some (.int 0), none] dX5_pairHere_31 rfl (by rw [hN]; exact Nat.le_of_ble_eq_true rfl) rfl ?_
    refine af_aload_n K 33 dX5_pairHere_32 rfl rfl ?_
    refine af_get K 36 dX5_pairHere_33 rfl fl_X5_233 (Nat.le_of_ble_eq_true rfl) rfl rfl ?_
    refine af_if_ge K 39 50 dX5_pairHere_36 rfl rfl (fun _ => ?_) (fun _ => ?_)
    · refine af_iconst K 51 dX5_pairHere_50 rfl cs_iconst_0 ?_
      refine af_istore_n K 52 [some (.ref 26), some (.int q2.1), some (.int 0), some (.int 0)] dX5_pairHere_51 rfl (by rw [hN]; exact Nat.le_of_ble_eq_true rfl) rfl ?_
      refine af_aload_n K 53 dX5_pairHere_52 rfl rfl ?_
      refine af_get K 56 dX5_pairHere_53 rfl fl_X5_233 (Nat.le_of_ble_eq_true rfl) rfl rfl ?_
      refine af_if_ge K 59 74 dX5_pairHere_56 rfl rfl (fun _ => ?_) (fun _ => ?_)
      · exact af_retv K dX5_pairHere_74
      · refine af_aload_n K 60 dX5_pairHere_59 rfl rfl ?_
        refine af_get K 63 dX5_pairHere_60 rfl fl_X5_7 (Nat.le_of_ble_eq_true rfl) rfl rfl ?_
        refine af_bipush K 65 dX5_pairHere_63 rfl cs_bipush_7 ?_
        refine af_iload_n K 66 dX5_pairHere_65 rfl rfl ?_
        refine af_iadd K 67 dX5_pairHere_66 rfl ?_
        refine af_bipush K 69 dX5_pairHere_67 rfl cs_bipush_10 ?_
        refine af_iload_n K 70 dX5_pairHere_69 rfl rfl ?_
        refine af_imul K 71 dX5_pairHere_70 rfl ?_
        refine af_iload_n K 72 dX5_pairHere_71 rfl rfl ?_
        refine af_iadd K 73 dX5_pairHere_72 rfl ?_
        refine af_iast K 74 dX5_pairHere_73 rfl (Nat.le_of_ble_eq_true rfl) (fun _ _ => rfl) (fun s3 => ?_)
        exact af_retv K dX5_pairHere_74
    · refine af_aload_n K 40 dX5_pairHere_39 rfl rfl ?_
      refine af_iconst K 41 dX5_pairHere_40 rfl cs_iconst_0 ?_
      refine af_bipush K 43 dX5_pairHere_41 rfl cs_bipush_7 ?_
      refine af_iconst K 44 dX5_pairHere_43 rfl cs_iconst_m1 ?_
      refine af_callV_i K (b := 26) (vs := [.int 0, .int 7, .int (-1)]) mv_X5_numberHere lk_1080 ((hp_at _ (Nat.le_of_ble_eq_true rfl)).trans rfl) rfl 47 dX5_pairHere_44 rfl rfl rfl rfl (A_X5_numberHere _ _ 0 7 (-1) q2.2) rfl (fun q4 => ?_)
      refine af_goto K 51 dX5_pairHere_47 rfl ?_
      refine af_istore_n K 52 [some (.ref 26), some (.int q2.1), some (.int 0), some (.int q4.1)] dX5_pairHere_51 rfl (by rw [hN]; exact Nat.le_of_ble_eq_true rfl) rfl ?_
      refine af_aload_n K 53 dX5_pairHere_52 rfl rfl ?_
      refine af_get K 56 dX5_pairHere_53 rfl fl_X5_233 (Nat.le_of_ble_eq_true rfl) rfl rfl ?_
      refine af_if_ge K 59 74 dX5_pairHere_56 rfl rfl (fun _ => ?_) (fun _ => ?_)
      · exact af_retv K dX5_pairHere_74
      · refine af_aload_n K 60 dX5_pairHere_59 rfl rfl ?_
        refine af_get K 63 dX5_pairHere_60 rfl fl_X5_7 (Nat.le_of_ble_eq_true rfl) rfl rfl ?_
        refine af_bipush K 65 dX5_pairHere_63 rfl cs_bipush_7 ?_
        refine af_iload_n K 66 dX5_pairHere_65 rfl rfl ?_
        refine af_iadd K 67 dX5_pairHere_66 rfl ?_
        refine af_bipush K 69 dX5_pairHere_67 rfl cs_bipush_10 ?_
        refine af_iload_n K 70 dX5_pairHere_69 rfl rfl ?_
        refine af_imul K 71 dX5_pairHere_70 rfl ?_
        refine af_iload_n K 72 dX5_pairHere_71 rfl rfl ?_
        refine af_iadd K 73 dX5_pairHere_72 rfl ?_
        refine af_iast K 74 dX5_pairHere_73 rfl (Nat.le_of_ble_eq_true rfl) (fun _ _ => rfl) (fun s5 => ?_)
        exact af_retv K dX5_pairHere_74
  · refine af_aload_n K 20 dX5_pairHere_19 rfl rfl ?_
    refine af_iconst K 21 dX5_pairHere_20 rfl cs_iconst_0 ?_
    refine af_bipush K 23 dX5_pairHere_21 rfl cs_bipush_7 ?_
    refine af_iconst K 24 dX5_pairHere_23 rfl cs_iconst_m1 ?_
    refine af_callV_i K (b := 26) (vs := [.int 0, .int 7, .int (-1)]) mv_X5_numberHere lk_1080 ((hp_at _ (Nat.le_of_ble_eq_true rfl)).trans rfl) rfl 27 dX5_pairHere_24 rfl rfl rfl rfl (A_X5_numberHere _ _ 0 7 (-1) q2.2) rfl (fun q6 => ?_)
    refine af_goto K 31 dX5_pairHere_27 rfl ?_
    refine af_istore_n K 32 [some (.ref 26), some (.int q2.1), some (.int q6.1), none] dX5_pairHere_31 rfl (by rw [hN]; exact Nat.le_of_ble_eq_true rfl) rfl ?_
    refine af_aload_n K 33 dX5_pairHere_32 rfl rfl ?_
    refine af_get K 36 dX5_pairHere_33 rfl fl_X5_233 (Nat.le_of_ble_eq_true rfl) rfl rfl ?_
    refine af_if_ge K 39 50 dX5_pairHere_36 rfl rfl (fun _ => ?_) (fun _ => ?_)
    · refine af_iconst K 51 dX5_pairHere_50 rfl cs_iconst_0 ?_
      refine af_istore_n K 52 [some (.ref 26), some (.int q2.1), some (.int q6.1), some (.int 0)] dX5_pairHere_51 rfl (by rw [hN]; exact Nat.le_of_ble_eq_true rfl) rfl ?_
      refine af_aload_n K 53 dX5_pairHere_52 rfl rfl ?_
      refine af_get K 56 dX5_pairHere_53 rfl fl_X5_233 (Nat.le_of_ble_eq_true rfl) rfl rfl ?_
      refine af_if_ge K 59 74 dX5_pairHere_56 rfl rfl (fun _ => ?_) (fun _ => ?_)
      · exact af_retv K dX5_pairHere_74
      · refine af_aload_n K 60 dX5_pairHere_59 rfl rfl ?_
        refine af_get K 63 dX5_pairHere_60 rfl fl_X5_7 (Nat.le_of_ble_eq_true rfl) rfl rfl ?_
        refine af_bipush K 65 dX5_pairHere_63 rfl cs_bipush_7 ?_
        refine af_iload_n K 66 dX5_pairHere_65 rfl rfl ?_
        refine af_iadd K 67 dX5_pairHere_66 rfl ?_
        refine af_bipush K 69 dX5_pairHere_67 rfl cs_bipush_10 ?_
        refine af_iload_n K 70 dX5_pairHere_69 rfl rfl ?_
        refine af_imul K 71 dX5_pairHere_70 rfl ?_
        refine af_iload_n K 72 dX5_pairHere_71 rfl rfl ?_
        refine af_iadd K 73 dX5_pairHere_72 rfl ?_
        refine af_iast K 74 dX5_pairHere_73 rfl (Nat.le_of_ble_eq_true rfl) (fun _ _ => rfl) (fun s7 => ?_)
        exact af_retv K dX5_pairHere_74
    · refine af_aload_n K 40 dX5_pairHere_39 rfl rfl ?_
      refine af_iconst K 41 dX5_pairHere_40 rfl cs_iconst_0 ?_
      refine af_bipush K 43 dX5_pairHere_41 rfl cs_bipush_7 ?_
      refine af_iconst K 44 dX5_pairHere_43 rfl cs_iconst_m1 ?_
      refine af_callV_i K (b := 26) (vs := [.int 0, .int 7, .int (-1)]) mv_X5_numberHere lk_1080 ((hp_at _ (Nat.le_of_ble_eq_true rfl)).trans rfl) rfl 47 dX5_pairHere_44 rfl rfl rfl rfl (A_X5_numberHere _ _ 0 7 (-1) q6.2) rfl (fun q8 => ?_)
      refine af_goto K 51 dX5_pairHere_47 rfl ?_
      refine af_istore_n K 52 [some (.ref 26), some (.int q2.1), some (.int q6.1), some (.int q8.1)] dX5_pairHere_51 rfl (by rw [hN]; exact Nat.le_of_ble_eq_true rfl) rfl ?_
      refine af_aload_n K 53 dX5_pairHere_52 rfl rfl ?_
      refine af_get K 56 dX5_pairHere_53 rfl fl_X5_233 (Nat.le_of_ble_eq_true rfl) rfl rfl ?_
      refine af_if_ge K 59 74 dX5_pairHere_56 rfl rfl (fun _ => ?_) (fun _ => ?_)
      · exact af_retv K dX5_pairHere_74
      · refine af_aload_n K 60 dX5_pairHere_59 rfl rfl ?_
        refine af_get K 63 dX5_pairHere_60 rfl fl_X5_7 (Nat.le_of_ble_eq_true rfl) rfl rfl ?_
        refine af_bipush K 65 dX5_pairHere_63 rfl cs_bipush_7 ?_
        refine af_iload_n K 66 dX5_pairHere_65 rfl rfl ?_
        refine af_iadd K 67 dX5_pairHere_66 rfl ?_
        refine af_bipush K 69 dX5_pairHere_67 rfl cs_bipush_10 ?_
        refine af_iload_n K 70 dX5_pairHere_69 rfl rfl ?_
        refine af_imul K 71 dX5_pairHere_70 rfl ?_
        refine af_iload_n K 72 dX5_pairHere_71 rfl rfl ?_
        refine af_iadd K 73 dX5_pairHere_72 rfl ?_
        refine af_iast K 74 dX5_pairHere_73 rfl (Nat.le_of_ble_eq_true rfl) (fun _ _ => rfl) (fun s9 => ?_)
        exact af_retv K dX5_pairHere_74
def F_X5_item  (σ : fk_T) : Option (fk_T) := (F_X5_kindHere  σ).bind (fun q1 => if q1.1 < 0 then ((F_X5_isWord 361037 q1.2).bind (fun q2 => if (fk_b q2.1) = 0 then ((F_X5_isWord 315918 q2.2).bind (fun q3 => if (fk_b q3.1) = 0 then ((F_X5_isWord 67849 q3.2).bind (fun q4 => if (fk_b q4.1) = 0 then ((F_X5_wrongHere  q4.2).bind (fun q5 => some q5)) else ((F_X5_next_  q4.2).bind (fun q6 => (F_X5_numberHere 1 20 (-1) q6).bind (fun q7 => fk_S q7.2 27 135 3 q7.1 (fun s8 => some s8)))))) else ((F_X5_pairHere  q3.2).bind (fun q9 => some q9)))) else ((F_X5_riftHere  q2.2).bind (fun q10 => some q10)))) else ((F_X5_potterHere q1.1 q1.2).bind (fun q11 => some q11)))
set_option maxRecDepth 100000 in
set_option maxHeartbeats 4000000 in
theorem A_X5_item (X : aw_X) (l : Launch)  (σ : fk_T) : af_G X l mX5_item [.ref 26] (hp σ) ρv (F_X5_item  σ) := by
  refine af_mk (by decide) rfl (fun q _ => aw_okv q) [some (.ref 26), none] rfl ?_
  rintro cx rfl rfl hN K
  replace hN : aw_nL cx = 2 := hN
  replace K : aw_K cx cX5_item RX5 rX5_item := K
  unfold F_X5_item
  refine af_aload_n K 1 dX5_item_0 rfl rfl ?_
  refine af_callV_i K (b := 26) (vs := []) mv_X5_kindHere lk_1052 ((hp_at _ (Nat.le_of_ble_eq_true rfl)).trans rfl) rfl 4 dX5_item_1 rfl rfl rfl rfl (A_X5_kindHere _ _ σ) rfl (fun q1 => ?_)
  refine af_istore_n K 5 [some (.ref 26), some (.int q1.1)] dX5_item_4 rfl (by rw [hN]; exact Nat.le_of_ble_eq_true rfl) rfl ?_
  refine af_iload_n K 6 dX5_item_5 rfl rfl ?_
  refine af_if_lt K 9 17 dX5_item_6 rfl rfl (fun _ => ?_) (fun _ => ?_)
  · refine af_aload_n K 18 dX5_item_17 rfl rfl ?_
    refine af_ldc2 K 21 dX5_item_18 rfl lk_1086 ?_
    refine af_callV_z K (b := 26) (vs := [.long 361037]) mv_X5_isWord lk_1057 ((hp_at _ (Nat.le_of_ble_eq_true rfl)).trans rfl) rfl 24 dX5_item_21 rfl rfl rfl rfl (A_X5_isWord _ _ 361037 q1.2) rfl (fun q2 => ?_)
    refine af_if_eq K 27 34 dX5_item_24 rfl rfl (fun _ => ?_) (fun _ => ?_)
    · refine af_aload_n K 35 dX5_item_34 rfl rfl ?_
      refine af_ldc2 K 38 dX5_item_35 rfl lk_1091 ?_
      refine af_callV_z K (b := 26) (vs := [.long 315918]) mv_X5_isWord lk_1057 ((hp_at _ (Nat.le_of_ble_eq_true rfl)).trans rfl) rfl 41 dX5_item_38 rfl rfl rfl rfl (A_X5_isWord _ _ 315918 q2.2) rfl (fun q3 => ?_)
      refine af_if_eq K 44 51 dX5_item_41 rfl rfl (fun _ => ?_) (fun _ => ?_)
      · refine af_aload_n K 52 dX5_item_51 rfl rfl ?_
        refine af_ldc2 K 55 dX5_item_52 rfl lk_1096 ?_
        refine af_callV_z K (b := 26) (vs := [.long 67849]) mv_X5_isWord lk_1057 ((hp_at _ (Nat.le_of_ble_eq_true rfl)).trans rfl) rfl 58 dX5_item_55 rfl rfl rfl rfl (A_X5_isWord _ _ 67849 q3.2) rfl (fun q4 => ?_)
        refine af_if_eq K 61 82 dX5_item_58 rfl rfl (fun _ => ?_) (fun _ => ?_)
        · refine af_aload_n K 83 dX5_item_82 rfl rfl ?_
          refine af_callV_v K (b := 26) (vs := []) mv_X5_wrongHere lk_1071 ((hp_at _ (Nat.le_of_ble_eq_true rfl)).trans rfl) rfl 86 dX5_item_83 rfl rfl rfl rfl (A_X5_wrongHere _ _ q4.2) rfl (fun q5 => ?_)
          exact af_retv K dX5_item_86
        · refine af_aload_n K 62 dX5_item_61 rfl rfl ?_
          refine af_callV_v K (b := 26) (vs := []) mv_X5_next_ lk_1029 ((hp_at _ (Nat.le_of_ble_eq_true rfl)).trans rfl) rfl 65 dX5_item_62 rfl rfl rfl rfl (A_X5_next_ _ _ q4.2) rfl (fun q6 => ?_)
          refine af_aload_n K 66 dX5_item_65 rfl rfl ?_
          refine af_get K 69 dX5_item_66 rfl fl_X5_7 (Nat.le_of_ble_eq_true rfl) rfl rfl ?_
          refine af_iconst K 70 dX5_item_69 rfl cs_iconst_3 ?_
          refine af_aload_n K 71 dX5_item_70 rfl rfl ?_
          refine af_iconst K 72 dX5_item_71 rfl cs_iconst_1 ?_
          refine af_bipush K 74 dX5_item_72 rfl cs_bipush_20 ?_
          refine af_iconst K 75 dX5_item_74 rfl cs_iconst_m1 ?_
          refine af_callV_i K (b := 26) (vs := [.int 1, .int 20, .int (-1)]) mv_X5_numberHere lk_1080 ((hp_at _ (Nat.le_of_ble_eq_true rfl)).trans rfl) rfl 78 dX5_item_75 rfl rfl rfl rfl (A_X5_numberHere _ _ 1 20 (-1) q6) rfl (fun q7 => ?_)
          refine af_iast K 79 dX5_item_78 rfl (Nat.le_of_ble_eq_true rfl) (fun _ _ => rfl) (fun s8 => ?_)
          refine af_goto K 86 dX5_item_79 rfl ?_
          exact af_retv K dX5_item_86
      · refine af_aload_n K 45 dX5_item_44 rfl rfl ?_
        refine af_callV_v K (b := 26) (vs := []) mv_X5_pairHere lk_1092 ((hp_at _ (Nat.le_of_ble_eq_true rfl)).trans rfl) rfl 48 dX5_item_45 rfl rfl rfl rfl (A_X5_pairHere _ _ q3.2) rfl (fun q9 => ?_)
        refine af_goto K 86 dX5_item_48 rfl ?_
        exact af_retv K dX5_item_86
    · refine af_aload_n K 28 dX5_item_27 rfl rfl ?_
      refine af_callV_v K (b := 26) (vs := []) mv_X5_riftHere lk_1087 ((hp_at _ (Nat.le_of_ble_eq_true rfl)).trans rfl) rfl 31 dX5_item_28 rfl rfl rfl rfl (A_X5_riftHere _ _ q2.2) rfl (fun q10 => ?_)
      refine af_goto K 86 dX5_item_31 rfl ?_
      exact af_retv K dX5_item_86
  · refine af_aload_n K 10 dX5_item_9 rfl rfl ?_
    refine af_iload_n K 11 dX5_item_10 rfl rfl ?_
    refine af_callV_v K (b := 26) (vs := [.int q1.1]) mv_X5_potterHere lk_1067 ((hp_at _ (Nat.le_of_ble_eq_true rfl)).trans rfl) rfl 14 dX5_item_11 rfl rfl rfl rfl (A_X5_potterHere _ _ q1.1 q1.2) rfl (fun q11 => ?_)
    refine af_goto K 86 dX5_item_14 rfl ?_
    exact af_retv K dX5_item_86
def L_X5_items_20  : Nat → Int32 → fk_T → (Int32 → fk_T → Option (Int32 × fk_T)) → Option (Int32 × fk_T)
  | 0, _, _, _ => none
  | fu + 1, x1, σ, k => if 0 ≤ (σ.1 26 12) then (k x1 σ) else (if (σ.1 26 9) = 3 then ((F_X5_next_  σ).bind (fun q5 => (F_X5_item  q5).bind (fun q6 => fk_B (x1 + 1) (fun y7 => L_X5_items_20 fu y7 q6 k)))) else (k x1 σ))
def F_X5_items  (σ : fk_T) : Option (Int32 × fk_T) := fk_B (fk_w σ 26 (upd (σ.1 26) 8 0)) (fun s1 => fk_B (fk_w s1 26 (upd (s1.1 26) 12 (-1))) (fun s2 => (F_X5_next_  s2).bind (fun q3 => (F_X5_item  q3).bind (fun q4 => L_X5_items_20 fk_N 1 q4 (fun y9 s8 => if 0 ≤ (s8.1 26 12) then (some (y9, s8)) else (if (s8.1 26 9) = 0 then (some (y9, s8)) else ((F_X5_wrongHere  s8).bind (fun q10 => some (y9, q10)))))))))
set_option maxRecDepth 100000 in
set_option maxHeartbeats 4000000 in
theorem W_X5_items_20 {cx : aw_C} (hN : aw_nL cx = 2) (K : aw_K cx cX5_items RX5 rX5_items)  : ∀ (fu : Nat) (x1 : Int32) (σ : fk_T) (k : Int32 → fk_T → Option (Int32 × fk_T)), (∀ (x1 : Int32) (σ : fk_T), af cx ρi 49 [some (.ref 26), some (.int x1)] [] (hp σ) (k x1 σ)) → af cx ρi 20 [some (.ref 26), some (.int x1)] [] (hp σ) (L_X5_items_20 fu x1 σ k) := by
  intro fu
  induction fu with
  | zero => intros; exact af_none
  | succ fu ih20 =>
    intro x1 σ k hk20
    rw [L_X5_items_20]
    refine af_aload_n K 21 dX5_items_20 rfl rfl ?_
    refine af_get K 24 dX5_items_21 rfl fl_X5_233 (Nat.le_of_ble_eq_true rfl) rfl rfl ?_
    refine af_if_ge K 27 49 dX5_items_24 rfl rfl (fun _ => ?_) (fun _ => ?_)
    · refine af_lm [true, true] rfl ?_
      exact hk20 _ _
    · refine af_aload_n K 28 dX5_items_27 rfl rfl ?_
      refine af_get K 31 dX5_items_28 rfl fl_X5_214 (Nat.le_of_ble_eq_true rfl) rfl rfl ?_
      refine af_iconst K 32 dX5_items_31 rfl cs_iconst_3 ?_
      refine af_icmp_ne K 35 49 dX5_items_32 rfl rfl (fun _ => ?_) (fun _ => ?_)
      · refine af_lm [true, true] rfl ?_
        exact hk20 _ _
      · refine af_aload_n K 36 dX5_items_35 rfl rfl ?_
        refine af_callV_v K (b := 26) (vs := []) mv_X5_next_ lk_1029 ((hp_at _ (Nat.le_of_ble_eq_true rfl)).trans rfl) rfl 39 dX5_items_36 rfl rfl rfl rfl (A_X5_next_ _ _ σ) rfl (fun q5 => ?_)
        refine af_aload_n K 40 dX5_items_39 rfl rfl ?_
        refine af_callV_v K (b := 26) (vs := []) mv_X5_item lk_1048 ((hp_at _ (Nat.le_of_ble_eq_true rfl)).trans rfl) rfl 43 dX5_items_40 rfl rfl rfl rfl (A_X5_item _ _ q5) rfl (fun q6 => ?_)
        refine af_iincB K 46 (fun yy => [some (.ref 26), some (.int yy)]) dX5_items_43 rfl (by rw [hN]; exact Nat.le_of_ble_eq_true rfl) rfl cs_iconst_1 (fun _ => rfl) (fun y7 => ?_)
        refine af_goto K 20 dX5_items_46 rfl ?_
        refine af_lm [true, true] rfl ?_
        exact ih20 _ _ _ hk20
set_option maxRecDepth 100000 in
set_option maxHeartbeats 4000000 in
theorem A_X5_items (X : aw_X) (l : Launch)  (σ : fk_T) : af_G X l mX5_items [.ref 26] (hp σ) ρi (F_X5_items  σ) := by
  refine af_mk (by decide) rfl (fun q _ => aw_oki q) [some (.ref 26), none] rfl ?_
  rintro cx rfl rfl hN K
  replace hN : aw_nL cx = 2 := hN
  replace K : aw_K cx cX5_items RX5 rX5_items := K
  unfold F_X5_items
  refine af_aload_n K 1 dX5_items_0 rfl rfl ?_
  refine af_iconst K 2 dX5_items_1 rfl cs_iconst_0 ?_
  refine af_put K 5 dX5_items_2 rfl fp_X5_201 (Nat.le_of_ble_eq_true rfl) rfl (Nat.le_of_ble_eq_true rfl) rfl (fun s1 => ?_)
  refine af_aload_n K 6 dX5_items_5 rfl rfl ?_
  refine af_iconst K 7 dX5_items_6 rfl cs_iconst_m1 ?_
  refine af_put K 10 dX5_items_7 rfl fp_X5_233 (Nat.le_of_ble_eq_true rfl) rfl (Nat.le_of_ble_eq_true rfl) rfl (fun s2 => ?_)
  refine af_aload_n K 11 dX5_items_10 rfl rfl ?_
  refine af_callV_v K (b := 26) (vs := []) mv_X5_next_ lk_1029 ((hp_at _ (Nat.le_of_ble_eq_true rfl)).trans rfl) rfl 14 dX5_items_11 rfl rfl rfl rfl (A_X5_next_ _ _ s2) rfl (fun q3 => ?_)
  refine af_aload_n K 15 dX5_items_14 rfl rfl ?_
  refine af_callV_v K (b := 26) (vs := []) mv_X5_item lk_1048 ((hp_at _ (Nat.le_of_ble_eq_true rfl)).trans rfl) rfl 18 dX5_items_15 rfl rfl rfl rfl (A_X5_item _ _ q3) rfl (fun q4 => ?_)
  refine af_iconst K 19 dX5_items_18 rfl cs_iconst_1 ?_
  refine af_istore_n K 20 [some (.ref 26), some (.int 1)] dX5_items_19 rfl (by rw [hN]; exact Nat.le_of_ble_eq_true rfl) rfl ?_
  refine af_lm [true, true] rfl ?_
  refine W_X5_items_20 hN K  fk_N _ _ _ (fun y9 s8 => ?_)
  refine af_aload_n K 50 dX5_items_49 rfl rfl ?_
  refine af_get K 53 dX5_items_50 rfl fl_X5_233 (Nat.le_of_ble_eq_true rfl) rfl rfl ?_
  refine af_if_ge K 56 67 dX5_items_53 rfl rfl (fun _ => ?_) (fun _ => ?_)
  · refine af_iload_n K 68 dX5_items_67 rfl rfl ?_
    exact af_reti K dX5_items_68
  · refine af_aload_n K 57 dX5_items_56 rfl rfl ?_
    refine af_get K 60 dX5_items_57 rfl fl_X5_214 (Nat.le_of_ble_eq_true rfl) rfl rfl ?_
    refine af_if_eq K 63 67 dX5_items_60 rfl rfl (fun _ => ?_) (fun _ => ?_)
    · refine af_iload_n K 68 dX5_items_67 rfl rfl ?_
      exact af_reti K dX5_items_68
    · refine af_aload_n K 64 dX5_items_63 rfl rfl ?_
      refine af_callV_v K (b := 26) (vs := []) mv_X5_wrongHere lk_1071 ((hp_at _ (Nat.le_of_ble_eq_true rfl)).trans rfl) rfl 67 dX5_items_64 rfl rfl rfl rfl (A_X5_wrongHere _ _ s8) rfl (fun q10 => ?_)
      refine af_iload_n K 68 dX5_items_67 rfl rfl ?_
      exact af_reti K dX5_items_68
def F_X5_text  (σ : fk_T) : Option (Int32 × fk_T) := (F_X5_copies 27 28 σ).bind (fun q1 => (F_X5_items  q1).bind (fun q2 => fk_B (fk_w q2.2 26 (upd (q2.2.1 26) 7 0)) (fun s3 => if (s3.1 26 12) < 0 then (some (q2.1, s3)) else ((F_X5_copies 28 27 s3).bind (fun q4 => some (((-1) - (q4.1 26 12)), q4))))))
set_option maxRecDepth 100000 in
set_option maxHeartbeats 4000000 in
theorem A_X5_text (X : aw_X) (l : Launch)  (σ : fk_T) : af_G X l mX5_text [.ref 26] (hp σ) ρi (F_X5_text  σ) := by
  refine af_mk (by decide) rfl (fun q _ => aw_oki q) [some (.ref 26), none] rfl ?_
  rintro cx rfl rfl hN K
  replace hN : aw_nL cx = 2 := hN
  replace K : aw_K cx cX5_text RX5 rX5_text := K
  unfold F_X5_text
  refine af_aload_n K 1 dX5_text_0 rfl rfl ?_
  refine af_get K 4 dX5_text_1 rfl fl_X5_7 (Nat.le_of_ble_eq_true rfl) rfl rfl ?_
  refine af_aload_n K 5 dX5_text_4 rfl rfl ?_
  refine af_get K 8 dX5_text_5 rfl fl_X5_13 (Nat.le_of_ble_eq_true rfl) rfl rfl ?_
  refine af_callS_v K (vs := [.ref 27, .ref 28]) ms_X5_copies lk_910 11 dX5_text_8 rfl rfl rfl rfl (A_X5_copies _ _ 27 (Or.inl rfl) 28 (Or.inr (Or.inl rfl)) σ) rfl (fun q1 => ?_)
  refine af_aload_n K 12 dX5_text_11 rfl rfl ?_
  refine af_callV_i K (b := 26) (vs := []) mv_X5_items lk_1025 ((hp_at _ (Nat.le_of_ble_eq_true rfl)).trans rfl) rfl 15 dX5_text_12 rfl rfl rfl rfl (A_X5_items _ _ q1) rfl (fun q2 => ?_)
  refine af_istore_n K 16 [some (.ref 26), some (.int q2.1)] dX5_text_15 rfl (by rw [hN]; exact Nat.le_of_ble_eq_true rfl) rfl ?_
  refine af_aload_n K 17 dX5_text_16 rfl rfl ?_
  refine af_iconst K 18 dX5_text_17 rfl cs_iconst_0 ?_
  refine af_put K 21 dX5_text_18 rfl fp_X5_197 (Nat.le_of_ble_eq_true rfl) rfl (Nat.le_of_ble_eq_true rfl) rfl (fun s3 => ?_)
  refine af_aload_n K 22 dX5_text_21 rfl rfl ?_
  refine af_get K 25 dX5_text_22 rfl fl_X5_233 (Nat.le_of_ble_eq_true rfl) rfl rfl ?_
  refine af_if_lt K 28 46 dX5_text_25 rfl rfl (fun _ => ?_) (fun _ => ?_)
  · refine af_iload_n K 47 dX5_text_46 rfl rfl ?_
    exact af_reti K dX5_text_47
  · refine af_aload_n K 29 dX5_text_28 rfl rfl ?_
    refine af_get K 32 dX5_text_29 rfl fl_X5_13 (Nat.le_of_ble_eq_true rfl) rfl rfl ?_
    refine af_aload_n K 33 dX5_text_32 rfl rfl ?_
    refine af_get K 36 dX5_text_33 rfl fl_X5_7 (Nat.le_of_ble_eq_true rfl) rfl rfl ?_
    refine af_callS_v K (vs := [.ref 28, .ref 27]) ms_X5_copies lk_910 39 dX5_text_36 rfl rfl rfl rfl (A_X5_copies _ _ 28 (Or.inr (Or.inl rfl)) 27 (Or.inl rfl) s3) rfl (fun q4 => ?_)
    refine af_iconst K 40 dX5_text_39 rfl cs_iconst_m1 ?_
    refine af_aload_n K 41 dX5_text_40 rfl rfl ?_
    refine af_get K 44 dX5_text_41 rfl fl_X5_233 (Nat.le_of_ble_eq_true rfl) rfl rfl ?_
    refine af_isub K 45 dX5_text_44 rfl ?_
    exact af_reti K dX5_text_45
def F_X5_hold (x1 : Int32) (x2 : Int32) (σ : fk_T) : Option (Int32 × fk_T) := (F_X5_in (x1.toInt64) 0 9 σ).bind (fun q1 => if (fk_b q1.1) = 0 then ((F_X5_finds 0 q1.2).bind (fun q2 => some (q2.1, q2.2))) else (fk_A (q1.2.1 27) 135 0 (fun y3 => (F_X5_in (x2.toInt64) (-1) ((y3 - 1).toInt64) q1.2).bind (fun q4 => if (fk_b q4.1) = 0 then ((F_X5_finds 0 q4.2).bind (fun q6 => some (q6.1, q6.2))) else (fk_S q4.2 27 135 (125 + x1) (x2 + 1) (fun s5 => some (1, s5)))))))
set_option maxRecDepth 100000 in
set_option maxHeartbeats 4000000 in
theorem A_X5_hold (X : aw_X) (l : Launch) (x1 : Int32) (x2 : Int32) (σ : fk_T) : af_G X l mX5_hold [.ref 26, .int x1, .int x2] (hp σ) ρi (F_X5_hold x1 x2 σ) := by
  refine af_mk (by decide) rfl (fun q _ => aw_oki q) [some (.ref 26), some (.int x1), some (.int x2)] rfl ?_
  rintro cx rfl rfl hN K
  replace hN : aw_nL cx = 3 := hN
  replace K : aw_K cx cX5_hold RX5 rX5_hold := K
  unfold F_X5_hold
  refine af_iload_n K 1 dX5_hold_0 rfl rfl ?_
  refine af_i2l K 2 dX5_hold_1 rfl ?_
  refine af_lconst K 3 dX5_hold_2 rfl cs_lconst_0 ?_
  refine af_ldc2 K 6 dX5_hold_3 rfl lk_797 ?_
  refine af_callS_z K (vs := [.long (x1.toInt64), .long 0, .long 9]) ms_X5_in lk_753 9 dX5_hold_6 rfl rfl rfl rfl (A_X5_in _ _ (x1.toInt64) 0 9 σ) rfl (fun q1 => ?_)
  refine af_if_eq K 12 32 dX5_hold_9 rfl rfl (fun _ => ?_) (fun _ => ?_)
  · refine af_aload_n K 33 dX5_hold_32 rfl rfl ?_
    refine af_iconst K 34 dX5_hold_33 rfl cs_iconst_0 ?_
    refine af_callV_i K (b := 26) (vs := [.int 0]) mv_X5_finds lk_760 ((hp_at _ (Nat.le_of_ble_eq_true rfl)).trans rfl) rfl 37 dX5_hold_34 rfl rfl rfl rfl (A_X5_finds _ _ 0 q1.2) rfl (fun q2 => ?_)
    exact af_reti K dX5_hold_37
  · refine af_iload_n K 13 dX5_hold_12 rfl rfl ?_
    refine af_i2l K 14 dX5_hold_13 rfl ?_
    refine af_ldc2 K 17 dX5_hold_14 rfl lk_1101 ?_
    refine af_aload_n K 18 dX5_hold_17 rfl rfl ?_
    refine af_get K 21 dX5_hold_18 rfl fl_X5_7 (Nat.le_of_ble_eq_true rfl) rfl rfl ?_
    refine af_iconst K 22 dX5_hold_21 rfl cs_iconst_0 ?_
    refine af_iald K 23 dX5_hold_22 rfl (Nat.le_of_ble_eq_true rfl) rfl (fun y3 => ?_)
    refine af_iconst K 24 dX5_hold_23 rfl cs_iconst_1 ?_
    refine af_isub K 25 dX5_hold_24 rfl ?_
    refine af_i2l K 26 dX5_hold_25 rfl ?_
    refine af_callS_z K (vs := [.long (x2.toInt64), .long (-1), .long ((y3 - 1).toInt64)]) ms_X5_in lk_753 29 dX5_hold_26 rfl rfl rfl rfl (A_X5_in _ _ (x2.toInt64) (-1) ((y3 - 1).toInt64) q1.2) rfl (fun q4 => ?_)
    refine af_if_ne K 32 38 dX5_hold_29 rfl rfl (fun _ => ?_) (fun _ => ?_)
    · refine af_aload_n K 39 dX5_hold_38 rfl rfl ?_
      refine af_get K 42 dX5_hold_39 rfl fl_X5_7 (Nat.le_of_ble_eq_true rfl) rfl rfl ?_
      refine af_bipush K 44 dX5_hold_42 rfl cs_bipush_125 ?_
      refine af_iload_n K 45 dX5_hold_44 rfl rfl ?_
      refine af_iadd K 46 dX5_hold_45 rfl ?_
      refine af_iload_n K 47 dX5_hold_46 rfl rfl ?_
      refine af_iconst K 48 dX5_hold_47 rfl cs_iconst_1 ?_
      refine af_iadd K 49 dX5_hold_48 rfl ?_
      refine af_iast K 50 dX5_hold_49 rfl (Nat.le_of_ble_eq_true rfl) (fun _ _ => rfl) (fun s5 => ?_)
      refine af_iconst K 51 dX5_hold_50 rfl cs_iconst_1 ?_
      exact af_reti K dX5_hold_51
    · refine af_aload_n K 33 dX5_hold_32 rfl rfl ?_
      refine af_iconst K 34 dX5_hold_33 rfl cs_iconst_0 ?_
      refine af_callV_i K (b := 26) (vs := [.int 0]) mv_X5_finds lk_760 ((hp_at _ (Nat.le_of_ble_eq_true rfl)).trans rfl) rfl 37 dX5_hold_34 rfl rfl rfl rfl (A_X5_finds _ _ 0 q4.2) rfl (fun q6 => ?_)
      exact af_reti K dX5_hold_37
def F_X5_above (x0 : Int32) (σ : fk_T) : Option (Int32 × fk_T) := if x0 = 3 then (some (1, σ)) else (if x0 = 4 then (some (3, σ)) else (if x0 = 6 then (some (2, σ)) else (some (0, σ))))
set_option maxRecDepth 100000 in
set_option maxHeartbeats 4000000 in
theorem A_X5_above (X : aw_X) (l : Launch) (x0 : Int32) (σ : fk_T) : af_G X l mX5_above [.int x0] (hp σ) ρi (F_X5_above x0 σ) := by
  refine af_mk (by decide) rfl (fun q _ => aw_oki q) [some (.int x0)] rfl ?_
  rintro cx rfl rfl hN K
  replace hN : aw_nL cx = 1 := hN
  replace K : aw_K cx cX5_above RX5 rX5_above := K
  unfold F_X5_above
  refine af_iload_n K 1 dX5_above_0 rfl rfl ?_
  refine af_iconst K 2 dX5_above_1 rfl cs_iconst_3 ?_
  refine af_icmp_ne K 5 9 dX5_above_2 rfl rfl (fun _ => ?_) (fun _ => ?_)
  · refine af_iload_n K 10 dX5_above_9 rfl rfl ?_
    refine af_iconst K 11 dX5_above_10 rfl cs_iconst_4 ?_
    refine af_icmp_ne K 14 18 dX5_above_11 rfl rfl (fun _ => ?_) (fun _ => ?_)
    · refine af_iload_n K 19 dX5_above_18 rfl rfl ?_
      refine af_bipush K 21 dX5_above_19 rfl cs_bipush_6 ?_
      refine af_icmp_ne K 24 28 dX5_above_21 rfl rfl (fun _ => ?_) (fun _ => ?_)
      · refine af_iconst K 29 dX5_above_28 rfl cs_iconst_0 ?_
        exact af_reti K dX5_above_29
      · refine af_iconst K 25 dX5_above_24 rfl cs_iconst_2 ?_
        refine af_goto K 29 dX5_above_25 rfl ?_
        exact af_reti K dX5_above_29
    · refine af_iconst K 15 dX5_above_14 rfl cs_iconst_3 ?_
      refine af_goto K 29 dX5_above_15 rfl ?_
      exact af_reti K dX5_above_29
  · refine af_iconst K 6 dX5_above_5 rfl cs_iconst_1 ?_
    refine af_goto K 29 dX5_above_6 rfl ?_
    exact af_reti K dX5_above_29
def F_X5_as (x1 : Int32) (x2 : Int32) (σ : fk_T) : Option (Int32 × fk_T) := (F_X5_in (x1.toInt64) 0 9 σ).bind (fun q1 => if (fk_b q1.1) = 0 then ((F_X5_finds 0 q1.2).bind (fun q2 => some (q2.1, q2.2))) else ((F_X5_in (x2.toInt64) 0 6 q1.2).bind (fun q3 => if (fk_b q3.1) = 0 then ((F_X5_finds 0 q3.2).bind (fun q13 => some (q13.1, q13.2))) else (fk_A (q3.2.1 27) 135 (125 + x1) (fun y4 => if y4 = 0 then ((F_X5_finds 5 q3.2).bind (fun q12 => some (q12.1, q12.2))) else (fk_A (q3.2.1 27) 135 (125 + x1) (fun y5 => fk_B (y5 - 1) (fun y6 => (F_X5_its y6 0 q3.2).bind (fun q7 => if x2 = 0 then (some (y6, q7.2)) else (if x2 = q7.1 then (some (y6, q7.2)) else ((F_X5_above q7.1 q7.2).bind (fun q8 => if x2 = q8.1 then (some (y6, q8.2)) else ((F_X5_above q7.1 q8.2).bind (fun q9 => (F_X5_above q9.1 q9.2).bind (fun q10 => if x2 = q10.1 then (some (y6, q10.2)) else ((F_X5_finds 2 q10.2).bind (fun q11 => some (q11.1, q11.2))))))))))))))))))
set_option maxRecDepth 100000 in
set_option maxHeartbeats 4000000 in
theorem A_X5_as (X : aw_X) (l : Launch) (x1 : Int32) (x2 : Int32) (σ : fk_T) : af_G X l mX5_as [.ref 26, .int x1, .int x2] (hp σ) ρi (F_X5_as x1 x2 σ) := by
  refine af_mk (by decide) rfl (fun q _ => aw_oki q) [some (.ref 26), some (.int x1), some (.int x2), none, none] rfl ?_
  rintro cx rfl rfl hN K
  replace hN : aw_nL cx = 5 := hN
  replace K : aw_K cx cX5_as RX5 rX5_as := K
  unfold F_X5_as
  refine af_iload_n K 1 dX5_as_0 rfl rfl ?_
  refine af_i2l K 2 dX5_as_1 rfl ?_
  refine af_lconst K 3 dX5_as_2 rfl cs_lconst_0 ?_
  refine af_ldc2 K 6 dX5_as_3 rfl lk_797 ?_
  refine af_callS_z K (vs := [.long (x1.toInt64), .long 0, .long 9]) ms_X5_in lk_753 9 dX5_as_6 rfl rfl rfl rfl (A_X5_in _ _ (x1.toInt64) 0 9 σ) rfl (fun q1 => ?_)
  refine af_if_eq K 12 24 dX5_as_9 rfl rfl (fun _ => ?_) (fun _ => ?_)
  · refine af_aload_n K 25 dX5_as_24 rfl rfl ?_
    refine af_iconst K 26 dX5_as_25 rfl cs_iconst_0 ?_
    refine af_callV_i K (b := 26) (vs := [.int 0]) mv_X5_finds lk_760 ((hp_at _ (Nat.le_of_ble_eq_true rfl)).trans rfl) rfl 29 dX5_as_26 rfl rfl rfl rfl (A_X5_finds _ _ 0 q1.2) rfl (fun q2 => ?_)
    exact af_reti K dX5_as_29
  · refine af_iload_n K 13 dX5_as_12 rfl rfl ?_
    refine af_i2l K 14 dX5_as_13 rfl ?_
    refine af_lconst K 15 dX5_as_14 rfl cs_lconst_0 ?_
    refine af_ldc2 K 18 dX5_as_15 rfl lk_779 ?_
    refine af_callS_z K (vs := [.long (x2.toInt64), .long 0, .long 6]) ms_X5_in lk_753 21 dX5_as_18 rfl rfl rfl rfl (A_X5_in _ _ (x2.toInt64) 0 6 q1.2) rfl (fun q3 => ?_)
    refine af_if_ne K 24 30 dX5_as_21 rfl rfl (fun _ => ?_) (fun _ => ?_)
    · refine af_aload_n K 31 dX5_as_30 rfl rfl ?_
      refine af_get K 34 dX5_as_31 rfl fl_X5_7 (Nat.le_of_ble_eq_true rfl) rfl rfl ?_
      refine af_bipush K 36 dX5_as_34 rfl cs_bipush_125 ?_
      refine af_iload_n K 37 dX5_as_36 rfl rfl ?_
      refine af_iadd K 38 dX5_as_37 rfl ?_
      refine af_iald K 39 dX5_as_38 rfl (Nat.le_of_ble_eq_true rfl) rfl (fun y4 => ?_)
      refine af_if_ne K 42 48 dX5_as_39 rfl rfl (fun _ => ?_) (fun _ => ?_)
      · refine af_aload_n K 49 dX5_as_48 rfl rfl ?_
        refine af_get K 52 dX5_as_49 rfl fl_X5_7 (Nat.le_of_ble_eq_true rfl) rfl rfl ?_
        refine af_bipush K 54 dX5_as_52 rfl cs_bipush_125 ?_
        refine af_iload_n K 55 dX5_as_54 rfl rfl ?_
        refine af_iadd K 56 dX5_as_55 rfl ?_
        refine af_iald K 57 dX5_as_56 rfl (Nat.le_of_ble_eq_true rfl) rfl (fun y5 => ?_)
        refine af_iconst K 58 dX5_as_57 rfl cs_iconst_1 ?_
        refine af_isub K 59 dX5_as_58 rfl ?_
        refine af_Bi (fun y6 => ?_)
        refine af_istore_n K 60 [some (.ref 26), some (.int x1), some (.int x2), some (.int y6), none] dX5_as_59 rfl (by rw [hN]; exact Nat.le_of_ble_eq_true rfl) rfl ?_
        refine af_aload_n K 61 dX5_as_60 rfl rfl ?_
        refine af_iload_n K 62 dX5_as_61 rfl rfl ?_
        refine af_iconst K 63 dX5_as_62 rfl cs_iconst_0 ?_
        refine af_callV_i K (b := 26) (vs := [.int y6, .int 0]) mv_X5_its lk_802 ((hp_at _ (Nat.le_of_ble_eq_true rfl)).trans rfl) rfl 66 dX5_as_63 rfl rfl rfl rfl (A_X5_its _ _ y6 0 q3.2) rfl (fun q7 => ?_)
        refine af_istore K 68 [some (.ref 26), some (.int x1), some (.int x2), some (.int y6), some (.int q7.1)] dX5_as_66 rfl (by rw [hN]; exact Nat.le_of_ble_eq_true rfl) rfl ?_
        refine af_iload_n K 69 dX5_as_68 rfl rfl ?_
        refine af_if_eq K 72 99 dX5_as_69 rfl rfl (fun _ => ?_) (fun _ => ?_)
        · refine af_iload_n K 100 dX5_as_99 rfl rfl ?_
          refine af_goto K 108 dX5_as_100 rfl ?_
          exact af_reti K dX5_as_108
        · refine af_iload_n K 73 dX5_as_72 rfl rfl ?_
          refine af_iload K 75 dX5_as_73 rfl rfl ?_
          refine af_icmp_eq K 78 99 dX5_as_75 rfl rfl (fun _ => ?_) (fun _ => ?_)
          · refine af_iload_n K 100 dX5_as_99 rfl rfl ?_
            refine af_goto K 108 dX5_as_100 rfl ?_
            exact af_reti K dX5_as_108
          · refine af_iload_n K 79 dX5_as_78 rfl rfl ?_
            refine af_iload K 81 dX5_as_79 rfl rfl ?_
            refine af_callS_i K (vs := [.int q7.1]) ms_X5_above lk_1106 84 dX5_as_81 rfl rfl rfl rfl (A_X5_above _ _ q7.1 q7.2) rfl (fun q8 => ?_)
            refine af_icmp_eq K 87 99 dX5_as_84 rfl rfl (fun _ => ?_) (fun _ => ?_)
            · refine af_iload_n K 100 dX5_as_99 rfl rfl ?_
              refine af_goto K 108 dX5_as_100 rfl ?_
              exact af_reti K dX5_as_108
            · refine af_iload_n K 88 dX5_as_87 rfl rfl ?_
              refine af_iload K 90 dX5_as_88 rfl rfl ?_
              refine af_callS_i K (vs := [.int q7.1]) ms_X5_above lk_1106 93 dX5_as_90 rfl rfl rfl rfl (A_X5_above _ _ q7.1 q8.2) rfl (fun q9 => ?_)
              refine af_callS_i K (vs := [.int q9.1]) ms_X5_above lk_1106 96 dX5_as_93 rfl rfl rfl rfl (A_X5_above _ _ q9.1 q9.2) rfl (fun q10 => ?_)
              refine af_icmp_ne K 99 103 dX5_as_96 rfl rfl (fun _ => ?_) (fun _ => ?_)
              · refine af_aload_n K 104 dX5_as_103 rfl rfl ?_
                refine af_iconst K 105 dX5_as_104 rfl cs_iconst_2 ?_
                refine af_callV_i K (b := 26) (vs := [.int 2]) mv_X5_finds lk_760 ((hp_at _ (Nat.le_of_ble_eq_true rfl)).trans rfl) rfl 108 dX5_as_105 rfl rfl rfl rfl (A_X5_finds _ _ 2 q10.2) rfl (fun q11 => ?_)
                exact af_reti K dX5_as_108
              · refine af_iload_n K 100 dX5_as_99 rfl rfl ?_
                refine af_goto K 108 dX5_as_100 rfl ?_
                exact af_reti K dX5_as_108
      · refine af_aload_n K 43 dX5_as_42 rfl rfl ?_
        refine af_iconst K 44 dX5_as_43 rfl cs_iconst_5 ?_
        refine af_callV_i K (b := 26) (vs := [.int 5]) mv_X5_finds lk_760 ((hp_at _ (Nat.le_of_ble_eq_true rfl)).trans rfl) rfl 47 dX5_as_44 rfl rfl rfl rfl (A_X5_finds _ _ 5 q3.2) rfl (fun q12 => ?_)
        exact af_reti K dX5_as_47
    · refine af_aload_n K 25 dX5_as_24 rfl rfl ?_
      refine af_iconst K 26 dX5_as_25 rfl cs_iconst_0 ?_
      refine af_callV_i K (b := 26) (vs := [.int 0]) mv_X5_finds lk_760 ((hp_at _ (Nat.le_of_ble_eq_true rfl)).trans rfl) rfl 29 dX5_as_26 rfl rfl rfl rfl (A_X5_finds _ _ 0 q3.2) rfl (fun q13 => ?_)
      exact af_reti K dX5_as_29
def L_X5_sheet_83  : Nat → Int32 → Int32 → fk_T → (Int32 → Int32 → fk_T → Option (Int32 × fk_T)) → Option (Int32 × fk_T)
  | 0, _, _, _, _ => none
  | fu + 1, x1, x4, σ, k => if 40 ≤ x4 then (k x1 x4 σ) else (fk_S σ 35 160 ((40 * x1) + x4) 0 (fun s5 => fk_B (x4 + 1) (fun y6 => L_X5_sheet_83 fu x1 y6 s5 k)))
def F_X5_sheet (x1 : Int32) (x2 : Int32) (x3 : Int32) (σ : fk_T) : Option (Int32 × fk_T) := (F_X5_isSheet x1 σ).bind (fun q1 => if (fk_b q1.1) = 0 then ((F_X5_finds 0 q1.2).bind (fun q2 => some (q2.1, q2.2))) else (if x2 = 0 then (if 0 ≤ x3 then (if x3 ≤ 40 then (fk_S q1.2 33 4 x1 x2 (fun s3 => if x2 = 0 then (fk_S s3 34 4 x1 0 (fun s11 => L_X5_sheet_83 fk_N x1 0 s11 (fun y13 y14 s12 => fk_A (s12.1 34) 4 y13 (fun y15 => some (y15, s12))))) else (fk_S s3 34 4 x1 x3 (fun s4 => L_X5_sheet_83 fk_N x1 0 s4 (fun y8 y9 s7 => fk_A (s7.1 34) 4 y8 (fun y10 => some (y10, s7))))))) else ((F_X5_finds 0 q1.2).bind (fun q16 => some (q16.1, q16.2)))) else ((F_X5_finds 6 q1.2).bind (fun q17 => some (q17.1, q17.2)))) else (if x2 = 8 then (if 0 ≤ x3 then (if x3 ≤ 40 then (fk_S q1.2 33 4 x1 x2 (fun s18 => if x2 = 0 then (fk_S s18 34 4 x1 0 (fun s24 => L_X5_sheet_83 fk_N x1 0 s24 (fun y26 y27 s25 => fk_A (s25.1 34) 4 y26 (fun y28 => some (y28, s25))))) else (fk_S s18 34 4 x1 x3 (fun s19 => L_X5_sheet_83 fk_N x1 0 s19 (fun y21 y22 s20 => fk_A (s20.1 34) 4 y21 (fun y23 => some (y23, s20))))))) else ((F_X5_finds 0 q1.2).bind (fun q29 => some (q29.1, q29.2)))) else ((F_X5_finds 6 q1.2).bind (fun q30 => some (q30.1, q30.2)))) else (if x2 = 16 then (if 0 ≤ x3 then (if x3 ≤ 40 then (fk_S q1.2 33 4 x1 x2 (fun s31 => if x2 = 0 then (fk_S s31 34 4 x1 0 (fun s37 => L_X5_sheet_83 fk_N x1 0 s37 (fun y39 y40 s38 => fk_A (s38.1 34) 4 y39 (fun y41 => some (y41, s38))))) else (fk_S s31 34 4 x1 x3 (fun s32 => L_X5_sheet_83 fk_N x1 0 s32 (fun y34 y35 s33 => fk_A (s33.1 34) 4 y34 (fun y36 => some (y36, s33))))))) else ((F_X5_finds 0 q1.2).bind (fun q42 => some (q42.1, q42.2)))) else ((F_X5_finds 6 q1.2).bind (fun q43 => some (q43.1, q43.2)))) else (if x2 = 32 then (if 0 ≤ x3 then (if x3 ≤ 40 then (fk_S q1.2 33 4 x1 x2 (fun s44 => if x2 = 0 then (fk_S s44 34 4 x1 0 (fun s50 => L_X5_sheet_83 fk_N x1 0 s50 (fun y52 y53 s51 => fk_A (s51.1 34) 4 y52 (fun y54 => some (y54, s51))))) else (fk_S s44 34 4 x1 x3 (fun s45 => L_X5_sheet_83 fk_N x1 0 s45 (fun y47 y48 s46 => fk_A (s46.1 34) 4 y47 (fun y49 => some (y49, s46))))))) else ((F_X5_finds 0 q1.2).bind (fun q55 => some (q55.1, q55.2)))) else ((F_X5_finds 6 q1.2).bind (fun q56 => some (q56.1, q56.2)))) else ((F_X5_finds 0 q1.2).bind (fun q57 => some (q57.1, q57.2))))))))
set_option maxRecDepth 100000 in
set_option maxHeartbeats 4000000 in
theorem W_X5_sheet_83 {cx : aw_C} (hN : aw_nL cx = 5) (K : aw_K cx cX5_sheet RX5 rX5_sheet)  : ∀ (fu : Nat) (x1 : Int32) (x4 : Int32) (σ : fk_T) (k : Int32 → Int32 → fk_T → Option (Int32 × fk_T)), (∀ (x1 : Int32) (x4 : Int32) (σ : fk_T), af cx ρi 109 [some (.ref 26), some (.int x1), none, none, some (.int x4)] [] (hp σ) (k x1 x4 σ)) → af cx ρi 83 [some (.ref 26), some (.int x1), none, none, some (.int x4)] [] (hp σ) (L_X5_sheet_83 fu x1 x4 σ k) := by
  intro fu
  induction fu with
  | zero => intros; exact af_none
  | succ fu ih83 =>
    intro x1 x4 σ k hk83
    rw [L_X5_sheet_83]
    refine af_iload K 85 dX5_sheet_83 rfl rfl ?_
    refine af_bipush K 87 dX5_sheet_85 rfl cs_bipush_40 ?_
    refine af_icmp_ge K 90 109 dX5_sheet_87 rfl rfl (fun _ => ?_) (fun _ => ?_)
    · refine af_lm [true, true, false, false, true] rfl ?_
      exact hk83 _ _ _
    · refine af_aload_n K 91 dX5_sheet_90 rfl rfl ?_
      refine af_get K 94 dX5_sheet_91 rfl fl_X5_35 (Nat.le_of_ble_eq_true rfl) rfl rfl ?_
      refine af_bipush K 96 dX5_sheet_94 rfl cs_bipush_40 ?_
      refine af_iload_n K 97 dX5_sheet_96 rfl rfl ?_
      refine af_imul K 98 dX5_sheet_97 rfl ?_
      refine af_iload K 100 dX5_sheet_98 rfl rfl ?_
      refine af_iadd K 101 dX5_sheet_100 rfl ?_
      refine af_iconst K 102 dX5_sheet_101 rfl cs_iconst_0 ?_
      refine af_iast K 103 dX5_sheet_102 rfl (Nat.le_of_ble_eq_true rfl) (fun _ _ => rfl) (fun s5 => ?_)
      refine af_iincB K 106 (fun yy => [some (.ref 26), some (.int x1), none, none, some (.int yy)]) dX5_sheet_103 rfl (by rw [hN]; exact Nat.le_of_ble_eq_true rfl) rfl cs_iconst_1 (fun _ => rfl) (fun y6 => ?_)
      refine af_goto K 83 dX5_sheet_106 rfl ?_
      refine af_lm [true, true, false, false, true] rfl ?_
      exact ih83 _ _ _ _ hk83
set_option maxRecDepth 100000 in
set_option maxHeartbeats 4000000 in
theorem A_X5_sheet (X : aw_X) (l : Launch) (x1 : Int32) (x2 : Int32) (x3 : Int32) (σ : fk_T) : af_G X l mX5_sheet [.ref 26, .int x1, .int x2, .int x3] (hp σ) ρi (F_X5_sheet x1 x2 x3 σ) := by
  refine af_mk (by decide) rfl (fun q _ => aw_oki q) [some (.ref 26), some (.int x1), some (.int x2), some (.int x3), none] rfl ?_
  rintro cx rfl rfl hN K
  replace hN : aw_nL cx = 5 := hN
  replace K : aw_K cx cX5_sheet RX5 rX5_sheet := K
  unfold F_X5_sheet
  refine af_iload_n K 1 dX5_sheet_0 rfl rfl ?_
  refine af_callS_z K (vs := [.int x1]) ms_X5_isSheet lk_980 4 dX5_sheet_1 rfl rfl rfl rfl (A_X5_isSheet _ _ x1 σ) rfl (fun q1 => ?_)
  refine af_if_eq K 7 29 dX5_sheet_4 rfl rfl (fun _ => ?_) (fun _ => ?_)
  · refine af_aload_n K 30 dX5_sheet_29 rfl rfl ?_
    refine af_iconst K 31 dX5_sheet_30 rfl cs_iconst_0 ?_
    refine af_callV_i K (b := 26) (vs := [.int 0]) mv_X5_finds lk_760 ((hp_at _ (Nat.le_of_ble_eq_true rfl)).trans rfl) rfl 34 dX5_sheet_31 rfl rfl rfl rfl (A_X5_finds _ _ 0 q1.2) rfl (fun q2 => ?_)
    exact af_reti K dX5_sheet_34
  · refine af_iload_n K 8 dX5_sheet_7 rfl rfl ?_
    refine af_if_eq K 11 35 dX5_sheet_8 rfl rfl (fun _ => ?_) (fun _ => ?_)
    · refine af_iload_n K 36 dX5_sheet_35 rfl rfl ?_
      refine af_if_ge K 39 46 dX5_sheet_36 rfl rfl (fun _ => ?_) (fun _ => ?_)
      · refine af_iload_n K 47 dX5_sheet_46 rfl rfl ?_
        refine af_bipush K 49 dX5_sheet_47 rfl cs_bipush_40 ?_
        refine af_icmp_le K 52 58 dX5_sheet_49 rfl rfl (fun _ => ?_) (fun _ => ?_)
        · refine af_aload_n K 59 dX5_sheet_58 rfl rfl ?_
          refine af_get K 62 dX5_sheet_59 rfl fl_X5_29 (Nat.le_of_ble_eq_true rfl) rfl rfl ?_
          refine af_iload_n K 63 dX5_sheet_62 rfl rfl ?_
          refine af_iload_n K 64 dX5_sheet_63 rfl rfl ?_
          refine af_iast K 65 dX5_sheet_64 rfl (Nat.le_of_ble_eq_true rfl) (fun _ _ => rfl) (fun s3 => ?_)
          refine af_aload_n K 66 dX5_sheet_65 rfl rfl ?_
          refine af_get K 69 dX5_sheet_66 rfl fl_X5_32 (Nat.le_of_ble_eq_true rfl) rfl rfl ?_
          refine af_iload_n K 70 dX5_sheet_69 rfl rfl ?_
          refine af_iload_n K 71 dX5_sheet_70 rfl rfl ?_
          refine af_if_ne K 74 78 dX5_sheet_71 rfl rfl (fun _ => ?_) (fun _ => ?_)
          · refine af_iload_n K 79 dX5_sheet_78 rfl rfl ?_
            refine af_iast K 80 dX5_sheet_79 rfl (Nat.le_of_ble_eq_true rfl) (fun _ _ => rfl) (fun s4 => ?_)
            refine af_iconst K 81 dX5_sheet_80 rfl cs_iconst_0 ?_
            refine af_istore K 83 [some (.ref 26), some (.int x1), some (.int x2), some (.int x3), some (.int 0)] dX5_sheet_81 rfl (by rw [hN]; exact Nat.le_of_ble_eq_true rfl) rfl ?_
            refine af_lm [true, true, false, false, true] rfl ?_
            refine W_X5_sheet_83 hN K  fk_N _ _ _ _ (fun y8 y9 s7 => ?_)
            refine af_aload_n K 110 dX5_sheet_109 rfl rfl ?_
            refine af_get K 113 dX5_sheet_110 rfl fl_X5_32 (Nat.le_of_ble_eq_true rfl) rfl rfl ?_
            refine af_iload_n K 114 dX5_sheet_113 rfl rfl ?_
            refine af_iald K 115 dX5_sheet_114 rfl (Nat.le_of_ble_eq_true rfl) rfl (fun y10 => ?_)
            exact af_reti K dX5_sheet_115
          · refine af_iconst K 75 dX5_sheet_74 rfl cs_iconst_0 ?_
            refine af_goto K 79 dX5_sheet_75 rfl ?_
            refine af_iast K 80 dX5_sheet_79 rfl (Nat.le_of_ble_eq_true rfl) (fun _ _ => rfl) (fun s11 => ?_)
            refine af_iconst K 81 dX5_sheet_80 rfl cs_iconst_0 ?_
            refine af_istore K 83 [some (.ref 26), some (.int x1), some (.int x2), some (.int x3), some (.int 0)] dX5_sheet_81 rfl (by rw [hN]; exact Nat.le_of_ble_eq_true rfl) rfl ?_
            refine af_lm [true, true, false, false, true] rfl ?_
            refine W_X5_sheet_83 hN K  fk_N _ _ _ _ (fun y13 y14 s12 => ?_)
            refine af_aload_n K 110 dX5_sheet_109 rfl rfl ?_
            refine af_get K 113 dX5_sheet_110 rfl fl_X5_32 (Nat.le_of_ble_eq_true rfl) rfl rfl ?_
            refine af_iload_n K 114 dX5_sheet_113 rfl rfl ?_
            refine af_iald K 115 dX5_sheet_114 rfl (Nat.le_of_ble_eq_true rfl) rfl (fun y15 => ?_)
            exact af_reti K dX5_sheet_115
        · refine af_aload_n K 53 dX5_sheet_52 rfl rfl ?_
          refine af_iconst K 54 dX5_sheet_53 rfl cs_iconst_0 ?_
          refine af_callV_i K (b := 26) (vs := [.int 0]) mv_X5_finds lk_760 ((hp_at _ (Nat.le_of_ble_eq_true rfl)).trans rfl) rfl 57 dX5_sheet_54 rfl rfl rfl rfl (A_X5_finds _ _ 0 q1.2) rfl (fun q16 => ?_)
          exact af_reti K dX5_sheet_57
      · refine af_aload_n K 40 dX5_sheet_39 rfl rfl ?_
        refine af_bipush K 42 dX5_sheet_40 rfl cs_bipush_6 ?_
        refine af_callV_i K (b := 26) (vs := [.int 6]) mv_X5_finds lk_760 ((hp_at _ (Nat.le_of_ble_eq_true rfl)).trans rfl) rfl 45 dX5_sheet_42 rfl rfl rfl rfl (A_X5_finds _ _ 6 q1.2) rfl (fun q17 => ?_)
        exact af_reti K dX5_sheet_45
    · refine af_iload_n K 12 dX5_sheet_11 rfl rfl ?_
      refine af_bipush K 14 dX5_sheet_12 rfl cs_bipush_8 ?_
      refine af_icmp_eq K 17 35 dX5_sheet_14 rfl rfl (fun _ => ?_) (fun _ => ?_)
      · refine af_iload_n K 36 dX5_sheet_35 rfl rfl ?_
        refine af_if_ge K 39 46 dX5_sheet_36 rfl rfl (fun _ => ?_) (fun _ => ?_)
        · refine af_iload_n K 47 dX5_sheet_46 rfl rfl ?_
          refine af_bipush K 49 dX5_sheet_47 rfl cs_bipush_40 ?_
          refine af_icmp_le K 52 58 dX5_sheet_49 rfl rfl (fun _ => ?_) (fun _ => ?_)
          · refine af_aload_n K 59 dX5_sheet_58 rfl rfl ?_
            refine af_get K 62 dX5_sheet_59 rfl fl_X5_29 (Nat.le_of_ble_eq_true rfl) rfl rfl ?_
            refine af_iload_n K 63 dX5_sheet_62 rfl rfl ?_
            refine af_iload_n K 64 dX5_sheet_63 rfl rfl ?_
            refine af_iast K 65 dX5_sheet_64 rfl (Nat.le_of_ble_eq_true rfl) (fun _ _ => rfl) (fun s18 => ?_)
            refine af_aload_n K 66 dX5_sheet_65 rfl rfl ?_
            refine af_get K 69 dX5_sheet_66 rfl fl_X5_32 (Nat.le_of_ble_eq_true rfl) rfl rfl ?_
            refine af_iload_n K 70 dX5_sheet_69 rfl rfl ?_
            refine af_iload_n K 71 dX5_sheet_70 rfl rfl ?_
            refine af_if_ne K 74 78 dX5_sheet_71 rfl rfl (fun _ => ?_) (fun _ => ?_)
            · refine af_iload_n K 79 dX5_sheet_78 rfl rfl ?_
              refine af_iast K 80 dX5_sheet_79 rfl (Nat.le_of_ble_eq_true rfl) (fun _ _ => rfl) (fun s19 => ?_)
              refine af_iconst K 81 dX5_sheet_80 rfl cs_iconst_0 ?_
              refine af_istore K 83 [some (.ref 26), some (.int x1), some (.int x2), some (.int x3), some (.int 0)] dX5_sheet_81 rfl (by rw [hN]; exact Nat.le_of_ble_eq_true rfl) rfl ?_
              refine af_lm [true, true, false, false, true] rfl ?_
              refine W_X5_sheet_83 hN K  fk_N _ _ _ _ (fun y21 y22 s20 => ?_)
              refine af_aload_n K 110 dX5_sheet_109 rfl rfl ?_
              refine af_get K 113 dX5_sheet_110 rfl fl_X5_32 (Nat.le_of_ble_eq_true rfl) rfl rfl ?_
              refine af_iload_n K 114 dX5_sheet_113 rfl rfl ?_
              refine af_iald K 115 dX5_sheet_114 rfl (Nat.le_of_ble_eq_true rfl) rfl (fun y23 => ?_)
              exact af_reti K dX5_sheet_115
            · refine af_iconst K 75 dX5_sheet_74 rfl cs_iconst_0 ?_
              refine af_goto K 79 dX5_sheet_75 rfl ?_
              refine af_iast K 80 dX5_sheet_79 rfl (Nat.le_of_ble_eq_true rfl) (fun _ _ => rfl) (fun s24 => ?_)
              refine af_iconst K 81 dX5_sheet_80 rfl cs_iconst_0 ?_
              refine af_istore K 83 [some (.ref 26), some (.int x1), some (.int x2), some (.int x3), some (.int 0)] dX5_sheet_81 rfl (by rw [hN]; exact Nat.le_of_ble_eq_true rfl) rfl ?_
              refine af_lm [true, true, false, false, true] rfl ?_
              refine W_X5_sheet_83 hN K  fk_N _ _ _ _ (fun y26 y27 s25 => ?_)
              refine af_aload_n K 110 dX5_sheet_109 rfl rfl ?_
              refine af_get K 113 dX5_sheet_110 rfl fl_X5_32 (Nat.le_of_ble_eq_true rfl) rfl rfl ?_
              refine af_iload_n K 114 dX5_sheet_113 rfl rfl ?_
              refine af_iald K 115 dX5_sheet_114 rfl (Nat.le_of_ble_eq_true rfl) rfl (fun y28 => ?_)
              exact af_reti K dX5_sheet_115
          · refine af_aload_n K 53 dX5_sheet_52 rfl rfl ?_
            refine af_iconst K 54 dX5_sheet_53 rfl cs_iconst_0 ?_
            refine af_callV_i K (b := 26) (vs := [.int 0]) mv_X5_finds lk_760 ((hp_at _ (Nat.le_of_ble_eq_true rfl)).trans rfl) rfl 57 dX5_sheet_54 rfl rfl rfl rfl (A_X5_finds _ _ 0 q1.2) rfl (fun q29 => ?_)
            exact af_reti K dX5_sheet_57
        · refine af_aload_n K 40 dX5_sheet_39 rfl rfl ?_
          refine af_bipush K 42 dX5_sheet_40 rfl cs_bipush_6 ?_
          refine af_callV_i K (b := 26) (vs := [.int 6]) mv_X5_finds lk_760 ((hp_at _ (Nat.le_of_ble_eq_true rfl)).trans rfl) rfl 45 dX5_sheet_42 rfl rfl rfl rfl (A_X5_finds _ _ 6 q1.2) rfl (fun q30 => ?_)
          exact af_reti K dX5_sheet_45
      · refine af_iload_n K 18 dX5_sheet_17 rfl rfl ?_
        refine af_bipush K 20 dX5_sheet_18 rfl cs_bipush_16 ?_
        refine af_icmp_eq K 23 35 dX5_sheet_20 rfl rfl (fun _ => ?_) (fun _ => ?_)
        · refine af_iload_n K 36 dX5_sheet_35 rfl rfl ?_
          refine af_if_ge K 39 46 dX5_sheet_36 rfl rfl (fun _ => ?_) (fun _ => ?_)
          · refine af_iload_n K 47 dX5_sheet_46 rfl rfl ?_
            refine af_bipush K 49 dX5_sheet_47 rfl cs_bipush_40 ?_
            refine af_icmp_le K 52 58 dX5_sheet_49 rfl rfl (fun _ => ?_) (fun _ => ?_)
            · refine af_aload_n K 59 dX5_sheet_58 rfl rfl ?_
              refine af_get K 62 dX5_sheet_59 rfl fl_X5_29 (Nat.le_of_ble_eq_true rfl) rfl rfl ?_
              refine af_iload_n K 63 dX5_sheet_62 rfl rfl ?_
              refine af_iload_n K 64 dX5_sheet_63 rfl rfl ?_
              refine af_iast K 65 dX5_sheet_64 rfl (Nat.le_of_ble_eq_true rfl) (fun _ _ => rfl) (fun s31 => ?_)
              refine af_aload_n K 66 dX5_sheet_65 rfl rfl ?_
              refine af_get K 69 dX5_sheet_66 rfl fl_X5_32 (Nat.le_of_ble_eq_true rfl) rfl rfl ?_
              refine af_iload_n K 70 dX5_sheet_69 rfl rfl ?_
              refine af_iload_n K 71 dX5_sheet_70 rfl rfl ?_
              refine af_if_ne K 74 78 dX5_sheet_71 rfl rfl (fun _ => ?_) (fun _ => ?_)
              · refine af_iload_n K 79 dX5_sheet_78 rfl rfl ?_
                refine af_iast K 80 dX5_sheet_79 rfl (Nat.le_of_ble_eq_true rfl) (fun _ _ => rfl) (fun s32 => ?_)
                refine af_iconst K 81 dX5_sheet_80 rfl cs_iconst_0 ?_
                refine af_istore K 83 [some (.ref 26), some (.int x1), some (.int x2), some (.int x3), some (.int 0)] dX5_sheet_81 rfl (by rw [hN]; exact Nat.le_of_ble_eq_true rfl) rfl ?_
                refine af_lm [true, true, false, false, true] rfl ?_
                refine W_X5_sheet_83 hN K  fk_N _ _ _ _ (fun y34 y35 s33 => ?_)
                refine af_aload_n K 110 dX5_sheet_109 rfl rfl ?_
                refine af_get K 113 dX5_sheet_110 rfl fl_X5_32 (Nat.le_of_ble_eq_true rfl) rfl rfl ?_
                refine af_iload_n K 114 dX5_sheet_113 rfl rfl ?_
                refine af_iald K 115 dX5_sheet_114 rfl (Nat.le_of_ble_eq_true rfl) rfl (fun y36 => ?_)
                exact af_reti K dX5_sheet_115
              · refine af_iconst K 75 dX5_sheet_74 rfl cs_iconst_0 ?_
                refine af_goto K 79 dX5_sheet_75 rfl ?_
                refine af_iast K 80 dX5_sheet_79 rfl (Nat.le_of_ble_eq_true rfl) (fun _ _ => rfl) (fun s37 => ?_)
                refine af_iconst K 81 dX5_sheet_80 rfl cs_iconst_0 ?_
                refine af_istore K 83 [some (.ref 26), some (.int x1), some (.int x2), some (.int x3), some (.int 0)] dX5_sheet_81 rfl (by rw [hN]; exact Nat.le_of_ble_eq_true rfl) rfl ?_
                refine af_lm [true, true, false, false, true] rfl ?_
                refine W_X5_sheet_83 hN K  fk_N _ _ _ _ (fun y39 y40 s38 => ?_)
                refine af_aload_n K 110 dX5_sheet_109 rfl rfl ?_
                refine af_get K 113 dX5_sheet_110 rfl fl_X5_32 (Nat.le_of_ble_eq_true rfl) rfl rfl ?_
                refine af_iload_n K 114 dX5_sheet_113 rfl rfl ?_
                refine af_iald K 115 dX5_sheet_114 rfl (Nat.le_of_ble_eq_true rfl) rfl (fun y41 => ?_)
                exact af_reti K dX5_sheet_115
            · refine af_aload_n K 53 dX5_sheet_52 rfl rfl ?_
              refine af_iconst K 54 dX5_sheet_53 rfl cs_iconst_0 ?_
              refine af_callV_i K (b := 26) (vs := [.int 0]) mv_X5_finds lk_760 ((hp_at _ (Nat.le_of_ble_eq_true rfl)).trans rfl) rfl 57 dX5_sheet_54 rfl rfl rfl rfl (A_X5_finds _ _ 0 q1.2) rfl (fun q42 => ?_)
              exact af_reti K dX5_sheet_57
          · refine af_aload_n K 40 dX5_sheet_39 rfl rfl ?_
            refine af_bipush K 42 dX5_sheet_40 rfl cs_bipush_6 ?_
            refine af_callV_i K (b := 26) (vs := [.int 6]) mv_X5_finds lk_760 ((hp_at _ (Nat.le_of_ble_eq_true rfl)).trans rfl) rfl 45 dX5_sheet_42 rfl rfl rfl rfl (A_X5_finds _ _ 6 q1.2) rfl (fun q43 => ?_)
            exact af_reti K dX5_sheet_45
        · refine af_iload_n K 24 dX5_sheet_23 rfl rfl ?_
          refine af_bipush K 26 dX5_sheet_24 rfl cs_bipush_32 ?_
          refine af_icmp_eq K 29 35 dX5_sheet_26 rfl rfl (fun _ => ?_) (fun _ => ?_)
          · refine af_iload_n K 36 dX5_sheet_35 rfl rfl ?_
            refine af_if_ge K 39 46 dX5_sheet_36 rfl rfl (fun _ => ?_) (fun _ => ?_)
            · refine af_iload_n K 47 dX5_sheet_46 rfl rfl ?_
              refine af_bipush K 49 dX5_sheet_47 rfl cs_bipush_40 ?_
              refine af_icmp_le K 52 58 dX5_sheet_49 rfl rfl (fun _ => ?_) (fun _ => ?_)
              · refine af_aload_n K 59 dX5_sheet_58 rfl rfl ?_
                refine af_get K 62 dX5_sheet_59 rfl fl_X5_29 (Nat.le_of_ble_eq_true rfl) rfl rfl ?_
                refine af_iload_n K 63 dX5_sheet_62 rfl rfl ?_
                refine af_iload_n K 64 dX5_sheet_63 rfl rfl ?_
                refine af_iast K 65 dX5_sheet_64 rfl (Nat.le_of_ble_eq_true rfl) (fun _ _ => rfl) (fun s44 => ?_)
                refine af_aload_n K 66 dX5_sheet_65 rfl rfl ?_
                refine af_get K 69 dX5_sheet_66 rfl fl_X5_32 (Nat.le_of_ble_eq_true rfl) rfl rfl ?_
                refine af_iload_n K 70 dX5_sheet_69 rfl rfl ?_
                refine af_iload_n K 71 dX5_sheet_70 rfl rfl ?_
                refine af_if_ne K 74 78 dX5_sheet_71 rfl rfl (fun _ => ?_) (fun _ => ?_)
                · refine af_iload_n K 79 dX5_sheet_78 rfl rfl ?_
                  refine af_iast K 80 dX5_sheet_79 rfl (Nat.le_of_ble_eq_true rfl) (fun _ _ => rfl) (fun s45 => ?_)
                  refine af_iconst K 81 dX5_sheet_80 rfl cs_iconst_0 ?_
                  refine af_istore K 83 [some (.ref 26), some (.int x1), some (.int x2), some (.int x3), some (.int 0)] dX5_sheet_81 rfl (by rw [hN]; exact Nat.le_of_ble_eq_true rfl) rfl ?_
                  refine af_lm [true, true, false, false, true] rfl ?_
                  refine W_X5_sheet_83 hN K  fk_N _ _ _ _ (fun y47 y48 s46 => ?_)
                  refine af_aload_n K 110 dX5_sheet_109 rfl rfl ?_
                  refine af_get K 113 dX5_sheet_110 rfl fl_X5_32 (Nat.le_of_ble_eq_true rfl) rfl rfl ?_
                  refine af_iload_n K 114 dX5_sheet_113 rfl rfl ?_
                  refine af_iald K 115 dX5_sheet_114 rfl (Nat.le_of_ble_eq_true rfl) rfl (fun y49 => ?_)
                  exact af_reti K dX5_sheet_115
                · refine af_iconst K 75 dX5_sheet_74 rfl cs_iconst_0 ?_
                  refine af_goto K 79 dX5_sheet_75 rfl ?_
                  refine af_iast K 80 dX5_sheet_79 rfl (Nat.le_of_ble_eq_true rfl) (fun _ _ => rfl) (fun s50 => ?_)
                  refine af_iconst K 81 dX5_sheet_80 rfl cs_iconst_0 ?_
                  refine af_istore K 83 [some (.ref 26), some (.int x1), some (.int x2), some (.int x3), some (.int 0)] dX5_sheet_81 rfl (by rw [hN]; exact Nat.le_of_ble_eq_true rfl) rfl ?_
                  refine af_lm [true, true, false, false, true] rfl ?_
                  refine W_X5_sheet_83 hN K  fk_N _ _ _ _ (fun y52 y53 s51 => ?_)
                  refine af_aload_n K 110 dX5_sheet_109 rfl rfl ?_
                  refine af_get K 113 dX5_sheet_110 rfl fl_X5_32 (Nat.le_of_ble_eq_true rfl) rfl rfl ?_
                  refine af_iload_n K 114 dX5_sheet_113 rfl rfl ?_
                  refine af_iald K 115 dX5_sheet_114 rfl (Nat.le_of_ble_eq_true rfl) rfl (fun y54 => ?_)
                  exact af_reti K dX5_sheet_115
              · refine af_aload_n K 53 dX5_sheet_52 rfl rfl ?_
                refine af_iconst K 54 dX5_sheet_53 rfl cs_iconst_0 ?_
                refine af_callV_i K (b := 26) (vs := [.int 0]) mv_X5_finds lk_760 ((hp_at _ (Nat.le_of_ble_eq_true rfl)).trans rfl) rfl 57 dX5_sheet_54 rfl rfl rfl rfl (A_X5_finds _ _ 0 q1.2) rfl (fun q55 => ?_)
                exact af_reti K dX5_sheet_57
            · refine af_aload_n K 40 dX5_sheet_39 rfl rfl ?_
              refine af_bipush K 42 dX5_sheet_40 rfl cs_bipush_6 ?_
              refine af_callV_i K (b := 26) (vs := [.int 6]) mv_X5_finds lk_760 ((hp_at _ (Nat.le_of_ble_eq_true rfl)).trans rfl) rfl 45 dX5_sheet_42 rfl rfl rfl rfl (A_X5_finds _ _ 6 q1.2) rfl (fun q56 => ?_)
              exact af_reti K dX5_sheet_45
          · refine af_aload_n K 30 dX5_sheet_29 rfl rfl ?_
            refine af_iconst K 31 dX5_sheet_30 rfl cs_iconst_0 ?_
            refine af_callV_i K (b := 26) (vs := [.int 0]) mv_X5_finds lk_760 ((hp_at _ (Nat.le_of_ble_eq_true rfl)).trans rfl) rfl 34 dX5_sheet_31 rfl rfl rfl rfl (A_X5_finds _ _ 0 q1.2) rfl (fun q57 => ?_)
            exact af_reti K dX5_sheet_34
def F_X5_write (x1 : Int32) (x2 : Int32) (x3 : Int32) (σ : fk_T) : Option (Int32 × fk_T) := (F_X5_whyNone x1 σ).bind (fun q1 => if 0 ≤ q1.1 then (if q1.1 < 0 then (fk_A (q1.2.1 33) 4 x1 (fun y2 => if y2 = 8 then (fk_S q1.2 35 160 ((40 * x1) + x2) (x3.toInt8.toInt32) (fun s6 => some (1, s6))) else (fk_A (q1.2.1 33) 4 x1 (fun y3 => if y3 = 16 then (fk_S q1.2 35 160 ((40 * x1) + x2) (x3.toInt16.toInt32) (fun s5 => some (1, s5))) else (fk_S q1.2 35 160 ((40 * x1) + x2) x3 (fun s4 => some (1, s4))))))) else ((F_X5_finds q1.1 q1.2).bind (fun q7 => some (q7.1, q7.2)))) else (fk_A (q1.2.1 34) 4 x1 (fun y8 => (F_X5_in (x2.toInt64) 0 ((y8 - 1).toInt64) q1.2).bind (fun q9 => if (fk_b q9.1) = 0 then (if (0 : Int32) < 0 then (fk_A (q9.2.1 33) 4 x1 (fun y16 => if y16 = 8 then (fk_S q9.2 35 160 ((40 * x1) + x2) (x3.toInt8.toInt32) (fun s20 => some (1, s20))) else (fk_A (q9.2.1 33) 4 x1 (fun y17 => if y17 = 16 then (fk_S q9.2 35 160 ((40 * x1) + x2) (x3.toInt16.toInt32) (fun s19 => some (1, s19))) else (fk_S q9.2 35 160 ((40 * x1) + x2) x3 (fun s18 => some (1, s18))))))) else ((F_X5_finds 0 q9.2).bind (fun q21 => some (q21.1, q21.2)))) else (if q1.1 < 0 then (fk_A (q9.2.1 33) 4 x1 (fun y10 => if y10 = 8 then (fk_S q9.2 35 160 ((40 * x1) + x2) (x3.toInt8.toInt32) (fun s14 => some (1, s14))) else (fk_A (q9.2.1 33) 4 x1 (fun y11 => if y11 = 16 then (fk_S q9.2 35 160 ((40 * x1) + x2) (x3.toInt16.toInt32) (fun s13 => some (1, s13))) else (fk_S q9.2 35 160 ((40 * x1) + x2) x3 (fun s12 => some (1, s12))))))) else ((F_X5_finds q1.1 q9.2).bind (fun q15 => some (q15.1, q15.2))))))))
set_option maxRecDepth 100000 in
set_option maxHeartbeats 4000000 in
theorem A_X5_write (X : aw_X) (l : Launch) (x1 : Int32) (x2 : Int32) (x3 : Int32) (σ : fk_T) : af_G X l mX5_write [.ref 26, .int x1, .int x2, .int x3] (hp σ) ρi (F_X5_write x1 x2 x3 σ) := by
  refine af_mk (by decide) rfl (fun q _ => aw_oki q) [some (.ref 26), some (.int x1), some (.int x2), some (.int x3), none] rfl ?_
  rintro cx rfl rfl hN K
  replace hN : aw_nL cx = 5 := hN
  replace K : aw_K cx cX5_write RX5 rX5_write := K
  unfold F_X5_write
  refine af_aload_n K 1 dX5_write_0 rfl rfl ?_
  refine af_iload_n K 2 dX5_write_1 rfl rfl ?_
  refine af_callV_i K (b := 26) (vs := [.int x1]) mv_X5_whyNone lk_976 ((hp_at _ (Nat.le_of_ble_eq_true rfl)).trans rfl) rfl 5 dX5_write_2 rfl rfl rfl rfl (A_X5_whyNone _ _ x1 σ) rfl (fun q1 => ?_)
  refine af_istore K 7 [some (.ref 26), some (.int x1), some (.int x2), some (.int x3), some (.int q1.1)] dX5_write_5 rfl (by rw [hN]; exact Nat.le_of_ble_eq_true rfl) rfl ?_
  refine af_iload K 9 dX5_write_7 rfl rfl ?_
  refine af_if_ge K 12 34 dX5_write_9 rfl rfl (fun _ => ?_) (fun _ => ?_)
  · refine af_iload K 36 dX5_write_34 rfl rfl ?_
    refine af_istore K 38 [some (.ref 26), some (.int x1), some (.int x2), some (.int x3), some (.int q1.1)] dX5_write_36 rfl (by rw [hN]; exact Nat.le_of_ble_eq_true rfl) rfl ?_
    refine af_iload K 40 dX5_write_38 rfl rfl ?_
    refine af_if_lt K 43 50 dX5_write_40 rfl rfl (fun _ => ?_) (fun _ => ?_)
    · refine af_aload_n K 51 dX5_write_50 rfl rfl ?_
      refine af_get K 54 dX5_write_51 rfl fl_X5_35 (Nat.le_of_ble_eq_true rfl) rfl rfl ?_
      refine af_bipush K 56 dX5_write_54 rfl cs_bipush_40 ?_
      refine af_iload_n K 57 dX5_write_56 rfl rfl ?_
      refine af_imul K 58 dX5_write_57 rfl ?_
      refine af_iload_n K 59 dX5_write_58 rfl rfl ?_
      refine af_iadd K 60 dX5_write_59 rfl ?_
      refine af_aload_n K 61 dX5_write_60 rfl rfl ?_
      refine af_get K 64 dX5_write_61 rfl fl_X5_29 (Nat.le_of_ble_eq_true rfl) rfl rfl ?_
      refine af_iload_n K 65 dX5_write_64 rfl rfl ?_
      refine af_iald K 66 dX5_write_65 rfl (Nat.le_of_ble_eq_true rfl) rfl (fun y2 => ?_)
      refine af_bipush K 68 dX5_write_66 rfl cs_bipush_8 ?_
      refine af_icmp_ne K 71 76 dX5_write_68 rfl rfl (fun _ => ?_) (fun _ => ?_)
      · refine af_aload_n K 77 dX5_write_76 rfl rfl ?_
        refine af_get K 80 dX5_write_77 rfl fl_X5_29 (Nat.le_of_ble_eq_true rfl) rfl rfl ?_
        refine af_iload_n K 81 dX5_write_80 rfl rfl ?_
        refine af_iald K 82 dX5_write_81 rfl (Nat.le_of_ble_eq_true rfl) rfl (fun y3 => ?_)
        refine af_bipush K 84 dX5_write_82 rfl cs_bipush_16 ?_
        refine af_icmp_ne K 87 92 dX5_write_84 rfl rfl (fun _ => ?_) (fun _ => ?_)
        · refine af_iload_n K 93 dX5_write_92 rfl rfl ?_
          refine af_iast K 94 dX5_write_93 rfl (Nat.le_of_ble_eq_true rfl) (fun _ _ => rfl) (fun s4 => ?_)
          refine af_iconst K 95 dX5_write_94 rfl cs_iconst_1 ?_
          exact af_reti K dX5_write_95
        · refine af_iload_n K 88 dX5_write_87 rfl rfl ?_
          refine af_i2s K 89 dX5_write_88 rfl ?_
          refine af_goto K 93 dX5_write_89 rfl ?_
          refine af_iast K 94 dX5_write_93 rfl (Nat.le_of_ble_eq_true rfl) (fun _ _ => rfl) (fun s5 => ?_)
          refine af_iconst K 95 dX5_write_94 rfl cs_iconst_1 ?_
          exact af_reti K dX5_write_95
      · refine af_iload_n K 72 dX5_write_71 rfl rfl ?_
        refine af_i2b K 73 dX5_write_72 rfl ?_
        refine af_goto K 93 dX5_write_73 rfl ?_
        refine af_iast K 94 dX5_write_93 rfl (Nat.le_of_ble_eq_true rfl) (fun _ _ => rfl) (fun s6 => ?_)
        refine af_iconst K 95 dX5_write_94 rfl cs_iconst_1 ?_
        exact af_reti K dX5_write_95
    · refine af_aload_n K 44 dX5_write_43 rfl rfl ?_
      refine af_iload K 46 dX5_write_44 rfl rfl ?_
      refine af_callV_i K (b := 26) (vs := [.int q1.1]) mv_X5_finds lk_760 ((hp_at _ (Nat.le_of_ble_eq_true rfl)).trans rfl) rfl 49 dX5_write_46 rfl rfl rfl rfl (A_X5_finds _ _ q1.1 q1.2) rfl (fun q7 => ?_)
      exact af_reti K dX5_write_49
  · refine af_iload_n K 13 dX5_write_12 rfl rfl ?_
    refine af_i2l K 14 dX5_write_13 rfl ?_
    refine af_lconst K 15 dX5_write_14 rfl cs_lconst_0 ?_
    refine af_aload_n K 16 dX5_write_15 rfl rfl ?_
    refine af_get K 19 dX5_write_16 rfl fl_X5_32 (Nat.le_of_ble_eq_true rfl) rfl rfl ?_
    refine af_iload_n K 20 dX5_write_19 rfl rfl ?_
    refine af_iald K 21 dX5_write_20 rfl (Nat.le_of_ble_eq_true rfl) rfl (fun y8 => ?_)
    refine af_iconst K 22 dX5_write_21 rfl cs_iconst_1 ?_
    refine af_isub K 23 dX5_write_22 rfl ?_
    refine af_i2l K 24 dX5_write_23 rfl ?_
    refine af_callS_z K (vs := [.long (x2.toInt64), .long 0, .long ((y8 - 1).toInt64)]) ms_X5_in lk_753 27 dX5_write_24 rfl rfl rfl rfl (A_X5_in _ _ (x2.toInt64) 0 ((y8 - 1).toInt64) q1.2) rfl (fun q9 => ?_)
    refine af_if_ne K 30 34 dX5_write_27 rfl rfl (fun _ => ?_) (fun _ => ?_)
    · refine af_iload K 36 dX5_write_34 rfl rfl ?_
      refine af_istore K 38 [some (.ref 26), some (.int x1), some (.int x2), some (.int x3), some (.int q1.1)] dX5_write_36 rfl (by rw [hN]; exact Nat.le_of_ble_eq_true rfl) rfl ?_
      refine af_iload K 40 dX5_write_38 rfl rfl ?_
      refine af_if_lt K 43 50 dX5_write_40 rfl rfl (fun _ => ?_) (fun _ => ?_)
      · refine af_aload_n K 51 dX5_write_50 rfl rfl ?_
        refine af_get K 54 dX5_write_51 rfl fl_X5_35 (Nat.le_of_ble_eq_true rfl) rfl rfl ?_
        refine af_bipush K 56 dX5_write_54 rfl cs_bipush_40 ?_
        refine af_iload_n K 57 dX5_write_56 rfl rfl ?_
        refine af_imul K 58 dX5_write_57 rfl ?_
        refine af_iload_n K 59 dX5_write_58 rfl rfl ?_
        refine af_iadd K 60 dX5_write_59 rfl ?_
        refine af_aload_n K 61 dX5_write_60 rfl rfl ?_
        refine af_get K 64 dX5_write_61 rfl fl_X5_29 (Nat.le_of_ble_eq_true rfl) rfl rfl ?_
        refine af_iload_n K 65 dX5_write_64 rfl rfl ?_
        refine af_iald K 66 dX5_write_65 rfl (Nat.le_of_ble_eq_true rfl) rfl (fun y10 => ?_)
        refine af_bipush K 68 dX5_write_66 rfl cs_bipush_8 ?_
        refine af_icmp_ne K 71 76 dX5_write_68 rfl rfl (fun _ => ?_) (fun _ => ?_)
        · refine af_aload_n K 77 dX5_write_76 rfl rfl ?_
          refine af_get K 80 dX5_write_77 rfl fl_X5_29 (Nat.le_of_ble_eq_true rfl) rfl rfl ?_
          refine af_iload_n K 81 dX5_write_80 rfl rfl ?_
          refine af_iald K 82 dX5_write_81 rfl (Nat.le_of_ble_eq_true rfl) rfl (fun y11 => ?_)
          refine af_bipush K 84 dX5_write_82 rfl cs_bipush_16 ?_
          refine af_icmp_ne K 87 92 dX5_write_84 rfl rfl (fun _ => ?_) (fun _ => ?_)
          · refine af_iload_n K 93 dX5_write_92 rfl rfl ?_
            refine af_iast K 94 dX5_write_93 rfl (Nat.le_of_ble_eq_true rfl) (fun _ _ => rfl) (fun s12 => ?_)
            refine af_iconst K 95 dX5_write_94 rfl cs_iconst_1 ?_
            exact af_reti K dX5_write_95
          · refine af_iload_n K 88 dX5_write_87 rfl rfl ?_
            refine af_i2s K 89 dX5_write_88 rfl ?_
            refine af_goto K 93 dX5_write_89 rfl ?_
            refine af_iast K 94 dX5_write_93 rfl (Nat.le_of_ble_eq_true rfl) (fun _ _ => rfl) (fun s13 => ?_)
            refine af_iconst K 95 dX5_write_94 rfl cs_iconst_1 ?_
            exact af_reti K dX5_write_95
        · refine af_iload_n K 72 dX5_write_71 rfl rfl ?_
          refine af_i2b K 73 dX5_write_72 rfl ?_
          refine af_goto K 93 dX5_write_73 rfl ?_
          refine af_iast K 94 dX5_write_93 rfl (Nat.le_of_ble_eq_true rfl) (fun _ _ => rfl) (fun s14 => ?_)
          refine af_iconst K 95 dX5_write_94 rfl cs_iconst_1 ?_
          exact af_reti K dX5_write_95
      · refine af_aload_n K 44 dX5_write_43 rfl rfl ?_
        refine af_iload K 46 dX5_write_44 rfl rfl ?_
        refine af_callV_i K (b := 26) (vs := [.int q1.1]) mv_X5_finds lk_760 ((hp_at _ (Nat.le_of_ble_eq_true rfl)).trans rfl) rfl 49 dX5_write_46 rfl rfl rfl rfl (A_X5_finds _ _ q1.1 q9.2) rfl (fun q15 => ?_)
        exact af_reti K dX5_write_49
    · refine af_iconst K 31 dX5_write_30 rfl cs_iconst_0 ?_
      refine af_goto K 36 dX5_write_31 rfl ?_
      refine af_istore K 38 [some (.ref 26), some (.int x1), some (.int x2), some (.int x3), some (.int 0)] dX5_write_36 rfl (by rw [hN]; exact Nat.le_of_ble_eq_true rfl) rfl ?_
      refine af_iload K 40 dX5_write_38 rfl rfl ?_
      refine af_if_lt K 43 50 dX5_write_40 rfl rfl (fun _ => ?_) (fun _ => ?_)
      · refine af_aload_n K 51 dX5_write_50 rfl rfl ?_
        refine af_get K 54 dX5_write_51 rfl fl_X5_35 (Nat.le_of_ble_eq_true rfl) rfl rfl ?_
        refine af_bipush K 56 dX5_write_54 rfl cs_bipush_40 ?_
        refine af_iload_n K 57 dX5_write_56 rfl rfl ?_
        refine af_imul K 58 dX5_write_57 rfl ?_
        refine af_iload_n K 59 dX5_write_58 rfl rfl ?_
        refine af_iadd K 60 dX5_write_59 rfl ?_
        refine af_aload_n K 61 dX5_write_60 rfl rfl ?_
        refine af_get K 64 dX5_write_61 rfl fl_X5_29 (Nat.le_of_ble_eq_true rfl) rfl rfl ?_
        refine af_iload_n K 65 dX5_write_64 rfl rfl ?_
        refine af_iald K 66 dX5_write_65 rfl (Nat.le_of_ble_eq_true rfl) rfl (fun y16 => ?_)
        refine af_bipush K 68 dX5_write_66 rfl cs_bipush_8 ?_
        refine af_icmp_ne K 71 76 dX5_write_68 rfl rfl (fun _ => ?_) (fun _ => ?_)
        · refine af_aload_n K 77 dX5_write_76 rfl rfl ?_
          refine af_get K 80 dX5_write_77 rfl fl_X5_29 (Nat.le_of_ble_eq_true rfl) rfl rfl ?_
          refine af_iload_n K 81 dX5_write_80 rfl rfl ?_
          refine af_iald K 82 dX5_write_81 rfl (Nat.le_of_ble_eq_true rfl) rfl (fun y17 => ?_)
          refine af_bipush K 84 dX5_write_82 rfl cs_bipush_16 ?_
          refine af_icmp_ne K 87 92 dX5_write_84 rfl rfl (fun _ => ?_) (fun _ => ?_)
          · refine af_iload_n K 93 dX5_write_92 rfl rfl ?_
            refine af_iast K 94 dX5_write_93 rfl (Nat.le_of_ble_eq_true rfl) (fun _ _ => rfl) (fun s18 => ?_)
            refine af_iconst K 95 dX5_write_94 rfl cs_iconst_1 ?_
            exact af_reti K dX5_write_95
          · refine af_iload_n K 88 dX5_write_87 rfl rfl ?_
            refine af_i2s K 89 dX5_write_88 rfl ?_
            refine af_goto K 93 dX5_write_89 rfl ?_
            refine af_iast K 94 dX5_write_93 rfl (Nat.le_of_ble_eq_true rfl) (fun _ _ => rfl) (fun s19 => ?_)
            refine af_iconst K 95 dX5_write_94 rfl cs_iconst_1 ?_
            exact af_reti K dX5_write_95
        · refine af_iload_n K 72 dX5_write_71 rfl rfl ?_
          refine af_i2b K 73 dX5_write_72 rfl ?_
          refine af_goto K 93 dX5_write_73 rfl ?_
          refine af_iast K 94 dX5_write_93 rfl (Nat.le_of_ble_eq_true rfl) (fun _ _ => rfl) (fun s20 => ?_)
          refine af_iconst K 95 dX5_write_94 rfl cs_iconst_1 ?_
          exact af_reti K dX5_write_95
      · refine af_aload_n K 44 dX5_write_43 rfl rfl ?_
        refine af_iload K 46 dX5_write_44 rfl rfl ?_
        refine af_callV_i K (b := 26) (vs := [.int 0]) mv_X5_finds lk_760 ((hp_at _ (Nat.le_of_ble_eq_true rfl)).trans rfl) rfl 49 dX5_write_46 rfl rfl rfl rfl (A_X5_finds _ _ 0 q9.2) rfl (fun q21 => ?_)
        exact af_reti K dX5_write_49
def L_X5_copy_123  : Nat → Int32 → Int32 → Int32 → Int32 → Int32 → Int32 → fk_T → (Int32 → Int32 → Int32 → Int32 → Int32 → Int32 → fk_T → Option (Int32 × fk_T)) → Option (Int32 × fk_T)
  | 0, _, _, _, _, _, _, _, _ => none
  | fu + 1, x1, x2, x3, x4, x5, x6, σ, k => if x5 ≤ x6 then (k x1 x2 x3 x4 x5 x6 σ) else (fk_A (σ.1 35) 160 (((40 * x1) + x2) + x6) (fun y15 => fk_S σ 36 40 x6 y15 (fun s16 => fk_B (x6 + 1) (fun y17 => L_X5_copy_123 fu x1 x2 x3 x4 x5 y17 s16 k))))
def L_X5_copy_160  : Nat → Int32 → Int32 → Int32 → Int32 → fk_T → (Int32 → Int32 → Int32 → Int32 → fk_T → Option (Int32 × fk_T)) → Option (Int32 × fk_T)
  | 0, _, _, _, _, _, _ => none
  | fu + 1, x3, x4, x5, x6, σ, k => if x5 ≤ x6 then (k x3 x4 x5 x6 σ) else (fk_A (σ.1 36) 40 x6 (fun y25 => fk_S σ 35 160 (((40 * x3) + x4) + x6) y25 (fun s26 => fk_B (x6 + 1) (fun y27 => L_X5_copy_160 fu x3 x4 x5 y27 s26 k))))
def F_X5_copy (x1 : Int32) (x2 : Int32) (x3 : Int32) (x4 : Int32) (x5 : Int32) (σ : fk_T) : Option (Int32 × fk_T) := (F_X5_isSheet x1 σ).bind (fun q1 => if (fk_b q1.1) = 0 then ((F_X5_finds 0 q1.2).bind (fun q2 => some (q2.1, q2.2))) else ((F_X5_isSheet x3 q1.2).bind (fun q3 => if (fk_b q3.1) = 0 then ((F_X5_finds 0 q3.2).bind (fun q36 => some (q36.1, q36.2))) else (fk_A (q3.2.1 33) 4 x1 (fun y4 => if y4 = 0 then ((F_X5_finds 5 q3.2).bind (fun q5 => some (q5.1, q5.2))) else (fk_A (q3.2.1 33) 4 x3 (fun y6 => if y6 = 0 then ((F_X5_finds 5 q3.2).bind (fun q35 => some (q35.1, q35.2))) else (fk_A (q3.2.1 33) 4 x1 (fun y7 => fk_A (q3.2.1 33) 4 x3 (fun y8 => if y7 = y8 then (if x2 < 0 then ((F_X5_finds 0 q3.2).bind (fun q9 => some (q9.1, q9.2))) else (if x4 < 0 then ((F_X5_finds 0 q3.2).bind (fun q10 => some (q10.1, q10.2))) else (if x5 < 0 then ((F_X5_finds 0 q3.2).bind (fun q11 => some (q11.1, q11.2))) else (fk_A (q3.2.1 34) 4 x1 (fun y12 => if 0 < (lg_cmp ((x2.toInt64) + (x5.toInt64)) (y12.toInt64)) then ((F_X5_finds 0 q3.2).bind (fun q13 => some (q13.1, q13.2))) else (fk_A (q3.2.1 34) 4 x3 (fun y14 => if (lg_cmp ((x4.toInt64) + (x5.toInt64)) (y14.toInt64)) ≤ 0 then (L_X5_copy_123 fk_N x1 x2 x3 x4 x5 0 q3.2 (fun y19 y20 y21 y22 y23 y24 s18 => L_X5_copy_160 fk_N y21 y22 y23 0 s18 (fun y29 y30 y31 y32 s28 => some (y31, s28)))) else ((F_X5_finds 0 q3.2).bind (fun q33 => some (q33.1, q33.2)))))))))) else ((F_X5_finds 2 q3.2).bind (fun q34 => some (q34.1, q34.2)))))))))))))
set_option maxRecDepth 100000 in
set_option maxHeartbeats 4000000 in
theorem W_X5_copy_123 {cx : aw_C} (hN : aw_nL cx = 7) (K : aw_K cx cX5_copy RX5 rX5_copy)  : ∀ (fu : Nat) (x1 : Int32) (x2 : Int32) (x3 : Int32) (x4 : Int32) (x5 : Int32) (x6 : Int32) (σ : fk_T) (k : Int32 → Int32 → Int32 → Int32 → Int32 → Int32 → fk_T → Option (Int32 × fk_T)), (∀ (x1 : Int32) (x2 : Int32) (x3 : Int32) (x4 : Int32) (x5 : Int32) (x6 : Int32) (σ : fk_T), af cx ρi 157 [some (.ref 26), some (.int x1), some (.int x2), some (.int x3), some (.int x4), some (.int x5), some (.int x6)] [] (hp σ) (k x1 x2 x3 x4 x5 x6 σ)) → af cx ρi 123 [some (.ref 26), some (.int x1), some (.int x2), some (.int x3), some (.int x4), some (.int x5), some (.int x6)] [] (hp σ) (L_X5_copy_123 fu x1 x2 x3 x4 x5 x6 σ k) := by
  intro fu
  induction fu with
  | zero => intros; exact af_none
  | succ fu ih123 =>
    intro x1 x2 x3 x4 x5 x6 σ k hk123
    rw [L_X5_copy_123]
    refine af_iload K 125 dX5_copy_123 rfl rfl ?_
    refine af_iload K 127 dX5_copy_125 rfl rfl ?_
    refine af_icmp_ge K 130 157 dX5_copy_127 rfl rfl (fun _ => ?_) (fun _ => ?_)
    · refine af_lm [true, true, true, true, true, true, true] rfl ?_
      exact hk123 _ _ _ _ _ _ _
    · refine af_aload_n K 131 dX5_copy_130 rfl rfl ?_
      refine af_get K 134 dX5_copy_131 rfl fl_X5_38 (Nat.le_of_ble_eq_true rfl) rfl rfl ?_
      refine af_iload K 136 dX5_copy_134 rfl rfl ?_
      refine af_aload_n K 137 dX5_copy_136 rfl rfl ?_
      refine af_get K 140 dX5_copy_137 rfl fl_X5_35 (Nat.le_of_ble_eq_true rfl) rfl rfl ?_
      refine af_bipush K 142 dX5_copy_140 rfl cs_bipush_40 ?_
      refine af_iload_n K 143 dX5_copy_142 rfl rfl ?_
      refine af_imul K 144 dX5_copy_143 rfl ?_
      refine af_iload_n K 145 dX5_copy_144 rfl rfl ?_
      refine af_iadd K 146 dX5_copy_145 rfl ?_
      refine af_iload K 148 dX5_copy_146 rfl rfl ?_
      refine af_iadd K 149 dX5_copy_148 rfl ?_
      refine af_iald K 150 dX5_copy_149 rfl (Nat.le_of_ble_eq_true rfl) rfl (fun y15 => ?_)
      refine af_iast K 151 dX5_copy_150 rfl (Nat.le_of_ble_eq_true rfl) (fun _ _ => rfl) (fun s16 => ?_)
      refine af_iincB K 154 (fun yy => [some (.ref 26), some (.int x1), some (.int x2), some (.int x3), some (.int x4), some (.int x5), some (.int yy)]) dX5_copy_151 rfl (by rw [hN]; exact Nat.le_of_ble_eq_true rfl) rfl cs_iconst_1 (fun _ => rfl) (fun y17 => ?_)
      refine af_goto K 123 dX5_copy_154 rfl ?_
      refine af_lm [true, true, true, true, true, true, true] rfl ?_
      exact ih123 _ _ _ _ _ _ _ _ hk123
set_option maxRecDepth 100000 in
set_option maxHeartbeats 4000000 in
theorem W_X5_copy_160 {cx : aw_C} (hN : aw_nL cx = 7) (K : aw_K cx cX5_copy RX5 rX5_copy)  : ∀ (fu : Nat) (x3 : Int32) (x4 : Int32) (x5 : Int32) (x6 : Int32) (σ : fk_T) (k : Int32 → Int32 → Int32 → Int32 → fk_T → Option (Int32 × fk_T)), (∀ (x3 : Int32) (x4 : Int32) (x5 : Int32) (x6 : Int32) (σ : fk_T), af cx ρi 195 [some (.ref 26), none, none, some (.int x3), some (.int x4), some (.int x5), some (.int x6)] [] (hp σ) (k x3 x4 x5 x6 σ)) → af cx ρi 160 [some (.ref 26), none, none, some (.int x3), some (.int x4), some (.int x5), some (.int x6)] [] (hp σ) (L_X5_copy_160 fu x3 x4 x5 x6 σ k) := by
  intro fu
  induction fu with
  | zero => intros; exact af_none
  | succ fu ih160 =>
    intro x3 x4 x5 x6 σ k hk160
    rw [L_X5_copy_160]
    refine af_iload K 162 dX5_copy_160 rfl rfl ?_
    refine af_iload K 164 dX5_copy_162 rfl rfl ?_
    refine af_icmp_ge K 167 195 dX5_copy_164 rfl rfl (fun _ => ?_) (fun _ => ?_)
    · refine af_lm [true, false, false, true, true, true, true] rfl ?_
      exact hk160 _ _ _ _ _
    · refine af_aload_n K 168 dX5_copy_167 rfl rfl ?_
      refine af_get K 171 dX5_copy_168 rfl fl_X5_35 (Nat.le_of_ble_eq_true rfl) rfl rfl ?_
      refine af_bipush K 173 dX5_copy_171 rfl cs_bipush_40 ?_
      refine af_iload_n K 174 dX5_copy_173 rfl rfl ?_
      refine af_imul K 175 dX5_copy_174 rfl ?_
      refine af_iload K 177 dX5_copy_175 rfl rfl ?_
      refine af_iadd K 178 dX5_copy_177 rfl ?_
      refine af_iload K 180 dX5_copy_178 rfl rfl ?_
      refine af_iadd K 181 dX5_copy_180 rfl ?_
      refine af_aload_n K 182 dX5_copy_181 rfl rfl ?_
      refine af_get K 185 dX5_copy_182 rfl fl_X5_38 (Nat.le_of_ble_eq_true rfl) rfl rfl ?_
      refine af_iload K 187 dX5_copy_185 rfl rfl ?_
      refine af_iald K 188 dX5_copy_187 rfl (Nat.le_of_ble_eq_true rfl) rfl (fun y25 => ?_)
      refine af_iast K 189 dX5_copy_188 rfl (Nat.le_of_ble_eq_true rfl) (fun _ _ => rfl) (fun s26 => ?_)
      refine af_iincB K 192 (fun yy => [some (.ref 26), none, none, some (.int x3), some (.int x4), some (.int x5), some (.int yy)]) dX5_copy_189 rfl (by rw [hN]; exact Nat.le_of_ble_eq_true rfl) rfl cs_iconst_1 (fun _ => rfl) (fun y27 => ?_)
      refine af_goto K 160 dX5_copy_192 rfl ?_
      refine af_lm [true, false, false, true, true, true, true] rfl ?_
      exact ih160 _ _ _ _ _ _ hk160
set_option maxRecDepth 100000 in
set_option maxHeartbeats 4000000 in
theorem A_X5_copy (X : aw_X) (l : Launch) (x1 : Int32) (x2 : Int32) (x3 : Int32) (x4 : Int32) (x5 : Int32) (σ : fk_T) : af_G X l mX5_copy [.ref 26, .int x1, .int x2, .int x3, .int x4, .int x5] (hp σ) ρi (F_X5_copy x1 x2 x3 x4 x5 σ) := by
  refine af_mk (by decide) rfl (fun q _ => aw_oki q) [some (.ref 26), some (.int x1), some (.int x2), some (.int x3), some (.int x4), some (.int x5), none] rfl ?_
  rintro cx rfl rfl hN K
  replace hN : aw_nL cx = 7 := hN
  replace K : aw_K cx cX5_copy RX5 rX5_copy := K
  unfold F_X5_copy
  refine af_iload_n K 1 dX5_copy_0 rfl rfl ?_
  refine af_callS_z K (vs := [.int x1]) ms_X5_isSheet lk_980 4 dX5_copy_1 rfl rfl rfl rfl (A_X5_isSheet _ _ x1 σ) rfl (fun q1 => ?_)
  refine af_if_eq K 7 14 dX5_copy_4 rfl rfl (fun _ => ?_) (fun _ => ?_)
  · refine af_aload_n K 15 dX5_copy_14 rfl rfl ?_
    refine af_iconst K 16 dX5_copy_15 rfl cs_iconst_0 ?_
    refine af_callV_i K (b := 26) (vs := [.int 0]) mv_X5_finds lk_760 ((hp_at _ (Nat.le_of_ble_eq_true rfl)).trans rfl) rfl 19 dX5_copy_16 rfl rfl rfl rfl (A_X5_finds _ _ 0 q1.2) rfl (fun q2 => ?_)
    exact af_reti K dX5_copy_19
  · refine af_iload_n K 8 dX5_copy_7 rfl rfl ?_
    refine af_callS_z K (vs := [.int x3]) ms_X5_isSheet lk_980 11 dX5_copy_8 rfl rfl rfl rfl (A_X5_isSheet _ _ x3 q1.2) rfl (fun q3 => ?_)
    refine af_if_ne K 14 20 dX5_copy_11 rfl rfl (fun _ => ?_) (fun _ => ?_)
    · refine af_aload_n K 21 dX5_copy_20 rfl rfl ?_
      refine af_get K 24 dX5_copy_21 rfl fl_X5_29 (Nat.le_of_ble_eq_true rfl) rfl rfl ?_
      refine af_iload_n K 25 dX5_copy_24 rfl rfl ?_
      refine af_iald K 26 dX5_copy_25 rfl (Nat.le_of_ble_eq_true rfl) rfl (fun y4 => ?_)
      refine af_if_eq K 29 38 dX5_copy_26 rfl rfl (fun _ => ?_) (fun _ => ?_)
      · refine af_aload_n K 39 dX5_copy_38 rfl rfl ?_
        refine af_iconst K 40 dX5_copy_39 rfl cs_iconst_5 ?_
        refine af_callV_i K (b := 26) (vs := [.int 5]) mv_X5_finds lk_760 ((hp_at _ (Nat.le_of_ble_eq_true rfl)).trans rfl) rfl 43 dX5_copy_40 rfl rfl rfl rfl (A_X5_finds _ _ 5 q3.2) rfl (fun q5 => ?_)
        exact af_reti K dX5_copy_43
      · refine af_aload_n K 30 dX5_copy_29 rfl rfl ?_
        refine af_get K 33 dX5_copy_30 rfl fl_X5_29 (Nat.le_of_ble_eq_true rfl) rfl rfl ?_
        refine af_iload_n K 34 dX5_copy_33 rfl rfl ?_
        refine af_iald K 35 dX5_copy_34 rfl (Nat.le_of_ble_eq_true rfl) rfl (fun y6 => ?_)
        refine af_if_ne K 38 44 dX5_copy_35 rfl rfl (fun _ => ?_) (fun _ => ?_)
        · refine af_aload_n K 45 dX5_copy_44 rfl rfl ?_
          refine af_get K 48 dX5_copy_45 rfl fl_X5_29 (Nat.le_of_ble_eq_true rfl) rfl rfl ?_
          refine af_iload_n K 49 dX5_copy_48 rfl rfl ?_
          refine af_iald K 50 dX5_copy_49 rfl (Nat.le_of_ble_eq_true rfl) rfl (fun y7 => ?_)
          refine af_aload_n K 51 dX5_copy_50 rfl rfl ?_
          refine af_get K 54 dX5_copy_51 rfl fl_X5_29 (Nat.le_of_ble_eq_true rfl) rfl rfl ?_
          refine af_iload_n K 55 dX5_copy_54 rfl rfl ?_
          refine af_iald K 56 dX5_copy_55 rfl (Nat.le_of_ble_eq_true rfl) rfl (fun y8 => ?_)
          refine af_icmp_eq K 59 65 dX5_copy_56 rfl rfl (fun _ => ?_) (fun _ => ?_)
          · refine af_iload_n K 66 dX5_copy_65 rfl rfl ?_
            refine af_if_lt K 69 114 dX5_copy_66 rfl rfl (fun _ => ?_) (fun _ => ?_)
            · refine af_aload_n K 115 dX5_copy_114 rfl rfl ?_
              refine af_iconst K 116 dX5_copy_115 rfl cs_iconst_0 ?_
              refine af_callV_i K (b := 26) (vs := [.int 0]) mv_X5_finds lk_760 ((hp_at _ (Nat.le_of_ble_eq_true rfl)).trans rfl) rfl 119 dX5_copy_116 rfl rfl rfl rfl (A_X5_finds _ _ 0 q3.2) rfl (fun q9 => ?_)
              exact af_reti K dX5_copy_119
            · refine af_iload K 71 dX5_copy_69 rfl rfl ?_
              refine af_if_lt K 74 114 dX5_copy_71 rfl rfl (fun _ => ?_) (fun _ => ?_)
              · refine af_aload_n K 115 dX5_copy_114 rfl rfl ?_
                refine af_iconst K 116 dX5_copy_115 rfl cs_iconst_0 ?_
                refine af_callV_i K (b := 26) (vs := [.int 0]) mv_X5_finds lk_760 ((hp_at _ (Nat.le_of_ble_eq_true rfl)).trans rfl) rfl 119 dX5_copy_116 rfl rfl rfl rfl (A_X5_finds _ _ 0 q3.2) rfl (fun q10 => ?_)
                exact af_reti K dX5_copy_119
              · refine af_iload K 76 dX5_copy_74 rfl rfl ?_
                refine af_if_lt K 79 114 dX5_copy_76 rfl rfl (fun _ => ?_) (fun _ => ?_)
                · refine af_aload_n K 115 dX5_copy_114 rfl rfl ?_
                  refine af_iconst K 116 dX5_copy_115 rfl cs_iconst_0 ?_
                  refine af_callV_i K (b := 26) (vs := [.int 0]) mv_X5_finds lk_760 ((hp_at _ (Nat.le_of_ble_eq_true rfl)).trans rfl) rfl 119 dX5_copy_116 rfl rfl rfl rfl (A_X5_finds _ _ 0 q3.2) rfl (fun q11 => ?_)
                  exact af_reti K dX5_copy_119
                · refine af_iload_n K 80 dX5_copy_79 rfl rfl ?_
                  refine af_i2l K 81 dX5_copy_80 rfl ?_
                  refine af_iload K 83 dX5_copy_81 rfl rfl ?_
                  refine af_i2l K 84 dX5_copy_83 rfl ?_
                  refine af_ladd K 85 dX5_copy_84 rfl ?_
                  refine af_aload_n K 86 dX5_copy_85 rfl rfl ?_
                  refine af_get K 89 dX5_copy_86 rfl fl_X5_32 (Nat.le_of_ble_eq_true rfl) rfl rfl ?_
                  refine af_iload_n K 90 dX5_copy_89 rfl rfl ?_
                  refine af_iald K 91 dX5_copy_90 rfl (Nat.le_of_ble_eq_true rfl) rfl (fun y12 => ?_)
                  refine af_i2l K 92 dX5_copy_91 rfl ?_
                  refine af_lcmp K 93 dX5_copy_92 rfl ?_
                  refine af_if_gt K 96 114 dX5_copy_93 rfl rfl (fun _ => ?_) (fun _ => ?_)
                  · refine af_aload_n K 115 dX5_copy_114 rfl rfl ?_
                    refine af_iconst K 116 dX5_copy_115 rfl cs_iconst_0 ?_
                    refine af_callV_i K (b := 26) (vs := [.int 0]) mv_X5_finds lk_760 ((hp_at _ (Nat.le_of_ble_eq_true rfl)).trans rfl) rfl 119 dX5_copy_116 rfl rfl rfl rfl (A_X5_finds _ _ 0 q3.2) rfl (fun q13 => ?_)
                    exact af_reti K dX5_copy_119
                  · refine af_iload K 98 dX5_copy_96 rfl rfl ?_
                    refine af_i2l K 99 dX5_copy_98 rfl ?_
                    refine af_iload K 101 dX5_copy_99 rfl rfl ?_
                    refine af_i2l K 102 dX5_copy_101 rfl ?_
                    refine af_ladd K 103 dX5_copy_102 rfl ?_
                    refine af_aload_n K 104 dX5_copy_103 rfl rfl ?_
                    refine af_get K 107 dX5_copy_104 rfl fl_X5_32 (Nat.le_of_ble_eq_true rfl) rfl rfl ?_
                    refine af_iload_n K 108 dX5_copy_107 rfl rfl ?_
                    refine af_iald K 109 dX5_copy_108 rfl (Nat.le_of_ble_eq_true rfl) rfl (fun y14 => ?_)
                    refine af_i2l K 110 dX5_copy_109 rfl ?_
                    refine af_lcmp K 111 dX5_copy_110 rfl ?_
                    refine af_if_le K 114 120 dX5_copy_111 rfl rfl (fun _ => ?_) (fun _ => ?_)
                    · refine af_iconst K 121 dX5_copy_120 rfl cs_iconst_0 ?_
                      refine af_istore K 123 [some (.ref 26), some (.int x1), some (.int x2), some (.int x3), some (.int x4), some (.int x5), some (.int 0)] dX5_copy_121 rfl (by rw [hN]; exact Nat.le_of_ble_eq_true rfl) rfl ?_
                      refine af_lm [true, true, true, true, true, true, true] rfl ?_
                      refine W_X5_copy_123 hN K  fk_N _ _ _ _ _ _ _ _ (fun y19 y20 y21 y22 y23 y24 s18 => ?_)
                      refine af_iconst K 158 dX5_copy_157 rfl cs_iconst_0 ?_
                      refine af_istore K 160 [some (.ref 26), some (.int y19), some (.int y20), some (.int y21), some (.int y22), some (.int y23), some (.int 0)] dX5_copy_158 rfl (by rw [hN]; exact Nat.le_of_ble_eq_true rfl) rfl ?_
                      refine af_lm [true, false, false, true, true, true, true] rfl ?_
                      refine W_X5_copy_160 hN K  fk_N _ _ _ _ _ _ (fun y29 y30 y31 y32 s28 => ?_)
                      refine af_iload K 197 dX5_copy_195 rfl rfl ?_
                      exact af_reti K dX5_copy_197
                    · refine af_aload_n K 115 dX5_copy_114 rfl rfl ?_
                      refine af_iconst K 116 dX5_copy_115 rfl cs_iconst_0 ?_
                      refine af_callV_i K (b := 26) (vs := [.int 0]) mv_X5_finds lk_760 ((hp_at _ (Nat.le_of_ble_eq_true rfl)).trans rfl) rfl 119 dX5_copy_116 rfl rfl rfl rfl (A_X5_finds _ _ 0 q3.2) rfl (fun q33 => ?_)
                      exact af_reti K dX5_copy_119
          · refine af_aload_n K 60 dX5_copy_59 rfl rfl ?_
            refine af_iconst K 61 dX5_copy_60 rfl cs_iconst_2 ?_
            refine af_callV_i K (b := 26) (vs := [.int 2]) mv_X5_finds lk_760 ((hp_at _ (Nat.le_of_ble_eq_true rfl)).trans rfl) rfl 64 dX5_copy_61 rfl rfl rfl rfl (A_X5_finds _ _ 2 q3.2) rfl (fun q34 => ?_)
            exact af_reti K dX5_copy_64
        · refine af_aload_n K 39 dX5_copy_38 rfl rfl ?_
          refine af_iconst K 40 dX5_copy_39 rfl cs_iconst_5 ?_
          refine af_callV_i K (b := 26) (vs := [.int 5]) mv_X5_finds lk_760 ((hp_at _ (Nat.le_of_ble_eq_true rfl)).trans rfl) rfl 43 dX5_copy_40 rfl rfl rfl rfl (A_X5_finds _ _ 5 q3.2) rfl (fun q35 => ?_)
          exact af_reti K dX5_copy_43
    · refine af_aload_n K 15 dX5_copy_14 rfl rfl ?_
      refine af_iconst K 16 dX5_copy_15 rfl cs_iconst_0 ?_
      refine af_callV_i K (b := 26) (vs := [.int 0]) mv_X5_finds lk_760 ((hp_at _ (Nat.le_of_ble_eq_true rfl)).trans rfl) rfl 19 dX5_copy_16 rfl rfl rfl rfl (A_X5_finds _ _ 0 q3.2) rfl (fun q36 => ?_)
      exact af_reti K dX5_copy_19
def L_X5_load_18  : Nat → Int32 → Int32 → fk_T → (Int32 → Int32 → fk_T → Option (Int32 × fk_T)) → Option (Int32 × fk_T)
  | 0, _, _, _, _ => none
  | fu + 1, x1, x3, σ, k => fk_A (σ.1 34) 4 x1 (fun y2 => if y2 ≤ x3 then (k x1 x3 σ) else (fk_A (σ.1 27) 135 0 (fun y3 => if y3 ≤ x3 then (k x1 x3 σ) else (fk_A (σ.1 35) 160 ((40 * x1) + x3) (fun y4 => (F_X5_in (y4.toInt64) 0 99 σ).bind (fun q5 => if (fk_b q5.1) = 0 then (k x1 x3 q5.2) else (fk_A (q5.2.1 35) 160 ((40 * x1) + x3) (fun y6 => (F_X5_sets x3 2 y6 q5.2).bind (fun q7 => fk_B (x3 + 1) (fun y8 => L_X5_load_18 fu x1 y8 q7 k))))))))))
def F_X5_load (x1 : Int32) (σ : fk_T) : Option (Int32 × fk_T) := (F_X5_whyNone x1 σ).bind (fun q1 => if q1.1 < 0 then (L_X5_load_18 fk_N x1 0 q1.2 (fun y10 y11 s9 => some (y11, s9))) else ((F_X5_finds q1.1 q1.2).bind (fun q12 => some (q12.1, q12.2))))
set_option maxRecDepth 100000 in
set_option maxHeartbeats 4000000 in
theorem W_X5_load_18 {cx : aw_C} (hN : aw_nL cx = 4) (K : aw_K cx cX5_load RX5 rX5_load)  : ∀ (fu : Nat) (x1 : Int32) (x3 : Int32) (σ : fk_T) (k : Int32 → Int32 → fk_T → Option (Int32 × fk_T)), (∀ (x1 : Int32) (x3 : Int32) (σ : fk_T), af cx ρi 83 [some (.ref 26), some (.int x1), none, some (.int x3)] [] (hp σ) (k x1 x3 σ)) → af cx ρi 18 [some (.ref 26), some (.int x1), none, some (.int x3)] [] (hp σ) (L_X5_load_18 fu x1 x3 σ k) := by
  intro fu
  induction fu with
  | zero => intros; exact af_none
  | succ fu ih18 =>
    intro x1 x3 σ k hk18
    rw [L_X5_load_18]
    refine af_iload_n K 19 dX5_load_18 rfl rfl ?_
    refine af_aload_n K 20 dX5_load_19 rfl rfl ?_
    refine af_get K 23 dX5_load_20 rfl fl_X5_32 (Nat.le_of_ble_eq_true rfl) rfl rfl ?_
    refine af_iload_n K 24 dX5_load_23 rfl rfl ?_
    refine af_iald K 25 dX5_load_24 rfl (Nat.le_of_ble_eq_true rfl) rfl (fun y2 => ?_)
    refine af_icmp_ge K 28 83 dX5_load_25 rfl rfl (fun _ => ?_) (fun _ => ?_)
    · refine af_lm [true, true, false, true] rfl ?_
      exact hk18 _ _ _
    · refine af_iload_n K 29 dX5_load_28 rfl rfl ?_
      refine af_aload_n K 30 dX5_load_29 rfl rfl ?_
      refine af_get K 33 dX5_load_30 rfl fl_X5_7 (Nat.le_of_ble_eq_true rfl) rfl rfl ?_
      refine af_iconst K 34 dX5_load_33 rfl cs_iconst_0 ?_
      refine af_iald K 35 dX5_load_34 rfl (Nat.le_of_ble_eq_true rfl) rfl (fun y3 => ?_)
      refine af_icmp_ge K 38 83 dX5_load_35 rfl rfl (fun _ => ?_) (fun _ => ?_)
      · refine af_lm [true, true, false, true] rfl ?_
        exact hk18 _ _ _
      · refine af_aload_n K 39 dX5_load_38 rfl rfl ?_
        refine af_get K 42 dX5_load_39 rfl fl_X5_35 (Nat.le_of_ble_eq_true rfl) rfl rfl ?_
        refine af_bipush K 44 dX5_load_42 rfl cs_bipush_40 ?_
        refine af_iload_n K 45 dX5_load_44 rfl rfl ?_
        refine af_imul K 46 dX5_load_45 rfl ?_
        refine af_iload_n K 47 dX5_load_46 rfl rfl ?_
        refine af_iadd K 48 dX5_load_47 rfl ?_
        refine af_iald K 49 dX5_load_48 rfl (Nat.le_of_ble_eq_true rfl) rfl (fun y4 => ?_)
        refine af_i2l K 50 dX5_load_49 rfl ?_
        refine af_lconst K 51 dX5_load_50 rfl cs_lconst_0 ?_
        refine af_ldc2 K 54 dX5_load_51 rfl lk_780 ?_
        refine af_callS_z K (vs := [.long (y4.toInt64), .long 0, .long 99]) ms_X5_in lk_753 57 dX5_load_54 rfl rfl rfl rfl (A_X5_in _ _ (y4.toInt64) 0 99 σ) rfl (fun q5 => ?_)
        refine af_if_eq K 60 83 dX5_load_57 rfl rfl (fun _ => ?_) (fun _ => ?_)
        · refine af_lm [true, true, false, true] rfl ?_
          exact hk18 _ _ _
        · refine af_aload_n K 61 dX5_load_60 rfl rfl ?_
          refine af_iload_n K 62 dX5_load_61 rfl rfl ?_
          refine af_iconst K 63 dX5_load_62 rfl cs_iconst_2 ?_
          refine af_aload_n K 64 dX5_load_63 rfl rfl ?_
          refine af_get K 67 dX5_load_64 rfl fl_X5_35 (Nat.le_of_ble_eq_true rfl) rfl rfl ?_
          refine af_bipush K 69 dX5_load_67 rfl cs_bipush_40 ?_
          refine af_iload_n K 70 dX5_load_69 rfl rfl ?_
          refine af_imul K 71 dX5_load_70 rfl ?_
          refine af_iload_n K 72 dX5_load_71 rfl rfl ?_
          refine af_iadd K 73 dX5_load_72 rfl ?_
          refine af_iald K 74 dX5_load_73 rfl (Nat.le_of_ble_eq_true rfl) rfl (fun y6 => ?_)
          refine af_callV_v K (b := 26) (vs := [.int x3, .int 2, .int y6]) mv_X5_sets lk_785 ((hp_at _ (Nat.le_of_ble_eq_true rfl)).trans rfl) rfl 77 dX5_load_74 rfl rfl rfl rfl (A_X5_sets _ _ x3 2 y6 q5.2) rfl (fun q7 => ?_)
          refine af_iincB K 80 (fun yy => [some (.ref 26), some (.int x1), none, some (.int yy)]) dX5_load_77 rfl (by rw [hN]; exact Nat.le_of_ble_eq_true rfl) rfl cs_iconst_1 (fun _ => rfl) (fun y8 => ?_)
          refine af_goto K 18 dX5_load_80 rfl ?_
          refine af_lm [true, true, false, true] rfl ?_
          exact ih18 _ _ _ _ hk18
set_option maxRecDepth 100000 in
set_option maxHeartbeats 4000000 in
theorem A_X5_load (X : aw_X) (l : Launch) (x1 : Int32) (σ : fk_T) : af_G X l mX5_load [.ref 26, .int x1] (hp σ) ρi (F_X5_load x1 σ) := by
  refine af_mk (by decide) rfl (fun q _ => aw_oki q) [some (.ref 26), some (.int x1), none, none] rfl ?_
  rintro cx rfl rfl hN K
  replace hN : aw_nL cx = 4 := hN
  replace K : aw_K cx cX5_load RX5 rX5_load := K
  unfold F_X5_load
  refine af_aload_n K 1 dX5_load_0 rfl rfl ?_
  refine af_iload_n K 2 dX5_load_1 rfl rfl ?_
  refine af_callV_i K (b := 26) (vs := [.int x1]) mv_X5_whyNone lk_976 ((hp_at _ (Nat.le_of_ble_eq_true rfl)).trans rfl) rfl 5 dX5_load_2 rfl rfl rfl rfl (A_X5_whyNone _ _ x1 σ) rfl (fun q1 => ?_)
  refine af_istore_n K 6 [some (.ref 26), some (.int x1), some (.int q1.1), none] dX5_load_5 rfl (by rw [hN]; exact Nat.le_of_ble_eq_true rfl) rfl ?_
  refine af_iload_n K 7 dX5_load_6 rfl rfl ?_
  refine af_if_lt K 10 16 dX5_load_7 rfl rfl (fun _ => ?_) (fun _ => ?_)
  · refine af_iconst K 17 dX5_load_16 rfl cs_iconst_0 ?_
    refine af_istore_n K 18 [some (.ref 26), some (.int x1), some (.int q1.1), some (.int 0)] dX5_load_17 rfl (by rw [hN]; exact Nat.le_of_ble_eq_true rfl) rfl ?_
    refine af_lm [true, true, false, true] rfl ?_
    refine W_X5_load_18 hN K  fk_N _ _ _ _ (fun y10 y11 s9 => ?_)
    refine af_iload_n K 84 dX5_load_83 rfl rfl ?_
    exact af_reti K dX5_load_84
  · refine af_aload_n K 11 dX5_load_10 rfl rfl ?_
    refine af_iload_n K 12 dX5_load_11 rfl rfl ?_
    refine af_callV_i K (b := 26) (vs := [.int q1.1]) mv_X5_finds lk_760 ((hp_at _ (Nat.le_of_ble_eq_true rfl)).trans rfl) rfl 15 dX5_load_12 rfl rfl rfl rfl (A_X5_finds _ _ q1.1 q1.2) rfl (fun q12 => ?_)
    exact af_reti K dX5_load_15
def L_X5_judge_18  : Nat → Int32 → Int32 → fk_T → (Int32 → Int32 → fk_T → Option (Int32 × fk_T)) → Option (Int32 × fk_T)
  | 0, _, _, _, _ => none
  | fu + 1, x1, x3, σ, k => fk_A (σ.1 34) 4 x1 (fun y2 => if y2 ≤ x3 then (k x1 x3 σ) else ((F_X5_isPotter x3 σ).bind (fun q3 => if (fk_b q3.1) = 0 then (some ((1 + x3), q3.2)) else (fk_A (q3.2.1 35) 160 ((40 * x1) + x3) (fun y4 => (F_X5_its x3 4 q3.2).bind (fun q5 => if y4 = q5.1 then (fk_B (x3 + 1) (fun y6 => L_X5_judge_18 fu x1 y6 q5.2 k)) else (some ((1 + x3), q5.2))))))))
def F_X5_judge (x1 : Int32) (σ : fk_T) : Option (Int32 × fk_T) := (F_X5_whyNone x1 σ).bind (fun q1 => if q1.1 < 0 then (L_X5_judge_18 fk_N x1 0 q1.2 (fun y8 y9 s7 => some (0, s7))) else ((F_X5_finds q1.1 q1.2).bind (fun q10 => some (q10.1, q10.2))))
set_option maxRecDepth 100000 in
set_option maxHeartbeats 4000000 in
theorem W_X5_judge_18 {cx : aw_C} (hN : aw_nL cx = 4) (K : aw_K cx cX5_judge RX5 rX5_judge)  : ∀ (fu : Nat) (x1 : Int32) (x3 : Int32) (σ : fk_T) (k : Int32 → Int32 → fk_T → Option (Int32 × fk_T)), (∀ (x1 : Int32) (x3 : Int32) (σ : fk_T), af cx ρi 66 [some (.ref 26), some (.int x1), none, some (.int x3)] [] (hp σ) (k x1 x3 σ)) → af cx ρi 18 [some (.ref 26), some (.int x1), none, some (.int x3)] [] (hp σ) (L_X5_judge_18 fu x1 x3 σ k) := by
  intro fu
  induction fu with
  | zero => intros; exact af_none
  | succ fu ih18 =>
    intro x1 x3 σ k hk18
    rw [L_X5_judge_18]
    refine af_iload_n K 19 dX5_judge_18 rfl rfl ?_
    refine af_aload_n K 20 dX5_judge_19 rfl rfl ?_
    refine af_get K 23 dX5_judge_20 rfl fl_X5_32 (Nat.le_of_ble_eq_true rfl) rfl rfl ?_
    refine af_iload_n K 24 dX5_judge_23 rfl rfl ?_
    refine af_iald K 25 dX5_judge_24 rfl (Nat.le_of_ble_eq_true rfl) rfl (fun y2 => ?_)
    refine af_icmp_ge K 28 66 dX5_judge_25 rfl rfl (fun _ => ?_) (fun _ => ?_)
    · refine af_lm [true, true, false, true] rfl ?_
      exact hk18 _ _ _
    · refine af_aload_n K 29 dX5_judge_28 rfl rfl ?_
      refine af_iload_n K 30 dX5_judge_29 rfl rfl ?_
      refine af_callV_z K (b := 26) (vs := [.int x3]) mv_X5_isPotter lk_793 ((hp_at _ (Nat.le_of_ble_eq_true rfl)).trans rfl) rfl 33 dX5_judge_30 rfl rfl rfl rfl (A_X5_isPotter _ _ x3 σ) rfl (fun q3 => ?_)
      refine af_if_eq K 36 56 dX5_judge_33 rfl rfl (fun _ => ?_) (fun _ => ?_)
      · refine af_iconst K 57 dX5_judge_56 rfl cs_iconst_1 ?_
        refine af_iload_n K 58 dX5_judge_57 rfl rfl ?_
        refine af_iadd K 59 dX5_judge_58 rfl ?_
        exact af_reti K dX5_judge_59
      · refine af_aload_n K 37 dX5_judge_36 rfl rfl ?_
        refine af_get K 40 dX5_judge_37 rfl fl_X5_35 (Nat.le_of_ble_eq_true rfl) rfl rfl ?_
        refine af_bipush K 42 dX5_judge_40 rfl cs_bipush_40 ?_
        refine af_iload_n K 43 dX5_judge_42 rfl rfl ?_
        refine af_imul K 44 dX5_judge_43 rfl ?_
        refine af_iload_n K 45 dX5_judge_44 rfl rfl ?_
        refine af_iadd K 46 dX5_judge_45 rfl ?_
        refine af_iald K 47 dX5_judge_46 rfl (Nat.le_of_ble_eq_true rfl) rfl (fun y4 => ?_)
        refine af_aload_n K 48 dX5_judge_47 rfl rfl ?_
        refine af_iload_n K 49 dX5_judge_48 rfl rfl ?_
        refine af_iconst K 50 dX5_judge_49 rfl cs_iconst_4 ?_
        refine af_callV_i K (b := 26) (vs := [.int x3, .int 4]) mv_X5_its lk_802 ((hp_at _ (Nat.le_of_ble_eq_true rfl)).trans rfl) rfl 53 dX5_judge_50 rfl rfl rfl rfl (A_X5_its _ _ x3 4 q3.2) rfl (fun q5 => ?_)
        refine af_icmp_eq K 56 60 dX5_judge_53 rfl rfl (fun _ => ?_) (fun _ => ?_)
        · refine af_iincB K 63 (fun yy => [some (.ref 26), some (.int x1), none, some (.int yy)]) dX5_judge_60 rfl (by rw [hN]; exact Nat.le_of_ble_eq_true rfl) rfl cs_iconst_1 (fun _ => rfl) (fun y6 => ?_)
          refine af_goto K 18 dX5_judge_63 rfl ?_
          refine af_lm [true, true, false, true] rfl ?_
          exact ih18 _ _ _ _ hk18
        · refine af_iconst K 57 dX5_judge_56 rfl cs_iconst_1 ?_
          refine af_iload_n K 58 dX5_judge_57 rfl rfl ?_
          refine af_iadd K 59 dX5_judge_58 rfl ?_
          exact af_reti K dX5_judge_59
set_option maxRecDepth 100000 in
set_option maxHeartbeats 4000000 in
theorem A_X5_judge (X : aw_X) (l : Launch) (x1 : Int32) (σ : fk_T) : af_G X l mX5_judge [.ref 26, .int x1] (hp σ) ρi (F_X5_judge x1 σ) := by
  refine af_mk (by decide) rfl (fun q _ => aw_oki q) [some (.ref 26), some (.int x1), none, none] rfl ?_
  rintro cx rfl rfl hN K
  replace hN : aw_nL cx = 4 := hN
  replace K : aw_K cx cX5_judge RX5 rX5_judge := K
  unfold F_X5_judge
  refine af_aload_n K 1 dX5_judge_0 rfl rfl ?_
  refine af_iload_n K 2 dX5_judge_1 rfl rfl ?_
  refine af_callV_i K (b := 26) (vs := [.int x1]) mv_X5_whyNone lk_976 ((hp_at _ (Nat.le_of_ble_eq_true rfl)).trans rfl) rfl 5 dX5_judge_2 rfl rfl rfl rfl (A_X5_whyNone _ _ x1 σ) rfl (fun q1 => ?_)
  refine af_istore_n K 6 [some (.ref 26), some (.int x1), some (.int q1.1), none] dX5_judge_5 rfl (by rw [hN]; exact Nat.le_of_ble_eq_true rfl) rfl ?_
  refine af_iload_n K 7 dX5_judge_6 rfl rfl ?_
  refine af_if_lt K 10 16 dX5_judge_7 rfl rfl (fun _ => ?_) (fun _ => ?_)
  · refine af_iconst K 17 dX5_judge_16 rfl cs_iconst_0 ?_
    refine af_istore_n K 18 [some (.ref 26), some (.int x1), some (.int q1.1), some (.int 0)] dX5_judge_17 rfl (by rw [hN]; exact Nat.le_of_ble_eq_true rfl) rfl ?_
    refine af_lm [true, true, false, true] rfl ?_
    refine W_X5_judge_18 hN K  fk_N _ _ _ _ (fun y8 y9 s7 => ?_)
    refine af_iconst K 67 dX5_judge_66 rfl cs_iconst_0 ?_
    exact af_reti K dX5_judge_67
  · refine af_aload_n K 11 dX5_judge_10 rfl rfl ?_
    refine af_iload_n K 12 dX5_judge_11 rfl rfl ?_
    refine af_callV_i K (b := 26) (vs := [.int q1.1]) mv_X5_finds lk_760 ((hp_at _ (Nat.le_of_ble_eq_true rfl)).trans rfl) rfl 15 dX5_judge_12 rfl rfl rfl rfl (A_X5_finds _ _ q1.1 q1.2) rfl (fun q10 => ?_)
    exact af_reti K dX5_judge_15
def F_X5_image  (σ : fk_T) : Option (Int32 × fk_T) := (F_X5_copies 27 30 σ).bind (fun q1 => fk_B (fk_w q1 26 (upd (q1.1 26) 4 1)) (fun s2 => some (1, s2)))
set_option maxRecDepth 100000 in
set_option maxHeartbeats 4000000 in
theorem A_X5_image (X : aw_X) (l : Launch)  (σ : fk_T) : af_G X l mX5_image [.ref 26] (hp σ) ρi (F_X5_image  σ) := by
  refine af_mk (by decide) rfl (fun q _ => aw_oki q) [some (.ref 26)] rfl ?_
  rintro cx rfl rfl hN K
  replace hN : aw_nL cx = 1 := hN
  replace K : aw_K cx cX5_image RX5 rX5_image := K
  unfold F_X5_image
  refine af_aload_n K 1 dX5_image_0 rfl rfl ?_
  refine af_get K 4 dX5_image_1 rfl fl_X5_7 (Nat.le_of_ble_eq_true rfl) rfl rfl ?_
  refine af_aload_n K 5 dX5_image_4 rfl rfl ?_
  refine af_get K 8 dX5_image_5 rfl fl_X5_19 (Nat.le_of_ble_eq_true rfl) rfl rfl ?_
  refine af_callS_v K (vs := [.ref 27, .ref 30]) ms_X5_copies lk_910 11 dX5_image_8 rfl rfl rfl rfl (A_X5_copies _ _ 27 (Or.inl rfl) 30 (Or.inr (Or.inr (Or.inr rfl))) σ) rfl (fun q1 => ?_)
  refine af_aload_n K 12 dX5_image_11 rfl rfl ?_
  refine af_iconst K 13 dX5_image_12 rfl cs_iconst_1 ?_
  refine af_putZ K (b := true) rfl 16 dX5_image_13 rfl fp_X5_305 (Nat.le_of_ble_eq_true rfl) rfl (Nat.le_of_ble_eq_true rfl) rfl (fun s2 => ?_)
  refine af_iconst K 17 dX5_image_16 rfl cs_iconst_1 ?_
  exact af_reti K dX5_image_17
def F_X5_undo  (σ : fk_T) : Option (Int32 × fk_T) := if (σ.1 26 4) = 0 then ((F_X5_finds 3 σ).bind (fun q3 => some (q3.1, q3.2))) else ((F_X5_copies 30 27 σ).bind (fun q1 => fk_A (q1.1 27) 135 1 (fun y2 => some (y2, q1))))
set_option maxRecDepth 100000 in
set_option maxHeartbeats 4000000 in
theorem A_X5_undo (X : aw_X) (l : Launch)  (σ : fk_T) : af_G X l mX5_undo [.ref 26] (hp σ) ρi (F_X5_undo  σ) := by
  refine af_mk (by decide) rfl (fun q _ => aw_oki q) [some (.ref 26)] rfl ?_
  rintro cx rfl rfl hN K
  replace hN : aw_nL cx = 1 := hN
  replace K : aw_K cx cX5_undo RX5 rX5_undo := K
  unfold F_X5_undo
  refine af_aload_n K 1 dX5_undo_0 rfl rfl ?_
  refine af_get K 4 dX5_undo_1 rfl fl_X5_305 (Nat.le_of_ble_eq_true rfl) rfl rfl ?_
  refine af_if_ne K 7 13 dX5_undo_4 rfl rfl (fun _ => ?_) (fun _ => ?_)
  · refine af_aload_n K 14 dX5_undo_13 rfl rfl ?_
    refine af_get K 17 dX5_undo_14 rfl fl_X5_19 (Nat.le_of_ble_eq_true rfl) rfl rfl ?_
    refine af_aload_n K 18 dX5_undo_17 rfl rfl ?_
    refine af_get K 21 dX5_undo_18 rfl fl_X5_7 (Nat.le_of_ble_eq_true rfl) rfl rfl ?_
    refine af_callS_v K (vs := [.ref 30, .ref 27]) ms_X5_copies lk_910 24 dX5_undo_21 rfl rfl rfl rfl (A_X5_copies _ _ 30 (Or.inr (Or.inr (Or.inr rfl))) 27 (Or.inl rfl) σ) rfl (fun q1 => ?_)
    refine af_aload_n K 25 dX5_undo_24 rfl rfl ?_
    refine af_get K 28 dX5_undo_25 rfl fl_X5_7 (Nat.le_of_ble_eq_true rfl) rfl rfl ?_
    refine af_iconst K 29 dX5_undo_28 rfl cs_iconst_1 ?_
    refine af_iald K 30 dX5_undo_29 rfl (Nat.le_of_ble_eq_true rfl) rfl (fun y2 => ?_)
    exact af_reti K dX5_undo_30
  · refine af_aload_n K 8 dX5_undo_7 rfl rfl ?_
    refine af_iconst K 9 dX5_undo_8 rfl cs_iconst_3 ?_
    refine af_callV_i K (b := 26) (vs := [.int 3]) mv_X5_finds lk_760 ((hp_at _ (Nat.le_of_ble_eq_true rfl)).trans rfl) rfl 12 dX5_undo_9 rfl rfl rfl rfl (A_X5_finds _ _ 3 σ) rfl (fun q3 => ?_)
    exact af_reti K dX5_undo_12
def F_X5_tear  (σ : fk_T) : Option (Int32 × fk_T) := if (σ.1 26 4) = 0 then (fk_B (fk_w σ 26 (upd (σ.1 26) 4 0)) (fun s1 => some (0, s1))) else (fk_B (fk_w σ 26 (upd (σ.1 26) 4 0)) (fun s2 => some (1, s2)))
set_option maxRecDepth 100000 in
set_option maxHeartbeats 4000000 in
theorem A_X5_tear (X : aw_X) (l : Launch)  (σ : fk_T) : af_G X l mX5_tear [.ref 26] (hp σ) ρi (F_X5_tear  σ) := by
  refine af_mk (by decide) rfl (fun q _ => aw_oki q) [some (.ref 26), none] rfl ?_
  rintro cx rfl rfl hN K
  replace hN : aw_nL cx = 2 := hN
  replace K : aw_K cx cX5_tear RX5 rX5_tear := K
  unfold F_X5_tear
  refine af_aload_n K 1 dX5_tear_0 rfl rfl ?_
  refine af_get K 4 dX5_tear_1 rfl fl_X5_305 (Nat.le_of_ble_eq_true rfl) rfl rfl ?_
  refine af_if_eq K 7 11 dX5_tear_4 rfl rfl (fun _ => ?_) (fun _ => ?_)
  · refine af_iconst K 12 dX5_tear_11 rfl cs_iconst_0 ?_
    refine af_istore_n K 13 [some (.ref 26), some (.int 0)] dX5_tear_12 rfl (by rw [hN]; exact Nat.le_of_ble_eq_true rfl) rfl ?_
    refine af_aload_n K 14 dX5_tear_13 rfl rfl ?_
    refine af_iconst K 15 dX5_tear_14 rfl cs_iconst_0 ?_
    refine af_putZ K (b := false) rfl 18 dX5_tear_15 rfl fp_X5_305 (Nat.le_of_ble_eq_true rfl) rfl (Nat.le_of_ble_eq_true rfl) rfl (fun s1 => ?_)
    refine af_iload_n K 19 dX5_tear_18 rfl rfl ?_
    exact af_reti K dX5_tear_19
  · refine af_iconst K 8 dX5_tear_7 rfl cs_iconst_1 ?_
    refine af_goto K 12 dX5_tear_8 rfl ?_
    refine af_istore_n K 13 [some (.ref 26), some (.int 1)] dX5_tear_12 rfl (by rw [hN]; exact Nat.le_of_ble_eq_true rfl) rfl ?_
    refine af_aload_n K 14 dX5_tear_13 rfl rfl ?_
    refine af_iconst K 15 dX5_tear_14 rfl cs_iconst_0 ?_
    refine af_putZ K (b := false) rfl 18 dX5_tear_15 rfl fp_X5_305 (Nat.le_of_ble_eq_true rfl) rfl (Nat.le_of_ble_eq_true rfl) rfl (fun s2 => ?_)
    refine af_iload_n K 19 dX5_tear_18 rfl rfl ?_
    exact af_reti K dX5_tear_19
def L_X5_holding_4  : Nat → Int32 → Int32 → fk_T → (Int32 → Int32 → fk_T → Option (Int32 × fk_T)) → Option (Int32 × fk_T)
  | 0, _, _, _, _ => none
  | fu + 1, x1, x2, σ, k => if 10 ≤ x2 then (k x1 x2 σ) else (fk_A (σ.1 27) 135 (125 + x2) (fun y1 => if y1 ≤ 0 then (fk_B (x1 + 0) (fun y2 => fk_B (x2 + 1) (fun y3 => L_X5_holding_4 fu y2 y3 σ k))) else (fk_B (x1 + 1) (fun y4 => fk_B (x2 + 1) (fun y5 => L_X5_holding_4 fu y4 y5 σ k)))))
def F_X5_holding  (σ : fk_T) : Option (Int32 × fk_T) := L_X5_holding_4 fk_N 0 0 σ (fun y7 y8 s6 => some (y7, s6))
set_option maxRecDepth 100000 in
set_option maxHeartbeats 4000000 in
theorem W_X5_holding_4 {cx : aw_C} (hN : aw_nL cx = 3) (K : aw_K cx cX5_holding RX5 rX5_holding)  : ∀ (fu : Nat) (x1 : Int32) (x2 : Int32) (σ : fk_T) (k : Int32 → Int32 → fk_T → Option (Int32 × fk_T)), (∀ (x1 : Int32) (x2 : Int32) (σ : fk_T), af cx ρi 36 [some (.ref 26), some (.int x1), some (.int x2)] [] (hp σ) (k x1 x2 σ)) → af cx ρi 4 [some (.ref 26), some (.int x1), some (.int x2)] [] (hp σ) (L_X5_holding_4 fu x1 x2 σ k) := by
  intro fu
  induction fu with
  | zero => intros; exact af_none
  | succ fu ih4 =>
    intro x1 x2 σ k hk4
    rw [L_X5_holding_4]
    refine af_iload_n K 5 dX5_holding_4 rfl rfl ?_
    refine af_bipush K 7 dX5_holding_5 rfl cs_bipush_10 ?_
    refine af_icmp_ge K 10 36 dX5_holding_7 rfl rfl (fun _ => ?_) (fun _ => ?_)
    · refine af_lm [true, true, true] rfl ?_
      exact hk4 _ _ _
    · refine af_iload_n K 11 dX5_holding_10 rfl rfl ?_
      refine af_aload_n K 12 dX5_holding_11 rfl rfl ?_
      refine af_get K 15 dX5_holding_12 rfl fl_X5_7 (Nat.le_of_ble_eq_true rfl) rfl rfl ?_
      refine af_bipush K 17 dX5_holding_15 rfl cs_bipush_125 ?_
      refine af_iload_n K 18 dX5_holding_17 rfl rfl ?_
      refine af_iadd K 19 dX5_holding_18 rfl ?_
      refine af_iald K 20 dX5_holding_19 rfl (Nat.le_of_ble_eq_true rfl) rfl (fun y1 => ?_)
      refine af_if_le K 23 27 dX5_holding_20 rfl rfl (fun _ => ?_) (fun _ => ?_)
      · refine af_iconst K 28 dX5_holding_27 rfl cs_iconst_0 ?_
        refine af_iadd K 29 dX5_holding_28 rfl ?_
        refine af_Bi (fun y2 => ?_)
        refine af_istore_n K 30 [some (.ref 26), some (.int y2), some (.int x2)] dX5_holding_29 rfl (by rw [hN]; exact Nat.le_of_ble_eq_true rfl) rfl ?_
        refine af_iincB K 33 (fun yy => [some (.ref 26), some (.int y2), some (.int yy)]) dX5_holding_30 rfl (by rw [hN]; exact Nat.le_of_ble_eq_true rfl) rfl cs_iconst_1 (fun _ => rfl) (fun y3 => ?_)
        refine af_goto K 4 dX5_holding_33 rfl ?_
        refine af_lm [true, true, true] rfl ?_
        exact ih4 _ _ _ _ hk4
      · refine af_iconst K 24 dX5_holding_23 rfl cs_iconst_1 ?_
        refine af_goto K 28 dX5_holding_24 rfl ?_
        refine af_iadd K 29 dX5_holding_28 rfl ?_
        refine af_Bi (fun y4 => ?_)
        refine af_istore_n K 30 [some (.ref 26), some (.int y4), some (.int x2)] dX5_holding_29 rfl (by rw [hN]; exact Nat.le_of_ble_eq_true rfl) rfl ?_
        refine af_iincB K 33 (fun yy => [some (.ref 26), some (.int y4), some (.int yy)]) dX5_holding_30 rfl (by rw [hN]; exact Nat.le_of_ble_eq_true rfl) rfl cs_iconst_1 (fun _ => rfl) (fun y5 => ?_)
        refine af_goto K 4 dX5_holding_33 rfl ?_
        refine af_lm [true, true, true] rfl ?_
        exact ih4 _ _ _ _ hk4
set_option maxRecDepth 100000 in
set_option maxHeartbeats 4000000 in
theorem A_X5_holding (X : aw_X) (l : Launch)  (σ : fk_T) : af_G X l mX5_holding [.ref 26] (hp σ) ρi (F_X5_holding  σ) := by
  refine af_mk (by decide) rfl (fun q _ => aw_oki q) [some (.ref 26), none, none] rfl ?_
  rintro cx rfl rfl hN K
  replace hN : aw_nL cx = 3 := hN
  replace K : aw_K cx cX5_holding RX5 rX5_holding := K
  unfold F_X5_holding
  refine af_iconst K 1 dX5_holding_0 rfl cs_iconst_0 ?_
  refine af_istore_n K 2 [some (.ref 26), some (.int 0), none] dX5_holding_1 rfl (by rw [hN]; exact Nat.le_of_ble_eq_true rfl) rfl ?_
  refine af_iconst K 3 dX5_holding_2 rfl cs_iconst_0 ?_
  refine af_istore_n K 4 [some (.ref 26), some (.int 0), some (.int 0)] dX5_holding_3 rfl (by rw [hN]; exact Nat.le_of_ble_eq_true rfl) rfl ?_
  refine af_lm [true, true, true] rfl ?_
  refine W_X5_holding_4 hN K  fk_N _ _ _ _ (fun y7 y8 s6 => ?_)
  refine af_iload_n K 37 dX5_holding_36 rfl rfl ?_
  exact af_reti K dX5_holding_37
def F_X5_count (x1 : Int32) (σ : fk_T) : Option (Int32 × fk_T) := if x1 = 0 then (fk_A (σ.1 27) 135 1 (fun y1 => some (y1, σ))) else (if x1 = 1 then (fk_A (σ.1 27) 135 0 (fun y2 => some (y2, σ))) else (if x1 = 2 then (fk_A (σ.1 27) 135 4 (fun y3 => some (y3, σ))) else (if x1 = 3 then (fk_A (σ.1 27) 135 5 (fun y4 => some (y4, σ))) else (if x1 = 4 then ((F_X5_sumOf 5 σ).bind (fun q5 => some (q5.1, q5.2))) else (if x1 = 5 then (some ((σ.1 26 7), σ)) else (if x1 = 6 then (fk_A (σ.1 27) 135 2 (fun y6 => some (y6, σ))) else (if x1 = 7 then ((F_X5_holding  σ).bind (fun q7 => some (q7.1, q7.2))) else ((F_X5_finds 0 σ).bind (fun q8 => some (q8.1, q8.2))))))))))
set_option maxRecDepth 100000 in
set_option maxHeartbeats 4000000 in
theorem A_X5_count (X : aw_X) (l : Launch) (x1 : Int32) (σ : fk_T) : af_G X l mX5_count [.ref 26, .int x1] (hp σ) ρi (F_X5_count x1 σ) := by
  refine af_mk (by decide) rfl (fun q _ => aw_oki q) [some (.ref 26), some (.int x1)] rfl ?_
  rintro cx rfl rfl hN K
  replace hN : aw_nL cx = 2 := hN
  replace K : aw_K cx cX5_count RX5 rX5_count := K
  unfold F_X5_count
  refine af_iload_n K 1 dX5_count_0 rfl rfl ?_
  refine af_ite (fun hx => ?_) (fun hx0 => ?_)
  · refine af_tin K 48 0 hx dX5_count_1 (by decide) (by decide) rfl rfl ?_
    refine af_aload_n K 49 dX5_count_48 rfl rfl ?_
    refine af_get K 52 dX5_count_49 rfl fl_X5_7 (Nat.le_of_ble_eq_true rfl) rfl rfl ?_
    refine af_iconst K 53 dX5_count_52 rfl cs_iconst_1 ?_
    refine af_iald K 54 dX5_count_53 rfl (Nat.le_of_ble_eq_true rfl) rfl (fun y1 => ?_)
    exact af_reti K dX5_count_54
  refine af_ite (fun hx => ?_) (fun hx1 => ?_)
  · refine af_tin K 55 1 hx dX5_count_1 (by decide) (by decide) rfl rfl ?_
    refine af_aload_n K 56 dX5_count_55 rfl rfl ?_
    refine af_get K 59 dX5_count_56 rfl fl_X5_7 (Nat.le_of_ble_eq_true rfl) rfl rfl ?_
    refine af_iconst K 60 dX5_count_59 rfl cs_iconst_0 ?_
    refine af_iald K 61 dX5_count_60 rfl (Nat.le_of_ble_eq_true rfl) rfl (fun y2 => ?_)
    exact af_reti K dX5_count_61
  refine af_ite (fun hx => ?_) (fun hx2 => ?_)
  · refine af_tin K 62 2 hx dX5_count_1 (by decide) (by decide) rfl rfl ?_
    refine af_aload_n K 63 dX5_count_62 rfl rfl ?_
    refine af_get K 66 dX5_count_63 rfl fl_X5_7 (Nat.le_of_ble_eq_true rfl) rfl rfl ?_
    refine af_iconst K 67 dX5_count_66 rfl cs_iconst_4 ?_
    refine af_iald K 68 dX5_count_67 rfl (Nat.le_of_ble_eq_true rfl) rfl (fun y3 => ?_)
    exact af_reti K dX5_count_68
  refine af_ite (fun hx => ?_) (fun hx3 => ?_)
  · refine af_tin K 69 3 hx dX5_count_1 (by decide) (by decide) rfl rfl ?_
    refine af_aload_n K 70 dX5_count_69 rfl rfl ?_
    refine af_get K 73 dX5_count_70 rfl fl_X5_7 (Nat.le_of_ble_eq_true rfl) rfl rfl ?_
    refine af_iconst K 74 dX5_count_73 rfl cs_iconst_5 ?_
    refine af_iald K 75 dX5_count_74 rfl (Nat.le_of_ble_eq_true rfl) rfl (fun y4 => ?_)
    exact af_reti K dX5_count_75
  refine af_ite (fun hx => ?_) (fun hx4 => ?_)
  · refine af_tin K 76 4 hx dX5_count_1 (by decide) (by decide) rfl rfl ?_
    refine af_aload_n K 77 dX5_count_76 rfl rfl ?_
    refine af_iconst K 78 dX5_count_77 rfl cs_iconst_5 ?_
    refine af_callV_i K (b := 26) (vs := [.int 5]) mv_X5_sumOf lk_897 ((hp_at _ (Nat.le_of_ble_eq_true rfl)).trans rfl) rfl 81 dX5_count_78 rfl rfl rfl rfl (A_X5_sumOf _ _ 5 σ) rfl (fun q5 => ?_)
    exact af_reti K dX5_count_81
  refine af_ite (fun hx => ?_) (fun hx5 => ?_)
  · refine af_tin K 82 5 hx dX5_count_1 (by decide) (by decide) rfl rfl ?_
    refine af_aload_n K 83 dX5_count_82 rfl rfl ?_
    refine af_get K 86 dX5_count_83 rfl fl_X5_197 (Nat.le_of_ble_eq_true rfl) rfl rfl ?_
    exact af_reti K dX5_count_86
  refine af_ite (fun hx => ?_) (fun hx6 => ?_)
  · refine af_tin K 87 6 hx dX5_count_1 (by decide) (by decide) rfl rfl ?_
    refine af_aload_n K 88 dX5_count_87 rfl rfl ?_
    refine af_get K 91 dX5_count_88 rfl fl_X5_7 (Nat.le_of_ble_eq_true rfl) rfl rfl ?_
    refine af_iconst K 92 dX5_count_91 rfl cs_iconst_2 ?_
    refine af_iald K 93 dX5_count_92 rfl (Nat.le_of_ble_eq_true rfl) rfl (fun y6 => ?_)
    exact af_reti K dX5_count_93
  refine af_ite (fun hx => ?_) (fun hx7 => ?_)
  · refine af_tin K 94 7 hx dX5_count_1 (by decide) (by decide) rfl rfl ?_
    refine af_aload_n K 95 dX5_count_94 rfl rfl ?_
    refine af_callV_i K (b := 26) (vs := []) mv_X5_holding lk_1145 ((hp_at _ (Nat.le_of_ble_eq_true rfl)).trans rfl) rfl 98 dX5_count_95 rfl rfl rfl rfl (A_X5_holding _ _ σ) rfl (fun q7 => ?_)
    exact af_reti K dX5_count_98
  refine af_tout K 99 dX5_count_1 (tsw_0_7 hx0 hx1 hx2 hx3 hx4 hx5 hx6 hx7) rfl ?_
  refine af_aload_n K 100 dX5_count_99 rfl rfl ?_
  refine af_iconst K 101 dX5_count_100 rfl cs_iconst_0 ?_
  refine af_callV_i K (b := 26) (vs := [.int 0]) mv_X5_finds lk_760 ((hp_at _ (Nat.le_of_ble_eq_true rfl)).trans rfl) rfl 104 dX5_count_101 rfl rfl rfl rfl (A_X5_finds _ _ 0 σ) rfl (fun q8 => ?_)
  exact af_reti K dX5_count_104
def L_X5_status_24  : Nat → Int32 → Int32 → Int32 → fk_T → (Int32 → Int32 → Int32 → fk_T → Option (Int32 × fk_T)) → Option (Int32 × fk_T)
  | 0, _, _, _, _, _ => none
  | fu + 1, x1, x2, x3, σ, k => if 7 ≤ x3 then (k x1 x2 x3 σ) else (fk_A (σ.1 31) 7 x3 (fun y2 => fk_B (x2 + y2) (fun y3 => fk_B (x3 + 1) (fun y4 => L_X5_status_24 fu x1 y3 y4 σ k))))
def F_X5_status (x1 : Int32) (σ : fk_T) : Option (Int32 × fk_T) := (F_X5_in (x1.toInt64) (-1) 6 σ).bind (fun q1 => if (fk_b q1.1) = 0 then ((F_X5_finds 0 q1.2).bind (fun q10 => some (q10.1, q10.2))) else (L_X5_status_24 fk_N x1 0 0 q1.2 (fun y6 y7 y8 s5 => if 0 ≤ y6 then (fk_A (s5.1 31) 7 y6 (fun y9 => some (y9, s5))) else (some (y7, s5)))))
set_option maxRecDepth 100000 in
set_option maxHeartbeats 4000000 in
theorem W_X5_status_24 {cx : aw_C} (hN : aw_nL cx = 4) (K : aw_K cx cX5_status RX5 rX5_status)  : ∀ (fu : Nat) (x1 : Int32) (x2 : Int32) (x3 : Int32) (σ : fk_T) (k : Int32 → Int32 → Int32 → fk_T → Option (Int32 × fk_T)), (∀ (x1 : Int32) (x2 : Int32) (x3 : Int32) (σ : fk_T), af cx ρi 45 [some (.ref 26), some (.int x1), some (.int x2), some (.int x3)] [] (hp σ) (k x1 x2 x3 σ)) → af cx ρi 24 [some (.ref 26), some (.int x1), some (.int x2), some (.int x3)] [] (hp σ) (L_X5_status_24 fu x1 x2 x3 σ k) := by
  intro fu
  induction fu with
  | zero => intros; exact af_none
  | succ fu ih24 =>
    intro x1 x2 x3 σ k hk24
    rw [L_X5_status_24]
    refine af_iload_n K 25 dX5_status_24 rfl rfl ?_
    refine af_bipush K 27 dX5_status_25 rfl cs_bipush_7 ?_
    refine af_icmp_ge K 30 45 dX5_status_27 rfl rfl (fun _ => ?_) (fun _ => ?_)
    · refine af_lm [true, true, true, true] rfl ?_
      exact hk24 _ _ _ _
    · refine af_iload_n K 31 dX5_status_30 rfl rfl ?_
      refine af_aload_n K 32 dX5_status_31 rfl rfl ?_
      refine af_get K 35 dX5_status_32 rfl fl_X5_22 (Nat.le_of_ble_eq_true rfl) rfl rfl ?_
      refine af_iload_n K 36 dX5_status_35 rfl rfl ?_
      refine af_iald K 37 dX5_status_36 rfl (Nat.le_of_ble_eq_true rfl) rfl (fun y2 => ?_)
      refine af_iadd K 38 dX5_status_37 rfl ?_
      refine af_Bi (fun y3 => ?_)
      refine af_istore_n K 39 [some (.ref 26), some (.int x1), some (.int y3), some (.int x3)] dX5_status_38 rfl (by rw [hN]; exact Nat.le_of_ble_eq_true rfl) rfl ?_
      refine af_iincB K 42 (fun yy => [some (.ref 26), some (.int x1), some (.int y3), some (.int yy)]) dX5_status_39 rfl (by rw [hN]; exact Nat.le_of_ble_eq_true rfl) rfl cs_iconst_1 (fun _ => rfl) (fun y4 => ?_)
      refine af_goto K 24 dX5_status_42 rfl ?_
      refine af_lm [true, true, true, true] rfl ?_
      exact ih24 _ _ _ _ _ hk24
set_option maxRecDepth 100000 in
set_option maxHeartbeats 4000000 in
theorem A_X5_status (X : aw_X) (l : Launch) (x1 : Int32) (σ : fk_T) : af_G X l mX5_status [.ref 26, .int x1] (hp σ) ρi (F_X5_status x1 σ) := by
  refine af_mk (by decide) rfl (fun q _ => aw_oki q) [some (.ref 26), some (.int x1), none, none] rfl ?_
  rintro cx rfl rfl hN K
  replace hN : aw_nL cx = 4 := hN
  replace K : aw_K cx cX5_status RX5 rX5_status := K
  unfold F_X5_status
  refine af_iload_n K 1 dX5_status_0 rfl rfl ?_
  refine af_i2l K 2 dX5_status_1 rfl ?_
  refine af_ldc2 K 5 dX5_status_2 rfl lk_1101 ?_
  refine af_ldc2 K 8 dX5_status_5 rfl lk_779 ?_
  refine af_callS_z K (vs := [.long (x1.toInt64), .long (-1), .long 6]) ms_X5_in lk_753 11 dX5_status_8 rfl rfl rfl rfl (A_X5_in _ _ (x1.toInt64) (-1) 6 σ) rfl (fun q1 => ?_)
  refine af_if_ne K 14 20 dX5_status_11 rfl rfl (fun _ => ?_) (fun _ => ?_)
  · refine af_iconst K 21 dX5_status_20 rfl cs_iconst_0 ?_
    refine af_istore_n K 22 [some (.ref 26), some (.int x1), some (.int 0), none] dX5_status_21 rfl (by rw [hN]; exact Nat.le_of_ble_eq_true rfl) rfl ?_
    refine af_iconst K 23 dX5_status_22 rfl cs_iconst_0 ?_
    refine af_istore_n K 24 [some (.ref 26), some (.int x1), some (.int 0), some (.int 0)] dX5_status_23 rfl (by rw [hN]; exact Nat.le_of_ble_eq_true rfl) rfl ?_
    refine af_lm [true, true, true, true] rfl ?_
    refine W_X5_status_24 hN K  fk_N _ _ _ _ _ (fun y6 y7 y8 s5 => ?_)
    refine af_iload_n K 46 dX5_status_45 rfl rfl ?_
    refine af_if_ge K 49 53 dX5_status_46 rfl rfl (fun _ => ?_) (fun _ => ?_)
    · refine af_aload_n K 54 dX5_status_53 rfl rfl ?_
      refine af_get K 57 dX5_status_54 rfl fl_X5_22 (Nat.le_of_ble_eq_true rfl) rfl rfl ?_
      refine af_iload_n K 58 dX5_status_57 rfl rfl ?_
      refine af_iald K 59 dX5_status_58 rfl (Nat.le_of_ble_eq_true rfl) rfl (fun y9 => ?_)
      exact af_reti K dX5_status_59
    · refine af_iload_n K 50 dX5_status_49 rfl rfl ?_
      refine af_goto K 59 dX5_status_50 rfl ?_
      exact af_reti K dX5_status_59
  · refine af_aload_n K 15 dX5_status_14 rfl rfl ?_
    refine af_iconst K 16 dX5_status_15 rfl cs_iconst_0 ?_
    refine af_callV_i K (b := 26) (vs := [.int 0]) mv_X5_finds lk_760 ((hp_at _ (Nat.le_of_ble_eq_true rfl)).trans rfl) rfl 19 dX5_status_16 rfl rfl rfl rfl (A_X5_finds _ _ 0 q1.2) rfl (fun q10 => ?_)
    exact af_reti K dX5_status_19
