def F_X0_become (b : Nat) (c : Nat) (σ : fk_T) : Option (fk_T) := fk_B (fk_w σ b (upd (σ.1 b) 0 (σ.1 c 0))) (fun s1 => fk_B (fk_w s1 b (upd (s1.1 b) 1 (s1.1 c 1))) (fun s2 => fk_B (fk_w s2 b (upd (s2.1 b) 2 (s2.1 c 2))) (fun s3 => fk_B (fk_w s3 b (upd (s3.1 b) 3 (s3.1 c 3))) (fun s4 => fk_B (fk_w s4 b (upd (s4.1 b) 4 (s4.1 c 4))) (fun s5 => fk_B (fk_w s5 b (upd (s5.1 b) 5 (s5.1 c 5))) (fun s6 => fk_B (fk_w s6 b (upd (s6.1 b) 6 (s6.1 c 6))) (fun s7 => fk_Y s7 (c + 1) 6 0 (b + 1) 6 0 6 (fun s8 => fk_Y s8 (c + 2) 48 0 (b + 2) 48 0 48 (fun s9 => fk_Y s9 (c + 3) 64 0 (b + 3) 64 0 64 (fun s10 => fk_Y s10 (c + 4) 10 0 (b + 4) 10 0 10 (fun s11 => some s11)))))))))))
set_option maxRecDepth 100000 in
set_option maxHeartbeats 4000000 in
theorem A_X0_become (X : aw_X) (l : Launch) (b : Nat) (hb : hp_P b) (c : Nat) (hc : hp_P c) (σ : fk_T) : af_G X l mX0_become [.ref b, .ref c] (hp σ) ρv (F_X0_become b c σ) := by
  refine af_mk (by decide) rfl (fun q _ => aw_okv q) [some (.ref b), some (.ref c)] rfl ?_
  rintro cx rfl rfl hN K
  replace hN : aw_nL cx = 2 := hN
  replace K : aw_K cx cX0_become RX0 rX0_become := K
  unfold F_X0_become
  refine af_aload_n K 1 dX0_become_0 rfl rfl ?_
  refine af_aload_n K 2 dX0_become_1 rfl rfl ?_
  refine af_get K 5 dX0_become_2 rfl fl_X0_9 (hp_lt hc) (hp_p0 hc _ _) rfl ?_
  refine af_put K 8 dX0_become_5 rfl fp_X0_9 (hp_lt hb) (hp_p0 hb _ _) (Nat.le_of_ble_eq_true rfl) ((hp_p0 hb _ _).trans rfl) (fun s1 => ?_)
  refine af_aload_n K 9 dX0_become_8 rfl rfl ?_
  refine af_aload_n K 10 dX0_become_9 rfl rfl ?_
  refine af_get K 13 dX0_become_10 rfl fl_X0_37 (hp_lt hc) (hp_p0 hc _ _) rfl ?_
  refine af_put K 16 dX0_become_13 rfl fp_X0_37 (hp_lt hb) (hp_p0 hb _ _) (Nat.le_of_ble_eq_true rfl) ((hp_p0 hb _ _).trans rfl) (fun s2 => ?_)
  refine af_aload_n K 17 dX0_become_16 rfl rfl ?_
  refine af_aload_n K 18 dX0_become_17 rfl rfl ?_
  refine af_get K 21 dX0_become_18 rfl fl_X0_40 (hp_lt hc) (hp_p0 hc _ _) rfl ?_
  refine af_put K 24 dX0_become_21 rfl fp_X0_40 (hp_lt hb) (hp_p0 hb _ _) (Nat.le_of_ble_eq_true rfl) ((hp_p0 hb _ _).trans rfl) (fun s3 => ?_)
  refine af_aload_n K 25 dX0_become_24 rfl rfl ?_
  refine af_aload_n K 26 dX0_become_25 rfl rfl ?_
  refine af_get K 29 dX0_become_26 rfl fl_X0_43 (hp_lt hc) (hp_p0 hc _ _) rfl ?_
  refine af_put K 32 dX0_become_29 rfl fp_X0_43 (hp_lt hb) (hp_p0 hb _ _) (Nat.le_of_ble_eq_true rfl) ((hp_p0 hb _ _).trans rfl) (fun s4 => ?_)
  refine af_aload_n K 33 dX0_become_32 rfl rfl ?_
  refine af_aload_n K 34 dX0_become_33 rfl rfl ?_
  refine af_get K 37 dX0_become_34 rfl fl_X0_46 (hp_lt hc) (hp_p0 hc _ _) rfl ?_
  refine af_put K 40 dX0_become_37 rfl fp_X0_46 (hp_lt hb) (hp_p0 hb _ _) (Nat.le_of_ble_eq_true rfl) ((hp_p0 hb _ _).trans rfl) (fun s5 => ?_)
  refine af_aload_n K 41 dX0_become_40 rfl rfl ?_
  refine af_aload_n K 42 dX0_become_41 rfl rfl ?_
  refine af_get K 45 dX0_become_42 rfl fl_X0_15 (hp_lt hc) (hp_p0 hc _ _) rfl ?_
  refine af_put K 48 dX0_become_45 rfl fp_X0_15 (hp_lt hb) (hp_p0 hb _ _) (Nat.le_of_ble_eq_true rfl) ((hp_p0 hb _ _).trans rfl) (fun s6 => ?_)
  refine af_aload_n K 49 dX0_become_48 rfl rfl ?_
  refine af_aload_n K 50 dX0_become_49 rfl rfl ?_
  refine af_get K 53 dX0_become_50 rfl fl_X0_49 (hp_lt hc) (hp_p0 hc _ _) rfl ?_
  refine af_put K 56 dX0_become_53 rfl fp_X0_49 (hp_lt hb) (hp_p0 hb _ _) (Nat.le_of_ble_eq_true rfl) ((hp_p0 hb _ _).trans rfl) (fun s7 => ?_)
  refine af_aload_n K 57 dX0_become_56 rfl rfl ?_
  refine af_get K 60 dX0_become_57 rfl fl_X0_18 (hp_lt hc) (hp_p0 hc _ _) rfl ?_
  refine af_iconst K 61 dX0_become_60 rfl cs_iconst_0 ?_
  refine af_aload_n K 62 dX0_become_61 rfl rfl ?_
  refine af_get K 65 dX0_become_62 rfl fl_X0_18 (hp_lt hb) (hp_p0 hb _ _) rfl ?_
  refine af_iconst K 66 dX0_become_65 rfl cs_iconst_0 ?_
  refine af_bipush K 68 dX0_become_66 rfl cs_bipush_6 ?_
  refine af_copy K 71 dX0_become_68 rfl lk_332 rfl rfl rfl (hp_lt1 hc) (hp_p1 hc _ _) (hp_lt1 hb) (hp_p1 hb) (fun s8 => ?_)
  refine af_aload_n K 72 dX0_become_71 rfl rfl ?_
  refine af_get K 75 dX0_become_72 rfl fl_X0_22 (hp_lt hc) (hp_p0 hc _ _) rfl ?_
  refine af_iconst K 76 dX0_become_75 rfl cs_iconst_0 ?_
  refine af_aload_n K 77 dX0_become_76 rfl rfl ?_
  refine af_get K 80 dX0_become_77 rfl fl_X0_22 (hp_lt hb) (hp_p0 hb _ _) rfl ?_
  refine af_iconst K 81 dX0_become_80 rfl cs_iconst_0 ?_
  refine af_bipush K 83 dX0_become_81 rfl cs_bipush_48 ?_
  refine af_copy K 86 dX0_become_83 rfl lk_332 rfl rfl rfl (hp_lt2 hc) (hp_p2 hc _ _) (hp_lt2 hb) (hp_p2 hb) (fun s9 => ?_)
  refine af_aload_n K 87 dX0_become_86 rfl rfl ?_
  refine af_get K 90 dX0_become_87 rfl fl_X0_25 (hp_lt hc) (hp_p0 hc _ _) rfl ?_
  refine af_iconst K 91 dX0_become_90 rfl cs_iconst_0 ?_
  refine af_aload_n K 92 dX0_become_91 rfl rfl ?_
  refine af_get K 95 dX0_become_92 rfl fl_X0_25 (hp_lt hb) (hp_p0 hb _ _) rfl ?_
  refine af_iconst K 96 dX0_become_95 rfl cs_iconst_0 ?_
  refine af_bipush K 98 dX0_become_96 rfl cs_bipush_64 ?_
  refine af_copy K 101 dX0_become_98 rfl lk_332 rfl rfl rfl (hp_lt3 hc) (hp_p3 hc _ _) (hp_lt3 hb) (hp_p3 hb) (fun s10 => ?_)
  refine af_aload_n K 102 dX0_become_101 rfl rfl ?_
  refine af_get K 105 dX0_become_102 rfl fl_X0_28 (hp_lt hc) (hp_p0 hc _ _) rfl ?_
  refine af_iconst K 106 dX0_become_105 rfl cs_iconst_0 ?_
  refine af_aload_n K 107 dX0_become_106 rfl rfl ?_
  refine af_get K 110 dX0_become_107 rfl fl_X0_28 (hp_lt hb) (hp_p0 hb _ _) rfl ?_
  refine af_iconst K 111 dX0_become_110 rfl cs_iconst_0 ?_
  refine af_bipush K 113 dX0_become_111 rfl cs_bipush_10 ?_
  refine af_copy K 116 dX0_become_113 rfl lk_332 rfl rfl rfl (hp_lt4 hc) (hp_p4 hc _ _) (hp_lt4 hb) (hp_p4 hb) (fun s11 => ?_)
  exact af_retv K dX0_become_116
def F_X0_isFull (b : Nat) (σ : fk_T) : Option (Bool × fk_T) := if (σ.1 b 6) < 8 then (some (false, σ)) else (some (true, σ))
set_option maxRecDepth 100000 in
set_option maxHeartbeats 4000000 in
theorem A_X0_isFull (X : aw_X) (l : Launch) (b : Nat) (hb : hp_P b) (σ : fk_T) : af_G X l mX0_isFull [.ref b] (hp σ) ρz (F_X0_isFull b σ) := by
  refine af_mk (by decide) rfl (fun q _ => aw_okz q) [some (.ref b)] rfl ?_
  rintro cx rfl rfl hN K
  replace hN : aw_nL cx = 1 := hN
  replace K : aw_K cx cX0_isFull RX0 rX0_isFull := K
  unfold F_X0_isFull
  refine af_aload_n K 1 dX0_isFull_0 rfl rfl ?_
  refine af_get K 4 dX0_isFull_1 rfl fl_X0_49 (hp_lt hb) (hp_p0 hb _ _) rfl ?_
  refine af_bipush K 6 dX0_isFull_4 rfl cs_bipush_8 ?_
  refine af_icmp_lt K 9 13 dX0_isFull_6 rfl rfl (fun _ => ?_) (fun _ => ?_)
  · refine af_iconst K 14 dX0_isFull_13 rfl cs_iconst_0 ?_
    exact af_retz K rfl dX0_isFull_14
  · refine af_iconst K 10 dX0_isFull_9 rfl cs_iconst_1 ?_
    refine af_goto K 14 dX0_isFull_10 rfl ?_
    exact af_retz K rfl dX0_isFull_14
def F_X0_has (b : Nat) (x1 : Int32) (σ : fk_T) : Option (Bool × fk_T) := if x1 < 0 then (some (false, σ)) else (if (σ.1 b 6) ≤ x1 then (some (false, σ)) else (some (true, σ)))
set_option maxRecDepth 100000 in
set_option maxHeartbeats 4000000 in
theorem A_X0_has (X : aw_X) (l : Launch) (b : Nat) (hb : hp_P b) (x1 : Int32) (σ : fk_T) : af_G X l mX0_has [.ref b, .int x1] (hp σ) ρz (F_X0_has b x1 σ) := by
  refine af_mk (by decide) rfl (fun q _ => aw_okz q) [some (.ref b), some (.int x1)] rfl ?_
  rintro cx rfl rfl hN K
  replace hN : aw_nL cx = 2 := hN
  replace K : aw_K cx cX0_has RX0 rX0_has := K
  unfold F_X0_has
  refine af_iload_n K 1 dX0_has_0 rfl rfl ?_
  refine af_if_lt K 4 16 dX0_has_1 rfl rfl (fun _ => ?_) (fun _ => ?_)
  · refine af_iconst K 17 dX0_has_16 rfl cs_iconst_0 ?_
    exact af_retz K rfl dX0_has_17
  · refine af_iload_n K 5 dX0_has_4 rfl rfl ?_
    refine af_aload_n K 6 dX0_has_5 rfl rfl ?_
    refine af_get K 9 dX0_has_6 rfl fl_X0_49 (hp_lt hb) (hp_p0 hb _ _) rfl ?_
    refine af_icmp_ge K 12 16 dX0_has_9 rfl rfl (fun _ => ?_) (fun _ => ?_)
    · refine af_iconst K 17 dX0_has_16 rfl cs_iconst_0 ?_
      exact af_retz K rfl dX0_has_17
    · refine af_iconst K 13 dX0_has_12 rfl cs_iconst_1 ?_
      refine af_goto K 17 dX0_has_13 rfl ?_
      exact af_retz K rfl dX0_has_17
def F_X0_hasTwo (b : Nat) (x1 : Int32) (x2 : Int32) (σ : fk_T) : Option (Bool × fk_T) := (F_X0_has b x1 σ).bind (fun q1 => if (fk_b q1.1) = 0 then (some (false, q1.2)) else ((F_X0_has b x2 q1.2).bind (fun q2 => if (fk_b q2.1) = 0 then (some (false, q2.2)) else (if x1 = x2 then (some (false, q2.2)) else (some (true, q2.2))))))
set_option maxRecDepth 100000 in
set_option maxHeartbeats 4000000 in
theorem A_X0_hasTwo (X : aw_X) (l : Launch) (b : Nat) (hb : hp_P b) (x1 : Int32) (x2 : Int32) (σ : fk_T) : af_G X l mX0_hasTwo [.ref b, .int x1, .int x2] (hp σ) ρz (F_X0_hasTwo b x1 x2 σ) := by
  refine af_mk (by decide) rfl (fun q _ => aw_okz q) [some (.ref b), some (.int x1), some (.int x2)] rfl ?_
  rintro cx rfl rfl hN K
  replace hN : aw_nL cx = 3 := hN
  replace K : aw_K cx cX0_hasTwo RX0 rX0_hasTwo := K
  unfold F_X0_hasTwo
  refine af_aload_n K 1 dX0_hasTwo_0 rfl rfl ?_
  refine af_iload_n K 2 dX0_hasTwo_1 rfl rfl ?_
  refine af_callV_z K (b := b) (vs := [.int x1]) mv_X0_has lk_238 ((hp_at _ (hp_lt hb)).trans (congrArg some (hp_p0 hb _ _))) rfl 5 dX0_hasTwo_2 rfl rfl rfl rfl (A_X0_has _ _ b hb x1 σ) rfl (fun q1 => ?_)
  refine af_if_eq K 8 25 dX0_hasTwo_5 rfl rfl (fun _ => ?_) (fun _ => ?_)
  · refine af_iconst K 26 dX0_hasTwo_25 rfl cs_iconst_0 ?_
    exact af_retz K rfl dX0_hasTwo_26
  · refine af_aload_n K 9 dX0_hasTwo_8 rfl rfl ?_
    refine af_iload_n K 10 dX0_hasTwo_9 rfl rfl ?_
    refine af_callV_z K (b := b) (vs := [.int x2]) mv_X0_has lk_238 ((hp_at _ (hp_lt hb)).trans (congrArg some (hp_p0 hb _ _))) rfl 13 dX0_hasTwo_10 rfl rfl rfl rfl (A_X0_has _ _ b hb x2 q1.2) rfl (fun q2 => ?_)
    refine af_if_eq K 16 25 dX0_hasTwo_13 rfl rfl (fun _ => ?_) (fun _ => ?_)
    · refine af_iconst K 26 dX0_hasTwo_25 rfl cs_iconst_0 ?_
      exact af_retz K rfl dX0_hasTwo_26
    · refine af_iload_n K 17 dX0_hasTwo_16 rfl rfl ?_
      refine af_iload_n K 18 dX0_hasTwo_17 rfl rfl ?_
      refine af_icmp_eq K 21 25 dX0_hasTwo_18 rfl rfl (fun _ => ?_) (fun _ => ?_)
      · refine af_iconst K 26 dX0_hasTwo_25 rfl cs_iconst_0 ?_
        exact af_retz K rfl dX0_hasTwo_26
      · refine af_iconst K 22 dX0_hasTwo_21 rfl cs_iconst_1 ?_
        refine af_goto K 26 dX0_hasTwo_22 rfl ?_
        exact af_retz K rfl dX0_hasTwo_26
def F_X0_addPotter (b : Nat) (x1 : Int32) (x2 : Int32) (x3 : Int32) (x4 : Int32) (σ : fk_T) : Option (Int32 × fk_T) := fk_B (σ.1 b 6) (fun y1 => fk_S σ (b + 2) 48 (0 + y1) x1 (fun s2 => fk_S s2 (b + 2) 48 (8 + y1) x2 (fun s3 => fk_S s3 (b + 2) 48 (16 + y1) x3 (fun s4 => fk_S s4 (b + 2) 48 (24 + y1) x4 (fun s5 => fk_S s5 (b + 2) 48 (32 + y1) 0 (fun s6 => fk_S s6 (b + 2) 48 (40 + y1) 0 (fun s7 => fk_B (fk_w s7 b (upd (s7.1 b) 6 ((s7.1 b 6) + 1))) (fun s8 => some (y1, s8)))))))))
set_option maxRecDepth 100000 in
set_option maxHeartbeats 4000000 in
theorem A_X0_addPotter (X : aw_X) (l : Launch) (b : Nat) (hb : hp_P b) (x1 : Int32) (x2 : Int32) (x3 : Int32) (x4 : Int32) (σ : fk_T) : af_G X l mX0_addPotter [.ref b, .int x1, .int x2, .int x3, .int x4] (hp σ) ρi (F_X0_addPotter b x1 x2 x3 x4 σ) := by
  refine af_mk (by decide) rfl (fun q _ => aw_oki q) [some (.ref b), some (.int x1), some (.int x2), some (.int x3), some (.int x4), none] rfl ?_
  rintro cx rfl rfl hN K
  replace hN : aw_nL cx = 6 := hN
  replace K : aw_K cx cX0_addPotter RX0 rX0_addPotter := K
  unfold F_X0_addPotter
  refine af_aload_n K 1 dX0_addPotter_0 rfl rfl ?_
  refine af_get K 4 dX0_addPotter_1 rfl fl_X0_49 (hp_lt hb) (hp_p0 hb _ _) rfl ?_
  refine af_Bi (fun y1 => ?_)
  refine af_istore K 6 [some (.ref b), some (.int x1), some (.int x2), some (.int x3), some (.int x4), some (.int y1)] dX0_addPotter_4 rfl (by rw [hN]; exact Nat.le_of_ble_eq_true rfl) rfl ?_
  refine af_aload_n K 7 dX0_addPotter_6 rfl rfl ?_
  refine af_get K 10 dX0_addPotter_7 rfl fl_X0_22 (hp_lt hb) (hp_p0 hb _ _) rfl ?_
  refine af_iconst K 11 dX0_addPotter_10 rfl cs_iconst_0 ?_
  refine af_iload K 13 dX0_addPotter_11 rfl rfl ?_
  refine af_iadd K 14 dX0_addPotter_13 rfl ?_
  refine af_iload_n K 15 dX0_addPotter_14 rfl rfl ?_
  refine af_iast K 16 dX0_addPotter_15 rfl (hp_lt2 hb) (hp_p2 hb) (fun s2 => ?_)
  refine af_aload_n K 17 dX0_addPotter_16 rfl rfl ?_
  refine af_get K 20 dX0_addPotter_17 rfl fl_X0_22 (hp_lt hb) (hp_p0 hb _ _) rfl ?_
  refine af_bipush K 22 dX0_addPotter_20 rfl cs_bipush_8 ?_
  refine af_iload K 24 dX0_addPotter_22 rfl rfl ?_
  refine af_iadd K 25 dX0_addPotter_24 rfl ?_
  refine af_iload_n K 26 dX0_addPotter_25 rfl rfl ?_
  refine af_iast K 27 dX0_addPotter_26 rfl (hp_lt2 hb) (hp_p2 hb) (fun s3 => ?_)
  refine af_aload_n K 28 dX0_addPotter_27 rfl rfl ?_
  refine af_get K 31 dX0_addPotter_28 rfl fl_X0_22 (hp_lt hb) (hp_p0 hb _ _) rfl ?_
  refine af_bipush K 33 dX0_addPotter_31 rfl cs_bipush_16 ?_
  refine af_iload K 35 dX0_addPotter_33 rfl rfl ?_
  refine af_iadd K 36 dX0_addPotter_35 rfl ?_
  refine af_iload_n K 37 dX0_addPotter_36 rfl rfl ?_
  refine af_iast K 38 dX0_addPotter_37 rfl (hp_lt2 hb) (hp_p2 hb) (fun s4 => ?_)
  refine af_aload_n K 39 dX0_addPotter_38 rfl rfl ?_
  refine af_get K 42 dX0_addPotter_39 rfl fl_X0_22 (hp_lt hb) (hp_p0 hb _ _) rfl ?_
  refine af_bipush K 44 dX0_addPotter_42 rfl cs_bipush_24 ?_
  refine af_iload K 46 dX0_addPotter_44 rfl rfl ?_
  refine af_iadd K 47 dX0_addPotter_46 rfl ?_
  refine af_iload K 49 dX0_addPotter_47 rfl rfl ?_
  refine af_iast K 50 dX0_addPotter_49 rfl (hp_lt2 hb) (hp_p2 hb) (fun s5 => ?_)
  refine af_aload_n K 51 dX0_addPotter_50 rfl rfl ?_
  refine af_get K 54 dX0_addPotter_51 rfl fl_X0_22 (hp_lt hb) (hp_p0 hb _ _) rfl ?_
  refine af_bipush K 56 dX0_addPotter_54 rfl cs_bipush_32 ?_
  refine af_iload K 58 dX0_addPotter_56 rfl rfl ?_
  refine af_iadd K 59 dX0_addPotter_58 rfl ?_
  refine af_iconst K 60 dX0_addPotter_59 rfl cs_iconst_0 ?_
  refine af_iast K 61 dX0_addPotter_60 rfl (hp_lt2 hb) (hp_p2 hb) (fun s6 => ?_)
  refine af_aload_n K 62 dX0_addPotter_61 rfl rfl ?_
  refine af_get K 65 dX0_addPotter_62 rfl fl_X0_22 (hp_lt hb) (hp_p0 hb _ _) rfl ?_
  refine af_bipush K 67 dX0_addPotter_65 rfl cs_bipush_40 ?_
  refine af_iload K 69 dX0_addPotter_67 rfl rfl ?_
  refine af_iadd K 70 dX0_addPotter_69 rfl ?_
  refine af_iconst K 71 dX0_addPotter_70 rfl cs_iconst_0 ?_
  refine af_iast K 72 dX0_addPotter_71 rfl (hp_lt2 hb) (hp_p2 hb) (fun s7 => ?_)
  refine af_aload_n K 73 dX0_addPotter_72 rfl rfl ?_
  refine af_dup K 74 dX0_addPotter_73 rfl rfl ?_
  refine af_get K 77 dX0_addPotter_74 rfl fl_X0_49 (hp_lt hb) (hp_p0 hb _ _) rfl ?_
  refine af_iconst K 78 dX0_addPotter_77 rfl cs_iconst_1 ?_
  refine af_iadd K 79 dX0_addPotter_78 rfl ?_
  refine af_put K 82 dX0_addPotter_79 rfl fp_X0_49 (hp_lt hb) (hp_p0 hb _ _) (Nat.le_of_ble_eq_true rfl) ((hp_p0 hb _ _).trans rfl) (fun s8 => ?_)
  refine af_iload K 84 dX0_addPotter_82 rfl rfl ?_
  exact af_reti K dX0_addPotter_84
def F_X0_pushes (b : Nat) (x1 : Int32) (σ : fk_T) : Option (Int32 × fk_T) := fk_A (σ.1 (b + 2)) 48 (8 + x1) (fun y1 => fk_B (y1 / 10) (fun y2 => fk_A (σ.1 (b + 2)) 48 (24 + x1) (fun y3 => fk_B (y2 + (y3 / 10)) (fun y4 => fk_A (σ.1 (b + 2)) 48 (16 + x1) (fun y5 => fk_A (σ.1 (b + 2)) 48 (0 + x1) (fun y6 => if y6 = 0 then (some (y2, σ)) else (if y6 = 1 then (some (y4, σ)) else (if y6 = 2 then (some ((2 * y2), σ)) else (if y6 = 3 then (some ((fk_max (y4 - (y5 / 10)) 0), σ)) else (if y6 = 4 then (some (((fk_max (y4 - (y5 / 10)) 0) + 2), σ)) else (if y6 = 5 then (some (1, σ)) else (if y6 = 6 then (some ((fk_max ((2 * y2) - (y5 / 5)) 0), σ)) else (some (1, σ))))))))))))))
set_option maxRecDepth 100000 in
set_option maxHeartbeats 4000000 in
theorem A_X0_pushes (X : aw_X) (l : Launch) (b : Nat) (hb : hp_P b) (x1 : Int32) (σ : fk_T) : af_G X l mX0_pushes [.ref b, .int x1] (hp σ) ρi (F_X0_pushes b x1 σ) := by
  refine af_mk (by decide) rfl (fun q _ => aw_oki q) [some (.ref b), some (.int x1), none, none, none] rfl ?_
  rintro cx rfl rfl hN K
  replace hN : aw_nL cx = 5 := hN
  replace K : aw_K cx cX0_pushes RX0 rX0_pushes := K
  unfold F_X0_pushes
  refine af_aload_n K 1 dX0_pushes_0 rfl rfl ?_
  refine af_get K 4 dX0_pushes_1 rfl fl_X0_22 (hp_lt hb) (hp_p0 hb _ _) rfl ?_
  refine af_bipush K 6 dX0_pushes_4 rfl cs_bipush_8 ?_
  refine af_iload_n K 7 dX0_pushes_6 rfl rfl ?_
  refine af_iadd K 8 dX0_pushes_7 rfl ?_
  refine af_iald K 9 dX0_pushes_8 rfl (hp_lt2 hb) (hp_p2 hb _ _) (fun y1 => ?_)
  refine af_bipush K 11 dX0_pushes_9 rfl cs_bipush_10 ?_
  refine af_idiv K 12 dX0_pushes_11 rfl cs_nz_10 ?_
  refine af_Bi (fun y2 => ?_)
  refine af_istore_n K 13 [some (.ref b), some (.int x1), some (.int y2), none, none] dX0_pushes_12 rfl (by rw [hN]; exact Nat.le_of_ble_eq_true rfl) rfl ?_
  refine af_iload_n K 14 dX0_pushes_13 rfl rfl ?_
  refine af_aload_n K 15 dX0_pushes_14 rfl rfl ?_
  refine af_get K 18 dX0_pushes_15 rfl fl_X0_22 (hp_lt hb) (hp_p0 hb _ _) rfl ?_
  refine af_bipush K 20 dX0_pushes_18 rfl cs_bipush_24 ?_
  refine af_iload_n K 21 dX0_pushes_20 rfl rfl ?_
  refine af_iadd K 22 dX0_pushes_21 rfl ?_
  refine af_iald K 23 dX0_pushes_22 rfl (hp_lt2 hb) (hp_p2 hb _ _) (fun y3 => ?_)
  refine af_bipush K 25 dX0_pushes_23 rfl cs_bipush_10 ?_
  refine af_idiv K 26 dX0_pushes_25 rfl cs_nz_10 ?_
  refine af_iadd K 27 dX0_pushes_26 rfl ?_
  refine af_Bi (fun y4 => ?_)
  refine af_istore_n K 28 [some (.ref b), some (.int x1), some (.int y2), some (.int y4), none] dX0_pushes_27 rfl (by rw [hN]; exact Nat.le_of_ble_eq_true rfl) rfl ?_
  refine af_aload_n K 29 dX0_pushes_28 rfl rfl ?_
  refine af_get K 32 dX0_pushes_29 rfl fl_X0_22 (hp_lt hb) (hp_p0 hb _ _) rfl ?_
  refine af_bipush K 34 dX0_pushes_32 rfl cs_bipush_16 ?_
  refine af_iload_n K 35 dX0_pushes_34 rfl rfl ?_
  refine af_iadd K 36 dX0_pushes_35 rfl ?_
  refine af_iald K 37 dX0_pushes_36 rfl (hp_lt2 hb) (hp_p2 hb _ _) (fun y5 => ?_)
  refine af_istore K 39 [some (.ref b), some (.int x1), some (.int y2), some (.int y4), some (.int y5)] dX0_pushes_37 rfl (by rw [hN]; exact Nat.le_of_ble_eq_true rfl) rfl ?_
  refine af_aload_n K 40 dX0_pushes_39 rfl rfl ?_
  refine af_get K 43 dX0_pushes_40 rfl fl_X0_22 (hp_lt hb) (hp_p0 hb _ _) rfl ?_
  refine af_iconst K 44 dX0_pushes_43 rfl cs_iconst_0 ?_
  refine af_iload_n K 45 dX0_pushes_44 rfl rfl ?_
  refine af_iadd K 46 dX0_pushes_45 rfl ?_
  refine af_iald K 47 dX0_pushes_46 rfl (hp_lt2 hb) (hp_p2 hb _ _) (fun y6 => ?_)
  refine af_ite (fun hx => ?_) (fun hx0 => ?_)
  · refine af_tin K 88 0 hx dX0_pushes_47 (by decide) (by decide) rfl rfl ?_
    refine af_iload_n K 89 dX0_pushes_88 rfl rfl ?_
    exact af_reti K dX0_pushes_89
  refine af_ite (fun hx => ?_) (fun hx1 => ?_)
  · refine af_tin K 90 1 hx dX0_pushes_47 (by decide) (by decide) rfl rfl ?_
    refine af_iload_n K 91 dX0_pushes_90 rfl rfl ?_
    exact af_reti K dX0_pushes_91
  refine af_ite (fun hx => ?_) (fun hx2 => ?_)
  · refine af_tin K 118 2 hx dX0_pushes_47 (by decide) (by decide) rfl rfl ?_
    refine af_iconst K 119 dX0_pushes_118 rfl cs_iconst_2 ?_
    refine af_iload_n K 120 dX0_pushes_119 rfl rfl ?_
    refine af_imul K 121 dX0_pushes_120 rfl ?_
    exact af_reti K dX0_pushes_121
  refine af_ite (fun hx => ?_) (fun hx3 => ?_)
  · refine af_tin K 92 3 hx dX0_pushes_47 (by decide) (by decide) rfl rfl ?_
    refine af_iload_n K 93 dX0_pushes_92 rfl rfl ?_
    refine af_iload K 95 dX0_pushes_93 rfl rfl ?_
    refine af_bipush K 97 dX0_pushes_95 rfl cs_bipush_10 ?_
    refine af_idiv K 98 dX0_pushes_97 rfl cs_nz_10 ?_
    refine af_isub K 99 dX0_pushes_98 rfl ?_
    refine af_iconst K 100 dX0_pushes_99 rfl cs_iconst_0 ?_
    refine af_mmax K 103 dX0_pushes_100 rfl lk_213 rfl rfl rfl ?_
    exact af_reti K dX0_pushes_103
  refine af_ite (fun hx => ?_) (fun hx4 => ?_)
  · refine af_tin K 104 4 hx dX0_pushes_47 (by decide) (by decide) rfl rfl ?_
    refine af_iload_n K 105 dX0_pushes_104 rfl rfl ?_
    refine af_iload K 107 dX0_pushes_105 rfl rfl ?_
    refine af_bipush K 109 dX0_pushes_107 rfl cs_bipush_10 ?_
    refine af_idiv K 110 dX0_pushes_109 rfl cs_nz_10 ?_
    refine af_isub K 111 dX0_pushes_110 rfl ?_
    refine af_iconst K 112 dX0_pushes_111 rfl cs_iconst_0 ?_
    refine af_mmax K 115 dX0_pushes_112 rfl lk_213 rfl rfl rfl ?_
    refine af_iconst K 116 dX0_pushes_115 rfl cs_iconst_2 ?_
    refine af_iadd K 117 dX0_pushes_116 rfl ?_
    exact af_reti K dX0_pushes_117
  refine af_ite (fun hx => ?_) (fun hx5 => ?_)
  · refine af_tin K 135 5 hx dX0_pushes_47 (by decide) (by decide) rfl rfl ?_
    refine af_iconst K 136 dX0_pushes_135 rfl cs_iconst_1 ?_
    exact af_reti K dX0_pushes_136
  refine af_ite (fun hx => ?_) (fun hx6 => ?_)
  · refine af_tin K 122 6 hx dX0_pushes_47 (by decide) (by decide) rfl rfl ?_
    refine af_iconst K 123 dX0_pushes_122 rfl cs_iconst_2 ?_
    refine af_iload_n K 124 dX0_pushes_123 rfl rfl ?_
    refine af_imul K 125 dX0_pushes_124 rfl ?_
    refine af_iload K 127 dX0_pushes_125 rfl rfl ?_
    refine af_iconst K 128 dX0_pushes_127 rfl cs_iconst_5 ?_
    refine af_idiv K 129 dX0_pushes_128 rfl cs_nz_5 ?_
    refine af_isub K 130 dX0_pushes_129 rfl ?_
    refine af_iconst K 131 dX0_pushes_130 rfl cs_iconst_0 ?_
    refine af_mmax K 134 dX0_pushes_131 rfl lk_213 rfl rfl rfl ?_
    exact af_reti K dX0_pushes_134
  refine af_tout K 135 dX0_pushes_47 (tsw_0_6 hx0 hx1 hx2 hx3 hx4 hx5 hx6) rfl ?_
  refine af_iconst K 136 dX0_pushes_135 rfl cs_iconst_1 ?_
  exact af_reti K dX0_pushes_136
def F_X0_says (b : Nat) (x1 : Int32) (σ : fk_T) : Option (Int32 × fk_T) := fk_A (σ.1 (b + 2)) 48 (8 + x1) (fun y1 => if y1 < 50 then (fk_A (σ.1 (b + 2)) 48 (16 + x1) (fun y2 => fk_A (σ.1 (b + 2)) 48 (0 + x1) (fun y3 => if y3 = 1 then (some (((-1) + 1), σ)) else (if y3 = 2 then (some ((-1), σ)) else (if y3 = 3 then (if y2 < 60 then (some (((-1) + 1), σ)) else (some ((-3), σ))) else (if y3 = 4 then (some ((-2), σ)) else (if y3 = 5 then (some (0, σ)) else (if y3 = 6 then (if 10 ≤ y2 then (some ((-1), σ)) else (some (20, σ))) else (some ((-1), σ)))))))))) else (fk_A (σ.1 (b + 2)) 48 (16 + x1) (fun y4 => fk_A (σ.1 (b + 2)) 48 (0 + x1) (fun y5 => if y5 = 1 then (some ((1 + 1), σ)) else (if y5 = 2 then (some (1, σ)) else (if y5 = 3 then (if y4 < 60 then (some ((1 + 1), σ)) else (some ((-3), σ))) else (if y5 = 4 then (some ((-2), σ)) else (if y5 = 5 then (some (0, σ)) else (if y5 = 6 then (if 10 ≤ y4 then (some (1, σ)) else (some (20, σ))) else (some (1, σ)))))))))))
set_option maxRecDepth 100000 in
set_option maxHeartbeats 4000000 in
theorem A_X0_says (X : aw_X) (l : Launch) (b : Nat) (hb : hp_P b) (x1 : Int32) (σ : fk_T) : af_G X l mX0_says [.ref b, .int x1] (hp σ) ρi (F_X0_says b x1 σ) := by
  refine af_mk (by decide) rfl (fun q _ => aw_oki q) [some (.ref b), some (.int x1), none, none] rfl ?_
  rintro cx rfl rfl hN K
  replace hN : aw_nL cx = 4 := hN
  replace K : aw_K cx cX0_says RX0 rX0_says := K
  unfold F_X0_says
  refine af_aload_n K 1 dX0_says_0 rfl rfl ?_
  refine af_get K 4 dX0_says_1 rfl fl_X0_22 (hp_lt hb) (hp_p0 hb _ _) rfl ?_
  refine af_bipush K 6 dX0_says_4 rfl cs_bipush_8 ?_
  refine af_iload_n K 7 dX0_says_6 rfl rfl ?_
  refine af_iadd K 8 dX0_says_7 rfl ?_
  refine af_iald K 9 dX0_says_8 rfl (hp_lt2 hb) (hp_p2 hb _ _) (fun y1 => ?_)
  refine af_bipush K 11 dX0_says_9 rfl cs_bipush_50 ?_
  refine af_icmp_lt K 14 18 dX0_says_11 rfl rfl (fun _ => ?_) (fun _ => ?_)
  · refine af_iconst K 19 dX0_says_18 rfl cs_iconst_m1 ?_
    refine af_istore_n K 20 [some (.ref b), some (.int x1), some (.int (-1)), none] dX0_says_19 rfl (by rw [hN]; exact Nat.le_of_ble_eq_true rfl) rfl ?_
    refine af_aload_n K 21 dX0_says_20 rfl rfl ?_
    refine af_get K 24 dX0_says_21 rfl fl_X0_22 (hp_lt hb) (hp_p0 hb _ _) rfl ?_
    refine af_bipush K 26 dX0_says_24 rfl cs_bipush_16 ?_
    refine af_iload_n K 27 dX0_says_26 rfl rfl ?_
    refine af_iadd K 28 dX0_says_27 rfl ?_
    refine af_iald K 29 dX0_says_28 rfl (hp_lt2 hb) (hp_p2 hb _ _) (fun y2 => ?_)
    refine af_istore_n K 30 [some (.ref b), some (.int x1), some (.int (-1)), some (.int y2)] dX0_says_29 rfl (by rw [hN]; exact Nat.le_of_ble_eq_true rfl) rfl ?_
    refine af_aload_n K 31 dX0_says_30 rfl rfl ?_
    refine af_get K 34 dX0_says_31 rfl fl_X0_22 (hp_lt hb) (hp_p0 hb _ _) rfl ?_
    refine af_iconst K 35 dX0_says_34 rfl cs_iconst_0 ?_
    refine af_iload_n K 36 dX0_says_35 rfl rfl ?_
    refine af_iadd K 37 dX0_says_36 rfl ?_
    refine af_iald K 38 dX0_says_37 rfl (hp_lt2 hb) (hp_p2 hb _ _) (fun y3 => ?_)
    refine af_ite (fun hx => ?_) (fun hx1 => ?_)
    · refine af_tin K 76 1 hx dX0_says_38 (by decide) (by decide) rfl rfl ?_
      refine af_iload_n K 77 dX0_says_76 rfl rfl ?_
      refine af_iconst K 78 dX0_says_77 rfl cs_iconst_1 ?_
      refine af_iadd K 79 dX0_says_78 rfl ?_
      exact af_reti K dX0_says_79
    refine af_ite (fun hx => ?_) (fun hx2 => ?_)
    · refine af_tin K 113 2 hx dX0_says_38 (by decide) (by decide) rfl rfl ?_
      refine af_iload_n K 114 dX0_says_113 rfl rfl ?_
      exact af_reti K dX0_says_114
    refine af_ite (fun hx => ?_) (fun hx3 => ?_)
    · refine af_tin K 80 3 hx dX0_says_38 (by decide) (by decide) rfl rfl ?_
      refine af_iload_n K 81 dX0_says_80 rfl rfl ?_
      refine af_bipush K 83 dX0_says_81 rfl cs_bipush_60 ?_
      refine af_icmp_lt K 86 91 dX0_says_83 rfl rfl (fun _ => ?_) (fun _ => ?_)
      · refine af_iload_n K 92 dX0_says_91 rfl rfl ?_
        refine af_iconst K 93 dX0_says_92 rfl cs_iconst_1 ?_
        refine af_iadd K 94 dX0_says_93 rfl ?_
        exact af_reti K dX0_says_94
      · refine af_bipush K 88 dX0_says_86 rfl cs_bipush_m3 ?_
        refine af_goto K 94 dX0_says_88 rfl ?_
        exact af_reti K dX0_says_94
    refine af_ite (fun hx => ?_) (fun hx4 => ?_)
    · refine af_tin K 95 4 hx dX0_says_38 (by decide) (by decide) rfl rfl ?_
      refine af_bipush K 97 dX0_says_95 rfl cs_bipush_m2 ?_
      exact af_reti K dX0_says_97
    refine af_ite (fun hx => ?_) (fun hx5 => ?_)
    · refine af_tin K 98 5 hx dX0_says_38 (by decide) (by decide) rfl rfl ?_
      refine af_iconst K 99 dX0_says_98 rfl cs_iconst_0 ?_
      exact af_reti K dX0_says_99
    refine af_ite (fun hx => ?_) (fun hx6 => ?_)
    · refine af_tin K 100 6 hx dX0_says_38 (by decide) (by decide) rfl rfl ?_
      refine af_iload_n K 101 dX0_says_100 rfl rfl ?_
      refine af_bipush K 103 dX0_says_101 rfl cs_bipush_10 ?_
      refine af_icmp_ge K 106 111 dX0_says_103 rfl rfl (fun _ => ?_) (fun _ => ?_)
      · refine af_iload_n K 112 dX0_says_111 rfl rfl ?_
        exact af_reti K dX0_says_112
      · refine af_bipush K 108 dX0_says_106 rfl cs_bipush_20 ?_
        refine af_goto K 112 dX0_says_108 rfl ?_
        exact af_reti K dX0_says_112
    refine af_tout K 113 dX0_says_38 (tsw_1_6 hx1 hx2 hx3 hx4 hx5 hx6) rfl ?_
    refine af_iload_n K 114 dX0_says_113 rfl rfl ?_
    exact af_reti K dX0_says_114
  · refine af_iconst K 15 dX0_says_14 rfl cs_iconst_1 ?_
    refine af_goto K 19 dX0_says_15 rfl ?_
    refine af_istore_n K 20 [some (.ref b), some (.int x1), some (.int 1), none] dX0_says_19 rfl (by rw [hN]; exact Nat.le_of_ble_eq_true rfl) rfl ?_
    refine af_aload_n K 21 dX0_says_20 rfl rfl ?_
    refine af_get K 24 dX0_says_21 rfl fl_X0_22 (hp_lt hb) (hp_p0 hb _ _) rfl ?_
    refine af_bipush K 26 dX0_says_24 rfl cs_bipush_16 ?_
    refine af_iload_n K 27 dX0_says_26 rfl rfl ?_
    refine af_iadd K 28 dX0_says_27 rfl ?_
    refine af_iald K 29 dX0_says_28 rfl (hp_lt2 hb) (hp_p2 hb _ _) (fun y4 => ?_)
    refine af_istore_n K 30 [some (.ref b), some (.int x1), some (.int 1), some (.int y4)] dX0_says_29 rfl (by rw [hN]; exact Nat.le_of_ble_eq_true rfl) rfl ?_
    refine af_aload_n K 31 dX0_says_30 rfl rfl ?_
    refine af_get K 34 dX0_says_31 rfl fl_X0_22 (hp_lt hb) (hp_p0 hb _ _) rfl ?_
    refine af_iconst K 35 dX0_says_34 rfl cs_iconst_0 ?_
    refine af_iload_n K 36 dX0_says_35 rfl rfl ?_
    refine af_iadd K 37 dX0_says_36 rfl ?_
    refine af_iald K 38 dX0_says_37 rfl (hp_lt2 hb) (hp_p2 hb _ _) (fun y5 => ?_)
    refine af_ite (fun hx => ?_) (fun hx1 => ?_)
    · refine af_tin K 76 1 hx dX0_says_38 (by decide) (by decide) rfl rfl ?_
      refine af_iload_n K 77 dX0_says_76 rfl rfl ?_
      refine af_iconst K 78 dX0_says_77 rfl cs_iconst_1 ?_
      refine af_iadd K 79 dX0_says_78 rfl ?_
      exact af_reti K dX0_says_79
    refine af_ite (fun hx => ?_) (fun hx2 => ?_)
    · refine af_tin K 113 2 hx dX0_says_38 (by decide) (by decide) rfl rfl ?_
      refine af_iload_n K 114 dX0_says_113 rfl rfl ?_
      exact af_reti K dX0_says_114
    refine af_ite (fun hx => ?_) (fun hx3 => ?_)
    · refine af_tin K 80 3 hx dX0_says_38 (by decide) (by decide) rfl rfl ?_
      refine af_iload_n K 81 dX0_says_80 rfl rfl ?_
      refine af_bipush K 83 dX0_says_81 rfl cs_bipush_60 ?_
      refine af_icmp_lt K 86 91 dX0_says_83 rfl rfl (fun _ => ?_) (fun _ => ?_)
      · refine af_iload_n K 92 dX0_says_91 rfl rfl ?_
        refine af_iconst K 93 dX0_says_92 rfl cs_iconst_1 ?_
        refine af_iadd K 94 dX0_says_93 rfl ?_
        exact af_reti K dX0_says_94
      · refine af_bipush K 88 dX0_says_86 rfl cs_bipush_m3 ?_
        refine af_goto K 94 dX0_says_88 rfl ?_
        exact af_reti K dX0_says_94
    refine af_ite (fun hx => ?_) (fun hx4 => ?_)
    · refine af_tin K 95 4 hx dX0_says_38 (by decide) (by decide) rfl rfl ?_
      refine af_bipush K 97 dX0_says_95 rfl cs_bipush_m2 ?_
      exact af_reti K dX0_says_97
    refine af_ite (fun hx => ?_) (fun hx5 => ?_)
    · refine af_tin K 98 5 hx dX0_says_38 (by decide) (by decide) rfl rfl ?_
      refine af_iconst K 99 dX0_says_98 rfl cs_iconst_0 ?_
      exact af_reti K dX0_says_99
    refine af_ite (fun hx => ?_) (fun hx6 => ?_)
    · refine af_tin K 100 6 hx dX0_says_38 (by decide) (by decide) rfl rfl ?_
      refine af_iload_n K 101 dX0_says_100 rfl rfl ?_
      refine af_bipush K 103 dX0_says_101 rfl cs_bipush_10 ?_
      refine af_icmp_ge K 106 111 dX0_says_103 rfl rfl (fun _ => ?_) (fun _ => ?_)
      · refine af_iload_n K 112 dX0_says_111 rfl rfl ?_
        exact af_reti K dX0_says_112
      · refine af_bipush K 108 dX0_says_106 rfl cs_bipush_20 ?_
        refine af_goto K 112 dX0_says_108 rfl ?_
        exact af_reti K dX0_says_112
    refine af_tout K 113 dX0_says_38 (tsw_1_6 hx1 hx2 hx3 hx4 hx5 hx6) rfl ?_
    refine af_iload_n K 114 dX0_says_113 rfl rfl ?_
    exact af_reti K dX0_says_114
def F_X0_tell (b : Nat) (x1 : Int32) (x2 : Int32) (σ : fk_T) : Option (Int32 × fk_T) := if 5 < x2 then (if x2 = 6 then ((F_X0_pushes b x1 σ).bind (fun q1 => some (q1.1, q1.2))) else (if x2 = 7 then ((F_X0_says b x1 σ).bind (fun q2 => some (q2.1, q2.2))) else (if x2 = 8 then (fk_A (σ.1 (b + 2)) 48 (0 + x1) (fun y3 => fk_A fk_t0 7 y3 (fun y4 => some (y4, σ)))) else (fk_A (σ.1 (b + 2)) 48 (0 + x1) (fun y5 => fk_A fk_t1 7 y5 (fun y6 => some (y6, σ))))))) else (fk_A (σ.1 (b + 2)) 48 ((8 * x2) + x1) (fun y7 => some (y7, σ)))
set_option maxRecDepth 100000 in
set_option maxHeartbeats 4000000 in
theorem A_X0_tell (X : aw_X) (l : Launch) (b : Nat) (hb : hp_P b) (x1 : Int32) (x2 : Int32) (σ : fk_T) : af_G X l mX0_tell [.ref b, .int x1, .int x2] (hp σ) ρi (F_X0_tell b x1 x2 σ) := by
  refine af_mk (by decide) rfl (fun q _ => aw_oki q) [some (.ref b), some (.int x1), some (.int x2)] rfl ?_
  rintro cx rfl rfl hN K
  replace hN : aw_nL cx = 3 := hN
  replace K : aw_K cx cX0_tell RX0 rX0_tell := K
  unfold F_X0_tell
  refine af_iload_n K 1 dX0_tell_0 rfl rfl ?_
  refine af_iconst K 2 dX0_tell_1 rfl cs_iconst_5 ?_
  refine af_icmp_gt K 5 17 dX0_tell_2 rfl rfl (fun _ => ?_) (fun _ => ?_)
  · refine af_iload_n K 18 dX0_tell_17 rfl rfl ?_
    refine af_ite (fun hx => ?_) (fun hx6 => ?_)
    · refine af_tin K 44 6 hx dX0_tell_18 (by decide) (by decide) rfl rfl ?_
      refine af_aload_n K 45 dX0_tell_44 rfl rfl ?_
      refine af_iload_n K 46 dX0_tell_45 rfl rfl ?_
      refine af_callV_i K (b := b) (vs := [.int x1]) mv_X0_pushes lk_209 ((hp_at _ (hp_lt hb)).trans (congrArg some (hp_p0 hb _ _))) rfl 49 dX0_tell_46 rfl rfl rfl rfl (A_X0_pushes _ _ b hb x1 σ) rfl (fun q1 => ?_)
      exact af_reti K dX0_tell_49
    refine af_ite (fun hx => ?_) (fun hx7 => ?_)
    · refine af_tin K 50 7 hx dX0_tell_18 (by decide) (by decide) rfl rfl ?_
      refine af_aload_n K 51 dX0_tell_50 rfl rfl ?_
      refine af_iload_n K 52 dX0_tell_51 rfl rfl ?_
      refine af_callV_i K (b := b) (vs := [.int x1]) mv_X0_says lk_216 ((hp_at _ (hp_lt hb)).trans (congrArg some (hp_p0 hb _ _))) rfl 55 dX0_tell_52 rfl rfl rfl rfl (A_X0_says _ _ b hb x1 σ) rfl (fun q2 => ?_)
      exact af_reti K dX0_tell_55
    refine af_ite (fun hx => ?_) (fun hx8 => ?_)
    · refine af_tin K 56 8 hx dX0_tell_18 (by decide) (by decide) rfl rfl ?_
      refine af_getsN K 0 0 rfl rfl 59 dX0_tell_56 rfl (Nat.le_of_ble_eq_true rfl) ?_
      refine af_aload_n K 60 dX0_tell_59 rfl rfl ?_
      refine af_get K 63 dX0_tell_60 rfl fl_X0_22 (hp_lt hb) (hp_p0 hb _ _) rfl ?_
      refine af_iconst K 64 dX0_tell_63 rfl cs_iconst_0 ?_
      refine af_iload_n K 65 dX0_tell_64 rfl rfl ?_
      refine af_iadd K 66 dX0_tell_65 rfl ?_
      refine af_iald K 67 dX0_tell_66 rfl (hp_lt2 hb) (hp_p2 hb _ _) (fun y3 => ?_)
      refine af_iald_s K 0 rfl 68 dX0_tell_67 rfl (Nat.le_of_ble_eq_true rfl) (fun y4 => ?_)
      exact af_reti K dX0_tell_68
    refine af_tout K 69 dX0_tell_18 (tsw_6_8 hx6 hx7 hx8) rfl ?_
    refine af_getsN K 1 1 rfl rfl 72 dX0_tell_69 rfl (Nat.le_of_ble_eq_true rfl) ?_
    refine af_aload_n K 73 dX0_tell_72 rfl rfl ?_
    refine af_get K 76 dX0_tell_73 rfl fl_X0_22 (hp_lt hb) (hp_p0 hb _ _) rfl ?_
    refine af_iconst K 77 dX0_tell_76 rfl cs_iconst_0 ?_
    refine af_iload_n K 78 dX0_tell_77 rfl rfl ?_
    refine af_iadd K 79 dX0_tell_78 rfl ?_
    refine af_iald K 80 dX0_tell_79 rfl (hp_lt2 hb) (hp_p2 hb _ _) (fun y5 => ?_)
    refine af_iald_s K 1 rfl 81 dX0_tell_80 rfl (Nat.le_of_ble_eq_true rfl) (fun y6 => ?_)
    exact af_reti K dX0_tell_81
  · refine af_aload_n K 6 dX0_tell_5 rfl rfl ?_
    refine af_get K 9 dX0_tell_6 rfl fl_X0_22 (hp_lt hb) (hp_p0 hb _ _) rfl ?_
    refine af_bipush K 11 dX0_tell_9 rfl cs_bipush_8 ?_
    refine af_iload_n K 12 dX0_tell_11 rfl rfl ?_
    refine af_imul K 13 dX0_tell_12 rfl ?_
    refine af_iload_n K 14 dX0_tell_13 rfl rfl ?_
    refine af_iadd K 15 dX0_tell_14 rfl ?_
    refine af_iald K 16 dX0_tell_15 rfl (hp_lt2 hb) (hp_p2 hb _ _) (fun y7 => ?_)
    exact af_reti K dX0_tell_16
def F_X0_riftPlace (x0 : Int32) (x1 : Int32) (σ : fk_T) : Option (Int32 × fk_T) := if x1 ≤ x0 then (some (((8 * x1) + x0), σ)) else (some (((8 * x0) + x1), σ))
set_option maxRecDepth 100000 in
set_option maxHeartbeats 4000000 in
theorem A_X0_riftPlace (X : aw_X) (l : Launch) (x0 : Int32) (x1 : Int32) (σ : fk_T) : af_G X l mX0_riftPlace [.int x0, .int x1] (hp σ) ρi (F_X0_riftPlace x0 x1 σ) := by
  refine af_mk (by decide) rfl (fun q _ => aw_oki q) [some (.int x0), some (.int x1)] rfl ?_
  rintro cx rfl rfl hN K
  replace hN : aw_nL cx = 2 := hN
  replace K : aw_K cx cX0_riftPlace RX0 rX0_riftPlace := K
  unfold F_X0_riftPlace
  refine af_iload_n K 1 dX0_riftPlace_0 rfl rfl ?_
  refine af_iload_n K 2 dX0_riftPlace_1 rfl rfl ?_
  refine af_icmp_ge K 5 14 dX0_riftPlace_2 rfl rfl (fun _ => ?_) (fun _ => ?_)
  · refine af_bipush K 16 dX0_riftPlace_14 rfl cs_bipush_8 ?_
    refine af_iload_n K 17 dX0_riftPlace_16 rfl rfl ?_
    refine af_imul K 18 dX0_riftPlace_17 rfl ?_
    refine af_iload_n K 19 dX0_riftPlace_18 rfl rfl ?_
    refine af_iadd K 20 dX0_riftPlace_19 rfl ?_
    exact af_reti K dX0_riftPlace_20
  · refine af_bipush K 7 dX0_riftPlace_5 rfl cs_bipush_8 ?_
    refine af_iload_n K 8 dX0_riftPlace_7 rfl rfl ?_
    refine af_imul K 9 dX0_riftPlace_8 rfl ?_
    refine af_iload_n K 10 dX0_riftPlace_9 rfl rfl ?_
    refine af_iadd K 11 dX0_riftPlace_10 rfl ?_
    refine af_goto K 20 dX0_riftPlace_11 rfl ?_
    exact af_reti K dX0_riftPlace_20
def F_X0_riftOf (b : Nat) (x1 : Int32) (x2 : Int32) (σ : fk_T) : Option (Int32 × fk_T) := (F_X0_riftPlace x1 x2 σ).bind (fun q1 => fk_A (q1.2.1 (b + 3)) 64 q1.1 (fun y2 => some (y2, q1.2)))
set_option maxRecDepth 100000 in
set_option maxHeartbeats 4000000 in
theorem A_X0_riftOf (X : aw_X) (l : Launch) (b : Nat) (hb : hp_P b) (x1 : Int32) (x2 : Int32) (σ : fk_T) : af_G X l mX0_riftOf [.ref b, .int x1, .int x2] (hp σ) ρi (F_X0_riftOf b x1 x2 σ) := by
  refine af_mk (by decide) rfl (fun q _ => aw_oki q) [some (.ref b), some (.int x1), some (.int x2)] rfl ?_
  rintro cx rfl rfl hN K
  replace hN : aw_nL cx = 3 := hN
  replace K : aw_K cx cX0_riftOf RX0 rX0_riftOf := K
  unfold F_X0_riftOf
  refine af_aload_n K 1 dX0_riftOf_0 rfl rfl ?_
  refine af_get K 4 dX0_riftOf_1 rfl fl_X0_25 (hp_lt hb) (hp_p0 hb _ _) rfl ?_
  refine af_iload_n K 5 dX0_riftOf_4 rfl rfl ?_
  refine af_iload_n K 6 dX0_riftOf_5 rfl rfl ?_
  refine af_callS_i K (vs := [.int x1, .int x2]) ms_X0_riftPlace lk_243 9 dX0_riftOf_6 rfl rfl rfl rfl (A_X0_riftPlace _ _ x1 x2 σ) rfl (fun q1 => ?_)
  refine af_iald K 10 dX0_riftOf_9 rfl (hp_lt3 hb) (hp_p3 hb _ _) (fun y2 => ?_)
  exact af_reti K dX0_riftOf_10
def F_X0_setRift (b : Nat) (x1 : Int32) (x2 : Int32) (x3 : Int32) (σ : fk_T) : Option (fk_T) := (F_X0_riftPlace x1 x2 σ).bind (fun q1 => fk_S q1.2 (b + 3) 64 q1.1 x3 (fun s2 => some s2))
set_option maxRecDepth 100000 in
set_option maxHeartbeats 4000000 in
theorem A_X0_setRift (X : aw_X) (l : Launch) (b : Nat) (hb : hp_P b) (x1 : Int32) (x2 : Int32) (x3 : Int32) (σ : fk_T) : af_G X l mX0_setRift [.ref b, .int x1, .int x2, .int x3] (hp σ) ρv (F_X0_setRift b x1 x2 x3 σ) := by
  refine af_mk (by decide) rfl (fun q _ => aw_okv q) [some (.ref b), some (.int x1), some (.int x2), some (.int x3)] rfl ?_
  rintro cx rfl rfl hN K
  replace hN : aw_nL cx = 4 := hN
  replace K : aw_K cx cX0_setRift RX0 rX0_setRift := K
  unfold F_X0_setRift
  refine af_aload_n K 1 dX0_setRift_0 rfl rfl ?_
  refine af_get K 4 dX0_setRift_1 rfl fl_X0_25 (hp_lt hb) (hp_p0 hb _ _) rfl ?_
  refine af_iload_n K 5 dX0_setRift_4 rfl rfl ?_
  refine af_iload_n K 6 dX0_setRift_5 rfl rfl ?_
  refine af_callS_i K (vs := [.int x1, .int x2]) ms_X0_riftPlace lk_243 9 dX0_setRift_6 rfl rfl rfl rfl (A_X0_riftPlace _ _ x1 x2 σ) rfl (fun q1 => ?_)
  refine af_iload_n K 10 dX0_setRift_9 rfl rfl ?_
  refine af_iast K 11 dX0_setRift_10 rfl (hp_lt3 hb) (hp_p3 hb) (fun s2 => ?_)
  exact af_retv K dX0_setRift_11
def F_X0_rises (b : Nat) (x1 : Int32) (x2 : Int32) (x3 : Int32) (σ : fk_T) : Option (Int32 × fk_T) := (F_X0_riftOf b x1 x2 σ).bind (fun q1 => some (((x3 * q1.1) / 20), q1.2))
set_option maxRecDepth 100000 in
set_option maxHeartbeats 4000000 in
theorem A_X0_rises (X : aw_X) (l : Launch) (b : Nat) (hb : hp_P b) (x1 : Int32) (x2 : Int32) (x3 : Int32) (σ : fk_T) : af_G X l mX0_rises [.ref b, .int x1, .int x2, .int x3] (hp σ) ρi (F_X0_rises b x1 x2 x3 σ) := by
  refine af_mk (by decide) rfl (fun q _ => aw_oki q) [some (.ref b), some (.int x1), some (.int x2), some (.int x3)] rfl ?_
  rintro cx rfl rfl hN K
  replace hN : aw_nL cx = 4 := hN
  replace K : aw_K cx cX0_rises RX0 rX0_rises := K
  unfold F_X0_rises
  refine af_iload_n K 1 dX0_rises_0 rfl rfl ?_
  refine af_aload_n K 2 dX0_rises_1 rfl rfl ?_
  refine af_iload_n K 3 dX0_rises_2 rfl rfl ?_
  refine af_iload_n K 4 dX0_rises_3 rfl rfl ?_
  refine af_callV_i K (b := b) (vs := [.int x1, .int x2]) mv_X0_riftOf lk_258 ((hp_at _ (hp_lt hb)).trans (congrArg some (hp_p0 hb _ _))) rfl 7 dX0_rises_4 rfl rfl rfl rfl (A_X0_riftOf _ _ b hb x1 x2 σ) rfl (fun q1 => ?_)
  refine af_imul K 8 dX0_rises_7 rfl ?_
  refine af_bipush K 10 dX0_rises_8 rfl cs_bipush_20 ?_
  refine af_idiv K 11 dX0_rises_10 rfl cs_nz_20 ?_
  exact af_reti K dX0_rises_11
def F_X0_leans (b : Nat) (x1 : Int32) (x2 : Int32) (σ : fk_T) : Option (Int32 × fk_T) := (F_X0_pushes b x1 σ).bind (fun q1 => (F_X0_pushes b x2 q1.2).bind (fun q2 => some ((q1.1 - q2.1), q2.2)))
set_option maxRecDepth 100000 in
set_option maxHeartbeats 4000000 in
theorem A_X0_leans (X : aw_X) (l : Launch) (b : Nat) (hb : hp_P b) (x1 : Int32) (x2 : Int32) (σ : fk_T) : af_G X l mX0_leans [.ref b, .int x1, .int x2] (hp σ) ρi (F_X0_leans b x1 x2 σ) := by
  refine af_mk (by decide) rfl (fun q _ => aw_oki q) [some (.ref b), some (.int x1), some (.int x2)] rfl ?_
  rintro cx rfl rfl hN K
  replace hN : aw_nL cx = 3 := hN
  replace K : aw_K cx cX0_leans RX0 rX0_leans := K
  unfold F_X0_leans
  refine af_aload_n K 1 dX0_leans_0 rfl rfl ?_
  refine af_iload_n K 2 dX0_leans_1 rfl rfl ?_
  refine af_callV_i K (b := b) (vs := [.int x1]) mv_X0_pushes lk_209 ((hp_at _ (hp_lt hb)).trans (congrArg some (hp_p0 hb _ _))) rfl 5 dX0_leans_2 rfl rfl rfl rfl (A_X0_pushes _ _ b hb x1 σ) rfl (fun q1 => ?_)
  refine af_aload_n K 6 dX0_leans_5 rfl rfl ?_
  refine af_iload_n K 7 dX0_leans_6 rfl rfl ?_
  refine af_callV_i K (b := b) (vs := [.int x2]) mv_X0_pushes lk_209 ((hp_at _ (hp_lt hb)).trans (congrArg some (hp_p0 hb _ _))) rfl 10 dX0_leans_7 rfl rfl rfl rfl (A_X0_pushes _ _ b hb x2 q1.2) rfl (fun q2 => ?_)
  refine af_isub K 11 dX0_leans_10 rfl ?_
  exact af_reti K dX0_leans_11
def F_X4_wouldFlop (x0 : Int32) (x1 : Int32) (σ : fk_T) : Option (Bool × fk_T) := if x0 = 0 then (some (true, σ)) else (if (fk_abs x1) ≤ x0 then (some (false, σ)) else (some (true, σ)))
set_option maxRecDepth 100000 in
set_option maxHeartbeats 4000000 in
theorem A_X4_wouldFlop (X : aw_X) (l : Launch) (x0 : Int32) (x1 : Int32) (σ : fk_T) : af_G X l mX4_wouldFlop [.int x0, .int x1] (hp σ) ρz (F_X4_wouldFlop x0 x1 σ) := by
  refine af_mk (by decide) rfl (fun q _ => aw_okz q) [some (.int x0), some (.int x1)] rfl ?_
  rintro cx rfl rfl hN K
  replace hN : aw_nL cx = 2 := hN
  replace K : aw_K cx cX4_wouldFlop RX4 rX4_wouldFlop := K
  unfold F_X4_wouldFlop
  refine af_iload_n K 1 dX4_wouldFlop_0 rfl rfl ?_
  refine af_if_eq K 4 12 dX4_wouldFlop_1 rfl rfl (fun _ => ?_) (fun _ => ?_)
  · refine af_iconst K 13 dX4_wouldFlop_12 rfl cs_iconst_1 ?_
    refine af_goto K 17 dX4_wouldFlop_13 rfl ?_
    exact af_retz K rfl dX4_wouldFlop_17
  · refine af_iload_n K 5 dX4_wouldFlop_4 rfl rfl ?_
    refine af_mabs K 8 dX4_wouldFlop_5 rfl lk_266 rfl rfl rfl ?_
    refine af_iload_n K 9 dX4_wouldFlop_8 rfl rfl ?_
    refine af_icmp_le K 12 16 dX4_wouldFlop_9 rfl rfl (fun _ => ?_) (fun _ => ?_)
    · refine af_iconst K 17 dX4_wouldFlop_16 rfl cs_iconst_0 ?_
      exact af_retz K rfl dX4_wouldFlop_17
    · refine af_iconst K 13 dX4_wouldFlop_12 rfl cs_iconst_1 ?_
      refine af_goto K 17 dX4_wouldFlop_13 rfl ?_
      exact af_retz K rfl dX4_wouldFlop_17
def L_X0_claysThatStand_13 (b : Nat) : Nat → Int32 → Int32 → Int32 → Int32 → Int32 → fk_T → (Int32 → Int32 → Int32 → Int32 → Int32 → fk_T → Option (Int32 × fk_T)) → Option (Int32 × fk_T)
  | 0, _, _, _, _, _, _, _ => none
  | fu + 1, x1, x2, x3, x4, x5, σ, k => if 20 < x5 then (k x1 x2 x3 x4 x5 σ) else ((F_X0_rises b x1 x2 x5 σ).bind (fun q2 => (F_X4_wouldFlop q2.1 x3 q2.2).bind (fun q3 => if (fk_b q3.1) = 0 then (fk_B (x4 + 1) (fun y5 => fk_B (x5 + 1) (fun y6 => L_X0_claysThatStand_13 b fu x1 x2 x3 y5 y6 q3.2 k))) else (fk_B (x5 + 1) (fun y4 => L_X0_claysThatStand_13 b fu x1 x2 x3 x4 y4 q3.2 k)))))
def F_X0_claysThatStand (b : Nat) (x1 : Int32) (x2 : Int32) (σ : fk_T) : Option (Int32 × fk_T) := (F_X0_leans b x1 x2 σ).bind (fun q1 => L_X0_claysThatStand_13 b fk_N x1 x2 q1.1 0 1 q1.2 (fun y8 y9 y10 y11 y12 s7 => some (y11, s7)))
set_option maxRecDepth 100000 in
set_option maxHeartbeats 4000000 in
theorem W_X0_claysThatStand_13 {cx : aw_C} (hN : aw_nL cx = 6) (K : aw_K cx cX0_claysThatStand RX0 rX0_claysThatStand) (b : Nat) (hb : hp_P b) : ∀ (fu : Nat) (x1 : Int32) (x2 : Int32) (x3 : Int32) (x4 : Int32) (x5 : Int32) (σ : fk_T) (k : Int32 → Int32 → Int32 → Int32 → Int32 → fk_T → Option (Int32 × fk_T)), (∀ (x1 : Int32) (x2 : Int32) (x3 : Int32) (x4 : Int32) (x5 : Int32) (σ : fk_T), af cx ρi 44 [some (.ref b), some (.int x1), some (.int x2), some (.int x3), some (.int x4), some (.int x5)] [] (hp σ) (k x1 x2 x3 x4 x5 σ)) → af cx ρi 13 [some (.ref b), some (.int x1), some (.int x2), some (.int x3), some (.int x4), some (.int x5)] [] (hp σ) (L_X0_claysThatStand_13 b fu x1 x2 x3 x4 x5 σ k) := by
  intro fu
  induction fu with
  | zero => intros; exact af_none
  | succ fu ih13 =>
    intro x1 x2 x3 x4 x5 σ k hk13
    rw [L_X0_claysThatStand_13]
    refine af_iload K 15 dX0_claysThatStand_13 rfl rfl ?_
    refine af_bipush K 17 dX0_claysThatStand_15 rfl cs_bipush_20 ?_
    refine af_icmp_gt K 20 44 dX0_claysThatStand_17 rfl rfl (fun _ => ?_) (fun _ => ?_)
    · refine af_lm [true, true, true, true, true, true] rfl ?_
      exact hk13 _ _ _ _ _ _
    · refine af_aload_n K 21 dX0_claysThatStand_20 rfl rfl ?_
      refine af_iload_n K 22 dX0_claysThatStand_21 rfl rfl ?_
      refine af_iload_n K 23 dX0_claysThatStand_22 rfl rfl ?_
      refine af_iload K 25 dX0_claysThatStand_23 rfl rfl ?_
      refine af_callV_i K (b := b) (vs := [.int x1, .int x2, .int x5]) mv_X0_rises lk_283 ((hp_at _ (hp_lt hb)).trans (congrArg some (hp_p0 hb _ _))) rfl 28 dX0_claysThatStand_25 rfl rfl rfl rfl (A_X0_rises _ _ b hb x1 x2 x5 σ) rfl (fun q2 => ?_)
      refine af_iload_n K 29 dX0_claysThatStand_28 rfl rfl ?_
      refine af_callN_z K (vs := [.int q2.1, .int x3]) ms_X4_wouldFlop (fun hSX => hSX.2.2.1) 32 dX0_claysThatStand_29 rfl rfl rfl rfl (A_X4_wouldFlop _ _ q2.1 x3 q2.2) rfl (fun q3 => ?_)
      refine af_if_ne K 35 38 dX0_claysThatStand_32 rfl rfl (fun _ => ?_) (fun _ => ?_)
      · refine af_iincB K 41 (fun yy => [some (.ref b), some (.int x1), some (.int x2), some (.int x3), some (.int x4), some (.int yy)]) dX0_claysThatStand_38 rfl (by rw [hN]; exact Nat.le_of_ble_eq_true rfl) rfl cs_iconst_1 (fun _ => rfl) (fun y4 => ?_)
        refine af_goto K 13 dX0_claysThatStand_41 rfl ?_
        refine af_lm [true, true, true, true, true, true] rfl ?_
        exact ih13 _ _ _ _ _ _ _ hk13
      · refine af_iincB K 38 (fun yy => [some (.ref b), some (.int x1), some (.int x2), some (.int x3), some (.int yy), some (.int x5)]) dX0_claysThatStand_35 rfl (by rw [hN]; exact Nat.le_of_ble_eq_true rfl) rfl cs_iconst_1 (fun _ => rfl) (fun y5 => ?_)
        refine af_iincB K 41 (fun yy => [some (.ref b), some (.int x1), some (.int x2), some (.int x3), some (.int y5), some (.int yy)]) dX0_claysThatStand_38 rfl (by rw [hN]; exact Nat.le_of_ble_eq_true rfl) rfl cs_iconst_1 (fun _ => rfl) (fun y6 => ?_)
        refine af_goto K 13 dX0_claysThatStand_41 rfl ?_
        refine af_lm [true, true, true, true, true, true] rfl ?_
        exact ih13 _ _ _ _ _ _ _ hk13
set_option maxRecDepth 100000 in
set_option maxHeartbeats 4000000 in
theorem A_X0_claysThatStand (X : aw_X) (l : Launch) (b : Nat) (hb : hp_P b) (x1 : Int32) (x2 : Int32) (σ : fk_T) : af_G X l mX0_claysThatStand [.ref b, .int x1, .int x2] (hp σ) ρi (F_X0_claysThatStand b x1 x2 σ) := by
  refine af_mk (by decide) rfl (fun q _ => aw_oki q) [some (.ref b), some (.int x1), some (.int x2), none, none, none] rfl ?_
  rintro cx rfl rfl hN K
  replace hN : aw_nL cx = 6 := hN
  replace K : aw_K cx cX0_claysThatStand RX0 rX0_claysThatStand := K
  unfold F_X0_claysThatStand
  refine af_aload_n K 1 dX0_claysThatStand_0 rfl rfl ?_
  refine af_iload_n K 2 dX0_claysThatStand_1 rfl rfl ?_
  refine af_iload_n K 3 dX0_claysThatStand_2 rfl rfl ?_
  refine af_callV_i K (b := b) (vs := [.int x1, .int x2]) mv_X0_leans lk_284 ((hp_at _ (hp_lt hb)).trans (congrArg some (hp_p0 hb _ _))) rfl 6 dX0_claysThatStand_3 rfl rfl rfl rfl (A_X0_leans _ _ b hb x1 x2 σ) rfl (fun q1 => ?_)
  refine af_istore_n K 7 [some (.ref b), some (.int x1), some (.int x2), some (.int q1.1), none, none] dX0_claysThatStand_6 rfl (by rw [hN]; exact Nat.le_of_ble_eq_true rfl) rfl ?_
  refine af_iconst K 8 dX0_claysThatStand_7 rfl cs_iconst_0 ?_
  refine af_istore K 10 [some (.ref b), some (.int x1), some (.int x2), some (.int q1.1), some (.int 0), none] dX0_claysThatStand_8 rfl (by rw [hN]; exact Nat.le_of_ble_eq_true rfl) rfl ?_
  refine af_iconst K 11 dX0_claysThatStand_10 rfl cs_iconst_1 ?_
  refine af_istore K 13 [some (.ref b), some (.int x1), some (.int x2), some (.int q1.1), some (.int 0), some (.int 1)] dX0_claysThatStand_11 rfl (by rw [hN]; exact Nat.le_of_ble_eq_true rfl) rfl ?_
  refine af_lm [true, true, true, true, true, true] rfl ?_
  refine W_X0_claysThatStand_13 hN K b hb fk_N _ _ _ _ _ _ _ (fun y8 y9 y10 y11 y12 s7 => ?_)
  refine af_iload K 46 dX0_claysThatStand_44 rfl rfl ?_
  exact af_reti K dX0_claysThatStand_46
def F_X0_flop (b : Nat) (x1 : Int32) (σ : fk_T) : Option (fk_T) := fk_A (σ.1 (b + 2)) 48 (0 + x1) (fun y1 => fk_A fk_t1 7 y1 (fun y2 => fk_A (σ.1 (b + 2)) 48 (40 + x1) (fun y3 => fk_S σ (b + 2) 48 (40 + x1) (fk_min (y3 + 1) 9999) (fun s4 => fk_A (s4.1 (b + 2)) 48 (8 + x1) (fun y5 => fk_S s4 (b + 2) 48 (8 + x1) (fk_min (y5 + y2) 99) (fun s6 => some s6))))))
set_option maxRecDepth 100000 in
set_option maxHeartbeats 4000000 in
theorem A_X0_flop (X : aw_X) (l : Launch) (b : Nat) (hb : hp_P b) (x1 : Int32) (σ : fk_T) : af_G X l mX0_flop [.ref b, .int x1] (hp σ) ρv (F_X0_flop b x1 σ) := by
  refine af_mk (by decide) rfl (fun q _ => aw_okv q) [some (.ref b), some (.int x1), none] rfl ?_
  rintro cx rfl rfl hN K
  replace hN : aw_nL cx = 3 := hN
  replace K : aw_K cx cX0_flop RX0 rX0_flop := K
  unfold F_X0_flop
  refine af_getsN K 1 1 rfl rfl 3 dX0_flop_0 rfl (Nat.le_of_ble_eq_true rfl) ?_
  refine af_aload_n K 4 dX0_flop_3 rfl rfl ?_
  refine af_get K 7 dX0_flop_4 rfl fl_X0_22 (hp_lt hb) (hp_p0 hb _ _) rfl ?_
  refine af_iconst K 8 dX0_flop_7 rfl cs_iconst_0 ?_
  refine af_iload_n K 9 dX0_flop_8 rfl rfl ?_
  refine af_iadd K 10 dX0_flop_9 rfl ?_
  refine af_iald K 11 dX0_flop_10 rfl (hp_lt2 hb) (hp_p2 hb _ _) (fun y1 => ?_)
  refine af_iald_s K 1 rfl 12 dX0_flop_11 rfl (Nat.le_of_ble_eq_true rfl) (fun y2 => ?_)
  refine af_istore_n K 13 [some (.ref b), some (.int x1), some (.int y2)] dX0_flop_12 rfl (by rw [hN]; exact Nat.le_of_ble_eq_true rfl) rfl ?_
  refine af_aload_n K 14 dX0_flop_13 rfl rfl ?_
  refine af_get K 17 dX0_flop_14 rfl fl_X0_22 (hp_lt hb) (hp_p0 hb _ _) rfl ?_
  refine af_bipush K 19 dX0_flop_17 rfl cs_bipush_40 ?_
  refine af_iload_n K 20 dX0_flop_19 rfl rfl ?_
  refine af_iadd K 21 dX0_flop_20 rfl ?_
  refine af_aload_n K 22 dX0_flop_21 rfl rfl ?_
  refine af_get K 25 dX0_flop_22 rfl fl_X0_22 (hp_lt hb) (hp_p0 hb _ _) rfl ?_
  refine af_bipush K 27 dX0_flop_25 rfl cs_bipush_40 ?_
  refine af_iload_n K 28 dX0_flop_27 rfl rfl ?_
  refine af_iadd K 29 dX0_flop_28 rfl ?_
  refine af_iald K 30 dX0_flop_29 rfl (hp_lt2 hb) (hp_p2 hb _ _) (fun y3 => ?_)
  refine af_iconst K 31 dX0_flop_30 rfl cs_iconst_1 ?_
  refine af_iadd K 32 dX0_flop_31 rfl ?_
  refine af_sipush K 35 dX0_flop_32 rfl cs_sipush_9999 ?_
  refine af_mmin K 38 dX0_flop_35 rfl lk_290 rfl rfl rfl ?_
  refine af_iast K 39 dX0_flop_38 rfl (hp_lt2 hb) (hp_p2 hb) (fun s4 => ?_)
  refine af_aload_n K 40 dX0_flop_39 rfl rfl ?_
  refine af_get K 43 dX0_flop_40 rfl fl_X0_22 (hp_lt hb) (hp_p0 hb _ _) rfl ?_
  refine af_bipush K 45 dX0_flop_43 rfl cs_bipush_8 ?_
  refine af_iload_n K 46 dX0_flop_45 rfl rfl ?_
  refine af_iadd K 47 dX0_flop_46 rfl ?_
  refine af_aload_n K 48 dX0_flop_47 rfl rfl ?_
  refine af_get K 51 dX0_flop_48 rfl fl_X0_22 (hp_lt hb) (hp_p0 hb _ _) rfl ?_
  refine af_bipush K 53 dX0_flop_51 rfl cs_bipush_8 ?_
  refine af_iload_n K 54 dX0_flop_53 rfl rfl ?_
  refine af_iadd K 55 dX0_flop_54 rfl ?_
  refine af_iald K 56 dX0_flop_55 rfl (hp_lt2 hb) (hp_p2 hb _ _) (fun y5 => ?_)
  refine af_iload_n K 57 dX0_flop_56 rfl rfl ?_
  refine af_iadd K 58 dX0_flop_57 rfl ?_
  refine af_bipush K 60 dX0_flop_58 rfl cs_bipush_99 ?_
  refine af_mmin K 63 dX0_flop_60 rfl lk_290 rfl rfl rfl ?_
  refine af_iast K 64 dX0_flop_63 rfl (hp_lt2 hb) (hp_p2 hb) (fun s6 => ?_)
  exact af_retv K dX0_flop_64
def F_X0_stand (b : Nat) (x1 : Int32) (σ : fk_T) : Option (fk_T) := fk_A (σ.1 (b + 2)) 48 (0 + x1) (fun y1 => fk_A fk_t0 7 y1 (fun y2 => fk_A (σ.1 (b + 2)) 48 (32 + x1) (fun y3 => fk_S σ (b + 2) 48 (32 + x1) (fk_min (y3 + 1) 9999) (fun s4 => fk_A (s4.1 (b + 2)) 48 (8 + x1) (fun y5 => fk_S s4 (b + 2) 48 (8 + x1) (fk_max (y5 - y2) 0) (fun s6 => some s6))))))
set_option maxRecDepth 100000 in
set_option maxHeartbeats 4000000 in
theorem A_X0_stand (X : aw_X) (l : Launch) (b : Nat) (hb : hp_P b) (x1 : Int32) (σ : fk_T) : af_G X l mX0_stand [.ref b, .int x1] (hp σ) ρv (F_X0_stand b x1 σ) := by
  refine af_mk (by decide) rfl (fun q _ => aw_okv q) [some (.ref b), some (.int x1), none] rfl ?_
  rintro cx rfl rfl hN K
  replace hN : aw_nL cx = 3 := hN
  replace K : aw_K cx cX0_stand RX0 rX0_stand := K
  unfold F_X0_stand
  refine af_getsN K 0 0 rfl rfl 3 dX0_stand_0 rfl (Nat.le_of_ble_eq_true rfl) ?_
  refine af_aload_n K 4 dX0_stand_3 rfl rfl ?_
  refine af_get K 7 dX0_stand_4 rfl fl_X0_22 (hp_lt hb) (hp_p0 hb _ _) rfl ?_
  refine af_iconst K 8 dX0_stand_7 rfl cs_iconst_0 ?_
  refine af_iload_n K 9 dX0_stand_8 rfl rfl ?_
  refine af_iadd K 10 dX0_stand_9 rfl ?_
  refine af_iald K 11 dX0_stand_10 rfl (hp_lt2 hb) (hp_p2 hb _ _) (fun y1 => ?_)
  refine af_iald_s K 0 rfl 12 dX0_stand_11 rfl (Nat.le_of_ble_eq_true rfl) (fun y2 => ?_)
  refine af_istore_n K 13 [some (.ref b), some (.int x1), some (.int y2)] dX0_stand_12 rfl (by rw [hN]; exact Nat.le_of_ble_eq_true rfl) rfl ?_
  refine af_aload_n K 14 dX0_stand_13 rfl rfl ?_
  refine af_get K 17 dX0_stand_14 rfl fl_X0_22 (hp_lt hb) (hp_p0 hb _ _) rfl ?_
  refine af_bipush K 19 dX0_stand_17 rfl cs_bipush_32 ?_
  refine af_iload_n K 20 dX0_stand_19 rfl rfl ?_
  refine af_iadd K 21 dX0_stand_20 rfl ?_
  refine af_aload_n K 22 dX0_stand_21 rfl rfl ?_
  refine af_get K 25 dX0_stand_22 rfl fl_X0_22 (hp_lt hb) (hp_p0 hb _ _) rfl ?_
  refine af_bipush K 27 dX0_stand_25 rfl cs_bipush_32 ?_
  refine af_iload_n K 28 dX0_stand_27 rfl rfl ?_
  refine af_iadd K 29 dX0_stand_28 rfl ?_
  refine af_iald K 30 dX0_stand_29 rfl (hp_lt2 hb) (hp_p2 hb _ _) (fun y3 => ?_)
  refine af_iconst K 31 dX0_stand_30 rfl cs_iconst_1 ?_
  refine af_iadd K 32 dX0_stand_31 rfl ?_
  refine af_sipush K 35 dX0_stand_32 rfl cs_sipush_9999 ?_
  refine af_mmin K 38 dX0_stand_35 rfl lk_290 rfl rfl rfl ?_
  refine af_iast K 39 dX0_stand_38 rfl (hp_lt2 hb) (hp_p2 hb) (fun s4 => ?_)
  refine af_aload_n K 40 dX0_stand_39 rfl rfl ?_
  refine af_get K 43 dX0_stand_40 rfl fl_X0_22 (hp_lt hb) (hp_p0 hb _ _) rfl ?_
  refine af_bipush K 45 dX0_stand_43 rfl cs_bipush_8 ?_
  refine af_iload_n K 46 dX0_stand_45 rfl rfl ?_
  refine af_iadd K 47 dX0_stand_46 rfl ?_
  refine af_aload_n K 48 dX0_stand_47 rfl rfl ?_
  refine af_get K 51 dX0_stand_48 rfl fl_X0_22 (hp_lt hb) (hp_p0 hb _ _) rfl ?_
  refine af_bipush K 53 dX0_stand_51 rfl cs_bipush_8 ?_
  refine af_iload_n K 54 dX0_stand_53 rfl rfl ?_
  refine af_iadd K 55 dX0_stand_54 rfl ?_
  refine af_iald K 56 dX0_stand_55 rfl (hp_lt2 hb) (hp_p2 hb _ _) (fun y5 => ?_)
  refine af_iload_n K 57 dX0_stand_56 rfl rfl ?_
  refine af_isub K 58 dX0_stand_57 rfl ?_
  refine af_iconst K 59 dX0_stand_58 rfl cs_iconst_0 ?_
  refine af_mmax K 62 dX0_stand_59 rfl lk_213 rfl rfl rfl ?_
  refine af_iast K 63 dX0_stand_62 rfl (hp_lt2 hb) (hp_p2 hb) (fun s6 => ?_)
  exact af_retv K dX0_stand_63
def F_X0_sell (b : Nat) (x1 : Int32) (x2 : Int32) (σ : fk_T) : Option (fk_T) := fk_B (fk_w σ b (upd (σ.1 b) 1 (fk_min (((σ.1 b 1) + x1) + (fk_abs x2)) 99999))) (fun s1 => if x2 = 0 then (fk_B (fk_w s1 b (upd (s1.1 b) 2 (fk_min ((s1.1 b 2) + 1) 9999))) (fun s2 => if x1 < 40 then (some s2) else (fk_B (fk_w s2 b (upd (s2.1 b) 3 (fk_min ((s2.1 b 3) + 1) 9999))) (fun s3 => some s3)))) else (some s1))
set_option maxRecDepth 100000 in
set_option maxHeartbeats 4000000 in
theorem A_X0_sell (X : aw_X) (l : Launch) (b : Nat) (hb : hp_P b) (x1 : Int32) (x2 : Int32) (σ : fk_T) : af_G X l mX0_sell [.ref b, .int x1, .int x2] (hp σ) ρv (F_X0_sell b x1 x2 σ) := by
  refine af_mk (by decide) rfl (fun q _ => aw_okv q) [some (.ref b), some (.int x1), some (.int x2)] rfl ?_
  rintro cx rfl rfl hN K
  replace hN : aw_nL cx = 3 := hN
  replace K : aw_K cx cX0_sell RX0 rX0_sell := K
  unfold F_X0_sell
  refine af_aload_n K 1 dX0_sell_0 rfl rfl ?_
  refine af_aload_n K 2 dX0_sell_1 rfl rfl ?_
  refine af_get K 5 dX0_sell_2 rfl fl_X0_37 (hp_lt hb) (hp_p0 hb _ _) rfl ?_
  refine af_iload_n K 6 dX0_sell_5 rfl rfl ?_
  refine af_iadd K 7 dX0_sell_6 rfl ?_
  refine af_iload_n K 8 dX0_sell_7 rfl rfl ?_
  refine af_mabs K 11 dX0_sell_8 rfl lk_301 rfl rfl rfl ?_
  refine af_iadd K 12 dX0_sell_11 rfl ?_
  refine af_ldc K 14 dX0_sell_12 rfl lk_302 ?_
  refine af_mmin K 17 dX0_sell_14 rfl lk_290 rfl rfl rfl ?_
  refine af_put K 20 dX0_sell_17 rfl fp_X0_37 (hp_lt hb) (hp_p0 hb _ _) (Nat.le_of_ble_eq_true rfl) ((hp_p0 hb _ _).trans rfl) (fun s1 => ?_)
  refine af_iload_n K 21 dX0_sell_20 rfl rfl ?_
  refine af_if_eq K 24 25 dX0_sell_21 rfl rfl (fun _ => ?_) (fun _ => ?_)
  · refine af_aload_n K 26 dX0_sell_25 rfl rfl ?_
    refine af_aload_n K 27 dX0_sell_26 rfl rfl ?_
    refine af_get K 30 dX0_sell_27 rfl fl_X0_40 (hp_lt hb) (hp_p0 hb _ _) rfl ?_
    refine af_iconst K 31 dX0_sell_30 rfl cs_iconst_1 ?_
    refine af_iadd K 32 dX0_sell_31 rfl ?_
    refine af_sipush K 35 dX0_sell_32 rfl cs_sipush_9999 ?_
    refine af_mmin K 38 dX0_sell_35 rfl lk_290 rfl rfl rfl ?_
    refine af_put K 41 dX0_sell_38 rfl fp_X0_40 (hp_lt hb) (hp_p0 hb _ _) (Nat.le_of_ble_eq_true rfl) ((hp_p0 hb _ _).trans rfl) (fun s2 => ?_)
    refine af_iload_n K 42 dX0_sell_41 rfl rfl ?_
    refine af_bipush K 44 dX0_sell_42 rfl cs_bipush_40 ?_
    refine af_icmp_lt K 47 63 dX0_sell_44 rfl rfl (fun _ => ?_) (fun _ => ?_)
    · exact af_retv K dX0_sell_63
    · refine af_aload_n K 48 dX0_sell_47 rfl rfl ?_
      refine af_aload_n K 49 dX0_sell_48 rfl rfl ?_
      refine af_get K 52 dX0_sell_49 rfl fl_X0_43 (hp_lt hb) (hp_p0 hb _ _) rfl ?_
      refine af_iconst K 53 dX0_sell_52 rfl cs_iconst_1 ?_
      refine af_iadd K 54 dX0_sell_53 rfl ?_
      refine af_sipush K 57 dX0_sell_54 rfl cs_sipush_9999 ?_
      refine af_mmin K 60 dX0_sell_57 rfl lk_290 rfl rfl rfl ?_
      refine af_put K 63 dX0_sell_60 rfl fp_X0_43 (hp_lt hb) (hp_p0 hb _ _) (Nat.le_of_ble_eq_true rfl) ((hp_p0 hb _ _).trans rfl) (fun s3 => ?_)
      exact af_retv K dX0_sell_63
  · exact af_retv K dX0_sell_24
def F_X0_throwPot (b : Nat) (x1 : Int32) (x2 : Int32) (σ : fk_T) : Option (fk_T) := (F_X0_rises b x1 x2 (σ.1 b 0) σ).bind (fun q1 => (F_X0_leans b x1 x2 q1.2).bind (fun q2 => (F_X0_says b x1 q2.2).bind (fun q3 => (F_X0_says b x2 q3.2).bind (fun q4 => fk_B (q3.1 + q4.1) (fun y5 => (F_X4_wouldFlop q1.1 q2.1 q4.2).bind (fun q6 => if (fk_b q6.1) = 0 then ((F_X0_stand b x1 q6.2).bind (fun q7 => (F_X0_stand b x2 q7).bind (fun q8 => (F_X0_sell b q1.1 q2.1 q8).bind (fun q9 => (F_X0_riftOf b x1 x2 q9).bind (fun q10 => (F_X0_setRift b x1 x2 (fk_max 0 (fk_min (q10.1 + y5) 99)) q10.2).bind (fun q11 => some q11)))))) else ((F_X0_flop b x1 q6.2).bind (fun q12 => (F_X0_flop b x2 q12).bind (fun q13 => (F_X0_riftOf b x1 x2 q13).bind (fun q14 => (F_X0_setRift b x1 x2 (fk_max 0 (fk_min (q14.1 + y5) 99)) q14.2).bind (fun q15 => some q15)))))))))))
set_option maxRecDepth 100000 in
set_option maxHeartbeats 4000000 in
theorem A_X0_throwPot (X : aw_X) (l : Launch) (b : Nat) (hb : hp_P b) (x1 : Int32) (x2 : Int32) (σ : fk_T) : af_G X l mX0_throwPot [.ref b, .int x1, .int x2] (hp σ) ρv (F_X0_throwPot b x1 x2 σ) := by
  refine af_mk (by decide) rfl (fun q _ => aw_okv q) [some (.ref b), some (.int x1), some (.int x2), none, none, none] rfl ?_
  rintro cx rfl rfl hN K
  replace hN : aw_nL cx = 6 := hN
  replace K : aw_K cx cX0_throwPot RX0 rX0_throwPot := K
  unfold F_X0_throwPot
  refine af_aload_n K 1 dX0_throwPot_0 rfl rfl ?_
  refine af_iload_n K 2 dX0_throwPot_1 rfl rfl ?_
  refine af_iload_n K 3 dX0_throwPot_2 rfl rfl ?_
  refine af_aload_n K 4 dX0_throwPot_3 rfl rfl ?_
  refine af_get K 7 dX0_throwPot_4 rfl fl_X0_9 (hp_lt hb) (hp_p0 hb _ _) rfl ?_
  refine af_callV_i K (b := b) (vs := [.int x1, .int x2, .int (σ.1 b 0)]) mv_X0_rises lk_283 ((hp_at _ (hp_lt hb)).trans (congrArg some (hp_p0 hb _ _))) rfl 10 dX0_throwPot_7 rfl rfl rfl rfl (A_X0_rises _ _ b hb x1 x2 (σ.1 b 0) σ) rfl (fun q1 => ?_)
  refine af_istore_n K 11 [some (.ref b), some (.int x1), some (.int x2), some (.int q1.1), none, none] dX0_throwPot_10 rfl (by rw [hN]; exact Nat.le_of_ble_eq_true rfl) rfl ?_
  refine af_aload_n K 12 dX0_throwPot_11 rfl rfl ?_
  refine af_iload_n K 13 dX0_throwPot_12 rfl rfl ?_
  refine af_iload_n K 14 dX0_throwPot_13 rfl rfl ?_
  refine af_callV_i K (b := b) (vs := [.int x1, .int x2]) mv_X0_leans lk_284 ((hp_at _ (hp_lt hb)).trans (congrArg some (hp_p0 hb _ _))) rfl 17 dX0_throwPot_14 rfl rfl rfl rfl (A_X0_leans _ _ b hb x1 x2 q1.2) rfl (fun q2 => ?_)
  refine af_istore K 19 [some (.ref b), some (.int x1), some (.int x2), some (.int q1.1), some (.int q2.1), none] dX0_throwPot_17 rfl (by rw [hN]; exact Nat.le_of_ble_eq_true rfl) rfl ?_
  refine af_aload_n K 20 dX0_throwPot_19 rfl rfl ?_
  refine af_iload_n K 21 dX0_throwPot_20 rfl rfl ?_
  refine af_callV_i K (b := b) (vs := [.int x1]) mv_X0_says lk_216 ((hp_at _ (hp_lt hb)).trans (congrArg some (hp_p0 hb _ _))) rfl 24 dX0_throwPot_21 rfl rfl rfl rfl (A_X0_says _ _ b hb x1 q2.2) rfl (fun q3 => ?_)
  refine af_aload_n K 25 dX0_throwPot_24 rfl rfl ?_
  refine af_iload_n K 26 dX0_throwPot_25 rfl rfl ?_
  refine af_callV_i K (b := b) (vs := [.int x2]) mv_X0_says lk_216 ((hp_at _ (hp_lt hb)).trans (congrArg some (hp_p0 hb _ _))) rfl 29 dX0_throwPot_26 rfl rfl rfl rfl (A_X0_says _ _ b hb x2 q3.2) rfl (fun q4 => ?_)
  refine af_iadd K 30 dX0_throwPot_29 rfl ?_
  refine af_Bi (fun y5 => ?_)
  refine af_istore K 32 [some (.ref b), some (.int x1), some (.int x2), some (.int q1.1), some (.int q2.1), some (.int y5)] dX0_throwPot_30 rfl (by rw [hN]; exact Nat.le_of_ble_eq_true rfl) rfl ?_
  refine af_iload_n K 33 dX0_throwPot_32 rfl rfl ?_
  refine af_iload K 35 dX0_throwPot_33 rfl rfl ?_
  refine af_callN_z K (vs := [.int q1.1, .int q2.1]) ms_X4_wouldFlop (fun hSX => hSX.2.2.1) 38 dX0_throwPot_35 rfl rfl rfl rfl (A_X4_wouldFlop _ _ q1.1 q2.1 q4.2) rfl (fun q6 => ?_)
  refine af_if_eq K 41 54 dX0_throwPot_38 rfl rfl (fun _ => ?_) (fun _ => ?_)
  · refine af_aload_n K 55 dX0_throwPot_54 rfl rfl ?_
    refine af_iload_n K 56 dX0_throwPot_55 rfl rfl ?_
    refine af_callV_v K (b := b) (vs := [.int x1]) mv_X0_stand lk_293 ((hp_at _ (hp_lt hb)).trans (congrArg some (hp_p0 hb _ _))) rfl 59 dX0_throwPot_56 rfl rfl rfl rfl (A_X0_stand _ _ b hb x1 q6.2) rfl (fun q7 => ?_)
    refine af_aload_n K 60 dX0_throwPot_59 rfl rfl ?_
    refine af_iload_n K 61 dX0_throwPot_60 rfl rfl ?_
    refine af_callV_v K (b := b) (vs := [.int x2]) mv_X0_stand lk_293 ((hp_at _ (hp_lt hb)).trans (congrArg some (hp_p0 hb _ _))) rfl 64 dX0_throwPot_61 rfl rfl rfl rfl (A_X0_stand _ _ b hb x2 q7) rfl (fun q8 => ?_)
    refine af_aload_n K 65 dX0_throwPot_64 rfl rfl ?_
    refine af_iload_n K 66 dX0_throwPot_65 rfl rfl ?_
    refine af_iload K 68 dX0_throwPot_66 rfl rfl ?_
    refine af_callV_v K (b := b) (vs := [.int q1.1, .int q2.1]) mv_X0_sell lk_297 ((hp_at _ (hp_lt hb)).trans (congrArg some (hp_p0 hb _ _))) rfl 71 dX0_throwPot_68 rfl rfl rfl rfl (A_X0_sell _ _ b hb q1.1 q2.1 q8) rfl (fun q9 => ?_)
    refine af_aload_n K 72 dX0_throwPot_71 rfl rfl ?_
    refine af_iload_n K 73 dX0_throwPot_72 rfl rfl ?_
    refine af_iload_n K 74 dX0_throwPot_73 rfl rfl ?_
    refine af_iconst K 75 dX0_throwPot_74 rfl cs_iconst_0 ?_
    refine af_aload_n K 76 dX0_throwPot_75 rfl rfl ?_
    refine af_iload_n K 77 dX0_throwPot_76 rfl rfl ?_
    refine af_iload_n K 78 dX0_throwPot_77 rfl rfl ?_
    refine af_callV_i K (b := b) (vs := [.int x1, .int x2]) mv_X0_riftOf lk_258 ((hp_at _ (hp_lt hb)).trans (congrArg some (hp_p0 hb _ _))) rfl 81 dX0_throwPot_78 rfl rfl rfl rfl (A_X0_riftOf _ _ b hb x1 x2 q9) rfl (fun q10 => ?_)
    refine af_iload K 83 dX0_throwPot_81 rfl rfl ?_
    refine af_iadd K 84 dX0_throwPot_83 rfl ?_
    refine af_bipush K 86 dX0_throwPot_84 rfl cs_bipush_99 ?_
    refine af_mmin K 89 dX0_throwPot_86 rfl lk_290 rfl rfl rfl ?_
    refine af_mmax K 92 dX0_throwPot_89 rfl lk_213 rfl rfl rfl ?_
    refine af_callV_v K (b := b) (vs := [.int x1, .int x2, .int (fk_max 0 (fk_min (q10.1 + y5) 99))]) mv_X0_setRift lk_303 ((hp_at _ (hp_lt hb)).trans (congrArg some (hp_p0 hb _ _))) rfl 95 dX0_throwPot_92 rfl rfl rfl rfl (A_X0_setRift _ _ b hb x1 x2 (fk_max 0 (fk_min (q10.1 + y5) 99)) q10.2) rfl (fun q11 => ?_)
    exact af_retv K dX0_throwPot_95
  · refine af_aload_n K 42 dX0_throwPot_41 rfl rfl ?_
    refine af_iload_n K 43 dX0_throwPot_42 rfl rfl ?_
    refine af_callV_v K (b := b) (vs := [.int x1]) mv_X0_flop lk_286 ((hp_at _ (hp_lt hb)).trans (congrArg some (hp_p0 hb _ _))) rfl 46 dX0_throwPot_43 rfl rfl rfl rfl (A_X0_flop _ _ b hb x1 q6.2) rfl (fun q12 => ?_)
    refine af_aload_n K 47 dX0_throwPot_46 rfl rfl ?_
    refine af_iload_n K 48 dX0_throwPot_47 rfl rfl ?_
    refine af_callV_v K (b := b) (vs := [.int x2]) mv_X0_flop lk_286 ((hp_at _ (hp_lt hb)).trans (congrArg some (hp_p0 hb _ _))) rfl 51 dX0_throwPot_48 rfl rfl rfl rfl (A_X0_flop _ _ b hb x2 q12) rfl (fun q13 => ?_)
    refine af_goto K 71 dX0_throwPot_51 rfl ?_
    refine af_aload_n K 72 dX0_throwPot_71 rfl rfl ?_
    refine af_iload_n K 73 dX0_throwPot_72 rfl rfl ?_
    refine af_iload_n K 74 dX0_throwPot_73 rfl rfl ?_
    refine af_iconst K 75 dX0_throwPot_74 rfl cs_iconst_0 ?_
    refine af_aload_n K 76 dX0_throwPot_75 rfl rfl ?_
    refine af_iload_n K 77 dX0_throwPot_76 rfl rfl ?_
    refine af_iload_n K 78 dX0_throwPot_77 rfl rfl ?_
    refine af_callV_i K (b := b) (vs := [.int x1, .int x2]) mv_X0_riftOf lk_258 ((hp_at _ (hp_lt hb)).trans (congrArg some (hp_p0 hb _ _))) rfl 81 dX0_throwPot_78 rfl rfl rfl rfl (A_X0_riftOf _ _ b hb x1 x2 q13) rfl (fun q14 => ?_)
    refine af_iload K 83 dX0_throwPot_81 rfl rfl ?_
    refine af_iadd K 84 dX0_throwPot_83 rfl ?_
    refine af_bipush K 86 dX0_throwPot_84 rfl cs_bipush_99 ?_
    refine af_mmin K 89 dX0_throwPot_86 rfl lk_290 rfl rfl rfl ?_
    refine af_mmax K 92 dX0_throwPot_89 rfl lk_213 rfl rfl rfl ?_
    refine af_callV_v K (b := b) (vs := [.int x1, .int x2, .int (fk_max 0 (fk_min (q14.1 + y5) 99))]) mv_X0_setRift lk_303 ((hp_at _ (hp_lt hb)).trans (congrArg some (hp_p0 hb _ _))) rfl 95 dX0_throwPot_92 rfl rfl rfl rfl (A_X0_setRift _ _ b hb x1 x2 (fk_max 0 (fk_min (q14.1 + y5) 99)) q14.2) rfl (fun q15 => ?_)
    exact af_retv K dX0_throwPot_95
def L_X0_ageAll_2 (b : Nat) : Nat → Int32 → fk_T → (Int32 → fk_T → Option (fk_T)) → Option (fk_T)
  | 0, _, _, _ => none
  | fu + 1, x1, σ, k => if (σ.1 b 6) ≤ x1 then (k x1 σ) else (fk_A (σ.1 (b + 2)) 48 (24 + x1) (fun y1 => fk_S σ (b + 2) 48 (24 + x1) (fk_min (y1 + 1) 99) (fun s2 => fk_B (x1 + 1) (fun y3 => L_X0_ageAll_2 b fu y3 s2 k))))
def F_X0_ageAll (b : Nat) (σ : fk_T) : Option (fk_T) := L_X0_ageAll_2 b fk_N 0 σ (fun y5 s4 => some s4)
set_option maxRecDepth 100000 in
set_option maxHeartbeats 4000000 in
theorem W_X0_ageAll_2 {cx : aw_C} (hN : aw_nL cx = 2) (K : aw_K cx cX0_ageAll RX0 rX0_ageAll) (b : Nat) (hb : hp_P b) : ∀ (fu : Nat) (x1 : Int32) (σ : fk_T) (k : Int32 → fk_T → Option (fk_T)), (∀ (x1 : Int32) (σ : fk_T), af cx ρv 41 [some (.ref b), some (.int x1)] [] (hp σ) (k x1 σ)) → af cx ρv 2 [some (.ref b), some (.int x1)] [] (hp σ) (L_X0_ageAll_2 b fu x1 σ k) := by
  intro fu
  induction fu with
  | zero => intros; exact af_none
  | succ fu ih2 =>
    intro x1 σ k hk2
    rw [L_X0_ageAll_2]
    refine af_iload_n K 3 dX0_ageAll_2 rfl rfl ?_
    refine af_aload_n K 4 dX0_ageAll_3 rfl rfl ?_
    refine af_get K 7 dX0_ageAll_4 rfl fl_X0_49 (hp_lt hb) (hp_p0 hb _ _) rfl ?_
    refine af_icmp_ge K 10 41 dX0_ageAll_7 rfl rfl (fun _ => ?_) (fun _ => ?_)
    · refine af_lm [true, true] rfl ?_
      exact hk2 _ _
    · refine af_aload_n K 11 dX0_ageAll_10 rfl rfl ?_
      refine af_get K 14 dX0_ageAll_11 rfl fl_X0_22 (hp_lt hb) (hp_p0 hb _ _) rfl ?_
      refine af_bipush K 16 dX0_ageAll_14 rfl cs_bipush_24 ?_
      refine af_iload_n K 17 dX0_ageAll_16 rfl rfl ?_
      refine af_iadd K 18 dX0_ageAll_17 rfl ?_
      refine af_aload_n K 19 dX0_ageAll_18 rfl rfl ?_
      refine af_get K 22 dX0_ageAll_19 rfl fl_X0_22 (hp_lt hb) (hp_p0 hb _ _) rfl ?_
      refine af_bipush K 24 dX0_ageAll_22 rfl cs_bipush_24 ?_
      refine af_iload_n K 25 dX0_ageAll_24 rfl rfl ?_
      refine af_iadd K 26 dX0_ageAll_25 rfl ?_
      refine af_iald K 27 dX0_ageAll_26 rfl (hp_lt2 hb) (hp_p2 hb _ _) (fun y1 => ?_)
      refine af_iconst K 28 dX0_ageAll_27 rfl cs_iconst_1 ?_
      refine af_iadd K 29 dX0_ageAll_28 rfl ?_
      refine af_bipush K 31 dX0_ageAll_29 rfl cs_bipush_99 ?_
      refine af_mmin K 34 dX0_ageAll_31 rfl lk_290 rfl rfl rfl ?_
      refine af_iast K 35 dX0_ageAll_34 rfl (hp_lt2 hb) (hp_p2 hb) (fun s2 => ?_)
      refine af_iincB K 38 (fun yy => [some (.ref b), some (.int yy)]) dX0_ageAll_35 rfl (by rw [hN]; exact Nat.le_of_ble_eq_true rfl) rfl cs_iconst_1 (fun _ => rfl) (fun y3 => ?_)
      refine af_goto K 2 dX0_ageAll_38 rfl ?_
      refine af_lm [true, true] rfl ?_
      exact ih2 _ _ _ hk2
set_option maxRecDepth 100000 in
set_option maxHeartbeats 4000000 in
theorem A_X0_ageAll (X : aw_X) (l : Launch) (b : Nat) (hb : hp_P b) (σ : fk_T) : af_G X l mX0_ageAll [.ref b] (hp σ) ρv (F_X0_ageAll b σ) := by
  refine af_mk (by decide) rfl (fun q _ => aw_okv q) [some (.ref b), none] rfl ?_
  rintro cx rfl rfl hN K
  replace hN : aw_nL cx = 2 := hN
  replace K : aw_K cx cX0_ageAll RX0 rX0_ageAll := K
  unfold F_X0_ageAll
  refine af_iconst K 1 dX0_ageAll_0 rfl cs_iconst_0 ?_
  refine af_istore_n K 2 [some (.ref b), some (.int 0)] dX0_ageAll_1 rfl (by rw [hN]; exact Nat.le_of_ble_eq_true rfl) rfl ?_
  refine af_lm [true, true] rfl ?_
  refine W_X0_ageAll_2 hN K b hb fk_N _ _ _ (fun y5 s4 => ?_)
  exact af_retv K dX0_ageAll_41
def L_X0_passDays_2 (b : Nat) : Nat → Int32 → Int32 → fk_T → (Int32 → Int32 → fk_T → Option (fk_T)) → Option (fk_T)
  | 0, _, _, _, _ => none
  | fu + 1, x1, x2, σ, k => if x1 ≤ x2 then (k x1 x2 σ) else (fk_A (σ.1 (b + 1)) 6 ((σ.1 b 4) - (σ.1 b 4) / 6 * 6) (fun y1 => (F_X0_hasTwo b (y1 / 10) (y1 - y1 / 10 * 10) σ).bind (fun q2 => if (fk_b q2.1) = 0 then (if ((q2.2.1 b 4) - (q2.2.1 b 4) / 10 * 10) = 9 then ((F_X0_ageAll b q2.2).bind (fun q5 => fk_B (fk_w q5 b (upd (q5.1 b) 4 (fk_min ((q5.1 b 4) + 1) 99999))) (fun s6 => fk_B (x2 + 1) (fun y7 => L_X0_passDays_2 b fu x1 y7 s6 k)))) else (fk_B (fk_w q2.2 b (upd (q2.2.1 b) 4 (fk_min ((q2.2.1 b 4) + 1) 99999))) (fun s3 => fk_B (x2 + 1) (fun y4 => L_X0_passDays_2 b fu x1 y4 s3 k)))) else ((F_X0_throwPot b (y1 / 10) (y1 - y1 / 10 * 10) q2.2).bind (fun q8 => if ((q8.1 b 4) - (q8.1 b 4) / 10 * 10) = 9 then ((F_X0_ageAll b q8).bind (fun q11 => fk_B (fk_w q11 b (upd (q11.1 b) 4 (fk_min ((q11.1 b 4) + 1) 99999))) (fun s12 => fk_B (x2 + 1) (fun y13 => L_X0_passDays_2 b fu x1 y13 s12 k)))) else (fk_B (fk_w q8 b (upd (q8.1 b) 4 (fk_min ((q8.1 b 4) + 1) 99999))) (fun s9 => fk_B (x2 + 1) (fun y10 => L_X0_passDays_2 b fu x1 y10 s9 k))))))))
def F_X0_passDays (b : Nat) (x1 : Int32) (σ : fk_T) : Option (fk_T) := L_X0_passDays_2 b fk_N x1 0 σ (fun y15 y16 s14 => some s14)
set_option maxRecDepth 100000 in
set_option maxHeartbeats 4000000 in
theorem W_X0_passDays_2 {cx : aw_C} (hN : aw_nL cx = 4) (K : aw_K cx cX0_passDays RX0 rX0_passDays) (b : Nat) (hb : hp_P b) : ∀ (fu : Nat) (x1 : Int32) (x2 : Int32) (σ : fk_T) (k : Int32 → Int32 → fk_T → Option (fk_T)), (∀ (x1 : Int32) (x2 : Int32) (σ : fk_T), af cx ρv 84 [some (.ref b), some (.int x1), some (.int x2), none] [] (hp σ) (k x1 x2 σ)) → af cx ρv 2 [some (.ref b), some (.int x1), some (.int x2), none] [] (hp σ) (L_X0_passDays_2 b fu x1 x2 σ k) := by
  intro fu
  induction fu with
  | zero => intros; exact af_none
  | succ fu ih2 =>
    intro x1 x2 σ k hk2
    rw [L_X0_passDays_2]
    refine af_iload_n K 3 dX0_passDays_2 rfl rfl ?_
    refine af_iload_n K 4 dX0_passDays_3 rfl rfl ?_
    refine af_icmp_ge K 7 84 dX0_passDays_4 rfl rfl (fun _ => ?_) (fun _ => ?_)
    · refine af_lm [true, true, true, false] rfl ?_
      exact hk2 _ _ _
    · refine af_aload_n K 8 dX0_passDays_7 rfl rfl ?_
      refine af_get K 11 dX0_passDays_8 rfl fl_X0_18 (hp_lt hb) (hp_p0 hb _ _) rfl ?_
      refine af_aload_n K 12 dX0_passDays_11 rfl rfl ?_
      refine af_get K 15 dX0_passDays_12 rfl fl_X0_46 (hp_lt hb) (hp_p0 hb _ _) rfl ?_
      refine af_bipush K 17 dX0_passDays_15 rfl cs_bipush_6 ?_
      refine af_irem K 18 dX0_passDays_17 rfl cs_nz_6 ?_
      refine af_iald K 19 dX0_passDays_18 rfl (hp_lt1 hb) (hp_p1 hb _ _) (fun y1 => ?_)
      refine af_istore_n K 20 [some (.ref b), some (.int x1), some (.int x2), some (.int y1)] dX0_passDays_19 rfl (by rw [hN]; exact Nat.le_of_ble_eq_true rfl) rfl ?_
      refine af_aload_n K 21 dX0_passDays_20 rfl rfl ?_
      refine af_iload_n K 22 dX0_passDays_21 rfl rfl ?_
      refine af_bipush K 24 dX0_passDays_22 rfl cs_bipush_10 ?_
      refine af_idiv K 25 dX0_passDays_24 rfl cs_nz_10 ?_
      refine af_iload_n K 26 dX0_passDays_25 rfl rfl ?_
      refine af_bipush K 28 dX0_passDays_26 rfl cs_bipush_10 ?_
      refine af_irem K 29 dX0_passDays_28 rfl cs_nz_10 ?_
      refine af_callV_z K (b := b) (vs := [.int (y1 / 10), .int (y1 - y1 / 10 * 10)]) mv_X0_hasTwo lk_278 ((hp_at _ (hp_lt hb)).trans (congrArg some (hp_p0 hb _ _))) rfl 32 dX0_passDays_29 rfl rfl rfl rfl (A_X0_hasTwo _ _ b hb (y1 / 10) (y1 - y1 / 10 * 10) σ) rfl (fun q2 => ?_)
      refine af_if_eq K 35 47 dX0_passDays_32 rfl rfl (fun _ => ?_) (fun _ => ?_)
      · refine af_aload_n K 48 dX0_passDays_47 rfl rfl ?_
        refine af_get K 51 dX0_passDays_48 rfl fl_X0_46 (hp_lt hb) (hp_p0 hb _ _) rfl ?_
        refine af_bipush K 53 dX0_passDays_51 rfl cs_bipush_10 ?_
        refine af_irem K 54 dX0_passDays_53 rfl cs_nz_10 ?_
        refine af_bipush K 56 dX0_passDays_54 rfl cs_bipush_9 ?_
        refine af_icmp_ne K 59 63 dX0_passDays_56 rfl rfl (fun _ => ?_) (fun _ => ?_)
        · refine af_aload_n K 64 dX0_passDays_63 rfl rfl ?_
          refine af_aload_n K 65 dX0_passDays_64 rfl rfl ?_
          refine af_get K 68 dX0_passDays_65 rfl fl_X0_46 (hp_lt hb) (hp_p0 hb _ _) rfl ?_
          refine af_iconst K 69 dX0_passDays_68 rfl cs_iconst_1 ?_
          refine af_iadd K 70 dX0_passDays_69 rfl ?_
          refine af_ldc K 72 dX0_passDays_70 rfl lk_302 ?_
          refine af_mmin K 75 dX0_passDays_72 rfl lk_290 rfl rfl rfl ?_
          refine af_put K 78 dX0_passDays_75 rfl fp_X0_46 (hp_lt hb) (hp_p0 hb _ _) (Nat.le_of_ble_eq_true rfl) ((hp_p0 hb _ _).trans rfl) (fun s3 => ?_)
          refine af_iincB K 81 (fun yy => [some (.ref b), some (.int x1), some (.int yy), some (.int y1)]) dX0_passDays_78 rfl (by rw [hN]; exact Nat.le_of_ble_eq_true rfl) rfl cs_iconst_1 (fun _ => rfl) (fun y4 => ?_)
          refine af_goto K 2 dX0_passDays_81 rfl ?_
          refine af_lm [true, true, true, false] rfl ?_
          exact ih2 _ _ _ _ hk2
        · refine af_aload_n K 60 dX0_passDays_59 rfl rfl ?_
          refine af_callV_v K (b := b) (vs := []) mv_X0_ageAll lk_304 ((hp_at _ (hp_lt hb)).trans (congrArg some (hp_p0 hb _ _))) rfl 63 dX0_passDays_60 rfl rfl rfl rfl (A_X0_ageAll _ _ b hb q2.2) rfl (fun q5 => ?_)
          refine af_aload_n K 64 dX0_passDays_63 rfl rfl ?_
          refine af_aload_n K 65 dX0_passDays_64 rfl rfl ?_
          refine af_get K 68 dX0_passDays_65 rfl fl_X0_46 (hp_lt hb) (hp_p0 hb _ _) rfl ?_
          refine af_iconst K 69 dX0_passDays_68 rfl cs_iconst_1 ?_
          refine af_iadd K 70 dX0_passDays_69 rfl ?_
          refine af_ldc K 72 dX0_passDays_70 rfl lk_302 ?_
          refine af_mmin K 75 dX0_passDays_72 rfl lk_290 rfl rfl rfl ?_
          refine af_put K 78 dX0_passDays_75 rfl fp_X0_46 (hp_lt hb) (hp_p0 hb _ _) (Nat.le_of_ble_eq_true rfl) ((hp_p0 hb _ _).trans rfl) (fun s6 => ?_)
          refine af_iincB K 81 (fun yy => [some (.ref b), some (.int x1), some (.int yy), some (.int y1)]) dX0_passDays_78 rfl (by rw [hN]; exact Nat.le_of_ble_eq_true rfl) rfl cs_iconst_1 (fun _ => rfl) (fun y7 => ?_)
          refine af_goto K 2 dX0_passDays_81 rfl ?_
          refine af_lm [true, true, true, false] rfl ?_
          exact ih2 _ _ _ _ hk2
      · refine af_aload_n K 36 dX0_passDays_35 rfl rfl ?_
        refine af_iload_n K 37 dX0_passDays_36 rfl rfl ?_
        refine af_bipush K 39 dX0_passDays_37 rfl cs_bipush_10 ?_
        refine af_idiv K 40 dX0_passDays_39 rfl cs_nz_10 ?_
        refine af_iload_n K 41 dX0_passDays_40 rfl rfl ?_
        refine af_bipush K 43 dX0_passDays_41 rfl cs_bipush_10 ?_
        refine af_irem K 44 dX0_passDays_43 rfl cs_nz_10 ?_
        refine af_callV_v K (b := b) (vs := [.int (y1 / 10), .int (y1 - y1 / 10 * 10)]) mv_X0_throwPot lk_279 ((hp_at _ (hp_lt hb)).trans (congrArg some (hp_p0 hb _ _))) rfl 47 dX0_passDays_44 rfl rfl rfl rfl (A_X0_throwPot _ _ b hb (y1 / 10) (y1 - y1 / 10 * 10) q2.2) rfl (fun q8 => ?_)
        refine af_aload_n K 48 dX0_passDays_47 rfl rfl ?_
        refine af_get K 51 dX0_passDays_48 rfl fl_X0_46 (hp_lt hb) (hp_p0 hb _ _) rfl ?_
        refine af_bipush K 53 dX0_passDays_51 rfl cs_bipush_10 ?_
        refine af_irem K 54 dX0_passDays_53 rfl cs_nz_10 ?_
        refine af_bipush K 56 dX0_passDays_54 rfl cs_bipush_9 ?_
        refine af_icmp_ne K 59 63 dX0_passDays_56 rfl rfl (fun _ => ?_) (fun _ => ?_)
        · refine af_aload_n K 64 dX0_passDays_63 rfl rfl ?_
          refine af_aload_n K 65 dX0_passDays_64 rfl rfl ?_
          refine af_get K 68 dX0_passDays_65 rfl fl_X0_46 (hp_lt hb) (hp_p0 hb _ _) rfl ?_
          refine af_iconst K 69 dX0_passDays_68 rfl cs_iconst_1 ?_
          refine af_iadd K 70 dX0_passDays_69 rfl ?_
          refine af_ldc K 72 dX0_passDays_70 rfl lk_302 ?_
          refine af_mmin K 75 dX0_passDays_72 rfl lk_290 rfl rfl rfl ?_
          refine af_put K 78 dX0_passDays_75 rfl fp_X0_46 (hp_lt hb) (hp_p0 hb _ _) (Nat.le_of_ble_eq_true rfl) ((hp_p0 hb _ _).trans rfl) (fun s9 => ?_)
          refine af_iincB K 81 (fun yy => [some (.ref b), some (.int x1), some (.int yy), some (.int y1)]) dX0_passDays_78 rfl (by rw [hN]; exact Nat.le_of_ble_eq_true rfl) rfl cs_iconst_1 (fun _ => rfl) (fun y10 => ?_)
          refine af_goto K 2 dX0_passDays_81 rfl ?_
          refine af_lm [true, true, true, false] rfl ?_
          exact ih2 _ _ _ _ hk2
        · refine af_aload_n K 60 dX0_passDays_59 rfl rfl ?_
          refine af_callV_v K (b := b) (vs := []) mv_X0_ageAll lk_304 ((hp_at _ (hp_lt hb)).trans (congrArg some (hp_p0 hb _ _))) rfl 63 dX0_passDays_60 rfl rfl rfl rfl (A_X0_ageAll _ _ b hb q8) rfl (fun q11 => ?_)
          refine af_aload_n K 64 dX0_passDays_63 rfl rfl ?_
          refine af_aload_n K 65 dX0_passDays_64 rfl rfl ?_
          refine af_get K 68 dX0_passDays_65 rfl fl_X0_46 (hp_lt hb) (hp_p0 hb _ _) rfl ?_
          refine af_iconst K 69 dX0_passDays_68 rfl cs_iconst_1 ?_
          refine af_iadd K 70 dX0_passDays_69 rfl ?_
          refine af_ldc K 72 dX0_passDays_70 rfl lk_302 ?_
          refine af_mmin K 75 dX0_passDays_72 rfl lk_290 rfl rfl rfl ?_
          refine af_put K 78 dX0_passDays_75 rfl fp_X0_46 (hp_lt hb) (hp_p0 hb _ _) (Nat.le_of_ble_eq_true rfl) ((hp_p0 hb _ _).trans rfl) (fun s12 => ?_)
          refine af_iincB K 81 (fun yy => [some (.ref b), some (.int x1), some (.int yy), some (.int y1)]) dX0_passDays_78 rfl (by rw [hN]; exact Nat.le_of_ble_eq_true rfl) rfl cs_iconst_1 (fun _ => rfl) (fun y13 => ?_)
          refine af_goto K 2 dX0_passDays_81 rfl ?_
          refine af_lm [true, true, true, false] rfl ?_
          exact ih2 _ _ _ _ hk2
set_option maxRecDepth 100000 in
set_option maxHeartbeats 4000000 in
theorem A_X0_passDays (X : aw_X) (l : Launch) (b : Nat) (hb : hp_P b) (x1 : Int32) (σ : fk_T) : af_G X l mX0_passDays [.ref b, .int x1] (hp σ) ρv (F_X0_passDays b x1 σ) := by
  refine af_mk (by decide) rfl (fun q _ => aw_okv q) [some (.ref b), some (.int x1), none, none] rfl ?_
  rintro cx rfl rfl hN K
  replace hN : aw_nL cx = 4 := hN
  replace K : aw_K cx cX0_passDays RX0 rX0_passDays := K
  unfold F_X0_passDays
  refine af_iconst K 1 dX0_passDays_0 rfl cs_iconst_0 ?_
  refine af_istore_n K 2 [some (.ref b), some (.int x1), some (.int 0), none] dX0_passDays_1 rfl (by rw [hN]; exact Nat.le_of_ble_eq_true rfl) rfl ?_
  refine af_lm [true, true, true, false] rfl ?_
  refine W_X0_passDays_2 hN K b hb fk_N _ _ _ _ (fun y15 y16 s14 => ?_)
  exact af_retv K dX0_passDays_84
def F_X0_throwsToday (b : Nat) (σ : fk_T) : Option (Bool × fk_T) := fk_A (σ.1 (b + 1)) 6 ((σ.1 b 4) - (σ.1 b 4) / 6 * 6) (fun y1 => (F_X0_hasTwo b (y1 / 10) (y1 - y1 / 10 * 10) σ).bind (fun q2 => some (q2.1, q2.2)))
set_option maxRecDepth 100000 in
set_option maxHeartbeats 4000000 in
theorem A_X0_throwsToday (X : aw_X) (l : Launch) (b : Nat) (hb : hp_P b) (σ : fk_T) : af_G X l mX0_throwsToday [.ref b] (hp σ) ρz (F_X0_throwsToday b σ) := by
  refine af_mk (by decide) rfl (fun q _ => aw_okz q) [some (.ref b), none] rfl ?_
  rintro cx rfl rfl hN K
  replace hN : aw_nL cx = 2 := hN
  replace K : aw_K cx cX0_throwsToday RX0 rX0_throwsToday := K
  unfold F_X0_throwsToday
  refine af_aload_n K 1 dX0_throwsToday_0 rfl rfl ?_
  refine af_get K 4 dX0_throwsToday_1 rfl fl_X0_18 (hp_lt hb) (hp_p0 hb _ _) rfl ?_
  refine af_aload_n K 5 dX0_throwsToday_4 rfl rfl ?_
  refine af_get K 8 dX0_throwsToday_5 rfl fl_X0_46 (hp_lt hb) (hp_p0 hb _ _) rfl ?_
  refine af_bipush K 10 dX0_throwsToday_8 rfl cs_bipush_6 ?_
  refine af_irem K 11 dX0_throwsToday_10 rfl cs_nz_6 ?_
  refine af_iald K 12 dX0_throwsToday_11 rfl (hp_lt1 hb) (hp_p1 hb _ _) (fun y1 => ?_)
  refine af_istore_n K 13 [some (.ref b), some (.int y1)] dX0_throwsToday_12 rfl (by rw [hN]; exact Nat.le_of_ble_eq_true rfl) rfl ?_
  refine af_aload_n K 14 dX0_throwsToday_13 rfl rfl ?_
  refine af_iload_n K 15 dX0_throwsToday_14 rfl rfl ?_
  refine af_bipush K 17 dX0_throwsToday_15 rfl cs_bipush_10 ?_
  refine af_idiv K 18 dX0_throwsToday_17 rfl cs_nz_10 ?_
  refine af_iload_n K 19 dX0_throwsToday_18 rfl rfl ?_
  refine af_bipush K 21 dX0_throwsToday_19 rfl cs_bipush_10 ?_
  refine af_irem K 22 dX0_throwsToday_21 rfl cs_nz_10 ?_
  refine af_callV_z K (b := b) (vs := [.int (y1 / 10), .int (y1 - y1 / 10 * 10)]) mv_X0_hasTwo lk_278 ((hp_at _ (hp_lt hb)).trans (congrArg some (hp_p0 hb _ _))) rfl 25 dX0_throwsToday_22 rfl rfl rfl rfl (A_X0_hasTwo _ _ b hb (y1 / 10) (y1 - y1 / 10 * 10) σ) rfl (fun q2 => ?_)
  exact af_retz K rfl dX0_throwsToday_25
def L_X0_sumOf_4 (b : Nat) : Nat → Int32 → Int32 → Int32 → fk_T → (Int32 → Int32 → Int32 → fk_T → Option (Int32 × fk_T)) → Option (Int32 × fk_T)
  | 0, _, _, _, _, _ => none
  | fu + 1, x1, x2, x3, σ, k => if (σ.1 b 6) ≤ x3 then (k x1 x2 x3 σ) else (fk_A (σ.1 (b + 2)) 48 (x1 + x3) (fun y1 => fk_B (x2 + y1) (fun y2 => fk_B (x3 + 1) (fun y3 => L_X0_sumOf_4 b fu x1 y2 y3 σ k))))
def F_X0_sumOf (b : Nat) (x1 : Int32) (σ : fk_T) : Option (Int32 × fk_T) := L_X0_sumOf_4 b fk_N x1 0 0 σ (fun y5 y6 y7 s4 => some (y6, s4))
set_option maxRecDepth 100000 in
set_option maxHeartbeats 4000000 in
theorem W_X0_sumOf_4 {cx : aw_C} (hN : aw_nL cx = 4) (K : aw_K cx cX0_sumOf RX0 rX0_sumOf) (b : Nat) (hb : hp_P b) : ∀ (fu : Nat) (x1 : Int32) (x2 : Int32) (x3 : Int32) (σ : fk_T) (k : Int32 → Int32 → Int32 → fk_T → Option (Int32 × fk_T)), (∀ (x1 : Int32) (x2 : Int32) (x3 : Int32) (σ : fk_T), af cx ρi 29 [some (.ref b), some (.int x1), some (.int x2), some (.int x3)] [] (hp σ) (k x1 x2 x3 σ)) → af cx ρi 4 [some (.ref b), some (.int x1), some (.int x2), some (.int x3)] [] (hp σ) (L_X0_sumOf_4 b fu x1 x2 x3 σ k) := by
  intro fu
  induction fu with
  | zero => intros; exact af_none
  | succ fu ih4 =>
    intro x1 x2 x3 σ k hk4
    rw [L_X0_sumOf_4]
    refine af_iload_n K 5 dX0_sumOf_4 rfl rfl ?_
    refine af_aload_n K 6 dX0_sumOf_5 rfl rfl ?_
    refine af_get K 9 dX0_sumOf_6 rfl fl_X0_49 (hp_lt hb) (hp_p0 hb _ _) rfl ?_
    refine af_icmp_ge K 12 29 dX0_sumOf_9 rfl rfl (fun _ => ?_) (fun _ => ?_)
    · refine af_lm [true, true, true, true] rfl ?_
      exact hk4 _ _ _ _
    · refine af_iload_n K 13 dX0_sumOf_12 rfl rfl ?_
      refine af_aload_n K 14 dX0_sumOf_13 rfl rfl ?_
      refine af_get K 17 dX0_sumOf_14 rfl fl_X0_22 (hp_lt hb) (hp_p0 hb _ _) rfl ?_
      refine af_iload_n K 18 dX0_sumOf_17 rfl rfl ?_
      refine af_iload_n K 19 dX0_sumOf_18 rfl rfl ?_
      refine af_iadd K 20 dX0_sumOf_19 rfl ?_
      refine af_iald K 21 dX0_sumOf_20 rfl (hp_lt2 hb) (hp_p2 hb _ _) (fun y1 => ?_)
      refine af_iadd K 22 dX0_sumOf_21 rfl ?_
      refine af_Bi (fun y2 => ?_)
      refine af_istore_n K 23 [some (.ref b), some (.int x1), some (.int y2), some (.int x3)] dX0_sumOf_22 rfl (by rw [hN]; exact Nat.le_of_ble_eq_true rfl) rfl ?_
      refine af_iincB K 26 (fun yy => [some (.ref b), some (.int x1), some (.int y2), some (.int yy)]) dX0_sumOf_23 rfl (by rw [hN]; exact Nat.le_of_ble_eq_true rfl) rfl cs_iconst_1 (fun _ => rfl) (fun y3 => ?_)
      refine af_goto K 4 dX0_sumOf_26 rfl ?_
      refine af_lm [true, true, true, true] rfl ?_
      exact ih4 _ _ _ _ _ hk4
set_option maxRecDepth 100000 in
set_option maxHeartbeats 4000000 in
theorem A_X0_sumOf (X : aw_X) (l : Launch) (b : Nat) (hb : hp_P b) (x1 : Int32) (σ : fk_T) : af_G X l mX0_sumOf [.ref b, .int x1] (hp σ) ρi (F_X0_sumOf b x1 σ) := by
  refine af_mk (by decide) rfl (fun q _ => aw_oki q) [some (.ref b), some (.int x1), none, none] rfl ?_
  rintro cx rfl rfl hN K
  replace hN : aw_nL cx = 4 := hN
  replace K : aw_K cx cX0_sumOf RX0 rX0_sumOf := K
  unfold F_X0_sumOf
  refine af_iconst K 1 dX0_sumOf_0 rfl cs_iconst_0 ?_
  refine af_istore_n K 2 [some (.ref b), some (.int x1), some (.int 0), none] dX0_sumOf_1 rfl (by rw [hN]; exact Nat.le_of_ble_eq_true rfl) rfl ?_
  refine af_iconst K 3 dX0_sumOf_2 rfl cs_iconst_0 ?_
  refine af_istore_n K 4 [some (.ref b), some (.int x1), some (.int 0), some (.int 0)] dX0_sumOf_3 rfl (by rw [hN]; exact Nat.le_of_ble_eq_true rfl) rfl ?_
  refine af_lm [true, true, true, true] rfl ?_
  refine W_X0_sumOf_4 hN K b hb fk_N _ _ _ _ _ (fun y5 y6 y7 s4 => ?_)
  refine af_iload_n K 30 dX0_sumOf_29 rfl rfl ?_
  exact af_reti K dX0_sumOf_30
def L_X0_widestTwo_19 (b : Nat) : Nat → Int32 → Int32 → Int32 → Int32 → fk_T → (Int32 → Int32 → Int32 → Int32 → fk_T → Option (Int32 × fk_T)) → Option (Int32 × fk_T)
  | 0, _, _, _, _, _, _ => none
  | fu + 1, x1, x2, x3, x4, σ, k => if (σ.1 b 6) ≤ x4 then (k x1 x2 x3 x4 σ) else ((F_X0_riftOf b x3 x4 σ).bind (fun q2 => if q2.1 ≤ x1 then (fk_B (x4 + 1) (fun y3 => L_X0_widestTwo_19 b fu x1 x2 x3 y3 q2.2 k)) else ((F_X0_riftOf b x3 x4 q2.2).bind (fun q4 => fk_B ((8 * x3) + x4) (fun y5 => fk_B (x4 + 1) (fun y6 => L_X0_widestTwo_19 b fu q4.1 y5 x3 y6 q4.2 k))))))
def L_X0_widestTwo_6 (b : Nat) : Nat → Int32 → Int32 → Int32 → fk_T → (Int32 → Int32 → Int32 → fk_T → Option (Int32 × fk_T)) → Option (Int32 × fk_T)
  | 0, _, _, _, _, _ => none
  | fu + 1, x1, x2, x3, σ, k => if (σ.1 b 6) ≤ x3 then (k x1 x2 x3 σ) else (fk_B (x3 + 1) (fun y1 => L_X0_widestTwo_19 b fk_N x1 x2 x3 y1 σ (fun y8 y9 y10 y11 s7 => fk_B (y10 + 1) (fun y12 => L_X0_widestTwo_6 b fu y8 y9 y12 s7 k))))
def F_X0_widestTwo (b : Nat) (σ : fk_T) : Option (Int32 × fk_T) := L_X0_widestTwo_6 b fk_N (-1) (-1) 0 σ (fun y14 y15 y16 s13 => some (y15, s13))
set_option maxRecDepth 100000 in
set_option maxHeartbeats 4000000 in
theorem W_X0_widestTwo_19 {cx : aw_C} (hN : aw_nL cx = 5) (K : aw_K cx cX0_widestTwo RX0 rX0_widestTwo) (b : Nat) (hb : hp_P b) : ∀ (fu : Nat) (x1 : Int32) (x2 : Int32) (x3 : Int32) (x4 : Int32) (σ : fk_T) (k : Int32 → Int32 → Int32 → Int32 → fk_T → Option (Int32 × fk_T)), (∀ (x1 : Int32) (x2 : Int32) (x3 : Int32) (x4 : Int32) (σ : fk_T), af cx ρi 61 [some (.ref b), some (.int x1), some (.int x2), some (.int x3), some (.int x4)] [] (hp σ) (k x1 x2 x3 x4 σ)) → af cx ρi 19 [some (.ref b), some (.int x1), some (.int x2), some (.int x3), some (.int x4)] [] (hp σ) (L_X0_widestTwo_19 b fu x1 x2 x3 x4 σ k) := by
  intro fu
  induction fu with
  | zero => intros; exact af_none
  | succ fu ih19 =>
    intro x1 x2 x3 x4 σ k hk19
    rw [L_X0_widestTwo_19]
    refine af_iload K 21 dX0_widestTwo_19 rfl rfl ?_
    refine af_aload_n K 22 dX0_widestTwo_21 rfl rfl ?_
    refine af_get K 25 dX0_widestTwo_22 rfl fl_X0_49 (hp_lt hb) (hp_p0 hb _ _) rfl ?_
    refine af_icmp_ge K 28 61 dX0_widestTwo_25 rfl rfl (fun _ => ?_) (fun _ => ?_)
    · refine af_lm [true, true, true, true, true] rfl ?_
      exact hk19 _ _ _ _ _
    · refine af_aload_n K 29 dX0_widestTwo_28 rfl rfl ?_
      refine af_iload_n K 30 dX0_widestTwo_29 rfl rfl ?_
      refine af_iload K 32 dX0_widestTwo_30 rfl rfl ?_
      refine af_callV_i K (b := b) (vs := [.int x3, .int x4]) mv_X0_riftOf lk_258 ((hp_at _ (hp_lt hb)).trans (congrArg some (hp_p0 hb _ _))) rfl 35 dX0_widestTwo_32 rfl rfl rfl rfl (A_X0_riftOf _ _ b hb x3 x4 σ) rfl (fun q2 => ?_)
      refine af_iload_n K 36 dX0_widestTwo_35 rfl rfl ?_
      refine af_icmp_le K 39 55 dX0_widestTwo_36 rfl rfl (fun _ => ?_) (fun _ => ?_)
      · refine af_iincB K 58 (fun yy => [some (.ref b), some (.int x1), some (.int x2), some (.int x3), some (.int yy)]) dX0_widestTwo_55 rfl (by rw [hN]; exact Nat.le_of_ble_eq_true rfl) rfl cs_iconst_1 (fun _ => rfl) (fun y3 => ?_)
        refine af_goto K 19 dX0_widestTwo_58 rfl ?_
        refine af_lm [true, true, true, true, true] rfl ?_
        exact ih19 _ _ _ _ _ _ hk19
      · refine af_aload_n K 40 dX0_widestTwo_39 rfl rfl ?_
        refine af_iload_n K 41 dX0_widestTwo_40 rfl rfl ?_
        refine af_iload K 43 dX0_widestTwo_41 rfl rfl ?_
        refine af_callV_i K (b := b) (vs := [.int x3, .int x4]) mv_X0_riftOf lk_258 ((hp_at _ (hp_lt hb)).trans (congrArg some (hp_p0 hb _ _))) rfl 46 dX0_widestTwo_43 rfl rfl rfl rfl (A_X0_riftOf _ _ b hb x3 x4 q2.2) rfl (fun q4 => ?_)
        refine af_istore_n K 47 [some (.ref b), some (.int q4.1), some (.int x2), some (.int x3), some (.int x4)] dX0_widestTwo_46 rfl (by rw [hN]; exact Nat.le_of_ble_eq_true rfl) rfl ?_
        refine af_bipush K 49 dX0_widestTwo_47 rfl cs_bipush_8 ?_
        refine af_iload_n K 50 dX0_widestTwo_49 rfl rfl ?_
        refine af_imul K 51 dX0_widestTwo_50 rfl ?_
        refine af_iload K 53 dX0_widestTwo_51 rfl rfl ?_
        refine af_iadd K 54 dX0_widestTwo_53 rfl ?_
        refine af_Bi (fun y5 => ?_)
        refine af_istore_n K 55 [some (.ref b), some (.int q4.1), some (.int y5), some (.int x3), some (.int x4)] dX0_widestTwo_54 rfl (by rw [hN]; exact Nat.le_of_ble_eq_true rfl) rfl ?_
        refine af_iincB K 58 (fun yy => [some (.ref b), some (.int q4.1), some (.int y5), some (.int x3), some (.int yy)]) dX0_widestTwo_55 rfl (by rw [hN]; exact Nat.le_of_ble_eq_true rfl) rfl cs_iconst_1 (fun _ => rfl) (fun y6 => ?_)
        refine af_goto K 19 dX0_widestTwo_58 rfl ?_
        refine af_lm [true, true, true, true, true] rfl ?_
        exact ih19 _ _ _ _ _ _ hk19
set_option maxRecDepth 100000 in
set_option maxHeartbeats 4000000 in
theorem W_X0_widestTwo_6 {cx : aw_C} (hN : aw_nL cx = 5) (K : aw_K cx cX0_widestTwo RX0 rX0_widestTwo) (b : Nat) (hb : hp_P b) : ∀ (fu : Nat) (x1 : Int32) (x2 : Int32) (x3 : Int32) (σ : fk_T) (k : Int32 → Int32 → Int32 → fk_T → Option (Int32 × fk_T)), (∀ (x1 : Int32) (x2 : Int32) (x3 : Int32) (σ : fk_T), af cx ρi 67 [some (.ref b), some (.int x1), some (.int x2), some (.int x3), none] [] (hp σ) (k x1 x2 x3 σ)) → af cx ρi 6 [some (.ref b), some (.int x1), some (.int x2), some (.int x3), none] [] (hp σ) (L_X0_widestTwo_6 b fu x1 x2 x3 σ k) := by
  intro fu
  induction fu with
  | zero => intros; exact af_none
  | succ fu ih6 =>
    intro x1 x2 x3 σ k hk6
    rw [L_X0_widestTwo_6]
    refine af_iload_n K 7 dX0_widestTwo_6 rfl rfl ?_
    refine af_aload_n K 8 dX0_widestTwo_7 rfl rfl ?_
    refine af_get K 11 dX0_widestTwo_8 rfl fl_X0_49 (hp_lt hb) (hp_p0 hb _ _) rfl ?_
    refine af_icmp_ge K 14 67 dX0_widestTwo_11 rfl rfl (fun _ => ?_) (fun _ => ?_)
    · refine af_lm [true, true, true, true, false] rfl ?_
      exact hk6 _ _ _ _
    · refine af_iload_n K 15 dX0_widestTwo_14 rfl rfl ?_
      refine af_iconst K 16 dX0_widestTwo_15 rfl cs_iconst_1 ?_
      refine af_iadd K 17 dX0_widestTwo_16 rfl ?_
      refine af_Bi (fun y1 => ?_)
      refine af_istore K 19 [some (.ref b), some (.int x1), some (.int x2), some (.int x3), some (.int y1)] dX0_widestTwo_17 rfl (by rw [hN]; exact Nat.le_of_ble_eq_true rfl) rfl ?_
      refine af_lm [true, true, true, true, true] rfl ?_
      refine W_X0_widestTwo_19 hN K b hb fk_N _ _ _ _ _ _ (fun y8 y9 y10 y11 s7 => ?_)
      refine af_iincB K 64 (fun yy => [some (.ref b), some (.int y8), some (.int y9), some (.int yy), some (.int y11)]) dX0_widestTwo_61 rfl (by rw [hN]; exact Nat.le_of_ble_eq_true rfl) rfl cs_iconst_1 (fun _ => rfl) (fun y12 => ?_)
      refine af_goto K 6 dX0_widestTwo_64 rfl ?_
      refine af_lm [true, true, true, true, false] rfl ?_
      exact ih6 _ _ _ _ _ hk6
set_option maxRecDepth 100000 in
set_option maxHeartbeats 4000000 in
theorem A_X0_widestTwo (X : aw_X) (l : Launch) (b : Nat) (hb : hp_P b) (σ : fk_T) : af_G X l mX0_widestTwo [.ref b] (hp σ) ρi (F_X0_widestTwo b σ) := by
  refine af_mk (by decide) rfl (fun q _ => aw_oki q) [some (.ref b), none, none, none, none] rfl ?_
  rintro cx rfl rfl hN K
  replace hN : aw_nL cx = 5 := hN
  replace K : aw_K cx cX0_widestTwo RX0 rX0_widestTwo := K
  unfold F_X0_widestTwo
  refine af_iconst K 1 dX0_widestTwo_0 rfl cs_iconst_m1 ?_
  refine af_istore_n K 2 [some (.ref b), some (.int (-1)), none, none, none] dX0_widestTwo_1 rfl (by rw [hN]; exact Nat.le_of_ble_eq_true rfl) rfl ?_
  refine af_iconst K 3 dX0_widestTwo_2 rfl cs_iconst_m1 ?_
  refine af_istore_n K 4 [some (.ref b), some (.int (-1)), some (.int (-1)), none, none] dX0_widestTwo_3 rfl (by rw [hN]; exact Nat.le_of_ble_eq_true rfl) rfl ?_
  refine af_iconst K 5 dX0_widestTwo_4 rfl cs_iconst_0 ?_
  refine af_istore_n K 6 [some (.ref b), some (.int (-1)), some (.int (-1)), some (.int 0), none] dX0_widestTwo_5 rfl (by rw [hN]; exact Nat.le_of_ble_eq_true rfl) rfl ?_
  refine af_lm [true, true, true, true, false] rfl ?_
  refine W_X0_widestTwo_6 hN K b hb fk_N _ _ _ _ _ (fun y14 y15 y16 s13 => ?_)
  refine af_iload_n K 68 dX0_widestTwo_67 rfl rfl ?_
  exact af_reti K dX0_widestTwo_68
def L_X0_reconcileSet_14 (b : Nat) : Nat → Int32 → Int32 → Int32 → fk_T → (Int32 → Int32 → Int32 → fk_T → Option (fk_T)) → Option (fk_T)
  | 0, _, _, _, _, _ => none
  | fu + 1, x1, x2, x3, σ, k => if (σ.1 b 6) ≤ x3 then (k x1 x2 x3 σ) else (if ((x1 >>> (x2 &&& 31)) &&& 1) = 1 then (if ((x1 >>> (x3 &&& 31)) &&& 1) = 1 then ((F_X0_setRift b x2 x3 0 σ).bind (fun q4 => fk_B (x3 + 1) (fun y5 => L_X0_reconcileSet_14 b fu x1 x2 y5 q4 k))) else (fk_B (x3 + 1) (fun y3 => L_X0_reconcileSet_14 b fu x1 x2 y3 σ k))) else (fk_B (x3 + 1) (fun y2 => L_X0_reconcileSet_14 b fu x1 x2 y2 σ k)))
def L_X0_reconcileSet_2 (b : Nat) : Nat → Int32 → Int32 → fk_T → (Int32 → Int32 → fk_T → Option (fk_T)) → Option (fk_T)
  | 0, _, _, _, _ => none
  | fu + 1, x1, x2, σ, k => if (σ.1 b 6) ≤ x2 then (k x1 x2 σ) else (fk_B (x2 + 1) (fun y1 => L_X0_reconcileSet_14 b fk_N x1 x2 y1 σ (fun y7 y8 y9 s6 => fk_B (y8 + 1) (fun y10 => L_X0_reconcileSet_2 b fu y7 y10 s6 k))))
def F_X0_reconcileSet (b : Nat) (x1 : Int32) (σ : fk_T) : Option (fk_T) := L_X0_reconcileSet_2 b fk_N x1 0 σ (fun y12 y13 s11 => some s11)
set_option maxRecDepth 100000 in
set_option maxHeartbeats 4000000 in
theorem W_X0_reconcileSet_14 {cx : aw_C} (hN : aw_nL cx = 4) (K : aw_K cx cX0_reconcileSet RX0 rX0_reconcileSet) (b : Nat) (hb : hp_P b) : ∀ (fu : Nat) (x1 : Int32) (x2 : Int32) (x3 : Int32) (σ : fk_T) (k : Int32 → Int32 → Int32 → fk_T → Option (fk_T)), (∀ (x1 : Int32) (x2 : Int32) (x3 : Int32) (σ : fk_T), af cx ρv 53 [some (.ref b), some (.int x1), some (.int x2), some (.int x3)] [] (hp σ) (k x1 x2 x3 σ)) → af cx ρv 14 [some (.ref b), some (.int x1), some (.int x2), some (.int x3)] [] (hp σ) (L_X0_reconcileSet_14 b fu x1 x2 x3 σ k) := by
  intro fu
  induction fu with
  | zero => intros; exact af_none
  | succ fu ih14 =>
    intro x1 x2 x3 σ k hk14
    rw [L_X0_reconcileSet_14]
    refine af_iload_n K 15 dX0_reconcileSet_14 rfl rfl ?_
    refine af_aload_n K 16 dX0_reconcileSet_15 rfl rfl ?_
    refine af_get K 19 dX0_reconcileSet_16 rfl fl_X0_49 (hp_lt hb) (hp_p0 hb _ _) rfl ?_
    refine af_icmp_ge K 22 53 dX0_reconcileSet_19 rfl rfl (fun _ => ?_) (fun _ => ?_)
    · refine af_lm [true, true, true, true] rfl ?_
      exact hk14 _ _ _ _
    · refine af_iload_n K 23 dX0_reconcileSet_22 rfl rfl ?_
      refine af_iload_n K 24 dX0_reconcileSet_23 rfl rfl ?_
      refine af_ishr K 25 dX0_reconcileSet_24 rfl ?_
      refine af_iconst K 26 dX0_reconcileSet_25 rfl cs_iconst_1 ?_
      refine af_iand K 27 dX0_reconcileSet_26 rfl ?_
      refine af_iconst K 28 dX0_reconcileSet_27 rfl cs_iconst_1 ?_
      refine af_icmp_ne K 31 47 dX0_reconcileSet_28 rfl rfl (fun _ => ?_) (fun _ => ?_)
      · refine af_iincB K 50 (fun yy => [some (.ref b), some (.int x1), some (.int x2), some (.int yy)]) dX0_reconcileSet_47 rfl (by rw [hN]; exact Nat.le_of_ble_eq_true rfl) rfl cs_iconst_1 (fun _ => rfl) (fun y2 => ?_)
        refine af_goto K 14 dX0_reconcileSet_50 rfl ?_
        refine af_lm [true, true, true, true] rfl ?_
        exact ih14 _ _ _ _ _ hk14
      · refine af_iload_n K 32 dX0_reconcileSet_31 rfl rfl ?_
        refine af_iload_n K 33 dX0_reconcileSet_32 rfl rfl ?_
        refine af_ishr K 34 dX0_reconcileSet_33 rfl ?_
        refine af_iconst K 35 dX0_reconcileSet_34 rfl cs_iconst_1 ?_
        refine af_iand K 36 dX0_reconcileSet_35 rfl ?_
        refine af_iconst K 37 dX0_reconcileSet_36 rfl cs_iconst_1 ?_
        refine af_icmp_ne K 40 47 dX0_reconcileSet_37 rfl rfl (fun _ => ?_) (fun _ => ?_)
        · refine af_iincB K 50 (fun yy => [some (.ref b), some (.int x1), some (.int x2), some (.int yy)]) dX0_reconcileSet_47 rfl (by rw [hN]; exact Nat.le_of_ble_eq_true rfl) rfl cs_iconst_1 (fun _ => rfl) (fun y3 => ?_)
          refine af_goto K 14 dX0_reconcileSet_50 rfl ?_
          refine af_lm [true, true, true, true] rfl ?_
          exact ih14 _ _ _ _ _ hk14
        · refine af_aload_n K 41 dX0_reconcileSet_40 rfl rfl ?_
          refine af_iload_n K 42 dX0_reconcileSet_41 rfl rfl ?_
          refine af_iload_n K 43 dX0_reconcileSet_42 rfl rfl ?_
          refine af_iconst K 44 dX0_reconcileSet_43 rfl cs_iconst_0 ?_
          refine af_callV_v K (b := b) (vs := [.int x2, .int x3, .int 0]) mv_X0_setRift lk_303 ((hp_at _ (hp_lt hb)).trans (congrArg some (hp_p0 hb _ _))) rfl 47 dX0_reconcileSet_44 rfl rfl rfl rfl (A_X0_setRift _ _ b hb x2 x3 0 σ) rfl (fun q4 => ?_)
          refine af_iincB K 50 (fun yy => [some (.ref b), some (.int x1), some (.int x2), some (.int yy)]) dX0_reconcileSet_47 rfl (by rw [hN]; exact Nat.le_of_ble_eq_true rfl) rfl cs_iconst_1 (fun _ => rfl) (fun y5 => ?_)
          refine af_goto K 14 dX0_reconcileSet_50 rfl ?_
          refine af_lm [true, true, true, true] rfl ?_
          exact ih14 _ _ _ _ _ hk14
set_option maxRecDepth 100000 in
set_option maxHeartbeats 4000000 in
theorem W_X0_reconcileSet_2 {cx : aw_C} (hN : aw_nL cx = 4) (K : aw_K cx cX0_reconcileSet RX0 rX0_reconcileSet) (b : Nat) (hb : hp_P b) : ∀ (fu : Nat) (x1 : Int32) (x2 : Int32) (σ : fk_T) (k : Int32 → Int32 → fk_T → Option (fk_T)), (∀ (x1 : Int32) (x2 : Int32) (σ : fk_T), af cx ρv 59 [some (.ref b), some (.int x1), some (.int x2), none] [] (hp σ) (k x1 x2 σ)) → af cx ρv 2 [some (.ref b), some (.int x1), some (.int x2), none] [] (hp σ) (L_X0_reconcileSet_2 b fu x1 x2 σ k) := by
  intro fu
  induction fu with
  | zero => intros; exact af_none
  | succ fu ih2 =>
    intro x1 x2 σ k hk2
    rw [L_X0_reconcileSet_2]
    refine af_iload_n K 3 dX0_reconcileSet_2 rfl rfl ?_
    refine af_aload_n K 4 dX0_reconcileSet_3 rfl rfl ?_
    refine af_get K 7 dX0_reconcileSet_4 rfl fl_X0_49 (hp_lt hb) (hp_p0 hb _ _) rfl ?_
    refine af_icmp_ge K 10 59 dX0_reconcileSet_7 rfl rfl (fun _ => ?_) (fun _ => ?_)
    · refine af_lm [true, true, true, false] rfl ?_
      exact hk2 _ _ _
    · refine af_iload_n K 11 dX0_reconcileSet_10 rfl rfl ?_
      refine af_iconst K 12 dX0_reconcileSet_11 rfl cs_iconst_1 ?_
      refine af_iadd K 13 dX0_reconcileSet_12 rfl ?_
      refine af_Bi (fun y1 => ?_)
      refine af_istore_n K 14 [some (.ref b), some (.int x1), some (.int x2), some (.int y1)] dX0_reconcileSet_13 rfl (by rw [hN]; exact Nat.le_of_ble_eq_true rfl) rfl ?_
      refine af_lm [true, true, true, true] rfl ?_
      refine W_X0_reconcileSet_14 hN K b hb fk_N _ _ _ _ _ (fun y7 y8 y9 s6 => ?_)
      refine af_iincB K 56 (fun yy => [some (.ref b), some (.int y7), some (.int yy), some (.int y9)]) dX0_reconcileSet_53 rfl (by rw [hN]; exact Nat.le_of_ble_eq_true rfl) rfl cs_iconst_1 (fun _ => rfl) (fun y10 => ?_)
      refine af_goto K 2 dX0_reconcileSet_56 rfl ?_
      refine af_lm [true, true, true, false] rfl ?_
      exact ih2 _ _ _ _ hk2
set_option maxRecDepth 100000 in
set_option maxHeartbeats 4000000 in
theorem A_X0_reconcileSet (X : aw_X) (l : Launch) (b : Nat) (hb : hp_P b) (x1 : Int32) (σ : fk_T) : af_G X l mX0_reconcileSet [.ref b, .int x1] (hp σ) ρv (F_X0_reconcileSet b x1 σ) := by
  refine af_mk (by decide) rfl (fun q _ => aw_okv q) [some (.ref b), some (.int x1), none, none] rfl ?_
  rintro cx rfl rfl hN K
  replace hN : aw_nL cx = 4 := hN
  replace K : aw_K cx cX0_reconcileSet RX0 rX0_reconcileSet := K
  unfold F_X0_reconcileSet
  refine af_iconst K 1 dX0_reconcileSet_0 rfl cs_iconst_0 ?_
  refine af_istore_n K 2 [some (.ref b), some (.int x1), some (.int 0), none] dX0_reconcileSet_1 rfl (by rw [hN]; exact Nat.le_of_ble_eq_true rfl) rfl ?_
  refine af_lm [true, true, true, false] rfl ?_
  refine W_X0_reconcileSet_2 hN K b hb fk_N _ _ _ _ (fun y12 y13 s11 => ?_)
  exact af_retv K dX0_reconcileSet_59
def F_X0_draw (b : Nat) (σ : fk_T) : Option (Int32 × fk_T) := fk_B (fk_w σ b (upd (σ.1 b) 5 (((σ.1 b 5) * 1103515245) + 12345))) (fun s1 => some ((((s1.1 b 5).toUInt32 >>> ((8 : Int32).toUInt32 &&& Int32.toUInt32 31)).toInt32), s1))
set_option maxRecDepth 100000 in
set_option maxHeartbeats 4000000 in
theorem A_X0_draw (X : aw_X) (l : Launch) (b : Nat) (hb : hp_P b) (σ : fk_T) : af_G X l mX0_draw [.ref b] (hp σ) ρi (F_X0_draw b σ) := by
  refine af_mk (by decide) rfl (fun q _ => aw_oki q) [some (.ref b)] rfl ?_
  rintro cx rfl rfl hN K
  replace hN : aw_nL cx = 1 := hN
  replace K : aw_K cx cX0_draw RX0 rX0_draw := K
  unfold F_X0_draw
  refine af_aload_n K 1 dX0_draw_0 rfl rfl ?_
  refine af_aload_n K 2 dX0_draw_1 rfl rfl ?_
  refine af_get K 5 dX0_draw_2 rfl fl_X0_15 (hp_lt hb) (hp_p0 hb _ _) rfl ?_
  refine af_ldc K 7 dX0_draw_5 rfl lk_425 ?_
  refine af_imul K 8 dX0_draw_7 rfl ?_
  refine af_sipush K 11 dX0_draw_8 rfl cs_sipush_12345 ?_
  refine af_iadd K 12 dX0_draw_11 rfl ?_
  refine af_put K 15 dX0_draw_12 rfl fp_X0_15 (hp_lt hb) (hp_p0 hb _ _) (Nat.le_of_ble_eq_true rfl) ((hp_p0 hb _ _).trans rfl) (fun s1 => ?_)
  refine af_aload_n K 16 dX0_draw_15 rfl rfl ?_
  refine af_get K 19 dX0_draw_16 rfl fl_X0_15 (hp_lt hb) (hp_p0 hb _ _) rfl ?_
  refine af_bipush K 21 dX0_draw_19 rfl cs_bipush_8 ?_
  refine af_iushr K 22 dX0_draw_21 rfl ?_
  exact af_reti K dX0_draw_22
def F_X0_drawMarket (b : Nat) (σ : fk_T) : Option (fk_T) := (F_X0_draw b σ).bind (fun q1 => fk_B (q1.1 - q1.1 / 8 * 8) (fun y2 => (F_X0_draw b q1.2).bind (fun q3 => fk_B (q3.1 - q3.1 / 8 * 8) (fun y4 => fk_S q3.2 (b + 1) 6 ((q3.2.1 b 4) - (q3.2.1 b 4) / 6 * 6) ((10 * y2) + y4) (fun s5 => (F_X0_draw b s5).bind (fun q6 => fk_B (fk_w q6.2 b (upd (q6.2.1 b) 0 (1 + (q6.1 - q6.1 / 20 * 20)))) (fun s7 => some s7)))))))
set_option maxRecDepth 100000 in
set_option maxHeartbeats 4000000 in
theorem A_X0_drawMarket (X : aw_X) (l : Launch) (b : Nat) (hb : hp_P b) (σ : fk_T) : af_G X l mX0_drawMarket [.ref b] (hp σ) ρv (F_X0_drawMarket b σ) := by
  refine af_mk (by decide) rfl (fun q _ => aw_okv q) [some (.ref b), none, none] rfl ?_
  rintro cx rfl rfl hN K
  replace hN : aw_nL cx = 3 := hN
  replace K : aw_K cx cX0_drawMarket RX0 rX0_drawMarket := K
  unfold F_X0_drawMarket
  refine af_aload_n K 1 dX0_drawMarket_0 rfl rfl ?_
  refine af_callV_i K (b := b) (vs := []) mv_X0_draw lk_421 ((hp_at _ (hp_lt hb)).trans (congrArg some (hp_p0 hb _ _))) rfl 4 dX0_drawMarket_1 rfl rfl rfl rfl (A_X0_draw _ _ b hb σ) rfl (fun q1 => ?_)
  refine af_bipush K 6 dX0_drawMarket_4 rfl cs_bipush_8 ?_
  refine af_irem K 7 dX0_drawMarket_6 rfl cs_nz_8 ?_
  refine af_Bi (fun y2 => ?_)
  refine af_istore_n K 8 [some (.ref b), some (.int y2), none] dX0_drawMarket_7 rfl (by rw [hN]; exact Nat.le_of_ble_eq_true rfl) rfl ?_
  refine af_aload_n K 9 dX0_drawMarket_8 rfl rfl ?_
  refine af_callV_i K (b := b) (vs := []) mv_X0_draw lk_421 ((hp_at _ (hp_lt hb)).trans (congrArg some (hp_p0 hb _ _))) rfl 12 dX0_drawMarket_9 rfl rfl rfl rfl (A_X0_draw _ _ b hb q1.2) rfl (fun q3 => ?_)
  refine af_bipush K 14 dX0_drawMarket_12 rfl cs_bipush_8 ?_
  refine af_irem K 15 dX0_drawMarket_14 rfl cs_nz_8 ?_
  refine af_Bi (fun y4 => ?_)
  refine af_istore_n K 16 [some (.ref b), some (.int y2), some (.int y4)] dX0_drawMarket_15 rfl (by rw [hN]; exact Nat.le_of_ble_eq_true rfl) rfl ?_
  refine af_aload_n K 17 dX0_drawMarket_16 rfl rfl ?_
  refine af_get K 20 dX0_drawMarket_17 rfl fl_X0_18 (hp_lt hb) (hp_p0 hb _ _) rfl ?_
  refine af_aload_n K 21 dX0_drawMarket_20 rfl rfl ?_
  refine af_get K 24 dX0_drawMarket_21 rfl fl_X0_46 (hp_lt hb) (hp_p0 hb _ _) rfl ?_
  refine af_bipush K 26 dX0_drawMarket_24 rfl cs_bipush_6 ?_
  refine af_irem K 27 dX0_drawMarket_26 rfl cs_nz_6 ?_
  refine af_bipush K 29 dX0_drawMarket_27 rfl cs_bipush_10 ?_
  refine af_iload_n K 30 dX0_drawMarket_29 rfl rfl ?_
  refine af_imul K 31 dX0_drawMarket_30 rfl ?_
  refine af_iload_n K 32 dX0_drawMarket_31 rfl rfl ?_
  refine af_iadd K 33 dX0_drawMarket_32 rfl ?_
  refine af_iast K 34 dX0_drawMarket_33 rfl (hp_lt1 hb) (hp_p1 hb) (fun s5 => ?_)
  refine af_aload_n K 35 dX0_drawMarket_34 rfl rfl ?_
  refine af_iconst K 36 dX0_drawMarket_35 rfl cs_iconst_1 ?_
  refine af_aload_n K 37 dX0_drawMarket_36 rfl rfl ?_
  refine af_callV_i K (b := b) (vs := []) mv_X0_draw lk_421 ((hp_at _ (hp_lt hb)).trans (congrArg some (hp_p0 hb _ _))) rfl 40 dX0_drawMarket_37 rfl rfl rfl rfl (A_X0_draw _ _ b hb s5) rfl (fun q6 => ?_)
  refine af_bipush K 42 dX0_drawMarket_40 rfl cs_bipush_20 ?_
  refine af_irem K 43 dX0_drawMarket_42 rfl cs_nz_20 ?_
  refine af_iadd K 44 dX0_drawMarket_43 rfl ?_
  refine af_put K 47 dX0_drawMarket_44 rfl fp_X0_9 (hp_lt hb) (hp_p0 hb _ _) (Nat.le_of_ble_eq_true rfl) ((hp_p0 hb _ _).trans rfl) (fun s7 => ?_)
  exact af_retv K dX0_drawMarket_47
def L_X0_spotsHeld_4 (b : Nat) : Nat → Int32 → Int32 → fk_T → (Int32 → Int32 → fk_T → Option (Int32 × fk_T)) → Option (Int32 × fk_T)
  | 0, _, _, _, _ => none
  | fu + 1, x1, x2, σ, k => if 10 ≤ x2 then (k x1 x2 σ) else (fk_A (σ.1 (b + 4)) 10 x2 (fun y1 => if y1 = (-1) then (fk_B (x2 + 1) (fun y2 => L_X0_spotsHeld_4 b fu x1 y2 σ k)) else (fk_B (x1 + 1) (fun y3 => fk_B (x2 + 1) (fun y4 => L_X0_spotsHeld_4 b fu y3 y4 σ k)))))
def F_X0_spotsHeld (b : Nat) (σ : fk_T) : Option (Int32 × fk_T) := L_X0_spotsHeld_4 b fk_N 0 0 σ (fun y6 y7 s5 => some (y6, s5))
set_option maxRecDepth 100000 in
set_option maxHeartbeats 4000000 in
theorem W_X0_spotsHeld_4 {cx : aw_C} (hN : aw_nL cx = 3) (K : aw_K cx cX0_spotsHeld RX0 rX0_spotsHeld) (b : Nat) (hb : hp_P b) : ∀ (fu : Nat) (x1 : Int32) (x2 : Int32) (σ : fk_T) (k : Int32 → Int32 → fk_T → Option (Int32 × fk_T)), (∀ (x1 : Int32) (x2 : Int32) (σ : fk_T), af cx ρi 29 [some (.ref b), some (.int x1), some (.int x2)] [] (hp σ) (k x1 x2 σ)) → af cx ρi 4 [some (.ref b), some (.int x1), some (.int x2)] [] (hp σ) (L_X0_spotsHeld_4 b fu x1 x2 σ k) := by
  intro fu
  induction fu with
  | zero => intros; exact af_none
  | succ fu ih4 =>
    intro x1 x2 σ k hk4
    rw [L_X0_spotsHeld_4]
    refine af_iload_n K 5 dX0_spotsHeld_4 rfl rfl ?_
    refine af_bipush K 7 dX0_spotsHeld_5 rfl cs_bipush_10 ?_
    refine af_icmp_ge K 10 29 dX0_spotsHeld_7 rfl rfl (fun _ => ?_) (fun _ => ?_)
    · refine af_lm [true, true, true] rfl ?_
      exact hk4 _ _ _
    · refine af_aload_n K 11 dX0_spotsHeld_10 rfl rfl ?_
      refine af_get K 14 dX0_spotsHeld_11 rfl fl_X0_28 (hp_lt hb) (hp_p0 hb _ _) rfl ?_
      refine af_iload_n K 15 dX0_spotsHeld_14 rfl rfl ?_
      refine af_iald K 16 dX0_spotsHeld_15 rfl (hp_lt4 hb) (hp_p4 hb _ _) (fun y1 => ?_)
      refine af_iconst K 17 dX0_spotsHeld_16 rfl cs_iconst_m1 ?_
      refine af_icmp_eq K 20 23 dX0_spotsHeld_17 rfl rfl (fun _ => ?_) (fun _ => ?_)
      · refine af_iincB K 26 (fun yy => [some (.ref b), some (.int x1), some (.int yy)]) dX0_spotsHeld_23 rfl (by rw [hN]; exact Nat.le_of_ble_eq_true rfl) rfl cs_iconst_1 (fun _ => rfl) (fun y2 => ?_)
        refine af_goto K 4 dX0_spotsHeld_26 rfl ?_
        refine af_lm [true, true, true] rfl ?_
        exact ih4 _ _ _ _ hk4
      · refine af_iincB K 23 (fun yy => [some (.ref b), some (.int yy), some (.int x2)]) dX0_spotsHeld_20 rfl (by rw [hN]; exact Nat.le_of_ble_eq_true rfl) rfl cs_iconst_1 (fun _ => rfl) (fun y3 => ?_)
        refine af_iincB K 26 (fun yy => [some (.ref b), some (.int y3), some (.int yy)]) dX0_spotsHeld_23 rfl (by rw [hN]; exact Nat.le_of_ble_eq_true rfl) rfl cs_iconst_1 (fun _ => rfl) (fun y4 => ?_)
        refine af_goto K 4 dX0_spotsHeld_26 rfl ?_
        refine af_lm [true, true, true] rfl ?_
        exact ih4 _ _ _ _ hk4
set_option maxRecDepth 100000 in
set_option maxHeartbeats 4000000 in
theorem A_X0_spotsHeld (X : aw_X) (l : Launch) (b : Nat) (hb : hp_P b) (σ : fk_T) : af_G X l mX0_spotsHeld [.ref b] (hp σ) ρi (F_X0_spotsHeld b σ) := by
  refine af_mk (by decide) rfl (fun q _ => aw_oki q) [some (.ref b), none, none] rfl ?_
  rintro cx rfl rfl hN K
  replace hN : aw_nL cx = 3 := hN
  replace K : aw_K cx cX0_spotsHeld RX0 rX0_spotsHeld := K
  unfold F_X0_spotsHeld
  refine af_iconst K 1 dX0_spotsHeld_0 rfl cs_iconst_0 ?_
  refine af_istore_n K 2 [some (.ref b), some (.int 0), none] dX0_spotsHeld_1 rfl (by rw [hN]; exact Nat.le_of_ble_eq_true rfl) rfl ?_
  refine af_iconst K 3 dX0_spotsHeld_2 rfl cs_iconst_0 ?_
  refine af_istore_n K 4 [some (.ref b), some (.int 0), some (.int 0)] dX0_spotsHeld_3 rfl (by rw [hN]; exact Nat.le_of_ble_eq_true rfl) rfl ?_
  refine af_lm [true, true, true] rfl ?_
  refine W_X0_spotsHeld_4 hN K b hb fk_N _ _ _ _ (fun y6 y7 s5 => ?_)
  refine af_iload_n K 30 dX0_spotsHeld_29 rfl rfl ?_
  exact af_reti K dX0_spotsHeld_30
def F_X4_within (x0 : Int32) (x1 : Int32) (x2 : Int32) (σ : fk_T) : Option (Bool × fk_T) := if x0 < x1 then (some (false, σ)) else (if x2 < x0 then (some (false, σ)) else (some (true, σ)))
set_option maxRecDepth 100000 in
set_option maxHeartbeats 4000000 in
theorem A_X4_within (X : aw_X) (l : Launch) (x0 : Int32) (x1 : Int32) (x2 : Int32) (σ : fk_T) : af_G X l mX4_within [.int x0, .int x1, .int x2] (hp σ) ρz (F_X4_within x0 x1 x2 σ) := by
  refine af_mk (by decide) rfl (fun q _ => aw_okz q) [some (.int x0), some (.int x1), some (.int x2)] rfl ?_
  rintro cx rfl rfl hN K
  replace hN : aw_nL cx = 3 := hN
  replace K : aw_K cx cX4_within RX4 rX4_within := K
  unfold F_X4_within
  refine af_iload_n K 1 dX4_within_0 rfl rfl ?_
  refine af_iload_n K 2 dX4_within_1 rfl rfl ?_
  refine af_icmp_lt K 5 14 dX4_within_2 rfl rfl (fun _ => ?_) (fun _ => ?_)
  · refine af_iconst K 15 dX4_within_14 rfl cs_iconst_0 ?_
    exact af_retz K rfl dX4_within_15
  · refine af_iload_n K 6 dX4_within_5 rfl rfl ?_
    refine af_iload_n K 7 dX4_within_6 rfl rfl ?_
    refine af_icmp_gt K 10 14 dX4_within_7 rfl rfl (fun _ => ?_) (fun _ => ?_)
    · refine af_iconst K 15 dX4_within_14 rfl cs_iconst_0 ?_
      exact af_retz K rfl dX4_within_15
    · refine af_iconst K 11 dX4_within_10 rfl cs_iconst_1 ?_
      refine af_goto K 15 dX4_within_11 rfl ?_
      exact af_retz K rfl dX4_within_15
