def L_X4_fits_56  : Nat → Int32 → Int32 → Int32 → Int32 → Int32 → fk_T → (Int32 → Int32 → Int32 → Int32 → Int32 → fk_T → Option (Int32 × fk_T)) → Option (Int32 × fk_T)
  | 0, _, _, _, _, _, _, _ => none
  | fu + 1, x1, x2, x3, x4, x5, σ, k => if 99 < x5 then (k x1 x2 x3 x4 x5 σ) else ((F_X0_become 6 1 σ).bind (fun q4 => (F_X0_setRift 6 x2 x3 x5 q4).bind (fun q5 => (F_X4_trialRiftIsTold x1 x2 x3 q5).bind (fun q6 => if (fk_b q6.1) = 0 then (fk_B (x5 + 1) (fun y7 => L_X4_fits_56 fu x1 x2 x3 x4 y7 q6.2 k)) else (fk_B (x4 + 1) (fun y8 => fk_B (x5 + 1) (fun y9 => L_X4_fits_56 fu x1 x2 x3 y8 y9 q6.2 k)))))))
def F_X4_fits (x1 : Int32) (x2 : Int32) (x3 : Int32) (σ : fk_T) : Option (Int32 × fk_T) := (F_X4_within x1 0 3 σ).bind (fun q1 => if (fk_b q1.1) = 0 then ((F_X4_found 0 q1.2).bind (fun q18 => some (q18.1, q18.2))) else ((F_X2_isMissing x1 q1.2).bind (fun q2 => if (fk_b q2.1) = 0 then ((F_X0_hasTwo 1 x2 x3 q2.2).bind (fun q3 => if (fk_b q3.1) = 0 then ((F_X4_found 0 q3.2).bind (fun q16 => some (q16.1, q16.2))) else (L_X4_fits_56 fk_N x1 x2 x3 0 0 q3.2 (fun y11 y12 y13 y14 y15 s10 => some (y14, s10))))) else ((F_X4_found 5 q2.2).bind (fun q17 => some (q17.1, q17.2))))))
set_option maxRecDepth 100000 in
set_option maxHeartbeats 4000000 in
theorem W_X4_fits_56 {cx : aw_C} (hN : aw_nL cx = 6) (K : aw_K cx cX4_fits RX4 rX4_fits)  : ∀ (fu : Nat) (x1 : Int32) (x2 : Int32) (x3 : Int32) (x4 : Int32) (x5 : Int32) (σ : fk_T) (k : Int32 → Int32 → Int32 → Int32 → Int32 → fk_T → Option (Int32 × fk_T)), (∀ (x1 : Int32) (x2 : Int32) (x3 : Int32) (x4 : Int32) (x5 : Int32) (σ : fk_T), af cx ρi 104 [some (.ref 0), some (.int x1), some (.int x2), some (.int x3), some (.int x4), some (.int x5)] [] (hp σ) (k x1 x2 x3 x4 x5 σ)) → af cx ρi 56 [some (.ref 0), some (.int x1), some (.int x2), some (.int x3), some (.int x4), some (.int x5)] [] (hp σ) (L_X4_fits_56 fu x1 x2 x3 x4 x5 σ k) := by
  intro fu
  induction fu with
  | zero => intros; exact af_none
  | succ fu ih56 =>
    intro x1 x2 x3 x4 x5 σ k hk56
    rw [L_X4_fits_56]
    refine af_iload K 58 dX4_fits_56 rfl rfl ?_
    refine af_bipush K 60 dX4_fits_58 rfl cs_bipush_99 ?_
    refine af_icmp_gt K 63 104 dX4_fits_60 rfl rfl (fun _ => ?_) (fun _ => ?_)
    · refine af_lm [true, true, true, true, true, true] rfl ?_
      exact hk56 _ _ _ _ _ _
    · refine af_aload_n K 64 dX4_fits_63 rfl rfl ?_
      refine af_get K 67 dX4_fits_64 rfl fl_X4_16 (Nat.le_of_ble_eq_true rfl) rfl rfl ?_
      refine af_aload_n K 68 dX4_fits_67 rfl rfl ?_
      refine af_get K 71 dX4_fits_68 rfl fl_X4_10 (Nat.le_of_ble_eq_true rfl) rfl rfl ?_
      refine af_callV_v K (b := 6) (vs := [.ref 1]) mv_X0_become lk_328 ((hp_at _ (Nat.le_of_ble_eq_true rfl)).trans rfl) rfl 74 dX4_fits_71 rfl rfl rfl rfl (A_X0_become _ _ 6 (Or.inr (Or.inl rfl)) 1 (Or.inl rfl) σ) rfl (fun q4 => ?_)
      refine af_aload_n K 75 dX4_fits_74 rfl rfl ?_
      refine af_get K 78 dX4_fits_75 rfl fl_X4_16 (Nat.le_of_ble_eq_true rfl) rfl rfl ?_
      refine af_iload_n K 79 dX4_fits_78 rfl rfl ?_
      refine af_iload_n K 80 dX4_fits_79 rfl rfl ?_
      refine af_iload K 82 dX4_fits_80 rfl rfl ?_
      refine af_callV_v K (b := 6) (vs := [.int x2, .int x3, .int x5]) mv_X0_setRift lk_246 ((hp_at _ (Nat.le_of_ble_eq_true rfl)).trans rfl) rfl 85 dX4_fits_82 rfl rfl rfl rfl (A_X0_setRift _ _ 6 (Or.inr (Or.inl rfl)) x2 x3 x5 q4) rfl (fun q5 => ?_)
      refine af_aload_n K 86 dX4_fits_85 rfl rfl ?_
      refine af_iload_n K 87 dX4_fits_86 rfl rfl ?_
      refine af_iload_n K 88 dX4_fits_87 rfl rfl ?_
      refine af_iload_n K 89 dX4_fits_88 rfl rfl ?_
      refine af_callV_z K (b := 0) (vs := [.int x1, .int x2, .int x3]) mv_X4_trialRiftIsTold lk_397 ((hp_at _ (Nat.le_of_ble_eq_true rfl)).trans rfl) rfl 92 dX4_fits_89 rfl rfl rfl rfl (A_X4_trialRiftIsTold _ _ x1 x2 x3 q5) rfl (fun q6 => ?_)
      refine af_if_eq K 95 98 dX4_fits_92 rfl rfl (fun _ => ?_) (fun _ => ?_)
      · refine af_iincB K 101 (fun yy => [some (.ref 0), some (.int x1), some (.int x2), some (.int x3), some (.int x4), some (.int yy)]) dX4_fits_98 rfl (by rw [hN]; exact Nat.le_of_ble_eq_true rfl) rfl cs_iconst_1 (fun _ => rfl) (fun y7 => ?_)
        refine af_goto K 56 dX4_fits_101 rfl ?_
        refine af_lm [true, true, true, true, true, true] rfl ?_
        exact ih56 _ _ _ _ _ _ _ hk56
      · refine af_iincB K 98 (fun yy => [some (.ref 0), some (.int x1), some (.int x2), some (.int x3), some (.int yy), some (.int x5)]) dX4_fits_95 rfl (by rw [hN]; exact Nat.le_of_ble_eq_true rfl) rfl cs_iconst_1 (fun _ => rfl) (fun y8 => ?_)
        refine af_iincB K 101 (fun yy => [some (.ref 0), some (.int x1), some (.int x2), some (.int x3), some (.int y8), some (.int yy)]) dX4_fits_98 rfl (by rw [hN]; exact Nat.le_of_ble_eq_true rfl) rfl cs_iconst_1 (fun _ => rfl) (fun y9 => ?_)
        refine af_goto K 56 dX4_fits_101 rfl ?_
        refine af_lm [true, true, true, true, true, true] rfl ?_
        exact ih56 _ _ _ _ _ _ _ hk56
set_option maxRecDepth 100000 in
set_option maxHeartbeats 4000000 in
theorem A_X4_fits (X : aw_X) (l : Launch) (x1 : Int32) (x2 : Int32) (x3 : Int32) (σ : fk_T) : af_G X l mX4_fits [.ref 0, .int x1, .int x2, .int x3] (hp σ) ρi (F_X4_fits x1 x2 x3 σ) := by
  refine af_mk (by decide) rfl (fun q _ => aw_oki q) [some (.ref 0), some (.int x1), some (.int x2), some (.int x3), none, none] rfl ?_
  rintro cx rfl rfl hN K
  replace hN : aw_nL cx = 6 := hN
  replace K : aw_K cx cX4_fits RX4 rX4_fits := K
  unfold F_X4_fits
  refine af_iload_n K 1 dX4_fits_0 rfl rfl ?_
  refine af_iconst K 2 dX4_fits_1 rfl cs_iconst_0 ?_
  refine af_iconst K 3 dX4_fits_2 rfl cs_iconst_3 ?_
  refine af_callS_z K (vs := [.int x1, .int 0, .int 3]) ms_X4_within lk_169 6 dX4_fits_3 rfl rfl rfl rfl (A_X4_within _ _ x1 0 3 σ) rfl (fun q1 => ?_)
  refine af_if_ne K 9 15 dX4_fits_6 rfl rfl (fun _ => ?_) (fun _ => ?_)
  · refine af_aload_n K 16 dX4_fits_15 rfl rfl ?_
    refine af_get K 19 dX4_fits_16 rfl fl_X4_45 (Nat.le_of_ble_eq_true rfl) rfl rfl ?_
    refine af_iload_n K 20 dX4_fits_19 rfl rfl ?_
    refine af_callV_z K (b := 21) (vs := [.int x1]) mv_X2_isMissing lk_393 ((hp_at _ (Nat.le_of_ble_eq_true rfl)).trans rfl) rfl 23 dX4_fits_20 rfl rfl rfl rfl (A_X2_isMissing _ _ x1 q1.2) rfl (fun q2 => ?_)
    refine af_if_eq K 26 32 dX4_fits_23 rfl rfl (fun _ => ?_) (fun _ => ?_)
    · refine af_aload_n K 33 dX4_fits_32 rfl rfl ?_
      refine af_get K 36 dX4_fits_33 rfl fl_X4_10 (Nat.le_of_ble_eq_true rfl) rfl rfl ?_
      refine af_iload_n K 37 dX4_fits_36 rfl rfl ?_
      refine af_iload_n K 38 dX4_fits_37 rfl rfl ?_
      refine af_callV_z K (b := 1) (vs := [.int x2, .int x3]) mv_X0_hasTwo lk_234 ((hp_at _ (Nat.le_of_ble_eq_true rfl)).trans rfl) rfl 41 dX4_fits_38 rfl rfl rfl rfl (A_X0_hasTwo _ _ 1 (Or.inl rfl) x2 x3 q2.2) rfl (fun q3 => ?_)
      refine af_if_ne K 44 50 dX4_fits_41 rfl rfl (fun _ => ?_) (fun _ => ?_)
      · refine af_iconst K 51 dX4_fits_50 rfl cs_iconst_0 ?_
        refine af_istore K 53 [some (.ref 0), some (.int x1), some (.int x2), some (.int x3), some (.int 0), none] dX4_fits_51 rfl (by rw [hN]; exact Nat.le_of_ble_eq_true rfl) rfl ?_
        refine af_iconst K 54 dX4_fits_53 rfl cs_iconst_0 ?_
        refine af_istore K 56 [some (.ref 0), some (.int x1), some (.int x2), some (.int x3), some (.int 0), some (.int 0)] dX4_fits_54 rfl (by rw [hN]; exact Nat.le_of_ble_eq_true rfl) rfl ?_
        refine af_lm [true, true, true, true, true, true] rfl ?_
        refine W_X4_fits_56 hN K  fk_N _ _ _ _ _ _ _ (fun y11 y12 y13 y14 y15 s10 => ?_)
        refine af_iload K 106 dX4_fits_104 rfl rfl ?_
        exact af_reti K dX4_fits_106
      · refine af_aload_n K 45 dX4_fits_44 rfl rfl ?_
        refine af_iconst K 46 dX4_fits_45 rfl cs_iconst_0 ?_
        refine af_callV_i K (b := 0) (vs := [.int 0]) mv_X4_found lk_172 ((hp_at _ (Nat.le_of_ble_eq_true rfl)).trans rfl) rfl 49 dX4_fits_46 rfl rfl rfl rfl (A_X4_found _ _ 0 q3.2) rfl (fun q16 => ?_)
        exact af_reti K dX4_fits_49
    · refine af_aload_n K 27 dX4_fits_26 rfl rfl ?_
      refine af_iconst K 28 dX4_fits_27 rfl cs_iconst_5 ?_
      refine af_callV_i K (b := 0) (vs := [.int 5]) mv_X4_found lk_172 ((hp_at _ (Nat.le_of_ble_eq_true rfl)).trans rfl) rfl 31 dX4_fits_28 rfl rfl rfl rfl (A_X4_found _ _ 5 q2.2) rfl (fun q17 => ?_)
      exact af_reti K dX4_fits_31
  · refine af_aload_n K 10 dX4_fits_9 rfl rfl ?_
    refine af_iconst K 11 dX4_fits_10 rfl cs_iconst_0 ?_
    refine af_callV_i K (b := 0) (vs := [.int 0]) mv_X4_found lk_172 ((hp_at _ (Nat.le_of_ble_eq_true rfl)).trans rfl) rfl 14 dX4_fits_11 rfl rfl rfl rfl (A_X4_found _ _ 0 q1.2) rfl (fun q18 => ?_)
    exact af_reti K dX4_fits_14
def L_X4_trialHeatIsTold_2  : Nat → Int32 → Int32 → Int32 → fk_T → (Int32 → Int32 → Int32 → fk_T → Option (Bool × fk_T)) → Option (Bool × fk_T)
  | 0, _, _, _, _, _ => none
  | fu + 1, x1, x2, x3, σ, k => fk_A (σ.1 23) 4 x1 (fun y1 => if y1 ≤ x3 then (k x1 x2 x3 σ) else (if x3 ≤ 0 then ((F_X2_get x1 x3 σ).bind (fun q2 => if q2.1 = (-1) then (fk_B (x3 + 1) (fun y3 => L_X4_trialHeatIsTold_2 fu x1 x2 y3 q2.2 k)) else (fk_A (q2.2.1 8) 48 (8 + x2) (fun y4 => if q2.1 = y4 then (fk_B (x3 + 1) (fun y5 => L_X4_trialHeatIsTold_2 fu x1 x2 y5 q2.2 k)) else (some (false, q2.2)))))) else ((F_X0_passDays 6 1 σ).bind (fun q6 => (F_X2_get x1 x3 q6).bind (fun q7 => if q7.1 = (-1) then (fk_B (x3 + 1) (fun y8 => L_X4_trialHeatIsTold_2 fu x1 x2 y8 q7.2 k)) else (fk_A (q7.2.1 8) 48 (8 + x2) (fun y9 => if q7.1 = y9 then (fk_B (x3 + 1) (fun y10 => L_X4_trialHeatIsTold_2 fu x1 x2 y10 q7.2 k)) else (some (false, q7.2)))))))))
def F_X4_trialHeatIsTold (x1 : Int32) (x2 : Int32) (σ : fk_T) : Option (Bool × fk_T) := L_X4_trialHeatIsTold_2 fk_N x1 x2 0 σ (fun y12 y13 y14 s11 => some (true, s11))
set_option maxRecDepth 100000 in
set_option maxHeartbeats 4000000 in
theorem W_X4_trialHeatIsTold_2 {cx : aw_C} (hN : aw_nL cx = 5) (K : aw_K cx cX4_trialHeatIsTold RX4 rX4_trialHeatIsTold)  : ∀ (fu : Nat) (x1 : Int32) (x2 : Int32) (x3 : Int32) (σ : fk_T) (k : Int32 → Int32 → Int32 → fk_T → Option (Bool × fk_T)), (∀ (x1 : Int32) (x2 : Int32) (x3 : Int32) (σ : fk_T), af cx ρz 69 [some (.ref 0), some (.int x1), some (.int x2), some (.int x3), none] [] (hp σ) (k x1 x2 x3 σ)) → af cx ρz 2 [some (.ref 0), some (.int x1), some (.int x2), some (.int x3), none] [] (hp σ) (L_X4_trialHeatIsTold_2 fu x1 x2 x3 σ k) := by
  intro fu
  induction fu with
  | zero => intros; exact af_none
  | succ fu ih2 =>
    intro x1 x2 x3 σ k hk2
    rw [L_X4_trialHeatIsTold_2]
    refine af_iload_n K 3 dX4_trialHeatIsTold_2 rfl rfl ?_
    refine af_aload_n K 4 dX4_trialHeatIsTold_3 rfl rfl ?_
    refine af_get K 7 dX4_trialHeatIsTold_4 rfl fl_X4_45 (Nat.le_of_ble_eq_true rfl) rfl rfl ?_
    refine af_get K 10 dX4_trialHeatIsTold_7 rfl fl_X4_208 (Nat.le_of_ble_eq_true rfl) rfl rfl ?_
    refine af_iload_n K 11 dX4_trialHeatIsTold_10 rfl rfl ?_
    refine af_iald K 12 dX4_trialHeatIsTold_11 rfl (Nat.le_of_ble_eq_true rfl) rfl (fun y1 => ?_)
    refine af_icmp_ge K 15 69 dX4_trialHeatIsTold_12 rfl rfl (fun _ => ?_) (fun _ => ?_)
    · refine af_lm [true, true, true, true, false] rfl ?_
      exact hk2 _ _ _ _
    · refine af_iload_n K 16 dX4_trialHeatIsTold_15 rfl rfl ?_
      refine af_if_le K 19 27 dX4_trialHeatIsTold_16 rfl rfl (fun _ => ?_) (fun _ => ?_)
      · refine af_aload_n K 28 dX4_trialHeatIsTold_27 rfl rfl ?_
        refine af_get K 31 dX4_trialHeatIsTold_28 rfl fl_X4_45 (Nat.le_of_ble_eq_true rfl) rfl rfl ?_
        refine af_iload_n K 32 dX4_trialHeatIsTold_31 rfl rfl ?_
        refine af_iload_n K 33 dX4_trialHeatIsTold_32 rfl rfl ?_
        refine af_callV_i K (b := 21) (vs := [.int x1, .int x3]) mv_X2_get lk_401 ((hp_at _ (Nat.le_of_ble_eq_true rfl)).trans rfl) rfl 36 dX4_trialHeatIsTold_33 rfl rfl rfl rfl (A_X2_get _ _ x1 x3 σ) rfl (fun q2 => ?_)
        refine af_istore K 38 [some (.ref 0), some (.int x1), some (.int x2), some (.int x3), some (.int q2.1)] dX4_trialHeatIsTold_36 rfl (by rw [hN]; exact Nat.le_of_ble_eq_true rfl) rfl ?_
        refine af_iload K 40 dX4_trialHeatIsTold_38 rfl rfl ?_
        refine af_iconst K 41 dX4_trialHeatIsTold_40 rfl cs_iconst_m1 ?_
        refine af_icmp_eq K 44 63 dX4_trialHeatIsTold_41 rfl rfl (fun _ => ?_) (fun _ => ?_)
        · refine af_iincB K 66 (fun yy => [some (.ref 0), some (.int x1), some (.int x2), some (.int yy), some (.int q2.1)]) dX4_trialHeatIsTold_63 rfl (by rw [hN]; exact Nat.le_of_ble_eq_true rfl) rfl cs_iconst_1 (fun _ => rfl) (fun y3 => ?_)
          refine af_goto K 2 dX4_trialHeatIsTold_66 rfl ?_
          refine af_lm [true, true, true, true, false] rfl ?_
          exact ih2 _ _ _ _ _ hk2
        · refine af_iload K 46 dX4_trialHeatIsTold_44 rfl rfl ?_
          refine af_aload_n K 47 dX4_trialHeatIsTold_46 rfl rfl ?_
          refine af_get K 50 dX4_trialHeatIsTold_47 rfl fl_X4_16 (Nat.le_of_ble_eq_true rfl) rfl rfl ?_
          refine af_get K 53 dX4_trialHeatIsTold_50 rfl fl_X4_87 (Nat.le_of_ble_eq_true rfl) rfl rfl ?_
          refine af_bipush K 55 dX4_trialHeatIsTold_53 rfl cs_bipush_8 ?_
          refine af_iload_n K 56 dX4_trialHeatIsTold_55 rfl rfl ?_
          refine af_iadd K 57 dX4_trialHeatIsTold_56 rfl ?_
          refine af_iald K 58 dX4_trialHeatIsTold_57 rfl (Nat.le_of_ble_eq_true rfl) rfl (fun y4 => ?_)
          refine af_icmp_eq K 61 63 dX4_trialHeatIsTold_58 rfl rfl (fun _ => ?_) (fun _ => ?_)
          · refine af_iincB K 66 (fun yy => [some (.ref 0), some (.int x1), some (.int x2), some (.int yy), some (.int q2.1)]) dX4_trialHeatIsTold_63 rfl (by rw [hN]; exact Nat.le_of_ble_eq_true rfl) rfl cs_iconst_1 (fun _ => rfl) (fun y5 => ?_)
            refine af_goto K 2 dX4_trialHeatIsTold_66 rfl ?_
            refine af_lm [true, true, true, true, false] rfl ?_
            exact ih2 _ _ _ _ _ hk2
          · refine af_iconst K 62 dX4_trialHeatIsTold_61 rfl cs_iconst_0 ?_
            exact af_retz K rfl dX4_trialHeatIsTold_62
      · refine af_aload_n K 20 dX4_trialHeatIsTold_19 rfl rfl ?_
        refine af_get K 23 dX4_trialHeatIsTold_20 rfl fl_X4_16 (Nat.le_of_ble_eq_true rfl) rfl rfl ?_
        refine af_iconst K 24 dX4_trialHeatIsTold_23 rfl cs_iconst_1 ?_
        refine af_callV_v K (b := 6) (vs := [.int 1]) mv_X0_passDays lk_274 ((hp_at _ (Nat.le_of_ble_eq_true rfl)).trans rfl) rfl 27 dX4_trialHeatIsTold_24 rfl rfl rfl rfl (A_X0_passDays _ _ 6 (Or.inr (Or.inl rfl)) 1 σ) rfl (fun q6 => ?_)
        refine af_aload_n K 28 dX4_trialHeatIsTold_27 rfl rfl ?_
        refine af_get K 31 dX4_trialHeatIsTold_28 rfl fl_X4_45 (Nat.le_of_ble_eq_true rfl) rfl rfl ?_
        refine af_iload_n K 32 dX4_trialHeatIsTold_31 rfl rfl ?_
        refine af_iload_n K 33 dX4_trialHeatIsTold_32 rfl rfl ?_
        refine af_callV_i K (b := 21) (vs := [.int x1, .int x3]) mv_X2_get lk_401 ((hp_at _ (Nat.le_of_ble_eq_true rfl)).trans rfl) rfl 36 dX4_trialHeatIsTold_33 rfl rfl rfl rfl (A_X2_get _ _ x1 x3 q6) rfl (fun q7 => ?_)
        refine af_istore K 38 [some (.ref 0), some (.int x1), some (.int x2), some (.int x3), some (.int q7.1)] dX4_trialHeatIsTold_36 rfl (by rw [hN]; exact Nat.le_of_ble_eq_true rfl) rfl ?_
        refine af_iload K 40 dX4_trialHeatIsTold_38 rfl rfl ?_
        refine af_iconst K 41 dX4_trialHeatIsTold_40 rfl cs_iconst_m1 ?_
        refine af_icmp_eq K 44 63 dX4_trialHeatIsTold_41 rfl rfl (fun _ => ?_) (fun _ => ?_)
        · refine af_iincB K 66 (fun yy => [some (.ref 0), some (.int x1), some (.int x2), some (.int yy), some (.int q7.1)]) dX4_trialHeatIsTold_63 rfl (by rw [hN]; exact Nat.le_of_ble_eq_true rfl) rfl cs_iconst_1 (fun _ => rfl) (fun y8 => ?_)
          refine af_goto K 2 dX4_trialHeatIsTold_66 rfl ?_
          refine af_lm [true, true, true, true, false] rfl ?_
          exact ih2 _ _ _ _ _ hk2
        · refine af_iload K 46 dX4_trialHeatIsTold_44 rfl rfl ?_
          refine af_aload_n K 47 dX4_trialHeatIsTold_46 rfl rfl ?_
          refine af_get K 50 dX4_trialHeatIsTold_47 rfl fl_X4_16 (Nat.le_of_ble_eq_true rfl) rfl rfl ?_
          refine af_get K 53 dX4_trialHeatIsTold_50 rfl fl_X4_87 (Nat.le_of_ble_eq_true rfl) rfl rfl ?_
          refine af_bipush K 55 dX4_trialHeatIsTold_53 rfl cs_bipush_8 ?_
          refine af_iload_n K 56 dX4_trialHeatIsTold_55 rfl rfl ?_
          refine af_iadd K 57 dX4_trialHeatIsTold_56 rfl ?_
          refine af_iald K 58 dX4_trialHeatIsTold_57 rfl (Nat.le_of_ble_eq_true rfl) rfl (fun y9 => ?_)
          refine af_icmp_eq K 61 63 dX4_trialHeatIsTold_58 rfl rfl (fun _ => ?_) (fun _ => ?_)
          · refine af_iincB K 66 (fun yy => [some (.ref 0), some (.int x1), some (.int x2), some (.int yy), some (.int q7.1)]) dX4_trialHeatIsTold_63 rfl (by rw [hN]; exact Nat.le_of_ble_eq_true rfl) rfl cs_iconst_1 (fun _ => rfl) (fun y10 => ?_)
            refine af_goto K 2 dX4_trialHeatIsTold_66 rfl ?_
            refine af_lm [true, true, true, true, false] rfl ?_
            exact ih2 _ _ _ _ _ hk2
          · refine af_iconst K 62 dX4_trialHeatIsTold_61 rfl cs_iconst_0 ?_
            exact af_retz K rfl dX4_trialHeatIsTold_62
set_option maxRecDepth 100000 in
set_option maxHeartbeats 4000000 in
theorem A_X4_trialHeatIsTold (X : aw_X) (l : Launch) (x1 : Int32) (x2 : Int32) (σ : fk_T) : af_G X l mX4_trialHeatIsTold [.ref 0, .int x1, .int x2] (hp σ) ρz (F_X4_trialHeatIsTold x1 x2 σ) := by
  refine af_mk (by decide) rfl (fun q _ => aw_okz q) [some (.ref 0), some (.int x1), some (.int x2), none, none] rfl ?_
  rintro cx rfl rfl hN K
  replace hN : aw_nL cx = 5 := hN
  replace K : aw_K cx cX4_trialHeatIsTold RX4 rX4_trialHeatIsTold := K
  unfold F_X4_trialHeatIsTold
  refine af_iconst K 1 dX4_trialHeatIsTold_0 rfl cs_iconst_0 ?_
  refine af_istore_n K 2 [some (.ref 0), some (.int x1), some (.int x2), some (.int 0), none] dX4_trialHeatIsTold_1 rfl (by rw [hN]; exact Nat.le_of_ble_eq_true rfl) rfl ?_
  refine af_lm [true, true, true, true, false] rfl ?_
  refine W_X4_trialHeatIsTold_2 hN K  fk_N _ _ _ _ _ (fun y12 y13 y14 s11 => ?_)
  refine af_iconst K 70 dX4_trialHeatIsTold_69 rfl cs_iconst_1 ?_
  exact af_retz K rfl dX4_trialHeatIsTold_70
def L_X4_kinds_54  : Nat → Int32 → Int32 → Int32 → Int32 → fk_T → (Int32 → Int32 → Int32 → Int32 → fk_T → Option (Int32 × fk_T)) → Option (Int32 × fk_T)
  | 0, _, _, _, _, _, _ => none
  | fu + 1, x1, x2, x3, x4, σ, k => if 6 < x4 then (k x1 x2 x3 x4 σ) else ((F_X0_become 6 1 σ).bind (fun q4 => fk_S q4 8 48 (0 + x2) x4 (fun s5 => (F_X4_trialHeatIsTold x1 x2 s5).bind (fun q6 => if (fk_b q6.1) = 0 then (fk_B (x4 + 1) (fun y7 => L_X4_kinds_54 fu x1 x2 x3 y7 q6.2 k)) else (fk_B (x3 ||| (1 <<< (x4 &&& 31))) (fun y8 => fk_B (x4 + 1) (fun y9 => L_X4_kinds_54 fu x1 x2 y8 y9 q6.2 k)))))))
def F_X4_kinds (x1 : Int32) (x2 : Int32) (σ : fk_T) : Option (Int32 × fk_T) := (F_X4_within x1 0 3 σ).bind (fun q1 => if (fk_b q1.1) = 0 then ((F_X4_found 0 q1.2).bind (fun q17 => some (q17.1, q17.2))) else ((F_X2_isMissing x1 q1.2).bind (fun q2 => if (fk_b q2.1) = 0 then ((F_X0_has 1 x2 q2.2).bind (fun q3 => if (fk_b q3.1) = 0 then ((F_X4_found 0 q3.2).bind (fun q15 => some (q15.1, q15.2))) else (L_X4_kinds_54 fk_N x1 x2 0 0 q3.2 (fun y11 y12 y13 y14 s10 => some (y13, s10))))) else ((F_X4_found 5 q2.2).bind (fun q16 => some (q16.1, q16.2))))))
set_option maxRecDepth 100000 in
set_option maxHeartbeats 4000000 in
theorem W_X4_kinds_54 {cx : aw_C} (hN : aw_nL cx = 5) (K : aw_K cx cX4_kinds RX4 rX4_kinds)  : ∀ (fu : Nat) (x1 : Int32) (x2 : Int32) (x3 : Int32) (x4 : Int32) (σ : fk_T) (k : Int32 → Int32 → Int32 → Int32 → fk_T → Option (Int32 × fk_T)), (∀ (x1 : Int32) (x2 : Int32) (x3 : Int32) (x4 : Int32) (σ : fk_T), af cx ρi 107 [some (.ref 0), some (.int x1), some (.int x2), some (.int x3), some (.int x4)] [] (hp σ) (k x1 x2 x3 x4 σ)) → af cx ρi 54 [some (.ref 0), some (.int x1), some (.int x2), some (.int x3), some (.int x4)] [] (hp σ) (L_X4_kinds_54 fu x1 x2 x3 x4 σ k) := by
  intro fu
  induction fu with
  | zero => intros; exact af_none
  | succ fu ih54 =>
    intro x1 x2 x3 x4 σ k hk54
    rw [L_X4_kinds_54]
    refine af_iload K 56 dX4_kinds_54 rfl rfl ?_
    refine af_bipush K 58 dX4_kinds_56 rfl cs_bipush_6 ?_
    refine af_icmp_gt K 61 107 dX4_kinds_58 rfl rfl (fun _ => ?_) (fun _ => ?_)
    · refine af_lm [true, true, true, true, true] rfl ?_
      exact hk54 _ _ _ _ _
    · refine af_aload_n K 62 dX4_kinds_61 rfl rfl ?_
      refine af_get K 65 dX4_kinds_62 rfl fl_X4_16 (Nat.le_of_ble_eq_true rfl) rfl rfl ?_
      refine af_aload_n K 66 dX4_kinds_65 rfl rfl ?_
      refine af_get K 69 dX4_kinds_66 rfl fl_X4_10 (Nat.le_of_ble_eq_true rfl) rfl rfl ?_
      refine af_callV_v K (b := 6) (vs := [.ref 1]) mv_X0_become lk_328 ((hp_at _ (Nat.le_of_ble_eq_true rfl)).trans rfl) rfl 72 dX4_kinds_69 rfl rfl rfl rfl (A_X0_become _ _ 6 (Or.inr (Or.inl rfl)) 1 (Or.inl rfl) σ) rfl (fun q4 => ?_)
      refine af_aload_n K 73 dX4_kinds_72 rfl rfl ?_
      refine af_get K 76 dX4_kinds_73 rfl fl_X4_16 (Nat.le_of_ble_eq_true rfl) rfl rfl ?_
      refine af_get K 79 dX4_kinds_76 rfl fl_X4_87 (Nat.le_of_ble_eq_true rfl) rfl rfl ?_
      refine af_iconst K 80 dX4_kinds_79 rfl cs_iconst_0 ?_
      refine af_iload_n K 81 dX4_kinds_80 rfl rfl ?_
      refine af_iadd K 82 dX4_kinds_81 rfl ?_
      refine af_iload K 84 dX4_kinds_82 rfl rfl ?_
      refine af_iast K 85 dX4_kinds_84 rfl (Nat.le_of_ble_eq_true rfl) (fun _ _ => rfl) (fun s5 => ?_)
      refine af_aload_n K 86 dX4_kinds_85 rfl rfl ?_
      refine af_iload_n K 87 dX4_kinds_86 rfl rfl ?_
      refine af_iload_n K 88 dX4_kinds_87 rfl rfl ?_
      refine af_callV_z K (b := 0) (vs := [.int x1, .int x2]) mv_X4_trialHeatIsTold lk_409 ((hp_at _ (Nat.le_of_ble_eq_true rfl)).trans rfl) rfl 91 dX4_kinds_88 rfl rfl rfl rfl (A_X4_trialHeatIsTold _ _ x1 x2 s5) rfl (fun q6 => ?_)
      refine af_if_eq K 94 101 dX4_kinds_91 rfl rfl (fun _ => ?_) (fun _ => ?_)
      · refine af_iincB K 104 (fun yy => [some (.ref 0), some (.int x1), some (.int x2), some (.int x3), some (.int yy)]) dX4_kinds_101 rfl (by rw [hN]; exact Nat.le_of_ble_eq_true rfl) rfl cs_iconst_1 (fun _ => rfl) (fun y7 => ?_)
        refine af_goto K 54 dX4_kinds_104 rfl ?_
        refine af_lm [true, true, true, true, true] rfl ?_
        exact ih54 _ _ _ _ _ _ hk54
      · refine af_iload_n K 95 dX4_kinds_94 rfl rfl ?_
        refine af_iconst K 96 dX4_kinds_95 rfl cs_iconst_1 ?_
        refine af_iload K 98 dX4_kinds_96 rfl rfl ?_
        refine af_ishl K 99 dX4_kinds_98 rfl ?_
        refine af_ior K 100 dX4_kinds_99 rfl ?_
        refine af_Bi (fun y8 => ?_)
        refine af_istore_n K 101 [some (.ref 0), some (.int x1), some (.int x2), some (.int y8), some (.int x4)] dX4_kinds_100 rfl (by rw [hN]; exact Nat.le_of_ble_eq_true rfl) rfl ?_
        refine af_iincB K 104 (fun yy => [some (.ref 0), some (.int x1), some (.int x2), some (.int y8), some (.int yy)]) dX4_kinds_101 rfl (by rw [hN]; exact Nat.le_of_ble_eq_true rfl) rfl cs_iconst_1 (fun _ => rfl) (fun y9 => ?_)
        refine af_goto K 54 dX4_kinds_104 rfl ?_
        refine af_lm [true, true, true, true, true] rfl ?_
        exact ih54 _ _ _ _ _ _ hk54
set_option maxRecDepth 100000 in
set_option maxHeartbeats 4000000 in
theorem A_X4_kinds (X : aw_X) (l : Launch) (x1 : Int32) (x2 : Int32) (σ : fk_T) : af_G X l mX4_kinds [.ref 0, .int x1, .int x2] (hp σ) ρi (F_X4_kinds x1 x2 σ) := by
  refine af_mk (by decide) rfl (fun q _ => aw_oki q) [some (.ref 0), some (.int x1), some (.int x2), none, none] rfl ?_
  rintro cx rfl rfl hN K
  replace hN : aw_nL cx = 5 := hN
  replace K : aw_K cx cX4_kinds RX4 rX4_kinds := K
  unfold F_X4_kinds
  refine af_iload_n K 1 dX4_kinds_0 rfl rfl ?_
  refine af_iconst K 2 dX4_kinds_1 rfl cs_iconst_0 ?_
  refine af_iconst K 3 dX4_kinds_2 rfl cs_iconst_3 ?_
  refine af_callS_z K (vs := [.int x1, .int 0, .int 3]) ms_X4_within lk_169 6 dX4_kinds_3 rfl rfl rfl rfl (A_X4_within _ _ x1 0 3 σ) rfl (fun q1 => ?_)
  refine af_if_ne K 9 15 dX4_kinds_6 rfl rfl (fun _ => ?_) (fun _ => ?_)
  · refine af_aload_n K 16 dX4_kinds_15 rfl rfl ?_
    refine af_get K 19 dX4_kinds_16 rfl fl_X4_45 (Nat.le_of_ble_eq_true rfl) rfl rfl ?_
    refine af_iload_n K 20 dX4_kinds_19 rfl rfl ?_
    refine af_callV_z K (b := 21) (vs := [.int x1]) mv_X2_isMissing lk_393 ((hp_at _ (Nat.le_of_ble_eq_true rfl)).trans rfl) rfl 23 dX4_kinds_20 rfl rfl rfl rfl (A_X2_isMissing _ _ x1 q1.2) rfl (fun q2 => ?_)
    refine af_if_eq K 26 32 dX4_kinds_23 rfl rfl (fun _ => ?_) (fun _ => ?_)
    · refine af_aload_n K 33 dX4_kinds_32 rfl rfl ?_
      refine af_get K 36 dX4_kinds_33 rfl fl_X4_10 (Nat.le_of_ble_eq_true rfl) rfl rfl ?_
      refine af_iload_n K 37 dX4_kinds_36 rfl rfl ?_
      refine af_callV_z K (b := 1) (vs := [.int x2]) mv_X0_has lk_201 ((hp_at _ (Nat.le_of_ble_eq_true rfl)).trans rfl) rfl 40 dX4_kinds_37 rfl rfl rfl rfl (A_X0_has _ _ 1 (Or.inl rfl) x2 q2.2) rfl (fun q3 => ?_)
      refine af_if_ne K 43 49 dX4_kinds_40 rfl rfl (fun _ => ?_) (fun _ => ?_)
      · refine af_iconst K 50 dX4_kinds_49 rfl cs_iconst_0 ?_
        refine af_istore_n K 51 [some (.ref 0), some (.int x1), some (.int x2), some (.int 0), none] dX4_kinds_50 rfl (by rw [hN]; exact Nat.le_of_ble_eq_true rfl) rfl ?_
        refine af_iconst K 52 dX4_kinds_51 rfl cs_iconst_0 ?_
        refine af_istore K 54 [some (.ref 0), some (.int x1), some (.int x2), some (.int 0), some (.int 0)] dX4_kinds_52 rfl (by rw [hN]; exact Nat.le_of_ble_eq_true rfl) rfl ?_
        refine af_lm [true, true, true, true, true] rfl ?_
        refine W_X4_kinds_54 hN K  fk_N _ _ _ _ _ _ (fun y11 y12 y13 y14 s10 => ?_)
        refine af_iload_n K 108 dX4_kinds_107 rfl rfl ?_
        exact af_reti K dX4_kinds_108
      · refine af_aload_n K 44 dX4_kinds_43 rfl rfl ?_
        refine af_iconst K 45 dX4_kinds_44 rfl cs_iconst_0 ?_
        refine af_callV_i K (b := 0) (vs := [.int 0]) mv_X4_found lk_172 ((hp_at _ (Nat.le_of_ble_eq_true rfl)).trans rfl) rfl 48 dX4_kinds_45 rfl rfl rfl rfl (A_X4_found _ _ 0 q3.2) rfl (fun q15 => ?_)
        exact af_reti K dX4_kinds_48
    · refine af_aload_n K 27 dX4_kinds_26 rfl rfl ?_
      refine af_iconst K 28 dX4_kinds_27 rfl cs_iconst_5 ?_
      refine af_callV_i K (b := 0) (vs := [.int 5]) mv_X4_found lk_172 ((hp_at _ (Nat.le_of_ble_eq_true rfl)).trans rfl) rfl 31 dX4_kinds_28 rfl rfl rfl rfl (A_X4_found _ _ 5 q2.2) rfl (fun q16 => ?_)
      exact af_reti K dX4_kinds_31
  · refine af_aload_n K 10 dX4_kinds_9 rfl rfl ?_
    refine af_iconst K 11 dX4_kinds_10 rfl cs_iconst_0 ?_
    refine af_callV_i K (b := 0) (vs := [.int 0]) mv_X4_found lk_172 ((hp_at _ (Nat.le_of_ble_eq_true rfl)).trans rfl) rfl 14 dX4_kinds_11 rfl rfl rfl rfl (A_X4_found _ _ 0 q1.2) rfl (fun q17 => ?_)
    exact af_reti K dX4_kinds_14
def L_X4_market_38  : Nat → Int32 → Int32 → fk_T → (Int32 → Int32 → fk_T → Option (Int32 × fk_T)) → Option (Int32 × fk_T)
  | 0, _, _, _, _ => none
  | fu + 1, x1, x2, σ, k => if x1 ≤ x2 then (k x1 x2 σ) else ((F_X0_drawMarket 1 σ).bind (fun q2 => (F_X0_passDays 1 1 q2).bind (fun q3 => fk_B (x2 + 1) (fun y4 => L_X4_market_38 fu x1 y4 q3 k))))
def F_X4_market (x1 : Int32) (σ : fk_T) : Option (Int32 × fk_T) := (F_X4_within x1 1 20 σ).bind (fun q1 => if (fk_b q1.1) = 0 then ((F_X4_found 0 q1.2).bind (fun q9 => some (q9.1, q9.2))) else (if ((q1.2.1 1 4) + x1) ≤ 99999 then (L_X4_market_38 fk_N x1 0 q1.2 (fun y6 y7 s5 => some ((s5.1 1 1), s5))) else ((F_X4_found 4 q1.2).bind (fun q8 => some (q8.1, q8.2)))))
set_option maxRecDepth 100000 in
set_option maxHeartbeats 4000000 in
theorem W_X4_market_38 {cx : aw_C} (hN : aw_nL cx = 3) (K : aw_K cx cX4_market RX4 rX4_market)  : ∀ (fu : Nat) (x1 : Int32) (x2 : Int32) (σ : fk_T) (k : Int32 → Int32 → fk_T → Option (Int32 × fk_T)), (∀ (x1 : Int32) (x2 : Int32) (σ : fk_T), af cx ρi 64 [some (.ref 0), some (.int x1), some (.int x2)] [] (hp σ) (k x1 x2 σ)) → af cx ρi 38 [some (.ref 0), some (.int x1), some (.int x2)] [] (hp σ) (L_X4_market_38 fu x1 x2 σ k) := by
  intro fu
  induction fu with
  | zero => intros; exact af_none
  | succ fu ih38 =>
    intro x1 x2 σ k hk38
    rw [L_X4_market_38]
    refine af_iload_n K 39 dX4_market_38 rfl rfl ?_
    refine af_iload_n K 40 dX4_market_39 rfl rfl ?_
    refine af_icmp_ge K 43 64 dX4_market_40 rfl rfl (fun _ => ?_) (fun _ => ?_)
    · refine af_lm [true, true, true] rfl ?_
      exact hk38 _ _ _
    · refine af_aload_n K 44 dX4_market_43 rfl rfl ?_
      refine af_get K 47 dX4_market_44 rfl fl_X4_10 (Nat.le_of_ble_eq_true rfl) rfl rfl ?_
      refine af_callV_v K (b := 1) (vs := []) mv_X0_drawMarket lk_417 ((hp_at _ (Nat.le_of_ble_eq_true rfl)).trans rfl) rfl 50 dX4_market_47 rfl rfl rfl rfl (A_X0_drawMarket _ _ 1 (Or.inl rfl) σ) rfl (fun q2 => ?_)
      refine af_aload_n K 51 dX4_market_50 rfl rfl ?_
      refine af_get K 54 dX4_market_51 rfl fl_X4_10 (Nat.le_of_ble_eq_true rfl) rfl rfl ?_
      refine af_iconst K 55 dX4_market_54 rfl cs_iconst_1 ?_
      refine af_callV_v K (b := 1) (vs := [.int 1]) mv_X0_passDays lk_274 ((hp_at _ (Nat.le_of_ble_eq_true rfl)).trans rfl) rfl 58 dX4_market_55 rfl rfl rfl rfl (A_X0_passDays _ _ 1 (Or.inl rfl) 1 q2) rfl (fun q3 => ?_)
      refine af_iincB K 61 (fun yy => [some (.ref 0), some (.int x1), some (.int yy)]) dX4_market_58 rfl (by rw [hN]; exact Nat.le_of_ble_eq_true rfl) rfl cs_iconst_1 (fun _ => rfl) (fun y4 => ?_)
      refine af_goto K 38 dX4_market_61 rfl ?_
      refine af_lm [true, true, true] rfl ?_
      exact ih38 _ _ _ _ hk38
set_option maxRecDepth 100000 in
set_option maxHeartbeats 4000000 in
theorem A_X4_market (X : aw_X) (l : Launch) (x1 : Int32) (σ : fk_T) : af_G X l mX4_market [.ref 0, .int x1] (hp σ) ρi (F_X4_market x1 σ) := by
  refine af_mk (by decide) rfl (fun q _ => aw_oki q) [some (.ref 0), some (.int x1), none] rfl ?_
  rintro cx rfl rfl hN K
  replace hN : aw_nL cx = 3 := hN
  replace K : aw_K cx cX4_market RX4 rX4_market := K
  unfold F_X4_market
  refine af_iload_n K 1 dX4_market_0 rfl rfl ?_
  refine af_iconst K 2 dX4_market_1 rfl cs_iconst_1 ?_
  refine af_bipush K 4 dX4_market_2 rfl cs_bipush_20 ?_
  refine af_callS_z K (vs := [.int x1, .int 1, .int 20]) ms_X4_within lk_169 7 dX4_market_4 rfl rfl rfl rfl (A_X4_within _ _ x1 1 20 σ) rfl (fun q1 => ?_)
  refine af_if_ne K 10 16 dX4_market_7 rfl rfl (fun _ => ?_) (fun _ => ?_)
  · refine af_aload_n K 17 dX4_market_16 rfl rfl ?_
    refine af_get K 20 dX4_market_17 rfl fl_X4_10 (Nat.le_of_ble_eq_true rfl) rfl rfl ?_
    refine af_get K 23 dX4_market_20 rfl fl_X4_111 (Nat.le_of_ble_eq_true rfl) rfl rfl ?_
    refine af_iload_n K 24 dX4_market_23 rfl rfl ?_
    refine af_iadd K 25 dX4_market_24 rfl ?_
    refine af_ldc K 27 dX4_market_25 rfl lk_273 ?_
    refine af_icmp_le K 30 36 dX4_market_27 rfl rfl (fun _ => ?_) (fun _ => ?_)
    · refine af_iconst K 37 dX4_market_36 rfl cs_iconst_0 ?_
      refine af_istore_n K 38 [some (.ref 0), some (.int x1), some (.int 0)] dX4_market_37 rfl (by rw [hN]; exact Nat.le_of_ble_eq_true rfl) rfl ?_
      refine af_lm [true, true, true] rfl ?_
      refine W_X4_market_38 hN K  fk_N _ _ _ _ (fun y6 y7 s5 => ?_)
      refine af_aload_n K 65 dX4_market_64 rfl rfl ?_
      refine af_get K 68 dX4_market_65 rfl fl_X4_10 (Nat.le_of_ble_eq_true rfl) rfl rfl ?_
      refine af_get K 71 dX4_market_68 rfl fl_X4_119 (Nat.le_of_ble_eq_true rfl) rfl rfl ?_
      exact af_reti K dX4_market_71
    · refine af_aload_n K 31 dX4_market_30 rfl rfl ?_
      refine af_iconst K 32 dX4_market_31 rfl cs_iconst_4 ?_
      refine af_callV_i K (b := 0) (vs := [.int 4]) mv_X4_found lk_172 ((hp_at _ (Nat.le_of_ble_eq_true rfl)).trans rfl) rfl 35 dX4_market_32 rfl rfl rfl rfl (A_X4_found _ _ 4 q1.2) rfl (fun q8 => ?_)
      exact af_reti K dX4_market_35
  · refine af_aload_n K 11 dX4_market_10 rfl rfl ?_
    refine af_iconst K 12 dX4_market_11 rfl cs_iconst_0 ?_
    refine af_callV_i K (b := 0) (vs := [.int 0]) mv_X4_found lk_172 ((hp_at _ (Nat.le_of_ble_eq_true rfl)).trans rfl) rfl 15 dX4_market_12 rfl rfl rfl rfl (A_X4_found _ _ 0 q1.2) rfl (fun q9 => ?_)
    exact af_reti K dX4_market_15
def L_X4_commonDivisor_6  : Nat → Int32 → Int32 → Int32 → fk_T → (Int32 → Int32 → Int32 → fk_T → Option (Int32 × fk_T)) → Option (Int32 × fk_T)
  | 0, _, _, _, _, _ => none
  | fu + 1, x0, x1, x2, σ, k => if x2 ≤ 1 then (k x0 x1 x2 σ) else (fk_D x2 (if (x0 - x0 / x2 * x2) = 0 then (fk_D x2 (if (x1 - x1 / x2 * x2) = 0 then (some (x2, σ)) else (fk_B (x2 + (-1)) (fun y3 => L_X4_commonDivisor_6 fu x0 x1 y3 σ k)))) else (fk_B (x2 + (-1)) (fun y2 => L_X4_commonDivisor_6 fu x0 x1 y2 σ k))))
def F_X4_commonDivisor (x0 : Int32) (x1 : Int32) (σ : fk_T) : Option (Int32 × fk_T) := fk_B (fk_max x0 x1) (fun y1 => L_X4_commonDivisor_6 fk_N x0 x1 y1 σ (fun y5 y6 y7 s4 => some (1, s4)))
set_option maxRecDepth 100000 in
set_option maxHeartbeats 4000000 in
theorem W_X4_commonDivisor_6 {cx : aw_C} (hN : aw_nL cx = 3) (K : aw_K cx cX4_commonDivisor RX4 rX4_commonDivisor)  : ∀ (fu : Nat) (x0 : Int32) (x1 : Int32) (x2 : Int32) (σ : fk_T) (k : Int32 → Int32 → Int32 → fk_T → Option (Int32 × fk_T)), (∀ (x0 : Int32) (x1 : Int32) (x2 : Int32) (σ : fk_T), af cx ρi 31 [some (.int x0), some (.int x1), some (.int x2)] [] (hp σ) (k x0 x1 x2 σ)) → af cx ρi 6 [some (.int x0), some (.int x1), some (.int x2)] [] (hp σ) (L_X4_commonDivisor_6 fu x0 x1 x2 σ k) := by
  intro fu
  induction fu with
  | zero => intros; exact af_none
  | succ fu ih6 =>
    intro x0 x1 x2 σ k hk6
    rw [L_X4_commonDivisor_6]
    refine af_iload_n K 7 dX4_commonDivisor_6 rfl rfl ?_
    refine af_iconst K 8 dX4_commonDivisor_7 rfl cs_iconst_1 ?_
    refine af_icmp_le K 11 31 dX4_commonDivisor_8 rfl rfl (fun _ => ?_) (fun _ => ?_)
    · refine af_lm [true, true, true] rfl ?_
      exact hk6 _ _ _ _
    · refine af_iload_n K 12 dX4_commonDivisor_11 rfl rfl ?_
      refine af_iload_n K 13 dX4_commonDivisor_12 rfl rfl ?_
      refine af_iremD K 14 dX4_commonDivisor_13 rfl ?_
      refine af_if_ne K 17 25 dX4_commonDivisor_14 rfl rfl (fun _ => ?_) (fun _ => ?_)
      · refine af_iincB K 28 (fun yy => [some (.int x0), some (.int x1), some (.int yy)]) dX4_commonDivisor_25 rfl (by rw [hN]; exact Nat.le_of_ble_eq_true rfl) rfl cs_iconst_m1 (fun _ => rfl) (fun y2 => ?_)
        refine af_goto K 6 dX4_commonDivisor_28 rfl ?_
        refine af_lm [true, true, true] rfl ?_
        exact ih6 _ _ _ _ _ hk6
      · refine af_iload_n K 18 dX4_commonDivisor_17 rfl rfl ?_
        refine af_iload_n K 19 dX4_commonDivisor_18 rfl rfl ?_
        refine af_iremD K 20 dX4_commonDivisor_19 rfl ?_
        refine af_if_ne K 23 25 dX4_commonDivisor_20 rfl rfl (fun _ => ?_) (fun _ => ?_)
        · refine af_iincB K 28 (fun yy => [some (.int x0), some (.int x1), some (.int yy)]) dX4_commonDivisor_25 rfl (by rw [hN]; exact Nat.le_of_ble_eq_true rfl) rfl cs_iconst_m1 (fun _ => rfl) (fun y3 => ?_)
          refine af_goto K 6 dX4_commonDivisor_28 rfl ?_
          refine af_lm [true, true, true] rfl ?_
          exact ih6 _ _ _ _ _ hk6
        · refine af_iload_n K 24 dX4_commonDivisor_23 rfl rfl ?_
          exact af_reti K dX4_commonDivisor_24
set_option maxRecDepth 100000 in
set_option maxHeartbeats 4000000 in
theorem A_X4_commonDivisor (X : aw_X) (l : Launch) (x0 : Int32) (x1 : Int32) (σ : fk_T) : af_G X l mX4_commonDivisor [.int x0, .int x1] (hp σ) ρi (F_X4_commonDivisor x0 x1 σ) := by
  refine af_mk (by decide) rfl (fun q _ => aw_oki q) [some (.int x0), some (.int x1), none] rfl ?_
  rintro cx rfl rfl hN K
  replace hN : aw_nL cx = 3 := hN
  replace K : aw_K cx cX4_commonDivisor RX4 rX4_commonDivisor := K
  unfold F_X4_commonDivisor
  refine af_iload_n K 1 dX4_commonDivisor_0 rfl rfl ?_
  refine af_iload_n K 2 dX4_commonDivisor_1 rfl rfl ?_
  refine af_mmax K 5 dX4_commonDivisor_2 rfl lk_437 rfl rfl rfl ?_
  refine af_Bi (fun y1 => ?_)
  refine af_istore_n K 6 [some (.int x0), some (.int x1), some (.int y1)] dX4_commonDivisor_5 rfl (by rw [hN]; exact Nat.le_of_ble_eq_true rfl) rfl ?_
  refine af_lm [true, true, true] rfl ?_
  refine W_X4_commonDivisor_6 hN K  fk_N _ _ _ _ _ (fun y5 y6 y7 s4 => ?_)
  refine af_iconst K 32 dX4_commonDivisor_31 rfl cs_iconst_1 ?_
  exact af_reti K dX4_commonDivisor_32
def L_X4_power_5  : Nat → Int32 → Int32 → Int64 → Int32 → fk_T → (Int32 → Int32 → Int64 → Int32 → fk_T → Option (Int64 × fk_T)) → Option (Int64 × fk_T)
  | 0, _, _, _, _, _, _ => none
  | fu + 1, x0, x1, x2, x4, σ, k => if x1 ≤ x4 then (k x0 x1 x2 x4 σ) else (fk_B (x2 * (x0.toInt64)) (fun y1 => fk_B (x4 + 1) (fun y2 => L_X4_power_5 fu x0 x1 y1 y2 σ k)))
def F_X4_power (x0 : Int32) (x1 : Int32) (σ : fk_T) : Option (Int64 × fk_T) := L_X4_power_5 fk_N x0 x1 1 0 σ (fun y4 y5 y6 y7 s3 => some (y6, s3))
set_option maxRecDepth 100000 in
set_option maxHeartbeats 4000000 in
theorem W_X4_power_5 {cx : aw_C} (hN : aw_nL cx = 5) (K : aw_K cx cX4_power RX4 rX4_power)  : ∀ (fu : Nat) (x0 : Int32) (x1 : Int32) (x2 : Int64) (x4 : Int32) (σ : fk_T) (k : Int32 → Int32 → Int64 → Int32 → fk_T → Option (Int64 × fk_T)), (∀ (x0 : Int32) (x1 : Int32) (x2 : Int64) (x4 : Int32) (σ : fk_T), af cx ρl 22 [some (.int x0), some (.int x1), some (.long x2), none, some (.int x4)] [] (hp σ) (k x0 x1 x2 x4 σ)) → af cx ρl 5 [some (.int x0), some (.int x1), some (.long x2), none, some (.int x4)] [] (hp σ) (L_X4_power_5 fu x0 x1 x2 x4 σ k) := by
  intro fu
  induction fu with
  | zero => intros; exact af_none
  | succ fu ih5 =>
    intro x0 x1 x2 x4 σ k hk5
    rw [L_X4_power_5]
    refine af_iload K 7 dX4_power_5 rfl rfl ?_
    refine af_iload_n K 8 dX4_power_7 rfl rfl ?_
    refine af_icmp_ge K 11 22 dX4_power_8 rfl rfl (fun _ => ?_) (fun _ => ?_)
    · refine af_lm [true, true, true, false, true] rfl ?_
      exact hk5 _ _ _ _ _
    · refine af_lload_n K 12 dX4_power_11 rfl rfl ?_
      refine af_iload_n K 13 dX4_power_12 rfl rfl ?_
      refine af_i2l K 14 dX4_power_13 rfl ?_
      refine af_lmul K 15 dX4_power_14 rfl ?_
      refine af_Bl (fun y1 => ?_)
      refine af_lstore_n K 16 [some (.int x0), some (.int x1), some (.long y1), none, some (.int x4)] dX4_power_15 rfl (by rw [hN]; exact Nat.le_of_ble_eq_true rfl) rfl ?_
      refine af_iincB K 19 (fun yy => [some (.int x0), some (.int x1), some (.long y1), none, some (.int yy)]) dX4_power_16 rfl (by rw [hN]; exact Nat.le_of_ble_eq_true rfl) rfl cs_iconst_1 (fun _ => rfl) (fun y2 => ?_)
      refine af_goto K 5 dX4_power_19 rfl ?_
      refine af_lm [true, true, true, false, true] rfl ?_
      exact ih5 _ _ _ _ _ _ hk5
set_option maxRecDepth 100000 in
set_option maxHeartbeats 4000000 in
theorem A_X4_power (X : aw_X) (l : Launch) (x0 : Int32) (x1 : Int32) (σ : fk_T) : af_G X l mX4_power [.int x0, .int x1] (hp σ) ρl (F_X4_power x0 x1 σ) := by
  refine af_mk (by decide) rfl (fun q _ => aw_okl q) [some (.int x0), some (.int x1), none, none, none] rfl ?_
  rintro cx rfl rfl hN K
  replace hN : aw_nL cx = 5 := hN
  replace K : aw_K cx cX4_power RX4 rX4_power := K
  unfold F_X4_power
  refine af_lconst K 1 dX4_power_0 rfl cs_lconst_1 ?_
  refine af_lstore_n K 2 [some (.int x0), some (.int x1), some (.long 1), none, none] dX4_power_1 rfl (by rw [hN]; exact Nat.le_of_ble_eq_true rfl) rfl ?_
  refine af_iconst K 3 dX4_power_2 rfl cs_iconst_0 ?_
  refine af_istore K 5 [some (.int x0), some (.int x1), some (.long 1), none, some (.int 0)] dX4_power_3 rfl (by rw [hN]; exact Nat.le_of_ble_eq_true rfl) rfl ?_
  refine af_lm [true, true, true, false, true] rfl ?_
  refine W_X4_power_5 hN K  fk_N _ _ _ _ _ _ (fun y4 y5 y6 y7 s3 => ?_)
  refine af_lload_n K 23 dX4_power_22 rfl rfl ?_
  exact af_retl K dX4_power_23
def F_X4_odds (x1 : Int32) (x2 : Int32) (x3 : Int32) (x4 : Int32) (σ : fk_T) : Option (Int64 × fk_T) := (F_X0_hasTwo 1 x1 x2 σ).bind (fun q1 => if (fk_b q1.1) = 0 then ((F_X4_found 0 q1.2).bind (fun q2 => some ((q2.1.toInt64), q2.2))) else ((F_X4_within x3 0 14 q1.2).bind (fun q3 => if (fk_b q3.1) = 0 then ((F_X4_found 0 q3.2).bind (fun q4 => some ((q4.1.toInt64), q4.2))) else ((F_X4_within x4 0 1 q3.2).bind (fun q5 => if (fk_b q5.1) = 0 then ((F_X4_found 0 q5.2).bind (fun q10 => some ((q10.1.toInt64), q10.2))) else ((F_X0_claysThatStand 1 x1 x2 q5.2).bind (fun q6 => (F_X4_commonDivisor q6.1 20 q6.2).bind (fun q7 => if x4 = 0 then (fk_D q7.1 ((F_X4_power (q6.1 / q7.1) x3 q7.2).bind (fun q9 => some (q9.1, q9.2)))) else (fk_D q7.1 ((F_X4_power (20 / q7.1) x3 q7.2).bind (fun q8 => some (q8.1, q8.2))))))))))))
set_option maxRecDepth 100000 in
set_option maxHeartbeats 4000000 in
theorem A_X4_odds (X : aw_X) (l : Launch) (x1 : Int32) (x2 : Int32) (x3 : Int32) (x4 : Int32) (σ : fk_T) : af_G X l mX4_odds [.ref 0, .int x1, .int x2, .int x3, .int x4] (hp σ) ρl (F_X4_odds x1 x2 x3 x4 σ) := by
  refine af_mk (by decide) rfl (fun q _ => aw_okl q) [some (.ref 0), some (.int x1), some (.int x2), some (.int x3), some (.int x4), none, none, none] rfl ?_
  rintro cx rfl rfl hN K
  replace hN : aw_nL cx = 8 := hN
  replace K : aw_K cx cX4_odds RX4 rX4_odds := K
  unfold F_X4_odds
  refine af_aload_n K 1 dX4_odds_0 rfl rfl ?_
  refine af_get K 4 dX4_odds_1 rfl fl_X4_10 (Nat.le_of_ble_eq_true rfl) rfl rfl ?_
  refine af_iload_n K 5 dX4_odds_4 rfl rfl ?_
  refine af_iload_n K 6 dX4_odds_5 rfl rfl ?_
  refine af_callV_z K (b := 1) (vs := [.int x1, .int x2]) mv_X0_hasTwo lk_234 ((hp_at _ (Nat.le_of_ble_eq_true rfl)).trans rfl) rfl 9 dX4_odds_6 rfl rfl rfl rfl (A_X0_hasTwo _ _ 1 (Or.inl rfl) x1 x2 σ) rfl (fun q1 => ?_)
  refine af_if_eq K 12 32 dX4_odds_9 rfl rfl (fun _ => ?_) (fun _ => ?_)
  · refine af_aload_n K 33 dX4_odds_32 rfl rfl ?_
    refine af_iconst K 34 dX4_odds_33 rfl cs_iconst_0 ?_
    refine af_callV_i K (b := 0) (vs := [.int 0]) mv_X4_found lk_172 ((hp_at _ (Nat.le_of_ble_eq_true rfl)).trans rfl) rfl 37 dX4_odds_34 rfl rfl rfl rfl (A_X4_found _ _ 0 q1.2) rfl (fun q2 => ?_)
    refine af_i2l K 38 dX4_odds_37 rfl ?_
    exact af_retl K dX4_odds_38
  · refine af_iload_n K 13 dX4_odds_12 rfl rfl ?_
    refine af_iconst K 14 dX4_odds_13 rfl cs_iconst_0 ?_
    refine af_bipush K 16 dX4_odds_14 rfl cs_bipush_14 ?_
    refine af_callS_z K (vs := [.int x3, .int 0, .int 14]) ms_X4_within lk_169 19 dX4_odds_16 rfl rfl rfl rfl (A_X4_within _ _ x3 0 14 q1.2) rfl (fun q3 => ?_)
    refine af_if_eq K 22 32 dX4_odds_19 rfl rfl (fun _ => ?_) (fun _ => ?_)
    · refine af_aload_n K 33 dX4_odds_32 rfl rfl ?_
      refine af_iconst K 34 dX4_odds_33 rfl cs_iconst_0 ?_
      refine af_callV_i K (b := 0) (vs := [.int 0]) mv_X4_found lk_172 ((hp_at _ (Nat.le_of_ble_eq_true rfl)).trans rfl) rfl 37 dX4_odds_34 rfl rfl rfl rfl (A_X4_found _ _ 0 q3.2) rfl (fun q4 => ?_)
      refine af_i2l K 38 dX4_odds_37 rfl ?_
      exact af_retl K dX4_odds_38
    · refine af_iload K 24 dX4_odds_22 rfl rfl ?_
      refine af_iconst K 25 dX4_odds_24 rfl cs_iconst_0 ?_
      refine af_iconst K 26 dX4_odds_25 rfl cs_iconst_1 ?_
      refine af_callS_z K (vs := [.int x4, .int 0, .int 1]) ms_X4_within lk_169 29 dX4_odds_26 rfl rfl rfl rfl (A_X4_within _ _ x4 0 1 q3.2) rfl (fun q5 => ?_)
      refine af_if_ne K 32 39 dX4_odds_29 rfl rfl (fun _ => ?_) (fun _ => ?_)
      · refine af_aload_n K 40 dX4_odds_39 rfl rfl ?_
        refine af_get K 43 dX4_odds_40 rfl fl_X4_10 (Nat.le_of_ble_eq_true rfl) rfl rfl ?_
        refine af_iload_n K 44 dX4_odds_43 rfl rfl ?_
        refine af_iload_n K 45 dX4_odds_44 rfl rfl ?_
        refine af_callV_i K (b := 1) (vs := [.int x1, .int x2]) mv_X0_claysThatStand lk_430 ((hp_at _ (Nat.le_of_ble_eq_true rfl)).trans rfl) rfl 48 dX4_odds_45 rfl rfl rfl rfl (A_X0_claysThatStand _ _ 1 (Or.inl rfl) x1 x2 q5.2) rfl (fun q6 => ?_)
        refine af_istore K 50 [some (.ref 0), some (.int x1), some (.int x2), some (.int x3), some (.int x4), some (.int q6.1), none, none] dX4_odds_48 rfl (by rw [hN]; exact Nat.le_of_ble_eq_true rfl) rfl ?_
        refine af_iload K 52 dX4_odds_50 rfl rfl ?_
        refine af_bipush K 54 dX4_odds_52 rfl cs_bipush_20 ?_
        refine af_callS_i K (vs := [.int q6.1, .int 20]) ms_X4_commonDivisor lk_434 57 dX4_odds_54 rfl rfl rfl rfl (A_X4_commonDivisor _ _ q6.1 20 q6.2) rfl (fun q7 => ?_)
        refine af_istore K 59 [some (.ref 0), some (.int x1), some (.int x2), some (.int x3), some (.int x4), some (.int q6.1), some (.int q7.1), none] dX4_odds_57 rfl (by rw [hN]; exact Nat.le_of_ble_eq_true rfl) rfl ?_
        refine af_iload K 61 dX4_odds_59 rfl rfl ?_
        refine af_if_ne K 64 69 dX4_odds_61 rfl rfl (fun _ => ?_) (fun _ => ?_)
        · refine af_bipush K 71 dX4_odds_69 rfl cs_bipush_20 ?_
          refine af_istore K 73 [some (.ref 0), some (.int x1), some (.int x2), some (.int x3), some (.int x4), some (.int q6.1), some (.int q7.1), some (.int 20)] dX4_odds_71 rfl (by rw [hN]; exact Nat.le_of_ble_eq_true rfl) rfl ?_
          refine af_iload K 75 dX4_odds_73 rfl rfl ?_
          refine af_iload K 77 dX4_odds_75 rfl rfl ?_
          refine af_idivD K 78 dX4_odds_77 rfl ?_
          refine af_iload_n K 79 dX4_odds_78 rfl rfl ?_
          refine af_callS_l K (vs := [.int (20 / q7.1), .int x3]) ms_X4_power lk_438 82 dX4_odds_79 rfl rfl rfl rfl (A_X4_power _ _ (20 / q7.1) x3 q7.2) rfl (fun q8 => ?_)
          exact af_retl K dX4_odds_82
        · refine af_iload K 66 dX4_odds_64 rfl rfl ?_
          refine af_goto K 71 dX4_odds_66 rfl ?_
          refine af_istore K 73 [some (.ref 0), some (.int x1), some (.int x2), some (.int x3), some (.int x4), some (.int q6.1), some (.int q7.1), some (.int q6.1)] dX4_odds_71 rfl (by rw [hN]; exact Nat.le_of_ble_eq_true rfl) rfl ?_
          refine af_iload K 75 dX4_odds_73 rfl rfl ?_
          refine af_iload K 77 dX4_odds_75 rfl rfl ?_
          refine af_idivD K 78 dX4_odds_77 rfl ?_
          refine af_iload_n K 79 dX4_odds_78 rfl rfl ?_
          refine af_callS_l K (vs := [.int (q6.1 / q7.1), .int x3]) ms_X4_power lk_438 82 dX4_odds_79 rfl rfl rfl rfl (A_X4_power _ _ (q6.1 / q7.1) x3 q7.2) rfl (fun q9 => ?_)
          exact af_retl K dX4_odds_82
      · refine af_aload_n K 33 dX4_odds_32 rfl rfl ?_
        refine af_iconst K 34 dX4_odds_33 rfl cs_iconst_0 ?_
        refine af_callV_i K (b := 0) (vs := [.int 0]) mv_X4_found lk_172 ((hp_at _ (Nat.le_of_ble_eq_true rfl)).trans rfl) rfl 37 dX4_odds_34 rfl rfl rfl rfl (A_X4_found _ _ 0 q5.2) rfl (fun q10 => ?_)
        refine af_i2l K 38 dX4_odds_37 rfl ?_
        exact af_retl K dX4_odds_38
def F_X4_seed (x1 : Int32) (σ : fk_T) : Option (Int32 × fk_T) := fk_B (σ.1 1 5) (fun y1 => fk_B (fk_w σ 1 (upd (σ.1 1) 5 x1)) (fun s2 => some (y1, s2)))
set_option maxRecDepth 100000 in
set_option maxHeartbeats 4000000 in
theorem A_X4_seed (X : aw_X) (l : Launch) (x1 : Int32) (σ : fk_T) : af_G X l mX4_seed [.ref 0, .int x1] (hp σ) ρi (F_X4_seed x1 σ) := by
  refine af_mk (by decide) rfl (fun q _ => aw_oki q) [some (.ref 0), some (.int x1), none] rfl ?_
  rintro cx rfl rfl hN K
  replace hN : aw_nL cx = 3 := hN
  replace K : aw_K cx cX4_seed RX4 rX4_seed := K
  unfold F_X4_seed
  refine af_aload_n K 1 dX4_seed_0 rfl rfl ?_
  refine af_get K 4 dX4_seed_1 rfl fl_X4_10 (Nat.le_of_ble_eq_true rfl) rfl rfl ?_
  refine af_get K 7 dX4_seed_4 rfl fl_X4_178 (Nat.le_of_ble_eq_true rfl) rfl rfl ?_
  refine af_Bi (fun y1 => ?_)
  refine af_istore_n K 8 [some (.ref 0), some (.int x1), some (.int y1)] dX4_seed_7 rfl (by rw [hN]; exact Nat.le_of_ble_eq_true rfl) rfl ?_
  refine af_aload_n K 9 dX4_seed_8 rfl rfl ?_
  refine af_get K 12 dX4_seed_9 rfl fl_X4_10 (Nat.le_of_ble_eq_true rfl) rfl rfl ?_
  refine af_iload_n K 13 dX4_seed_12 rfl rfl ?_
  refine af_put K 16 dX4_seed_13 rfl fp_X4_178 (Nat.le_of_ble_eq_true rfl) rfl (Nat.le_of_ble_eq_true rfl) rfl (fun s2 => ?_)
  refine af_iload_n K 17 dX4_seed_16 rfl rfl ?_
  exact af_reti K dX4_seed_17
def L_X4_feed_39  : Nat → Int32 → Int32 → fk_T → (Int32 → Int32 → fk_T → Option (Int32 × fk_T)) → Option (Int32 × fk_T)
  | 0, _, _, _, _ => none
  | fu + 1, x1, x3, σ, k => if x3 < 0 then (k x1 x3 σ) else ((F_X3_append (((x1.toUInt32 >>> ((8 * x3).toUInt32 &&& Int32.toUInt32 31)).toInt32) &&& 255) σ).bind (fun q3 => fk_B (x3 + (-1)) (fun y4 => L_X4_feed_39 fu x1 y4 q3 k)))
def F_X4_feed (x1 : Int32) (x2 : Int32) (σ : fk_T) : Option (Int32 × fk_T) := (F_X4_within x2 1 4 σ).bind (fun q1 => if (fk_b q1.1) = 0 then ((F_X4_found 0 q1.2).bind (fun q9 => some (q9.1, q9.2))) else (if ((q1.2.1 16 1) + x2) ≤ 120 then (fk_B (x2 - 1) (fun y2 => L_X4_feed_39 fk_N x1 y2 q1.2 (fun y6 y7 s5 => some ((s5.1 16 1), s5)))) else ((F_X4_found 1 q1.2).bind (fun q8 => some (q8.1, q8.2)))))
set_option maxRecDepth 100000 in
set_option maxHeartbeats 4000000 in
theorem W_X4_feed_39 {cx : aw_C} (hN : aw_nL cx = 4) (K : aw_K cx cX4_feed RX4 rX4_feed)  : ∀ (fu : Nat) (x1 : Int32) (x3 : Int32) (σ : fk_T) (k : Int32 → Int32 → fk_T → Option (Int32 × fk_T)), (∀ (x1 : Int32) (x3 : Int32) (σ : fk_T), af cx ρi 66 [some (.ref 0), some (.int x1), none, some (.int x3)] [] (hp σ) (k x1 x3 σ)) → af cx ρi 39 [some (.ref 0), some (.int x1), none, some (.int x3)] [] (hp σ) (L_X4_feed_39 fu x1 x3 σ k) := by
  intro fu
  induction fu with
  | zero => intros; exact af_none
  | succ fu ih39 =>
    intro x1 x3 σ k hk39
    rw [L_X4_feed_39]
    refine af_iload_n K 40 dX4_feed_39 rfl rfl ?_
    refine af_if_lt K 43 66 dX4_feed_40 rfl rfl (fun _ => ?_) (fun _ => ?_)
    · refine af_lm [true, true, false, true] rfl ?_
      exact hk39 _ _ _
    · refine af_aload_n K 44 dX4_feed_43 rfl rfl ?_
      refine af_get K 47 dX4_feed_44 rfl fl_X4_29 (Nat.le_of_ble_eq_true rfl) rfl rfl ?_
      refine af_iload_n K 48 dX4_feed_47 rfl rfl ?_
      refine af_bipush K 50 dX4_feed_48 rfl cs_bipush_8 ?_
      refine af_iload_n K 51 dX4_feed_50 rfl rfl ?_
      refine af_imul K 52 dX4_feed_51 rfl ?_
      refine af_iushr K 53 dX4_feed_52 rfl ?_
      refine af_sipush K 56 dX4_feed_53 rfl cs_sipush_255 ?_
      refine af_iand K 57 dX4_feed_56 rfl ?_
      refine af_callV_v K (b := 16) (vs := [.int (((x1.toUInt32 >>> ((8 * x3).toUInt32 &&& Int32.toUInt32 31)).toInt32) &&& 255)]) mv_X3_append lk_449 ((hp_at _ (Nat.le_of_ble_eq_true rfl)).trans rfl) rfl 60 dX4_feed_57 rfl rfl rfl rfl (A_X3_append _ _ (((x1.toUInt32 >>> ((8 * x3).toUInt32 &&& Int32.toUInt32 31)).toInt32) &&& 255) σ) rfl (fun q3 => ?_)
      refine af_iincB K 63 (fun yy => [some (.ref 0), some (.int x1), none, some (.int yy)]) dX4_feed_60 rfl (by rw [hN]; exact Nat.le_of_ble_eq_true rfl) rfl cs_iconst_m1 (fun _ => rfl) (fun y4 => ?_)
      refine af_goto K 39 dX4_feed_63 rfl ?_
      refine af_lm [true, true, false, true] rfl ?_
      exact ih39 _ _ _ _ hk39
set_option maxRecDepth 100000 in
set_option maxHeartbeats 4000000 in
theorem A_X4_feed (X : aw_X) (l : Launch) (x1 : Int32) (x2 : Int32) (σ : fk_T) : af_G X l mX4_feed [.ref 0, .int x1, .int x2] (hp σ) ρi (F_X4_feed x1 x2 σ) := by
  refine af_mk (by decide) rfl (fun q _ => aw_oki q) [some (.ref 0), some (.int x1), some (.int x2), none] rfl ?_
  rintro cx rfl rfl hN K
  replace hN : aw_nL cx = 4 := hN
  replace K : aw_K cx cX4_feed RX4 rX4_feed := K
  unfold F_X4_feed
  refine af_iload_n K 1 dX4_feed_0 rfl rfl ?_
  refine af_iconst K 2 dX4_feed_1 rfl cs_iconst_1 ?_
  refine af_iconst K 3 dX4_feed_2 rfl cs_iconst_4 ?_
  refine af_callS_z K (vs := [.int x2, .int 1, .int 4]) ms_X4_within lk_169 6 dX4_feed_3 rfl rfl rfl rfl (A_X4_within _ _ x2 1 4 σ) rfl (fun q1 => ?_)
  refine af_if_ne K 9 15 dX4_feed_6 rfl rfl (fun _ => ?_) (fun _ => ?_)
  · refine af_aload_n K 16 dX4_feed_15 rfl rfl ?_
    refine af_get K 19 dX4_feed_16 rfl fl_X4_29 (Nat.le_of_ble_eq_true rfl) rfl rfl ?_
    refine af_get K 22 dX4_feed_19 rfl fl_X4_181 (Nat.le_of_ble_eq_true rfl) rfl rfl ?_
    refine af_iload_n K 23 dX4_feed_22 rfl rfl ?_
    refine af_iadd K 24 dX4_feed_23 rfl ?_
    refine af_bipush K 26 dX4_feed_24 rfl cs_bipush_120 ?_
    refine af_icmp_le K 29 35 dX4_feed_26 rfl rfl (fun _ => ?_) (fun _ => ?_)
    · refine af_iload_n K 36 dX4_feed_35 rfl rfl ?_
      refine af_iconst K 37 dX4_feed_36 rfl cs_iconst_1 ?_
      refine af_isub K 38 dX4_feed_37 rfl ?_
      refine af_Bi (fun y2 => ?_)
      refine af_istore_n K 39 [some (.ref 0), some (.int x1), some (.int x2), some (.int y2)] dX4_feed_38 rfl (by rw [hN]; exact Nat.le_of_ble_eq_true rfl) rfl ?_
      refine af_lm [true, true, false, true] rfl ?_
      refine W_X4_feed_39 hN K  fk_N _ _ _ _ (fun y6 y7 s5 => ?_)
      refine af_aload_n K 67 dX4_feed_66 rfl rfl ?_
      refine af_get K 70 dX4_feed_67 rfl fl_X4_29 (Nat.le_of_ble_eq_true rfl) rfl rfl ?_
      refine af_get K 73 dX4_feed_70 rfl fl_X4_181 (Nat.le_of_ble_eq_true rfl) rfl rfl ?_
      exact af_reti K dX4_feed_73
    · refine af_aload_n K 30 dX4_feed_29 rfl rfl ?_
      refine af_iconst K 31 dX4_feed_30 rfl cs_iconst_1 ?_
      refine af_callV_i K (b := 0) (vs := [.int 1]) mv_X4_found lk_172 ((hp_at _ (Nat.le_of_ble_eq_true rfl)).trans rfl) rfl 34 dX4_feed_31 rfl rfl rfl rfl (A_X4_found _ _ 1 q1.2) rfl (fun q8 => ?_)
      exact af_reti K dX4_feed_34
  · refine af_aload_n K 10 dX4_feed_9 rfl rfl ?_
    refine af_iconst K 11 dX4_feed_10 rfl cs_iconst_0 ?_
    refine af_callV_i K (b := 0) (vs := [.int 0]) mv_X4_found lk_172 ((hp_at _ (Nat.le_of_ble_eq_true rfl)).trans rfl) rfl 14 dX4_feed_11 rfl rfl rfl rfl (A_X4_found _ _ 0 q1.2) rfl (fun q9 => ?_)
    exact af_reti K dX4_feed_14
def F_X4_wipe  (σ : fk_T) : Option (Int32 × fk_T) := fk_B (σ.1 16 1) (fun y1 => fk_B (fk_w σ 16 (upd (σ.1 16) 1 0)) (fun s2 => some (y1, s2)))
set_option maxRecDepth 100000 in
set_option maxHeartbeats 4000000 in
theorem A_X4_wipe (X : aw_X) (l : Launch)  (σ : fk_T) : af_G X l mX4_wipe [.ref 0] (hp σ) ρi (F_X4_wipe  σ) := by
  refine af_mk (by decide) rfl (fun q _ => aw_oki q) [some (.ref 0), none] rfl ?_
  rintro cx rfl rfl hN K
  replace hN : aw_nL cx = 2 := hN
  replace K : aw_K cx cX4_wipe RX4 rX4_wipe := K
  unfold F_X4_wipe
  refine af_aload_n K 1 dX4_wipe_0 rfl rfl ?_
  refine af_get K 4 dX4_wipe_1 rfl fl_X4_29 (Nat.le_of_ble_eq_true rfl) rfl rfl ?_
  refine af_get K 7 dX4_wipe_4 rfl fl_X4_181 (Nat.le_of_ble_eq_true rfl) rfl rfl ?_
  refine af_Bi (fun y1 => ?_)
  refine af_istore_n K 8 [some (.ref 0), some (.int y1)] dX4_wipe_7 rfl (by rw [hN]; exact Nat.le_of_ble_eq_true rfl) rfl ?_
  refine af_aload_n K 9 dX4_wipe_8 rfl rfl ?_
  refine af_get K 12 dX4_wipe_9 rfl fl_X4_29 (Nat.le_of_ble_eq_true rfl) rfl rfl ?_
  refine af_iconst K 13 dX4_wipe_12 rfl cs_iconst_0 ?_
  refine af_put K 16 dX4_wipe_13 rfl fp_X4_181 (Nat.le_of_ble_eq_true rfl) rfl (Nat.le_of_ble_eq_true rfl) rfl (fun s2 => ?_)
  refine af_iload_n K 17 dX4_wipe_16 rfl rfl ?_
  exact af_reti K dX4_wipe_17
def F_X4_text  (σ : fk_T) : Option (Int32 × fk_T) := (F_X0_become 6 1 σ).bind (fun q1 => (F_X1_splitTape  q1).bind (fun q2 => (F_X1_readItems  q2).bind (fun q3 => fk_B (fk_w q3.2 16 (upd (q3.2.1 16) 1 0)) (fun s4 => (F_X1_hasFault  s4).bind (fun q5 => if (fk_b q5.1) = 0 then ((F_X0_become 1 6 q5.2).bind (fun q6 => some (q3.1, q6))) else (some (((-1) - (q5.2.1 18 5)), q5.2)))))))
set_option maxRecDepth 100000 in
set_option maxHeartbeats 4000000 in
theorem A_X4_text (X : aw_X) (l : Launch)  (σ : fk_T) : af_G X l mX4_text [.ref 0] (hp σ) ρi (F_X4_text  σ) := by
  refine af_mk (by decide) rfl (fun q _ => aw_oki q) [some (.ref 0), none] rfl ?_
  rintro cx rfl rfl hN K
  replace hN : aw_nL cx = 2 := hN
  replace K : aw_K cx cX4_text RX4 rX4_text := K
  unfold F_X4_text
  refine af_aload_n K 1 dX4_text_0 rfl rfl ?_
  refine af_get K 4 dX4_text_1 rfl fl_X4_16 (Nat.le_of_ble_eq_true rfl) rfl rfl ?_
  refine af_aload_n K 5 dX4_text_4 rfl rfl ?_
  refine af_get K 8 dX4_text_5 rfl fl_X4_10 (Nat.le_of_ble_eq_true rfl) rfl rfl ?_
  refine af_callV_v K (b := 6) (vs := [.ref 1]) mv_X0_become lk_328 ((hp_at _ (Nat.le_of_ble_eq_true rfl)).trans rfl) rfl 11 dX4_text_8 rfl rfl rfl rfl (A_X0_become _ _ 6 (Or.inr (Or.inl rfl)) 1 (Or.inl rfl) σ) rfl (fun q1 => ?_)
  refine af_aload_n K 12 dX4_text_11 rfl rfl ?_
  refine af_get K 15 dX4_text_12 rfl fl_X4_38 (Nat.le_of_ble_eq_true rfl) rfl rfl ?_
  refine af_callV_v K (b := 18) (vs := []) mv_X1_splitTape lk_461 ((hp_at _ (Nat.le_of_ble_eq_true rfl)).trans rfl) rfl 18 dX4_text_15 rfl rfl rfl rfl (A_X1_splitTape _ _ q1) rfl (fun q2 => ?_)
  refine af_aload_n K 19 dX4_text_18 rfl rfl ?_
  refine af_get K 22 dX4_text_19 rfl fl_X4_38 (Nat.le_of_ble_eq_true rfl) rfl rfl ?_
  refine af_callV_i K (b := 18) (vs := []) mv_X1_readItems lk_558 ((hp_at _ (Nat.le_of_ble_eq_true rfl)).trans rfl) rfl 25 dX4_text_22 rfl rfl rfl rfl (A_X1_readItems _ _ q2) rfl (fun q3 => ?_)
  refine af_istore_n K 26 [some (.ref 0), some (.int q3.1)] dX4_text_25 rfl (by rw [hN]; exact Nat.le_of_ble_eq_true rfl) rfl ?_
  refine af_aload_n K 27 dX4_text_26 rfl rfl ?_
  refine af_get K 30 dX4_text_27 rfl fl_X4_29 (Nat.le_of_ble_eq_true rfl) rfl rfl ?_
  refine af_iconst K 31 dX4_text_30 rfl cs_iconst_0 ?_
  refine af_put K 34 dX4_text_31 rfl fp_X4_181 (Nat.le_of_ble_eq_true rfl) rfl (Nat.le_of_ble_eq_true rfl) rfl (fun s4 => ?_)
  refine af_aload_n K 35 dX4_text_34 rfl rfl ?_
  refine af_get K 38 dX4_text_35 rfl fl_X4_38 (Nat.le_of_ble_eq_true rfl) rfl rfl ?_
  refine af_callV_z K (b := 18) (vs := []) mv_X1_hasFault lk_610 ((hp_at _ (Nat.le_of_ble_eq_true rfl)).trans rfl) rfl 41 dX4_text_38 rfl rfl rfl rfl (A_X1_hasFault _ _ s4) rfl (fun q5 => ?_)
  refine af_if_eq K 44 54 dX4_text_41 rfl rfl (fun _ => ?_) (fun _ => ?_)
  · refine af_aload_n K 55 dX4_text_54 rfl rfl ?_
    refine af_get K 58 dX4_text_55 rfl fl_X4_10 (Nat.le_of_ble_eq_true rfl) rfl rfl ?_
    refine af_aload_n K 59 dX4_text_58 rfl rfl ?_
    refine af_get K 62 dX4_text_59 rfl fl_X4_16 (Nat.le_of_ble_eq_true rfl) rfl rfl ?_
    refine af_callV_v K (b := 1) (vs := [.ref 6]) mv_X0_become lk_328 ((hp_at _ (Nat.le_of_ble_eq_true rfl)).trans rfl) rfl 65 dX4_text_62 rfl rfl rfl rfl (A_X0_become _ _ 1 (Or.inl rfl) 6 (Or.inr (Or.inl rfl)) q5.2) rfl (fun q6 => ?_)
    refine af_iload_n K 66 dX4_text_65 rfl rfl ?_
    exact af_reti K dX4_text_66
  · refine af_iconst K 45 dX4_text_44 rfl cs_iconst_m1 ?_
    refine af_aload_n K 46 dX4_text_45 rfl rfl ?_
    refine af_get K 49 dX4_text_46 rfl fl_X4_38 (Nat.le_of_ble_eq_true rfl) rfl rfl ?_
    refine af_get K 52 dX4_text_49 rfl fl_X4_196 (Nat.le_of_ble_eq_true rfl) rfl rfl ?_
    refine af_isub K 53 dX4_text_52 rfl ?_
    exact af_reti K dX4_text_53
def F_X4_hold (x1 : Int32) (x2 : Int32) (σ : fk_T) : Option (Int32 × fk_T) := (F_X4_within x1 0 9 σ).bind (fun q1 => if (fk_b q1.1) = 0 then ((F_X4_found 0 q1.2).bind (fun q2 => some (q2.1, q2.2))) else (if x2 = (-1) then (fk_S q1.2 5 10 x1 x2 (fun s3 => some (1, s3))) else ((F_X0_has 1 x2 q1.2).bind (fun q4 => if (fk_b q4.1) = 0 then ((F_X4_found 0 q4.2).bind (fun q6 => some (q6.1, q6.2))) else (fk_S q4.2 5 10 x1 x2 (fun s5 => some (1, s5)))))))
set_option maxRecDepth 100000 in
set_option maxHeartbeats 4000000 in
theorem A_X4_hold (X : aw_X) (l : Launch) (x1 : Int32) (x2 : Int32) (σ : fk_T) : af_G X l mX4_hold [.ref 0, .int x1, .int x2] (hp σ) ρi (F_X4_hold x1 x2 σ) := by
  refine af_mk (by decide) rfl (fun q _ => aw_oki q) [some (.ref 0), some (.int x1), some (.int x2)] rfl ?_
  rintro cx rfl rfl hN K
  replace hN : aw_nL cx = 3 := hN
  replace K : aw_K cx cX4_hold RX4 rX4_hold := K
  unfold F_X4_hold
  refine af_iload_n K 1 dX4_hold_0 rfl rfl ?_
  refine af_iconst K 2 dX4_hold_1 rfl cs_iconst_0 ?_
  refine af_bipush K 4 dX4_hold_2 rfl cs_bipush_9 ?_
  refine af_callS_z K (vs := [.int x1, .int 0, .int 9]) ms_X4_within lk_169 7 dX4_hold_4 rfl rfl rfl rfl (A_X4_within _ _ x1 0 9 σ) rfl (fun q1 => ?_)
  refine af_if_eq K 10 26 dX4_hold_7 rfl rfl (fun _ => ?_) (fun _ => ?_)
  · refine af_aload_n K 27 dX4_hold_26 rfl rfl ?_
    refine af_iconst K 28 dX4_hold_27 rfl cs_iconst_0 ?_
    refine af_callV_i K (b := 0) (vs := [.int 0]) mv_X4_found lk_172 ((hp_at _ (Nat.le_of_ble_eq_true rfl)).trans rfl) rfl 31 dX4_hold_28 rfl rfl rfl rfl (A_X4_found _ _ 0 q1.2) rfl (fun q2 => ?_)
    exact af_reti K dX4_hold_31
  · refine af_iload_n K 11 dX4_hold_10 rfl rfl ?_
    refine af_iconst K 12 dX4_hold_11 rfl cs_iconst_m1 ?_
    refine af_icmp_eq K 15 32 dX4_hold_12 rfl rfl (fun _ => ?_) (fun _ => ?_)
    · refine af_aload_n K 33 dX4_hold_32 rfl rfl ?_
      refine af_get K 36 dX4_hold_33 rfl fl_X4_10 (Nat.le_of_ble_eq_true rfl) rfl rfl ?_
      refine af_get K 39 dX4_hold_36 rfl fl_X4_199 (Nat.le_of_ble_eq_true rfl) rfl rfl ?_
      refine af_iload_n K 40 dX4_hold_39 rfl rfl ?_
      refine af_iload_n K 41 dX4_hold_40 rfl rfl ?_
      refine af_iast K 42 dX4_hold_41 rfl (Nat.le_of_ble_eq_true rfl) (fun _ _ => rfl) (fun s3 => ?_)
      refine af_iconst K 43 dX4_hold_42 rfl cs_iconst_1 ?_
      exact af_reti K dX4_hold_43
    · refine af_aload_n K 16 dX4_hold_15 rfl rfl ?_
      refine af_get K 19 dX4_hold_16 rfl fl_X4_10 (Nat.le_of_ble_eq_true rfl) rfl rfl ?_
      refine af_iload_n K 20 dX4_hold_19 rfl rfl ?_
      refine af_callV_z K (b := 1) (vs := [.int x2]) mv_X0_has lk_201 ((hp_at _ (Nat.le_of_ble_eq_true rfl)).trans rfl) rfl 23 dX4_hold_20 rfl rfl rfl rfl (A_X0_has _ _ 1 (Or.inl rfl) x2 q1.2) rfl (fun q4 => ?_)
      refine af_if_ne K 26 32 dX4_hold_23 rfl rfl (fun _ => ?_) (fun _ => ?_)
      · refine af_aload_n K 33 dX4_hold_32 rfl rfl ?_
        refine af_get K 36 dX4_hold_33 rfl fl_X4_10 (Nat.le_of_ble_eq_true rfl) rfl rfl ?_
        refine af_get K 39 dX4_hold_36 rfl fl_X4_199 (Nat.le_of_ble_eq_true rfl) rfl rfl ?_
        refine af_iload_n K 40 dX4_hold_39 rfl rfl ?_
        refine af_iload_n K 41 dX4_hold_40 rfl rfl ?_
        refine af_iast K 42 dX4_hold_41 rfl (Nat.le_of_ble_eq_true rfl) (fun _ _ => rfl) (fun s5 => ?_)
        refine af_iconst K 43 dX4_hold_42 rfl cs_iconst_1 ?_
        exact af_reti K dX4_hold_43
      · refine af_aload_n K 27 dX4_hold_26 rfl rfl ?_
        refine af_iconst K 28 dX4_hold_27 rfl cs_iconst_0 ?_
        refine af_callV_i K (b := 0) (vs := [.int 0]) mv_X4_found lk_172 ((hp_at _ (Nat.le_of_ble_eq_true rfl)).trans rfl) rfl 31 dX4_hold_28 rfl rfl rfl rfl (A_X4_found _ _ 0 q4.2) rfl (fun q6 => ?_)
        exact af_reti K dX4_hold_31
def L_X4_isOrIsUnder_4  : Nat → Int32 → Int32 → Int32 → fk_T → (Int32 → Int32 → Int32 → fk_T → Option (Bool × fk_T)) → Option (Bool × fk_T)
  | 0, _, _, _, _, _ => none
  | fu + 1, x1, x2, x3, σ, k => if 6 < x3 then (k x1 x2 x3 σ) else (if x2 < 0 then (k x1 x2 x3 σ) else (if x2 = x1 then (some (true, σ)) else (fk_A fk_t2 7 x2 (fun y1 => fk_B (x3 + 1) (fun y2 => L_X4_isOrIsUnder_4 fu x1 y1 y2 σ k)))))
def F_X4_isOrIsUnder (x0 : Int32) (x1 : Int32) (σ : fk_T) : Option (Bool × fk_T) := L_X4_isOrIsUnder_4 fk_N x1 x0 0 σ (fun y4 y5 y6 s3 => some (false, s3))
set_option maxRecDepth 100000 in
set_option maxHeartbeats 4000000 in
theorem W_X4_isOrIsUnder_4 {cx : aw_C} (hN : aw_nL cx = 4) (K : aw_K cx cX4_isOrIsUnder RX4 rX4_isOrIsUnder)  : ∀ (fu : Nat) (x1 : Int32) (x2 : Int32) (x3 : Int32) (σ : fk_T) (k : Int32 → Int32 → Int32 → fk_T → Option (Bool × fk_T)), (∀ (x1 : Int32) (x2 : Int32) (x3 : Int32) (σ : fk_T), af cx ρz 33 [none, some (.int x1), some (.int x2), some (.int x3)] [] (hp σ) (k x1 x2 x3 σ)) → af cx ρz 4 [none, some (.int x1), some (.int x2), some (.int x3)] [] (hp σ) (L_X4_isOrIsUnder_4 fu x1 x2 x3 σ k) := by
  intro fu
  induction fu with
  | zero => intros; exact af_none
  | succ fu ih4 =>
    intro x1 x2 x3 σ k hk4
    rw [L_X4_isOrIsUnder_4]
    refine af_iload_n K 5 dX4_isOrIsUnder_4 rfl rfl ?_
    refine af_bipush K 7 dX4_isOrIsUnder_5 rfl cs_bipush_6 ?_
    refine af_icmp_gt K 10 33 dX4_isOrIsUnder_7 rfl rfl (fun _ => ?_) (fun _ => ?_)
    · refine af_lm [false, true, true, true] rfl ?_
      exact hk4 _ _ _ _
    · refine af_iload_n K 11 dX4_isOrIsUnder_10 rfl rfl ?_
      refine af_if_lt K 14 33 dX4_isOrIsUnder_11 rfl rfl (fun _ => ?_) (fun _ => ?_)
      · refine af_lm [false, true, true, true] rfl ?_
        exact hk4 _ _ _ _
      · refine af_iload_n K 15 dX4_isOrIsUnder_14 rfl rfl ?_
        refine af_iload_n K 16 dX4_isOrIsUnder_15 rfl rfl ?_
        refine af_icmp_ne K 19 21 dX4_isOrIsUnder_16 rfl rfl (fun _ => ?_) (fun _ => ?_)
        · refine af_gets K 2 rfl 24 dX4_isOrIsUnder_21 rfl (Nat.le_of_ble_eq_true rfl) lk_623 ?_
          refine af_iload_n K 25 dX4_isOrIsUnder_24 rfl rfl ?_
          refine af_iald_s K 2 rfl 26 dX4_isOrIsUnder_25 rfl (Nat.le_of_ble_eq_true rfl) (fun y1 => ?_)
          refine af_istore_n K 27 [none, some (.int x1), some (.int y1), some (.int x3)] dX4_isOrIsUnder_26 rfl (by rw [hN]; exact Nat.le_of_ble_eq_true rfl) rfl ?_
          refine af_iincB K 30 (fun yy => [none, some (.int x1), some (.int y1), some (.int yy)]) dX4_isOrIsUnder_27 rfl (by rw [hN]; exact Nat.le_of_ble_eq_true rfl) rfl cs_iconst_1 (fun _ => rfl) (fun y2 => ?_)
          refine af_goto K 4 dX4_isOrIsUnder_30 rfl ?_
          refine af_lm [false, true, true, true] rfl ?_
          exact ih4 _ _ _ _ _ hk4
        · refine af_iconst K 20 dX4_isOrIsUnder_19 rfl cs_iconst_1 ?_
          exact af_retz K rfl dX4_isOrIsUnder_20
set_option maxRecDepth 100000 in
set_option maxHeartbeats 4000000 in
theorem A_X4_isOrIsUnder (X : aw_X) (l : Launch) (x0 : Int32) (x1 : Int32) (σ : fk_T) : af_G X l mX4_isOrIsUnder [.int x0, .int x1] (hp σ) ρz (F_X4_isOrIsUnder x0 x1 σ) := by
  refine af_mk (by decide) rfl (fun q _ => aw_okz q) [some (.int x0), some (.int x1), none, none] rfl ?_
  rintro cx rfl rfl hN K
  replace hN : aw_nL cx = 4 := hN
  replace K : aw_K cx cX4_isOrIsUnder RX4 rX4_isOrIsUnder := K
  unfold F_X4_isOrIsUnder
  refine af_iload_n K 1 dX4_isOrIsUnder_0 rfl rfl ?_
  refine af_istore_n K 2 [some (.int x0), some (.int x1), some (.int x0), none] dX4_isOrIsUnder_1 rfl (by rw [hN]; exact Nat.le_of_ble_eq_true rfl) rfl ?_
  refine af_iconst K 3 dX4_isOrIsUnder_2 rfl cs_iconst_0 ?_
  refine af_istore_n K 4 [some (.int x0), some (.int x1), some (.int x0), some (.int 0)] dX4_isOrIsUnder_3 rfl (by rw [hN]; exact Nat.le_of_ble_eq_true rfl) rfl ?_
  refine af_lm [false, true, true, true] rfl ?_
  refine W_X4_isOrIsUnder_4 hN K  fk_N _ _ _ _ _ (fun y4 y5 y6 s3 => ?_)
  refine af_iconst K 34 dX4_isOrIsUnder_33 rfl cs_iconst_0 ?_
  exact af_retz K rfl dX4_isOrIsUnder_34
def F_X4_as (x1 : Int32) (x2 : Int32) (σ : fk_T) : Option (Int32 × fk_T) := (F_X4_within x1 0 9 σ).bind (fun q1 => if (fk_b q1.1) = 0 then ((F_X4_found 0 q1.2).bind (fun q2 => some (q2.1, q2.2))) else ((F_X4_within x2 0 6 q1.2).bind (fun q3 => if (fk_b q3.1) = 0 then ((F_X4_found 0 q3.2).bind (fun q10 => some (q10.1, q10.2))) else (fk_A (q3.2.1 5) 10 x1 (fun y4 => (F_X0_has 1 y4 q3.2).bind (fun q5 => if (fk_b q5.1) = 0 then ((F_X4_found 5 q5.2).bind (fun q9 => some (q9.1, q9.2))) else (fk_A (q5.2.1 3) 48 (0 + y4) (fun y6 => (F_X4_isOrIsUnder y6 x2 q5.2).bind (fun q7 => if (fk_b q7.1) = 0 then ((F_X4_found 2 q7.2).bind (fun q8 => some (q8.1, q8.2))) else (some (y4, q7.2)))))))))))
set_option maxRecDepth 100000 in
set_option maxHeartbeats 4000000 in
theorem A_X4_as (X : aw_X) (l : Launch) (x1 : Int32) (x2 : Int32) (σ : fk_T) : af_G X l mX4_as [.ref 0, .int x1, .int x2] (hp σ) ρi (F_X4_as x1 x2 σ) := by
  refine af_mk (by decide) rfl (fun q _ => aw_oki q) [some (.ref 0), some (.int x1), some (.int x2), none] rfl ?_
  rintro cx rfl rfl hN K
  replace hN : aw_nL cx = 4 := hN
  replace K : aw_K cx cX4_as RX4 rX4_as := K
  unfold F_X4_as
  refine af_iload_n K 1 dX4_as_0 rfl rfl ?_
  refine af_iconst K 2 dX4_as_1 rfl cs_iconst_0 ?_
  refine af_bipush K 4 dX4_as_2 rfl cs_bipush_9 ?_
  refine af_callS_z K (vs := [.int x1, .int 0, .int 9]) ms_X4_within lk_169 7 dX4_as_4 rfl rfl rfl rfl (A_X4_within _ _ x1 0 9 σ) rfl (fun q1 => ?_)
  refine af_if_eq K 10 20 dX4_as_7 rfl rfl (fun _ => ?_) (fun _ => ?_)
  · refine af_aload_n K 21 dX4_as_20 rfl rfl ?_
    refine af_iconst K 22 dX4_as_21 rfl cs_iconst_0 ?_
    refine af_callV_i K (b := 0) (vs := [.int 0]) mv_X4_found lk_172 ((hp_at _ (Nat.le_of_ble_eq_true rfl)).trans rfl) rfl 25 dX4_as_22 rfl rfl rfl rfl (A_X4_found _ _ 0 q1.2) rfl (fun q2 => ?_)
    exact af_reti K dX4_as_25
  · refine af_iload_n K 11 dX4_as_10 rfl rfl ?_
    refine af_iconst K 12 dX4_as_11 rfl cs_iconst_0 ?_
    refine af_bipush K 14 dX4_as_12 rfl cs_bipush_6 ?_
    refine af_callS_z K (vs := [.int x2, .int 0, .int 6]) ms_X4_within lk_169 17 dX4_as_14 rfl rfl rfl rfl (A_X4_within _ _ x2 0 6 q1.2) rfl (fun q3 => ?_)
    refine af_if_ne K 20 26 dX4_as_17 rfl rfl (fun _ => ?_) (fun _ => ?_)
    · refine af_aload_n K 27 dX4_as_26 rfl rfl ?_
      refine af_get K 30 dX4_as_27 rfl fl_X4_10 (Nat.le_of_ble_eq_true rfl) rfl rfl ?_
      refine af_get K 33 dX4_as_30 rfl fl_X4_199 (Nat.le_of_ble_eq_true rfl) rfl rfl ?_
      refine af_iload_n K 34 dX4_as_33 rfl rfl ?_
      refine af_iald K 35 dX4_as_34 rfl (Nat.le_of_ble_eq_true rfl) rfl (fun y4 => ?_)
      refine af_istore_n K 36 [some (.ref 0), some (.int x1), some (.int x2), some (.int y4)] dX4_as_35 rfl (by rw [hN]; exact Nat.le_of_ble_eq_true rfl) rfl ?_
      refine af_aload_n K 37 dX4_as_36 rfl rfl ?_
      refine af_get K 40 dX4_as_37 rfl fl_X4_10 (Nat.le_of_ble_eq_true rfl) rfl rfl ?_
      refine af_iload_n K 41 dX4_as_40 rfl rfl ?_
      refine af_callV_z K (b := 1) (vs := [.int y4]) mv_X0_has lk_201 ((hp_at _ (Nat.le_of_ble_eq_true rfl)).trans rfl) rfl 44 dX4_as_41 rfl rfl rfl rfl (A_X0_has _ _ 1 (Or.inl rfl) y4 q3.2) rfl (fun q5 => ?_)
      refine af_if_ne K 47 53 dX4_as_44 rfl rfl (fun _ => ?_) (fun _ => ?_)
      · refine af_aload_n K 54 dX4_as_53 rfl rfl ?_
        refine af_get K 57 dX4_as_54 rfl fl_X4_10 (Nat.le_of_ble_eq_true rfl) rfl rfl ?_
        refine af_get K 60 dX4_as_57 rfl fl_X4_87 (Nat.le_of_ble_eq_true rfl) rfl rfl ?_
        refine af_iconst K 61 dX4_as_60 rfl cs_iconst_0 ?_
        refine af_iload_n K 62 dX4_as_61 rfl rfl ?_
        refine af_iadd K 63 dX4_as_62 rfl ?_
        refine af_iald K 64 dX4_as_63 rfl (Nat.le_of_ble_eq_true rfl) rfl (fun y6 => ?_)
        refine af_iload_n K 65 dX4_as_64 rfl rfl ?_
        refine af_callS_z K (vs := [.int y6, .int x2]) ms_X4_isOrIsUnder lk_620 68 dX4_as_65 rfl rfl rfl rfl (A_X4_isOrIsUnder _ _ y6 x2 q5.2) rfl (fun q7 => ?_)
        refine af_if_ne K 71 77 dX4_as_68 rfl rfl (fun _ => ?_) (fun _ => ?_)
        · refine af_iload_n K 78 dX4_as_77 rfl rfl ?_
          exact af_reti K dX4_as_78
        · refine af_aload_n K 72 dX4_as_71 rfl rfl ?_
          refine af_iconst K 73 dX4_as_72 rfl cs_iconst_2 ?_
          refine af_callV_i K (b := 0) (vs := [.int 2]) mv_X4_found lk_172 ((hp_at _ (Nat.le_of_ble_eq_true rfl)).trans rfl) rfl 76 dX4_as_73 rfl rfl rfl rfl (A_X4_found _ _ 2 q7.2) rfl (fun q8 => ?_)
          exact af_reti K dX4_as_76
      · refine af_aload_n K 48 dX4_as_47 rfl rfl ?_
        refine af_iconst K 49 dX4_as_48 rfl cs_iconst_5 ?_
        refine af_callV_i K (b := 0) (vs := [.int 5]) mv_X4_found lk_172 ((hp_at _ (Nat.le_of_ble_eq_true rfl)).trans rfl) rfl 52 dX4_as_49 rfl rfl rfl rfl (A_X4_found _ _ 5 q5.2) rfl (fun q9 => ?_)
        exact af_reti K dX4_as_52
    · refine af_aload_n K 21 dX4_as_20 rfl rfl ?_
      refine af_iconst K 22 dX4_as_21 rfl cs_iconst_0 ?_
      refine af_callV_i K (b := 0) (vs := [.int 0]) mv_X4_found lk_172 ((hp_at _ (Nat.le_of_ble_eq_true rfl)).trans rfl) rfl 25 dX4_as_22 rfl rfl rfl rfl (A_X4_found _ _ 0 q3.2) rfl (fun q10 => ?_)
      exact af_reti K dX4_as_25
def F_X4_sheet (x1 : Int32) (x2 : Int32) (x3 : Int32) (σ : fk_T) : Option (Int32 × fk_T) := if x2 = 0 then ((F_X4_within x1 0 3 σ).bind (fun q1 => if (fk_b q1.1) = 0 then ((F_X4_found 0 q1.2).bind (fun q2 => some (q2.1, q2.2))) else (if (1 : Int32) = 0 then ((F_X4_found 0 q1.2).bind (fun q7 => some (q7.1, q7.2))) else (if 0 ≤ x3 then (if x3 ≤ 40 then (if x2 = 0 then ((F_X2_lay x1 x2 0 q1.2).bind (fun q4 => some (0, q4))) else ((F_X2_lay x1 x2 x3 q1.2).bind (fun q3 => some (x3, q3)))) else ((F_X4_found 0 q1.2).bind (fun q5 => some (q5.1, q5.2)))) else ((F_X4_found 6 q1.2).bind (fun q6 => some (q6.1, q6.2))))))) else (if x2 = 8 then ((F_X4_within x1 0 3 σ).bind (fun q8 => if (fk_b q8.1) = 0 then ((F_X4_found 0 q8.2).bind (fun q9 => some (q9.1, q9.2))) else (if (1 : Int32) = 0 then ((F_X4_found 0 q8.2).bind (fun q14 => some (q14.1, q14.2))) else (if 0 ≤ x3 then (if x3 ≤ 40 then (if x2 = 0 then ((F_X2_lay x1 x2 0 q8.2).bind (fun q11 => some (0, q11))) else ((F_X2_lay x1 x2 x3 q8.2).bind (fun q10 => some (x3, q10)))) else ((F_X4_found 0 q8.2).bind (fun q12 => some (q12.1, q12.2)))) else ((F_X4_found 6 q8.2).bind (fun q13 => some (q13.1, q13.2))))))) else (if x2 = 16 then ((F_X4_within x1 0 3 σ).bind (fun q15 => if (fk_b q15.1) = 0 then ((F_X4_found 0 q15.2).bind (fun q16 => some (q16.1, q16.2))) else (if (1 : Int32) = 0 then ((F_X4_found 0 q15.2).bind (fun q21 => some (q21.1, q21.2))) else (if 0 ≤ x3 then (if x3 ≤ 40 then (if x2 = 0 then ((F_X2_lay x1 x2 0 q15.2).bind (fun q18 => some (0, q18))) else ((F_X2_lay x1 x2 x3 q15.2).bind (fun q17 => some (x3, q17)))) else ((F_X4_found 0 q15.2).bind (fun q19 => some (q19.1, q19.2)))) else ((F_X4_found 6 q15.2).bind (fun q20 => some (q20.1, q20.2))))))) else (if x2 = 32 then ((F_X4_within x1 0 3 σ).bind (fun q29 => if (fk_b q29.1) = 0 then ((F_X4_found 0 q29.2).bind (fun q30 => some (q30.1, q30.2))) else (if (1 : Int32) = 0 then ((F_X4_found 0 q29.2).bind (fun q35 => some (q35.1, q35.2))) else (if 0 ≤ x3 then (if x3 ≤ 40 then (if x2 = 0 then ((F_X2_lay x1 x2 0 q29.2).bind (fun q32 => some (0, q32))) else ((F_X2_lay x1 x2 x3 q29.2).bind (fun q31 => some (x3, q31)))) else ((F_X4_found 0 q29.2).bind (fun q33 => some (q33.1, q33.2)))) else ((F_X4_found 6 q29.2).bind (fun q34 => some (q34.1, q34.2))))))) else ((F_X4_within x1 0 3 σ).bind (fun q22 => if (fk_b q22.1) = 0 then ((F_X4_found 0 q22.2).bind (fun q23 => some (q23.1, q23.2))) else (if (0 : Int32) = 0 then ((F_X4_found 0 q22.2).bind (fun q28 => some (q28.1, q28.2))) else (if 0 ≤ x3 then (if x3 ≤ 40 then (if x2 = 0 then ((F_X2_lay x1 x2 0 q22.2).bind (fun q25 => some (0, q25))) else ((F_X2_lay x1 x2 x3 q22.2).bind (fun q24 => some (x3, q24)))) else ((F_X4_found 0 q22.2).bind (fun q26 => some (q26.1, q26.2)))) else ((F_X4_found 6 q22.2).bind (fun q27 => some (q27.1, q27.2))))))))))
set_option maxRecDepth 100000 in
set_option maxHeartbeats 4000000 in
theorem A_X4_sheet (X : aw_X) (l : Launch) (x1 : Int32) (x2 : Int32) (x3 : Int32) (σ : fk_T) : af_G X l mX4_sheet [.ref 0, .int x1, .int x2, .int x3] (hp σ) ρi (F_X4_sheet x1 x2 x3 σ) := by
  refine af_mk (by decide) rfl (fun q _ => aw_oki q) [some (.ref 0), some (.int x1), some (.int x2), some (.int x3), none, none] rfl ?_
  rintro cx rfl rfl hN K
  replace hN : aw_nL cx = 6 := hN
  replace K : aw_K cx cX4_sheet RX4 rX4_sheet := K
  unfold F_X4_sheet
  refine af_iload_n K 1 dX4_sheet_0 rfl rfl ?_
  refine af_if_eq K 4 22 dX4_sheet_1 rfl rfl (fun _ => ?_) (fun _ => ?_)
  · refine af_iconst K 23 dX4_sheet_22 rfl cs_iconst_1 ?_
    refine af_goto K 27 dX4_sheet_23 rfl ?_
    refine af_istore K 29 [some (.ref 0), some (.int x1), some (.int x2), some (.int x3), some (.int 1), none] dX4_sheet_27 rfl (by rw [hN]; exact Nat.le_of_ble_eq_true rfl) rfl ?_
    refine af_iload_n K 30 dX4_sheet_29 rfl rfl ?_
    refine af_iconst K 31 dX4_sheet_30 rfl cs_iconst_0 ?_
    refine af_iconst K 32 dX4_sheet_31 rfl cs_iconst_3 ?_
    refine af_callS_z K (vs := [.int x1, .int 0, .int 3]) ms_X4_within lk_169 35 dX4_sheet_32 rfl rfl rfl rfl (A_X4_within _ _ x1 0 3 σ) rfl (fun q1 => ?_)
    refine af_if_eq K 38 43 dX4_sheet_35 rfl rfl (fun _ => ?_) (fun _ => ?_)
    · refine af_aload_n K 44 dX4_sheet_43 rfl rfl ?_
      refine af_iconst K 45 dX4_sheet_44 rfl cs_iconst_0 ?_
      refine af_callV_i K (b := 0) (vs := [.int 0]) mv_X4_found lk_172 ((hp_at _ (Nat.le_of_ble_eq_true rfl)).trans rfl) rfl 48 dX4_sheet_45 rfl rfl rfl rfl (A_X4_found _ _ 0 q1.2) rfl (fun q2 => ?_)
      exact af_reti K dX4_sheet_48
    · refine af_iload K 40 dX4_sheet_38 rfl rfl ?_
      refine af_if_ne K 43 49 dX4_sheet_40 rfl rfl (fun _ => ?_) (fun _ => ?_)
      · refine af_iload_n K 50 dX4_sheet_49 rfl rfl ?_
        refine af_if_ge K 53 60 dX4_sheet_50 rfl rfl (fun _ => ?_) (fun _ => ?_)
        · refine af_iload_n K 61 dX4_sheet_60 rfl rfl ?_
          refine af_bipush K 63 dX4_sheet_61 rfl cs_bipush_40 ?_
          refine af_icmp_le K 66 72 dX4_sheet_63 rfl rfl (fun _ => ?_) (fun _ => ?_)
          · refine af_iload_n K 73 dX4_sheet_72 rfl rfl ?_
            refine af_if_ne K 76 80 dX4_sheet_73 rfl rfl (fun _ => ?_) (fun _ => ?_)
            · refine af_iload_n K 81 dX4_sheet_80 rfl rfl ?_
              refine af_istore K 83 [some (.ref 0), some (.int x1), some (.int x2), some (.int x3), some (.int 1), some (.int x3)] dX4_sheet_81 rfl (by rw [hN]; exact Nat.le_of_ble_eq_true rfl) rfl ?_
              refine af_aload_n K 84 dX4_sheet_83 rfl rfl ?_
              refine af_get K 87 dX4_sheet_84 rfl fl_X4_45 (Nat.le_of_ble_eq_true rfl) rfl rfl ?_
              refine af_iload_n K 88 dX4_sheet_87 rfl rfl ?_
              refine af_iload_n K 89 dX4_sheet_88 rfl rfl ?_
              refine af_iload K 91 dX4_sheet_89 rfl rfl ?_
              refine af_callV_v K (b := 21) (vs := [.int x1, .int x2, .int x3]) mv_X2_lay lk_629 ((hp_at _ (Nat.le_of_ble_eq_true rfl)).trans rfl) rfl 94 dX4_sheet_91 rfl rfl rfl rfl (A_X2_lay _ _ x1 x2 x3 q1.2) rfl (fun q3 => ?_)
              refine af_iload K 96 dX4_sheet_94 rfl rfl ?_
              exact af_reti K dX4_sheet_96
            · refine af_iconst K 77 dX4_sheet_76 rfl cs_iconst_0 ?_
              refine af_goto K 81 dX4_sheet_77 rfl ?_
              refine af_istore K 83 [some (.ref 0), some (.int x1), some (.int x2), some (.int x3), some (.int 1), some (.int 0)] dX4_sheet_81 rfl (by rw [hN]; exact Nat.le_of_ble_eq_true rfl) rfl ?_
              refine af_aload_n K 84 dX4_sheet_83 rfl rfl ?_
              refine af_get K 87 dX4_sheet_84 rfl fl_X4_45 (Nat.le_of_ble_eq_true rfl) rfl rfl ?_
              refine af_iload_n K 88 dX4_sheet_87 rfl rfl ?_
              refine af_iload_n K 89 dX4_sheet_88 rfl rfl ?_
              refine af_iload K 91 dX4_sheet_89 rfl rfl ?_
              refine af_callV_v K (b := 21) (vs := [.int x1, .int x2, .int 0]) mv_X2_lay lk_629 ((hp_at _ (Nat.le_of_ble_eq_true rfl)).trans rfl) rfl 94 dX4_sheet_91 rfl rfl rfl rfl (A_X2_lay _ _ x1 x2 0 q1.2) rfl (fun q4 => ?_)
              refine af_iload K 96 dX4_sheet_94 rfl rfl ?_
              exact af_reti K dX4_sheet_96
          · refine af_aload_n K 67 dX4_sheet_66 rfl rfl ?_
            refine af_iconst K 68 dX4_sheet_67 rfl cs_iconst_0 ?_
            refine af_callV_i K (b := 0) (vs := [.int 0]) mv_X4_found lk_172 ((hp_at _ (Nat.le_of_ble_eq_true rfl)).trans rfl) rfl 71 dX4_sheet_68 rfl rfl rfl rfl (A_X4_found _ _ 0 q1.2) rfl (fun q5 => ?_)
            exact af_reti K dX4_sheet_71
        · refine af_aload_n K 54 dX4_sheet_53 rfl rfl ?_
          refine af_bipush K 56 dX4_sheet_54 rfl cs_bipush_6 ?_
          refine af_callV_i K (b := 0) (vs := [.int 6]) mv_X4_found lk_172 ((hp_at _ (Nat.le_of_ble_eq_true rfl)).trans rfl) rfl 59 dX4_sheet_56 rfl rfl rfl rfl (A_X4_found _ _ 6 q1.2) rfl (fun q6 => ?_)
          exact af_reti K dX4_sheet_59
      · refine af_aload_n K 44 dX4_sheet_43 rfl rfl ?_
        refine af_iconst K 45 dX4_sheet_44 rfl cs_iconst_0 ?_
        refine af_callV_i K (b := 0) (vs := [.int 0]) mv_X4_found lk_172 ((hp_at _ (Nat.le_of_ble_eq_true rfl)).trans rfl) rfl 48 dX4_sheet_45 rfl rfl rfl rfl (A_X4_found _ _ 0 q1.2) rfl (fun q7 => ?_)
        exact af_reti K dX4_sheet_48
  · refine af_iload_n K 5 dX4_sheet_4 rfl rfl ?_
    refine af_bipush K 7 dX4_sheet_5 rfl cs_bipush_8 ?_
    refine af_icmp_eq K 10 22 dX4_sheet_7 rfl rfl (fun _ => ?_) (fun _ => ?_)
    · refine af_iconst K 23 dX4_sheet_22 rfl cs_iconst_1 ?_
      refine af_goto K 27 dX4_sheet_23 rfl ?_
      refine af_istore K 29 [some (.ref 0), some (.int x1), some (.int x2), some (.int x3), some (.int 1), none] dX4_sheet_27 rfl (by rw [hN]; exact Nat.le_of_ble_eq_true rfl) rfl ?_
      refine af_iload_n K 30 dX4_sheet_29 rfl rfl ?_
      refine af_iconst K 31 dX4_sheet_30 rfl cs_iconst_0 ?_
      refine af_iconst K 32 dX4_sheet_31 rfl cs_iconst_3 ?_
      refine af_callS_z K (vs := [.int x1, .int 0, .int 3]) ms_X4_within lk_169 35 dX4_sheet_32 rfl rfl rfl rfl (A_X4_within _ _ x1 0 3 σ) rfl (fun q8 => ?_)
      refine af_if_eq K 38 43 dX4_sheet_35 rfl rfl (fun _ => ?_) (fun _ => ?_)
      · refine af_aload_n K 44 dX4_sheet_43 rfl rfl ?_
        refine af_iconst K 45 dX4_sheet_44 rfl cs_iconst_0 ?_
        refine af_callV_i K (b := 0) (vs := [.int 0]) mv_X4_found lk_172 ((hp_at _ (Nat.le_of_ble_eq_true rfl)).trans rfl) rfl 48 dX4_sheet_45 rfl rfl rfl rfl (A_X4_found _ _ 0 q8.2) rfl (fun q9 => ?_)
        exact af_reti K dX4_sheet_48
      · refine af_iload K 40 dX4_sheet_38 rfl rfl ?_
        refine af_if_ne K 43 49 dX4_sheet_40 rfl rfl (fun _ => ?_) (fun _ => ?_)
        · refine af_iload_n K 50 dX4_sheet_49 rfl rfl ?_
          refine af_if_ge K 53 60 dX4_sheet_50 rfl rfl (fun _ => ?_) (fun _ => ?_)
          · refine af_iload_n K 61 dX4_sheet_60 rfl rfl ?_
            refine af_bipush K 63 dX4_sheet_61 rfl cs_bipush_40 ?_
            refine af_icmp_le K 66 72 dX4_sheet_63 rfl rfl (fun _ => ?_) (fun _ => ?_)
            · refine af_iload_n K 73 dX4_sheet_72 rfl rfl ?_
              refine af_if_ne K 76 80 dX4_sheet_73 rfl rfl (fun _ => ?_) (fun _ => ?_)
              · refine af_iload_n K 81 dX4_sheet_80 rfl rfl ?_
                refine af_istore K 83 [some (.ref 0), some (.int x1), some (.int x2), some (.int x3), some (.int 1), some (.int x3)] dX4_sheet_81 rfl (by rw [hN]; exact Nat.le_of_ble_eq_true rfl) rfl ?_
                refine af_aload_n K 84 dX4_sheet_83 rfl rfl ?_
                refine af_get K 87 dX4_sheet_84 rfl fl_X4_45 (Nat.le_of_ble_eq_true rfl) rfl rfl ?_
                refine af_iload_n K 88 dX4_sheet_87 rfl rfl ?_
                refine af_iload_n K 89 dX4_sheet_88 rfl rfl ?_
                refine af_iload K 91 dX4_sheet_89 rfl rfl ?_
                refine af_callV_v K (b := 21) (vs := [.int x1, .int x2, .int x3]) mv_X2_lay lk_629 ((hp_at _ (Nat.le_of_ble_eq_true rfl)).trans rfl) rfl 94 dX4_sheet_91 rfl rfl rfl rfl (A_X2_lay _ _ x1 x2 x3 q8.2) rfl (fun q10 => ?_)
                refine af_iload K 96 dX4_sheet_94 rfl rfl ?_
                exact af_reti K dX4_sheet_96
              · refine af_iconst K 77 dX4_sheet_76 rfl cs_iconst_0 ?_
                refine af_goto K 81 dX4_sheet_77 rfl ?_
                refine af_istore K 83 [some (.ref 0), some (.int x1), some (.int x2), some (.int x3), some (.int 1), some (.int 0)] dX4_sheet_81 rfl (by rw [hN]; exact Nat.le_of_ble_eq_true rfl) rfl ?_
                refine af_aload_n K 84 dX4_sheet_83 rfl rfl ?_
                refine af_get K 87 dX4_sheet_84 rfl fl_X4_45 (Nat.le_of_ble_eq_true rfl) rfl rfl ?_
                refine af_iload_n K 88 dX4_sheet_87 rfl rfl ?_
                refine af_iload_n K 89 dX4_sheet_88 rfl rfl ?_
                refine af_iload K 91 dX4_sheet_89 rfl rfl ?_
                refine af_callV_v K (b := 21) (vs := [.int x1, .int x2, .int 0]) mv_X2_lay lk_629 ((hp_at _ (Nat.le_of_ble_eq_true rfl)).trans rfl) rfl 94 dX4_sheet_91 rfl rfl rfl rfl (A_X2_lay _ _ x1 x2 0 q8.2) rfl (fun q11 => ?_)
                refine af_iload K 96 dX4_sheet_94 rfl rfl ?_
                exact af_reti K dX4_sheet_96
            · refine af_aload_n K 67 dX4_sheet_66 rfl rfl ?_
              refine af_iconst K 68 dX4_sheet_67 rfl cs_iconst_0 ?_
              refine af_callV_i K (b := 0) (vs := [.int 0]) mv_X4_found lk_172 ((hp_at _ (Nat.le_of_ble_eq_true rfl)).trans rfl) rfl 71 dX4_sheet_68 rfl rfl rfl rfl (A_X4_found _ _ 0 q8.2) rfl (fun q12 => ?_)
              exact af_reti K dX4_sheet_71
          · refine af_aload_n K 54 dX4_sheet_53 rfl rfl ?_
            refine af_bipush K 56 dX4_sheet_54 rfl cs_bipush_6 ?_
            refine af_callV_i K (b := 0) (vs := [.int 6]) mv_X4_found lk_172 ((hp_at _ (Nat.le_of_ble_eq_true rfl)).trans rfl) rfl 59 dX4_sheet_56 rfl rfl rfl rfl (A_X4_found _ _ 6 q8.2) rfl (fun q13 => ?_)
            exact af_reti K dX4_sheet_59
        · refine af_aload_n K 44 dX4_sheet_43 rfl rfl ?_
          refine af_iconst K 45 dX4_sheet_44 rfl cs_iconst_0 ?_
          refine af_callV_i K (b := 0) (vs := [.int 0]) mv_X4_found lk_172 ((hp_at _ (Nat.le_of_ble_eq_true rfl)).trans rfl) rfl 48 dX4_sheet_45 rfl rfl rfl rfl (A_X4_found _ _ 0 q8.2) rfl (fun q14 => ?_)
          exact af_reti K dX4_sheet_48
    · refine af_iload_n K 11 dX4_sheet_10 rfl rfl ?_
      refine af_bipush K 13 dX4_sheet_11 rfl cs_bipush_16 ?_
      refine af_icmp_eq K 16 22 dX4_sheet_13 rfl rfl (fun _ => ?_) (fun _ => ?_)
      · refine af_iconst K 23 dX4_sheet_22 rfl cs_iconst_1 ?_
        refine af_goto K 27 dX4_sheet_23 rfl ?_
        refine af_istore K 29 [some (.ref 0), some (.int x1), some (.int x2), some (.int x3), some (.int 1), none] dX4_sheet_27 rfl (by rw [hN]; exact Nat.le_of_ble_eq_true rfl) rfl ?_
        refine af_iload_n K 30 dX4_sheet_29 rfl rfl ?_
        refine af_iconst K 31 dX4_sheet_30 rfl cs_iconst_0 ?_
        refine af_iconst K 32 dX4_sheet_31 rfl cs_iconst_3 ?_
        refine af_callS_z K (vs := [.int x1, .int 0, .int 3]) ms_X4_within lk_169 35 dX4_sheet_32 rfl rfl rfl rfl (A_X4_within _ _ x1 0 3 σ) rfl (fun q15 => ?_)
        refine af_if_eq K 38 43 dX4_sheet_35 rfl rfl (fun _ => ?_) (fun _ => ?_)
        · refine af_aload_n K 44 dX4_sheet_43 rfl rfl ?_
          refine af_iconst K 45 dX4_sheet_44 rfl cs_iconst_0 ?_
          refine af_callV_i K (b := 0) (vs := [.int 0]) mv_X4_found lk_172 ((hp_at _ (Nat.le_of_ble_eq_true rfl)).trans rfl) rfl 48 dX4_sheet_45 rfl rfl rfl rfl (A_X4_found _ _ 0 q15.2) rfl (fun q16 => ?_)
          exact af_reti K dX4_sheet_48
        · refine af_iload K 40 dX4_sheet_38 rfl rfl ?_
          refine af_if_ne K 43 49 dX4_sheet_40 rfl rfl (fun _ => ?_) (fun _ => ?_)
          · refine af_iload_n K 50 dX4_sheet_49 rfl rfl ?_
            refine af_if_ge K 53 60 dX4_sheet_50 rfl rfl (fun _ => ?_) (fun _ => ?_)
            · refine af_iload_n K 61 dX4_sheet_60 rfl rfl ?_
              refine af_bipush K 63 dX4_sheet_61 rfl cs_bipush_40 ?_
              refine af_icmp_le K 66 72 dX4_sheet_63 rfl rfl (fun _ => ?_) (fun _ => ?_)
              · refine af_iload_n K 73 dX4_sheet_72 rfl rfl ?_
                refine af_if_ne K 76 80 dX4_sheet_73 rfl rfl (fun _ => ?_) (fun _ => ?_)
                · refine af_iload_n K 81 dX4_sheet_80 rfl rfl ?_
                  refine af_istore K 83 [some (.ref 0), some (.int x1), some (.int x2), some (.int x3), some (.int 1), some (.int x3)] dX4_sheet_81 rfl (by rw [hN]; exact Nat.le_of_ble_eq_true rfl) rfl ?_
                  refine af_aload_n K 84 dX4_sheet_83 rfl rfl ?_
                  refine af_get K 87 dX4_sheet_84 rfl fl_X4_45 (Nat.le_of_ble_eq_true rfl) rfl rfl ?_
                  refine af_iload_n K 88 dX4_sheet_87 rfl rfl ?_
                  refine af_iload_n K 89 dX4_sheet_88 rfl rfl ?_
                  refine af_iload K 91 dX4_sheet_89 rfl rfl ?_
                  refine af_callV_v K (b := 21) (vs := [.int x1, .int x2, .int x3]) mv_X2_lay lk_629 ((hp_at _ (Nat.le_of_ble_eq_true rfl)).trans rfl) rfl 94 dX4_sheet_91 rfl rfl rfl rfl (A_X2_lay _ _ x1 x2 x3 q15.2) rfl (fun q17 => ?_)
                  refine af_iload K 96 dX4_sheet_94 rfl rfl ?_
                  exact af_reti K dX4_sheet_96
                · refine af_iconst K 77 dX4_sheet_76 rfl cs_iconst_0 ?_
                  refine af_goto K 81 dX4_sheet_77 rfl ?_
                  refine af_istore K 83 [some (.ref 0), some (.int x1), some (.int x2), some (.int x3), some (.int 1), some (.int 0)] dX4_sheet_81 rfl (by rw [hN]; exact Nat.le_of_ble_eq_true rfl) rfl ?_
                  refine af_aload_n K 84 dX4_sheet_83 rfl rfl ?_
                  refine af_get K 87 dX4_sheet_84 rfl fl_X4_45 (Nat.le_of_ble_eq_true rfl) rfl rfl ?_
                  refine af_iload_n K 88 dX4_sheet_87 rfl rfl ?_
                  refine af_iload_n K 89 dX4_sheet_88 rfl rfl ?_
                  refine af_iload K 91 dX4_sheet_89 rfl rfl ?_
                  refine af_callV_v K (b := 21) (vs := [.int x1, .int x2, .int 0]) mv_X2_lay lk_629 ((hp_at _ (Nat.le_of_ble_eq_true rfl)).trans rfl) rfl 94 dX4_sheet_91 rfl rfl rfl rfl (A_X2_lay _ _ x1 x2 0 q15.2) rfl (fun q18 => ?_)
                  refine af_iload K 96 dX4_sheet_94 rfl rfl ?_
                  exact af_reti K dX4_sheet_96
              · refine af_aload_n K 67 dX4_sheet_66 rfl rfl ?_
                refine af_iconst K 68 dX4_sheet_67 rfl cs_iconst_0 ?_
                refine af_callV_i K (b := 0) (vs := [.int 0]) mv_X4_found lk_172 ((hp_at _ (Nat.le_of_ble_eq_true rfl)).trans rfl) rfl 71 dX4_sheet_68 rfl rfl rfl rfl (A_X4_found _ _ 0 q15.2) rfl (fun q19 => ?_)
                exact af_reti K dX4_sheet_71
            · refine af_aload_n K 54 dX4_sheet_53 rfl rfl ?_
              refine af_bipush K 56 dX4_sheet_54 rfl cs_bipush_6 ?_
              refine af_callV_i K (b := 0) (vs := [.int 6]) mv_X4_found lk_172 ((hp_at _ (Nat.le_of_ble_eq_true rfl)).trans rfl) rfl 59 dX4_sheet_56 rfl rfl rfl rfl (A_X4_found _ _ 6 q15.2) rfl (fun q20 => ?_)
              exact af_reti K dX4_sheet_59
          · refine af_aload_n K 44 dX4_sheet_43 rfl rfl ?_
            refine af_iconst K 45 dX4_sheet_44 rfl cs_iconst_0 ?_
            refine af_callV_i K (b := 0) (vs := [.int 0]) mv_X4_found lk_172 ((hp_at _ (Nat.le_of_ble_eq_true rfl)).trans rfl) rfl 48 dX4_sheet_45 rfl rfl rfl rfl (A_X4_found _ _ 0 q15.2) rfl (fun q21 => ?_)
            exact af_reti K dX4_sheet_48
      · refine af_iload_n K 17 dX4_sheet_16 rfl rfl ?_
        refine af_bipush K 19 dX4_sheet_17 rfl cs_bipush_32 ?_
        refine af_icmp_ne K 22 26 dX4_sheet_19 rfl rfl (fun _ => ?_) (fun _ => ?_)
        · refine af_iconst K 27 dX4_sheet_26 rfl cs_iconst_0 ?_
          refine af_istore K 29 [some (.ref 0), some (.int x1), some (.int x2), some (.int x3), some (.int 0), none] dX4_sheet_27 rfl (by rw [hN]; exact Nat.le_of_ble_eq_true rfl) rfl ?_
          refine af_iload_n K 30 dX4_sheet_29 rfl rfl ?_
          refine af_iconst K 31 dX4_sheet_30 rfl cs_iconst_0 ?_
          refine af_iconst K 32 dX4_sheet_31 rfl cs_iconst_3 ?_
          refine af_callS_z K (vs := [.int x1, .int 0, .int 3]) ms_X4_within lk_169 35 dX4_sheet_32 rfl rfl rfl rfl (A_X4_within _ _ x1 0 3 σ) rfl (fun q22 => ?_)
          refine af_if_eq K 38 43 dX4_sheet_35 rfl rfl (fun _ => ?_) (fun _ => ?_)
          · refine af_aload_n K 44 dX4_sheet_43 rfl rfl ?_
            refine af_iconst K 45 dX4_sheet_44 rfl cs_iconst_0 ?_
            refine af_callV_i K (b := 0) (vs := [.int 0]) mv_X4_found lk_172 ((hp_at _ (Nat.le_of_ble_eq_true rfl)).trans rfl) rfl 48 dX4_sheet_45 rfl rfl rfl rfl (A_X4_found _ _ 0 q22.2) rfl (fun q23 => ?_)
            exact af_reti K dX4_sheet_48
          · refine af_iload K 40 dX4_sheet_38 rfl rfl ?_
            refine af_if_ne K 43 49 dX4_sheet_40 rfl rfl (fun _ => ?_) (fun _ => ?_)
            · refine af_iload_n K 50 dX4_sheet_49 rfl rfl ?_
              refine af_if_ge K 53 60 dX4_sheet_50 rfl rfl (fun _ => ?_) (fun _ => ?_)
              · refine af_iload_n K 61 dX4_sheet_60 rfl rfl ?_
                refine af_bipush K 63 dX4_sheet_61 rfl cs_bipush_40 ?_
                refine af_icmp_le K 66 72 dX4_sheet_63 rfl rfl (fun _ => ?_) (fun _ => ?_)
                · refine af_iload_n K 73 dX4_sheet_72 rfl rfl ?_
                  refine af_if_ne K 76 80 dX4_sheet_73 rfl rfl (fun _ => ?_) (fun _ => ?_)
                  · refine af_iload_n K 81 dX4_sheet_80 rfl rfl ?_
                    refine af_istore K 83 [some (.ref 0), some (.int x1), some (.int x2), some (.int x3), some (.int 0), some (.int x3)] dX4_sheet_81 rfl (by rw [hN]; exact Nat.le_of_ble_eq_true rfl) rfl ?_
                    refine af_aload_n K 84 dX4_sheet_83 rfl rfl ?_
                    refine af_get K 87 dX4_sheet_84 rfl fl_X4_45 (Nat.le_of_ble_eq_true rfl) rfl rfl ?_
                    refine af_iload_n K 88 dX4_sheet_87 rfl rfl ?_
                    refine af_iload_n K 89 dX4_sheet_88 rfl rfl ?_
                    refine af_iload K 91 dX4_sheet_89 rfl rfl ?_
                    refine af_callV_v K (b := 21) (vs := [.int x1, .int x2, .int x3]) mv_X2_lay lk_629 ((hp_at _ (Nat.le_of_ble_eq_true rfl)).trans rfl) rfl 94 dX4_sheet_91 rfl rfl rfl rfl (A_X2_lay _ _ x1 x2 x3 q22.2) rfl (fun q24 => ?_)
                    refine af_iload K 96 dX4_sheet_94 rfl rfl ?_
                    exact af_reti K dX4_sheet_96
                  · refine af_iconst K 77 dX4_sheet_76 rfl cs_iconst_0 ?_
                    refine af_goto K 81 dX4_sheet_77 rfl ?_
                    refine af_istore K 83 [some (.ref 0), some (.int x1), some (.int x2), some (.int x3), some (.int 0), some (.int 0)] dX4_sheet_81 rfl (by rw [hN]; exact Nat.le_of_ble_eq_true rfl) rfl ?_
                    refine af_aload_n K 84 dX4_sheet_83 rfl rfl ?_
                    refine af_get K 87 dX4_sheet_84 rfl fl_X4_45 (Nat.le_of_ble_eq_true rfl) rfl rfl ?_
                    refine af_iload_n K 88 dX4_sheet_87 rfl rfl ?_
                    refine af_iload_n K 89 dX4_sheet_88 rfl rfl ?_
                    refine af_iload K 91 dX4_sheet_89 rfl rfl ?_
                    refine af_callV_v K (b := 21) (vs := [.int x1, .int x2, .int 0]) mv_X2_lay lk_629 ((hp_at _ (Nat.le_of_ble_eq_true rfl)).trans rfl) rfl 94 dX4_sheet_91 rfl rfl rfl rfl (A_X2_lay _ _ x1 x2 0 q22.2) rfl (fun q25 => ?_)
                    refine af_iload K 96 dX4_sheet_94 rfl rfl ?_
                    exact af_reti K dX4_sheet_96
                · refine af_aload_n K 67 dX4_sheet_66 rfl rfl ?_
                  refine af_iconst K 68 dX4_sheet_67 rfl cs_iconst_0 ?_
                  refine af_callV_i K (b := 0) (vs := [.int 0]) mv_X4_found lk_172 ((hp_at _ (Nat.le_of_ble_eq_true rfl)).trans rfl) rfl 71 dX4_sheet_68 rfl rfl rfl rfl (A_X4_found _ _ 0 q22.2) rfl (fun q26 => ?_)
                  exact af_reti K dX4_sheet_71
              · refine af_aload_n K 54 dX4_sheet_53 rfl rfl ?_
                refine af_bipush K 56 dX4_sheet_54 rfl cs_bipush_6 ?_
                refine af_callV_i K (b := 0) (vs := [.int 6]) mv_X4_found lk_172 ((hp_at _ (Nat.le_of_ble_eq_true rfl)).trans rfl) rfl 59 dX4_sheet_56 rfl rfl rfl rfl (A_X4_found _ _ 6 q22.2) rfl (fun q27 => ?_)
                exact af_reti K dX4_sheet_59
            · refine af_aload_n K 44 dX4_sheet_43 rfl rfl ?_
              refine af_iconst K 45 dX4_sheet_44 rfl cs_iconst_0 ?_
              refine af_callV_i K (b := 0) (vs := [.int 0]) mv_X4_found lk_172 ((hp_at _ (Nat.le_of_ble_eq_true rfl)).trans rfl) rfl 48 dX4_sheet_45 rfl rfl rfl rfl (A_X4_found _ _ 0 q22.2) rfl (fun q28 => ?_)
              exact af_reti K dX4_sheet_48
        · refine af_iconst K 23 dX4_sheet_22 rfl cs_iconst_1 ?_
          refine af_goto K 27 dX4_sheet_23 rfl ?_
          refine af_istore K 29 [some (.ref 0), some (.int x1), some (.int x2), some (.int x3), some (.int 1), none] dX4_sheet_27 rfl (by rw [hN]; exact Nat.le_of_ble_eq_true rfl) rfl ?_
          refine af_iload_n K 30 dX4_sheet_29 rfl rfl ?_
          refine af_iconst K 31 dX4_sheet_30 rfl cs_iconst_0 ?_
          refine af_iconst K 32 dX4_sheet_31 rfl cs_iconst_3 ?_
          refine af_callS_z K (vs := [.int x1, .int 0, .int 3]) ms_X4_within lk_169 35 dX4_sheet_32 rfl rfl rfl rfl (A_X4_within _ _ x1 0 3 σ) rfl (fun q29 => ?_)
          refine af_if_eq K 38 43 dX4_sheet_35 rfl rfl (fun _ => ?_) (fun _ => ?_)
          · refine af_aload_n K 44 dX4_sheet_43 rfl rfl ?_
            refine af_iconst K 45 dX4_sheet_44 rfl cs_iconst_0 ?_
            refine af_callV_i K (b := 0) (vs := [.int 0]) mv_X4_found lk_172 ((hp_at _ (Nat.le_of_ble_eq_true rfl)).trans rfl) rfl 48 dX4_sheet_45 rfl rfl rfl rfl (A_X4_found _ _ 0 q29.2) rfl (fun q30 => ?_)
            exact af_reti K dX4_sheet_48
          · refine af_iload K 40 dX4_sheet_38 rfl rfl ?_
            refine af_if_ne K 43 49 dX4_sheet_40 rfl rfl (fun _ => ?_) (fun _ => ?_)
            · refine af_iload_n K 50 dX4_sheet_49 rfl rfl ?_
              refine af_if_ge K 53 60 dX4_sheet_50 rfl rfl (fun _ => ?_) (fun _ => ?_)
              · refine af_iload_n K 61 dX4_sheet_60 rfl rfl ?_
                refine af_bipush K 63 dX4_sheet_61 rfl cs_bipush_40 ?_
                refine af_icmp_le K 66 72 dX4_sheet_63 rfl rfl (fun _ => ?_) (fun _ => ?_)
                · refine af_iload_n K 73 dX4_sheet_72 rfl rfl ?_
                  refine af_if_ne K 76 80 dX4_sheet_73 rfl rfl (fun _ => ?_) (fun _ => ?_)
                  · refine af_iload_n K 81 dX4_sheet_80 rfl rfl ?_
                    refine af_istore K 83 [some (.ref 0), some (.int x1), some (.int x2), some (.int x3), some (.int 1), some (.int x3)] dX4_sheet_81 rfl (by rw [hN]; exact Nat.le_of_ble_eq_true rfl) rfl ?_
                    refine af_aload_n K 84 dX4_sheet_83 rfl rfl ?_
                    refine af_get K 87 dX4_sheet_84 rfl fl_X4_45 (Nat.le_of_ble_eq_true rfl) rfl rfl ?_
                    refine af_iload_n K 88 dX4_sheet_87 rfl rfl ?_
                    refine af_iload_n K 89 dX4_sheet_88 rfl rfl ?_
                    refine af_iload K 91 dX4_sheet_89 rfl rfl ?_
                    refine af_callV_v K (b := 21) (vs := [.int x1, .int x2, .int x3]) mv_X2_lay lk_629 ((hp_at _ (Nat.le_of_ble_eq_true rfl)).trans rfl) rfl 94 dX4_sheet_91 rfl rfl rfl rfl (A_X2_lay _ _ x1 x2 x3 q29.2) rfl (fun q31 => ?_)
                    refine af_iload K 96 dX4_sheet_94 rfl rfl ?_
                    exact af_reti K dX4_sheet_96
                  · refine af_iconst K 77 dX4_sheet_76 rfl cs_iconst_0 ?_
                    refine af_goto K 81 dX4_sheet_77 rfl ?_
                    refine af_istore K 83 [some (.ref 0), some (.int x1), some (.int x2), some (.int x3), some (.int 1), some (.int 0)] dX4_sheet_81 rfl (by rw [hN]; exact Nat.le_of_ble_eq_true rfl) rfl ?_
                    refine af_aload_n K 84 dX4_sheet_83 rfl rfl ?_
                    refine af_get K 87 dX4_sheet_84 rfl fl_X4_45 (Nat.le_of_ble_eq_true rfl) rfl rfl ?_
                    refine af_iload_n K 88 dX4_sheet_87 rfl rfl ?_
                    refine af_iload_n K 89 dX4_sheet_88 rfl rfl ?_
                    refine af_iload K 91 dX4_sheet_89 rfl rfl ?_
                    refine af_callV_v K (b := 21) (vs := [.int x1, .int x2, .int 0]) mv_X2_lay lk_629 ((hp_at _ (Nat.le_of_ble_eq_true rfl)).trans rfl) rfl 94 dX4_sheet_91 rfl rfl rfl rfl (A_X2_lay _ _ x1 x2 0 q29.2) rfl (fun q32 => ?_)
                    refine af_iload K 96 dX4_sheet_94 rfl rfl ?_
                    exact af_reti K dX4_sheet_96
                · refine af_aload_n K 67 dX4_sheet_66 rfl rfl ?_
                  refine af_iconst K 68 dX4_sheet_67 rfl cs_iconst_0 ?_
                  refine af_callV_i K (b := 0) (vs := [.int 0]) mv_X4_found lk_172 ((hp_at _ (Nat.le_of_ble_eq_true rfl)).trans rfl) rfl 71 dX4_sheet_68 rfl rfl rfl rfl (A_X4_found _ _ 0 q29.2) rfl (fun q33 => ?_)
                  exact af_reti K dX4_sheet_71
              · refine af_aload_n K 54 dX4_sheet_53 rfl rfl ?_
                refine af_bipush K 56 dX4_sheet_54 rfl cs_bipush_6 ?_
                refine af_callV_i K (b := 0) (vs := [.int 6]) mv_X4_found lk_172 ((hp_at _ (Nat.le_of_ble_eq_true rfl)).trans rfl) rfl 59 dX4_sheet_56 rfl rfl rfl rfl (A_X4_found _ _ 6 q29.2) rfl (fun q34 => ?_)
                exact af_reti K dX4_sheet_59
            · refine af_aload_n K 44 dX4_sheet_43 rfl rfl ?_
              refine af_iconst K 45 dX4_sheet_44 rfl cs_iconst_0 ?_
              refine af_callV_i K (b := 0) (vs := [.int 0]) mv_X4_found lk_172 ((hp_at _ (Nat.le_of_ble_eq_true rfl)).trans rfl) rfl 48 dX4_sheet_45 rfl rfl rfl rfl (A_X4_found _ _ 0 q29.2) rfl (fun q35 => ?_)
              exact af_reti K dX4_sheet_48
def F_X4_write (x1 : Int32) (x2 : Int32) (x3 : Int32) (σ : fk_T) : Option (Int32 × fk_T) := (F_X4_within x1 0 3 σ).bind (fun q1 => if (fk_b q1.1) = 0 then ((F_X4_found 0 q1.2).bind (fun q8 => some (q8.1, q8.2))) else ((F_X2_isMissing x1 q1.2).bind (fun q2 => if (fk_b q2.1) = 0 then (fk_A (q2.2.1 23) 4 x1 (fun y3 => (F_X4_within x2 0 (y3 - 1) q2.2).bind (fun q4 => if (fk_b q4.1) = 0 then ((F_X4_found 0 q4.2).bind (fun q6 => some (q6.1, q6.2))) else ((F_X2_put x1 x2 x3 q4.2).bind (fun q5 => some (1, q5)))))) else ((F_X4_found 5 q2.2).bind (fun q7 => some (q7.1, q7.2))))))
set_option maxRecDepth 100000 in
set_option maxHeartbeats 4000000 in
theorem A_X4_write (X : aw_X) (l : Launch) (x1 : Int32) (x2 : Int32) (x3 : Int32) (σ : fk_T) : af_G X l mX4_write [.ref 0, .int x1, .int x2, .int x3] (hp σ) ρi (F_X4_write x1 x2 x3 σ) := by
  refine af_mk (by decide) rfl (fun q _ => aw_oki q) [some (.ref 0), some (.int x1), some (.int x2), some (.int x3)] rfl ?_
  rintro cx rfl rfl hN K
  replace hN : aw_nL cx = 4 := hN
  replace K : aw_K cx cX4_write RX4 rX4_write := K
  unfold F_X4_write
  refine af_iload_n K 1 dX4_write_0 rfl rfl ?_
  refine af_iconst K 2 dX4_write_1 rfl cs_iconst_0 ?_
  refine af_iconst K 3 dX4_write_2 rfl cs_iconst_3 ?_
  refine af_callS_z K (vs := [.int x1, .int 0, .int 3]) ms_X4_within lk_169 6 dX4_write_3 rfl rfl rfl rfl (A_X4_within _ _ x1 0 3 σ) rfl (fun q1 => ?_)
  refine af_if_ne K 9 15 dX4_write_6 rfl rfl (fun _ => ?_) (fun _ => ?_)
  · refine af_aload_n K 16 dX4_write_15 rfl rfl ?_
    refine af_get K 19 dX4_write_16 rfl fl_X4_45 (Nat.le_of_ble_eq_true rfl) rfl rfl ?_
    refine af_iload_n K 20 dX4_write_19 rfl rfl ?_
    refine af_callV_z K (b := 21) (vs := [.int x1]) mv_X2_isMissing lk_393 ((hp_at _ (Nat.le_of_ble_eq_true rfl)).trans rfl) rfl 23 dX4_write_20 rfl rfl rfl rfl (A_X2_isMissing _ _ x1 q1.2) rfl (fun q2 => ?_)
    refine af_if_eq K 26 32 dX4_write_23 rfl rfl (fun _ => ?_) (fun _ => ?_)
    · refine af_iload_n K 33 dX4_write_32 rfl rfl ?_
      refine af_iconst K 34 dX4_write_33 rfl cs_iconst_0 ?_
      refine af_aload_n K 35 dX4_write_34 rfl rfl ?_
      refine af_get K 38 dX4_write_35 rfl fl_X4_45 (Nat.le_of_ble_eq_true rfl) rfl rfl ?_
      refine af_get K 41 dX4_write_38 rfl fl_X4_208 (Nat.le_of_ble_eq_true rfl) rfl rfl ?_
      refine af_iload_n K 42 dX4_write_41 rfl rfl ?_
      refine af_iald K 43 dX4_write_42 rfl (Nat.le_of_ble_eq_true rfl) rfl (fun y3 => ?_)
      refine af_iconst K 44 dX4_write_43 rfl cs_iconst_1 ?_
      refine af_isub K 45 dX4_write_44 rfl ?_
      refine af_callS_z K (vs := [.int x2, .int 0, .int (y3 - 1)]) ms_X4_within lk_169 48 dX4_write_45 rfl rfl rfl rfl (A_X4_within _ _ x2 0 (y3 - 1) q2.2) rfl (fun q4 => ?_)
      refine af_if_ne K 51 57 dX4_write_48 rfl rfl (fun _ => ?_) (fun _ => ?_)
      · refine af_aload_n K 58 dX4_write_57 rfl rfl ?_
        refine af_get K 61 dX4_write_58 rfl fl_X4_45 (Nat.le_of_ble_eq_true rfl) rfl rfl ?_
        refine af_iload_n K 62 dX4_write_61 rfl rfl ?_
        refine af_iload_n K 63 dX4_write_62 rfl rfl ?_
        refine af_iload_n K 64 dX4_write_63 rfl rfl ?_
        refine af_callV_v K (b := 21) (vs := [.int x1, .int x2, .int x3]) mv_X2_put lk_637 ((hp_at _ (Nat.le_of_ble_eq_true rfl)).trans rfl) rfl 67 dX4_write_64 rfl rfl rfl rfl (A_X2_put _ _ x1 x2 x3 q4.2) rfl (fun q5 => ?_)
        refine af_iconst K 68 dX4_write_67 rfl cs_iconst_1 ?_
        exact af_reti K dX4_write_68
      · refine af_aload_n K 52 dX4_write_51 rfl rfl ?_
        refine af_iconst K 53 dX4_write_52 rfl cs_iconst_0 ?_
        refine af_callV_i K (b := 0) (vs := [.int 0]) mv_X4_found lk_172 ((hp_at _ (Nat.le_of_ble_eq_true rfl)).trans rfl) rfl 56 dX4_write_53 rfl rfl rfl rfl (A_X4_found _ _ 0 q4.2) rfl (fun q6 => ?_)
        exact af_reti K dX4_write_56
    · refine af_aload_n K 27 dX4_write_26 rfl rfl ?_
      refine af_iconst K 28 dX4_write_27 rfl cs_iconst_5 ?_
      refine af_callV_i K (b := 0) (vs := [.int 5]) mv_X4_found lk_172 ((hp_at _ (Nat.le_of_ble_eq_true rfl)).trans rfl) rfl 31 dX4_write_28 rfl rfl rfl rfl (A_X4_found _ _ 5 q2.2) rfl (fun q7 => ?_)
      exact af_reti K dX4_write_31
  · refine af_aload_n K 10 dX4_write_9 rfl rfl ?_
    refine af_iconst K 11 dX4_write_10 rfl cs_iconst_0 ?_
    refine af_callV_i K (b := 0) (vs := [.int 0]) mv_X4_found lk_172 ((hp_at _ (Nat.le_of_ble_eq_true rfl)).trans rfl) rfl 14 dX4_write_11 rfl rfl rfl rfl (A_X4_found _ _ 0 q1.2) rfl (fun q8 => ?_)
    exact af_reti K dX4_write_14
def F_X4_copy (x1 : Int32) (x2 : Int32) (x3 : Int32) (x4 : Int32) (x5 : Int32) (σ : fk_T) : Option (Int32 × fk_T) := (F_X4_within x1 0 3 σ).bind (fun q1 => if (fk_b q1.1) = 0 then ((F_X4_found 0 q1.2).bind (fun q2 => some (q2.1, q2.2))) else ((F_X4_within x3 0 3 q1.2).bind (fun q3 => if (fk_b q3.1) = 0 then ((F_X4_found 0 q3.2).bind (fun q16 => some (q16.1, q16.2))) else ((F_X2_isMissing x1 q3.2).bind (fun q4 => if (fk_b q4.1) = 0 then ((F_X2_isMissing x3 q4.2).bind (fun q6 => if (fk_b q6.1) = 0 then (fk_A (q6.2.1 22) 4 x1 (fun y7 => fk_A (q6.2.1 22) 4 x3 (fun y8 => if y7 = y8 then ((F_X2_hasRun x1 x2 x5 q6.2).bind (fun q9 => if (fk_b q9.1) = 0 then ((F_X4_found 0 q9.2).bind (fun q10 => some (q10.1, q10.2))) else ((F_X2_hasRun x3 x4 x5 q9.2).bind (fun q11 => if (fk_b q11.1) = 0 then ((F_X4_found 0 q11.2).bind (fun q13 => some (q13.1, q13.2))) else ((F_X2_move x1 x2 x3 x4 x5 q11.2).bind (fun q12 => some (x5, q12))))))) else ((F_X4_found 2 q6.2).bind (fun q14 => some (q14.1, q14.2)))))) else ((F_X4_found 5 q6.2).bind (fun q15 => some (q15.1, q15.2))))) else ((F_X4_found 5 q4.2).bind (fun q5 => some (q5.1, q5.2))))))))
set_option maxRecDepth 100000 in
set_option maxHeartbeats 4000000 in
theorem A_X4_copy (X : aw_X) (l : Launch) (x1 : Int32) (x2 : Int32) (x3 : Int32) (x4 : Int32) (x5 : Int32) (σ : fk_T) : af_G X l mX4_copy [.ref 0, .int x1, .int x2, .int x3, .int x4, .int x5] (hp σ) ρi (F_X4_copy x1 x2 x3 x4 x5 σ) := by
  refine af_mk (by decide) rfl (fun q _ => aw_oki q) [some (.ref 0), some (.int x1), some (.int x2), some (.int x3), some (.int x4), some (.int x5)] rfl ?_
  rintro cx rfl rfl hN K
  replace hN : aw_nL cx = 6 := hN
  replace K : aw_K cx cX4_copy RX4 rX4_copy := K
  unfold F_X4_copy
  refine af_iload_n K 1 dX4_copy_0 rfl rfl ?_
  refine af_iconst K 2 dX4_copy_1 rfl cs_iconst_0 ?_
  refine af_iconst K 3 dX4_copy_2 rfl cs_iconst_3 ?_
  refine af_callS_z K (vs := [.int x1, .int 0, .int 3]) ms_X4_within lk_169 6 dX4_copy_3 rfl rfl rfl rfl (A_X4_within _ _ x1 0 3 σ) rfl (fun q1 => ?_)
  refine af_if_eq K 9 18 dX4_copy_6 rfl rfl (fun _ => ?_) (fun _ => ?_)
  · refine af_aload_n K 19 dX4_copy_18 rfl rfl ?_
    refine af_iconst K 20 dX4_copy_19 rfl cs_iconst_0 ?_
    refine af_callV_i K (b := 0) (vs := [.int 0]) mv_X4_found lk_172 ((hp_at _ (Nat.le_of_ble_eq_true rfl)).trans rfl) rfl 23 dX4_copy_20 rfl rfl rfl rfl (A_X4_found _ _ 0 q1.2) rfl (fun q2 => ?_)
    exact af_reti K dX4_copy_23
  · refine af_iload_n K 10 dX4_copy_9 rfl rfl ?_
    refine af_iconst K 11 dX4_copy_10 rfl cs_iconst_0 ?_
    refine af_iconst K 12 dX4_copy_11 rfl cs_iconst_3 ?_
    refine af_callS_z K (vs := [.int x3, .int 0, .int 3]) ms_X4_within lk_169 15 dX4_copy_12 rfl rfl rfl rfl (A_X4_within _ _ x3 0 3 q1.2) rfl (fun q3 => ?_)
    refine af_if_ne K 18 24 dX4_copy_15 rfl rfl (fun _ => ?_) (fun _ => ?_)
    · refine af_aload_n K 25 dX4_copy_24 rfl rfl ?_
      refine af_get K 28 dX4_copy_25 rfl fl_X4_45 (Nat.le_of_ble_eq_true rfl) rfl rfl ?_
      refine af_iload_n K 29 dX4_copy_28 rfl rfl ?_
      refine af_callV_z K (b := 21) (vs := [.int x1]) mv_X2_isMissing lk_393 ((hp_at _ (Nat.le_of_ble_eq_true rfl)).trans rfl) rfl 32 dX4_copy_29 rfl rfl rfl rfl (A_X2_isMissing _ _ x1 q3.2) rfl (fun q4 => ?_)
      refine af_if_ne K 35 46 dX4_copy_32 rfl rfl (fun _ => ?_) (fun _ => ?_)
      · refine af_aload_n K 47 dX4_copy_46 rfl rfl ?_
        refine af_iconst K 48 dX4_copy_47 rfl cs_iconst_5 ?_
        refine af_callV_i K (b := 0) (vs := [.int 5]) mv_X4_found lk_172 ((hp_at _ (Nat.le_of_ble_eq_true rfl)).trans rfl) rfl 51 dX4_copy_48 rfl rfl rfl rfl (A_X4_found _ _ 5 q4.2) rfl (fun q5 => ?_)
        exact af_reti K dX4_copy_51
      · refine af_aload_n K 36 dX4_copy_35 rfl rfl ?_
        refine af_get K 39 dX4_copy_36 rfl fl_X4_45 (Nat.le_of_ble_eq_true rfl) rfl rfl ?_
        refine af_iload_n K 40 dX4_copy_39 rfl rfl ?_
        refine af_callV_z K (b := 21) (vs := [.int x3]) mv_X2_isMissing lk_393 ((hp_at _ (Nat.le_of_ble_eq_true rfl)).trans rfl) rfl 43 dX4_copy_40 rfl rfl rfl rfl (A_X2_isMissing _ _ x3 q4.2) rfl (fun q6 => ?_)
        refine af_if_eq K 46 52 dX4_copy_43 rfl rfl (fun _ => ?_) (fun _ => ?_)
        · refine af_aload_n K 53 dX4_copy_52 rfl rfl ?_
          refine af_get K 56 dX4_copy_53 rfl fl_X4_45 (Nat.le_of_ble_eq_true rfl) rfl rfl ?_
          refine af_get K 59 dX4_copy_56 rfl fl_X4_214 (Nat.le_of_ble_eq_true rfl) rfl rfl ?_
          refine af_iload_n K 60 dX4_copy_59 rfl rfl ?_
          refine af_iald K 61 dX4_copy_60 rfl (Nat.le_of_ble_eq_true rfl) rfl (fun y7 => ?_)
          refine af_aload_n K 62 dX4_copy_61 rfl rfl ?_
          refine af_get K 65 dX4_copy_62 rfl fl_X4_45 (Nat.le_of_ble_eq_true rfl) rfl rfl ?_
          refine af_get K 68 dX4_copy_65 rfl fl_X4_214 (Nat.le_of_ble_eq_true rfl) rfl rfl ?_
          refine af_iload_n K 69 dX4_copy_68 rfl rfl ?_
          refine af_iald K 70 dX4_copy_69 rfl (Nat.le_of_ble_eq_true rfl) rfl (fun y8 => ?_)
          refine af_icmp_eq K 73 79 dX4_copy_70 rfl rfl (fun _ => ?_) (fun _ => ?_)
          · refine af_aload_n K 80 dX4_copy_79 rfl rfl ?_
            refine af_get K 83 dX4_copy_80 rfl fl_X4_45 (Nat.le_of_ble_eq_true rfl) rfl rfl ?_
            refine af_iload_n K 84 dX4_copy_83 rfl rfl ?_
            refine af_iload_n K 85 dX4_copy_84 rfl rfl ?_
            refine af_iload K 87 dX4_copy_85 rfl rfl ?_
            refine af_callV_z K (b := 21) (vs := [.int x1, .int x2, .int x5]) mv_X2_hasRun lk_648 ((hp_at _ (Nat.le_of_ble_eq_true rfl)).trans rfl) rfl 90 dX4_copy_87 rfl rfl rfl rfl (A_X2_hasRun _ _ x1 x2 x5 q6.2) rfl (fun q9 => ?_)
            refine af_if_eq K 93 108 dX4_copy_90 rfl rfl (fun _ => ?_) (fun _ => ?_)
            · refine af_aload_n K 109 dX4_copy_108 rfl rfl ?_
              refine af_iconst K 110 dX4_copy_109 rfl cs_iconst_0 ?_
              refine af_callV_i K (b := 0) (vs := [.int 0]) mv_X4_found lk_172 ((hp_at _ (Nat.le_of_ble_eq_true rfl)).trans rfl) rfl 113 dX4_copy_110 rfl rfl rfl rfl (A_X4_found _ _ 0 q9.2) rfl (fun q10 => ?_)
              exact af_reti K dX4_copy_113
            · refine af_aload_n K 94 dX4_copy_93 rfl rfl ?_
              refine af_get K 97 dX4_copy_94 rfl fl_X4_45 (Nat.le_of_ble_eq_true rfl) rfl rfl ?_
              refine af_iload_n K 98 dX4_copy_97 rfl rfl ?_
              refine af_iload K 100 dX4_copy_98 rfl rfl ?_
              refine af_iload K 102 dX4_copy_100 rfl rfl ?_
              refine af_callV_z K (b := 21) (vs := [.int x3, .int x4, .int x5]) mv_X2_hasRun lk_648 ((hp_at _ (Nat.le_of_ble_eq_true rfl)).trans rfl) rfl 105 dX4_copy_102 rfl rfl rfl rfl (A_X2_hasRun _ _ x3 x4 x5 q9.2) rfl (fun q11 => ?_)
              refine af_if_ne K 108 114 dX4_copy_105 rfl rfl (fun _ => ?_) (fun _ => ?_)
              · refine af_aload_n K 115 dX4_copy_114 rfl rfl ?_
                refine af_get K 118 dX4_copy_115 rfl fl_X4_45 (Nat.le_of_ble_eq_true rfl) rfl rfl ?_
                refine af_iload_n K 119 dX4_copy_118 rfl rfl ?_
                refine af_iload_n K 120 dX4_copy_119 rfl rfl ?_
                refine af_iload_n K 121 dX4_copy_120 rfl rfl ?_
                refine af_iload K 123 dX4_copy_121 rfl rfl ?_
                refine af_iload K 125 dX4_copy_123 rfl rfl ?_
                refine af_callV_v K (b := 21) (vs := [.int x1, .int x2, .int x3, .int x4, .int x5]) mv_X2_move lk_652 ((hp_at _ (Nat.le_of_ble_eq_true rfl)).trans rfl) rfl 128 dX4_copy_125 rfl rfl rfl rfl (A_X2_move _ _ x1 x2 x3 x4 x5 q11.2) rfl (fun q12 => ?_)
                refine af_iload K 130 dX4_copy_128 rfl rfl ?_
                exact af_reti K dX4_copy_130
              · refine af_aload_n K 109 dX4_copy_108 rfl rfl ?_
                refine af_iconst K 110 dX4_copy_109 rfl cs_iconst_0 ?_
                refine af_callV_i K (b := 0) (vs := [.int 0]) mv_X4_found lk_172 ((hp_at _ (Nat.le_of_ble_eq_true rfl)).trans rfl) rfl 113 dX4_copy_110 rfl rfl rfl rfl (A_X4_found _ _ 0 q11.2) rfl (fun q13 => ?_)
                exact af_reti K dX4_copy_113
          · refine af_aload_n K 74 dX4_copy_73 rfl rfl ?_
            refine af_iconst K 75 dX4_copy_74 rfl cs_iconst_2 ?_
            refine af_callV_i K (b := 0) (vs := [.int 2]) mv_X4_found lk_172 ((hp_at _ (Nat.le_of_ble_eq_true rfl)).trans rfl) rfl 78 dX4_copy_75 rfl rfl rfl rfl (A_X4_found _ _ 2 q6.2) rfl (fun q14 => ?_)
            exact af_reti K dX4_copy_78
        · refine af_aload_n K 47 dX4_copy_46 rfl rfl ?_
          refine af_iconst K 48 dX4_copy_47 rfl cs_iconst_5 ?_
          refine af_callV_i K (b := 0) (vs := [.int 5]) mv_X4_found lk_172 ((hp_at _ (Nat.le_of_ble_eq_true rfl)).trans rfl) rfl 51 dX4_copy_48 rfl rfl rfl rfl (A_X4_found _ _ 5 q6.2) rfl (fun q15 => ?_)
          exact af_reti K dX4_copy_51
    · refine af_aload_n K 19 dX4_copy_18 rfl rfl ?_
      refine af_iconst K 20 dX4_copy_19 rfl cs_iconst_0 ?_
      refine af_callV_i K (b := 0) (vs := [.int 0]) mv_X4_found lk_172 ((hp_at _ (Nat.le_of_ble_eq_true rfl)).trans rfl) rfl 23 dX4_copy_20 rfl rfl rfl rfl (A_X4_found _ _ 0 q3.2) rfl (fun q16 => ?_)
      exact af_reti K dX4_copy_23
def L_X4_load_54  : Nat → Int32 → Int32 → Int32 → fk_T → (Int32 → Int32 → Int32 → fk_T → Option (Int32 × fk_T)) → Option (Int32 × fk_T)
  | 0, _, _, _, _, _ => none
  | fu + 1, x1, x2, x3, σ, k => if x2 ≤ x3 then (k x1 x2 x3 σ) else ((F_X2_get x1 x3 σ).bind (fun q5 => (F_X4_within q5.1 0 99 q5.2).bind (fun q6 => if (fk_b q6.1) = 0 then (some (x3, q6.2)) else (fk_S q6.2 3 48 (16 + x3) q5.1 (fun s7 => fk_B (x3 + 1) (fun y8 => L_X4_load_54 fu x1 x2 y8 s7 k))))))
def F_X4_load (x1 : Int32) (σ : fk_T) : Option (Int32 × fk_T) := (F_X4_within x1 0 3 σ).bind (fun q1 => if (fk_b q1.1) = 0 then ((F_X4_found 0 q1.2).bind (fun q14 => some (q14.1, q14.2))) else ((F_X2_isMissing x1 q1.2).bind (fun q2 => if (fk_b q2.1) = 0 then (fk_A (q2.2.1 23) 4 x1 (fun y3 => fk_B (fk_min y3 (q2.2.1 1 6)) (fun y4 => L_X4_load_54 fk_N x1 y4 0 q2.2 (fun y10 y11 y12 s9 => some (y11, s9))))) else ((F_X4_found 5 q2.2).bind (fun q13 => some (q13.1, q13.2))))))
set_option maxRecDepth 100000 in
set_option maxHeartbeats 4000000 in
theorem W_X4_load_54 {cx : aw_C} (hN : aw_nL cx = 5) (K : aw_K cx cX4_load RX4 rX4_load)  : ∀ (fu : Nat) (x1 : Int32) (x2 : Int32) (x3 : Int32) (σ : fk_T) (k : Int32 → Int32 → Int32 → fk_T → Option (Int32 × fk_T)), (∀ (x1 : Int32) (x2 : Int32) (x3 : Int32) (σ : fk_T), af cx ρi 103 [some (.ref 0), some (.int x1), some (.int x2), some (.int x3), none] [] (hp σ) (k x1 x2 x3 σ)) → af cx ρi 54 [some (.ref 0), some (.int x1), some (.int x2), some (.int x3), none] [] (hp σ) (L_X4_load_54 fu x1 x2 x3 σ k) := by
  intro fu
  induction fu with
  | zero => intros; exact af_none
  | succ fu ih54 =>
    intro x1 x2 x3 σ k hk54
    rw [L_X4_load_54]
    refine af_iload_n K 55 dX4_load_54 rfl rfl ?_
    refine af_iload_n K 56 dX4_load_55 rfl rfl ?_
    refine af_icmp_ge K 59 103 dX4_load_56 rfl rfl (fun _ => ?_) (fun _ => ?_)
    · refine af_lm [true, true, true, true, false] rfl ?_
      exact hk54 _ _ _ _
    · refine af_aload_n K 60 dX4_load_59 rfl rfl ?_
      refine af_get K 63 dX4_load_60 rfl fl_X4_45 (Nat.le_of_ble_eq_true rfl) rfl rfl ?_
      refine af_iload_n K 64 dX4_load_63 rfl rfl ?_
      refine af_iload_n K 65 dX4_load_64 rfl rfl ?_
      refine af_callV_i K (b := 21) (vs := [.int x1, .int x3]) mv_X2_get lk_401 ((hp_at _ (Nat.le_of_ble_eq_true rfl)).trans rfl) rfl 68 dX4_load_65 rfl rfl rfl rfl (A_X2_get _ _ x1 x3 σ) rfl (fun q5 => ?_)
      refine af_istore K 70 [some (.ref 0), some (.int x1), some (.int x2), some (.int x3), some (.int q5.1)] dX4_load_68 rfl (by rw [hN]; exact Nat.le_of_ble_eq_true rfl) rfl ?_
      refine af_iload K 72 dX4_load_70 rfl rfl ?_
      refine af_iconst K 73 dX4_load_72 rfl cs_iconst_0 ?_
      refine af_bipush K 75 dX4_load_73 rfl cs_bipush_99 ?_
      refine af_callS_z K (vs := [.int q5.1, .int 0, .int 99]) ms_X4_within lk_169 78 dX4_load_75 rfl rfl rfl rfl (A_X4_within _ _ q5.1 0 99 q5.2) rfl (fun q6 => ?_)
      refine af_if_ne K 81 83 dX4_load_78 rfl rfl (fun _ => ?_) (fun _ => ?_)
      · refine af_aload_n K 84 dX4_load_83 rfl rfl ?_
        refine af_get K 87 dX4_load_84 rfl fl_X4_10 (Nat.le_of_ble_eq_true rfl) rfl rfl ?_
        refine af_get K 90 dX4_load_87 rfl fl_X4_87 (Nat.le_of_ble_eq_true rfl) rfl rfl ?_
        refine af_bipush K 92 dX4_load_90 rfl cs_bipush_16 ?_
        refine af_iload_n K 93 dX4_load_92 rfl rfl ?_
        refine af_iadd K 94 dX4_load_93 rfl ?_
        refine af_iload K 96 dX4_load_94 rfl rfl ?_
        refine af_iast K 97 dX4_load_96 rfl (Nat.le_of_ble_eq_true rfl) (fun _ _ => rfl) (fun s7 => ?_)
        refine af_iincB K 100 (fun yy => [some (.ref 0), some (.int x1), some (.int x2), some (.int yy), some (.int q5.1)]) dX4_load_97 rfl (by rw [hN]; exact Nat.le_of_ble_eq_true rfl) rfl cs_iconst_1 (fun _ => rfl) (fun y8 => ?_)
        refine af_goto K 54 dX4_load_100 rfl ?_
        refine af_lm [true, true, true, true, false] rfl ?_
        exact ih54 _ _ _ _ _ hk54
      · refine af_iload_n K 82 dX4_load_81 rfl rfl ?_
        exact af_reti K dX4_load_82
set_option maxRecDepth 100000 in
set_option maxHeartbeats 4000000 in
theorem A_X4_load (X : aw_X) (l : Launch) (x1 : Int32) (σ : fk_T) : af_G X l mX4_load [.ref 0, .int x1] (hp σ) ρi (F_X4_load x1 σ) := by
  refine af_mk (by decide) rfl (fun q _ => aw_oki q) [some (.ref 0), some (.int x1), none, none, none] rfl ?_
  rintro cx rfl rfl hN K
  replace hN : aw_nL cx = 5 := hN
  replace K : aw_K cx cX4_load RX4 rX4_load := K
  unfold F_X4_load
  refine af_iload_n K 1 dX4_load_0 rfl rfl ?_
  refine af_iconst K 2 dX4_load_1 rfl cs_iconst_0 ?_
  refine af_iconst K 3 dX4_load_2 rfl cs_iconst_3 ?_
  refine af_callS_z K (vs := [.int x1, .int 0, .int 3]) ms_X4_within lk_169 6 dX4_load_3 rfl rfl rfl rfl (A_X4_within _ _ x1 0 3 σ) rfl (fun q1 => ?_)
  refine af_if_ne K 9 15 dX4_load_6 rfl rfl (fun _ => ?_) (fun _ => ?_)
  · refine af_aload_n K 16 dX4_load_15 rfl rfl ?_
    refine af_get K 19 dX4_load_16 rfl fl_X4_45 (Nat.le_of_ble_eq_true rfl) rfl rfl ?_
    refine af_iload_n K 20 dX4_load_19 rfl rfl ?_
    refine af_callV_z K (b := 21) (vs := [.int x1]) mv_X2_isMissing lk_393 ((hp_at _ (Nat.le_of_ble_eq_true rfl)).trans rfl) rfl 23 dX4_load_20 rfl rfl rfl rfl (A_X2_isMissing _ _ x1 q1.2) rfl (fun q2 => ?_)
    refine af_if_eq K 26 32 dX4_load_23 rfl rfl (fun _ => ?_) (fun _ => ?_)
    · refine af_aload_n K 33 dX4_load_32 rfl rfl ?_
      refine af_get K 36 dX4_load_33 rfl fl_X4_45 (Nat.le_of_ble_eq_true rfl) rfl rfl ?_
      refine af_get K 39 dX4_load_36 rfl fl_X4_208 (Nat.le_of_ble_eq_true rfl) rfl rfl ?_
      refine af_iload_n K 40 dX4_load_39 rfl rfl ?_
      refine af_iald K 41 dX4_load_40 rfl (Nat.le_of_ble_eq_true rfl) rfl (fun y3 => ?_)
      refine af_aload_n K 42 dX4_load_41 rfl rfl ?_
      refine af_get K 45 dX4_load_42 rfl fl_X4_10 (Nat.le_of_ble_eq_true rfl) rfl rfl ?_
      refine af_get K 48 dX4_load_45 rfl fl_X4_142 (Nat.le_of_ble_eq_true rfl) rfl rfl ?_
      refine af_mmin K 51 dX4_load_48 rfl lk_661 rfl rfl rfl ?_
      refine af_Bi (fun y4 => ?_)
      refine af_istore_n K 52 [some (.ref 0), some (.int x1), some (.int y4), none, none] dX4_load_51 rfl (by rw [hN]; exact Nat.le_of_ble_eq_true rfl) rfl ?_
      refine af_iconst K 53 dX4_load_52 rfl cs_iconst_0 ?_
      refine af_istore_n K 54 [some (.ref 0), some (.int x1), some (.int y4), some (.int 0), none] dX4_load_53 rfl (by rw [hN]; exact Nat.le_of_ble_eq_true rfl) rfl ?_
      refine af_lm [true, true, true, true, false] rfl ?_
      refine W_X4_load_54 hN K  fk_N _ _ _ _ _ (fun y10 y11 y12 s9 => ?_)
      refine af_iload_n K 104 dX4_load_103 rfl rfl ?_
      exact af_reti K dX4_load_104
    · refine af_aload_n K 27 dX4_load_26 rfl rfl ?_
      refine af_iconst K 28 dX4_load_27 rfl cs_iconst_5 ?_
      refine af_callV_i K (b := 0) (vs := [.int 5]) mv_X4_found lk_172 ((hp_at _ (Nat.le_of_ble_eq_true rfl)).trans rfl) rfl 31 dX4_load_28 rfl rfl rfl rfl (A_X4_found _ _ 5 q2.2) rfl (fun q13 => ?_)
      exact af_reti K dX4_load_31
  · refine af_aload_n K 10 dX4_load_9 rfl rfl ?_
    refine af_iconst K 11 dX4_load_10 rfl cs_iconst_0 ?_
    refine af_callV_i K (b := 0) (vs := [.int 0]) mv_X4_found lk_172 ((hp_at _ (Nat.le_of_ble_eq_true rfl)).trans rfl) rfl 14 dX4_load_11 rfl rfl rfl rfl (A_X4_found _ _ 0 q1.2) rfl (fun q14 => ?_)
    exact af_reti K dX4_load_14
def L_X4_judge_34  : Nat → Int32 → Int32 → fk_T → (Int32 → Int32 → fk_T → Option (Int32 × fk_T)) → Option (Int32 × fk_T)
  | 0, _, _, _, _ => none
  | fu + 1, x1, x2, σ, k => fk_A (σ.1 23) 4 x1 (fun y3 => if y3 ≤ x2 then (k x1 x2 σ) else ((F_X0_has 1 x2 σ).bind (fun q4 => if (fk_b q4.1) = 0 then (some ((1 + x2), q4.2)) else (fk_A (q4.2.1 3) 48 (32 + x2) (fun y5 => (F_X2_get x1 x2 q4.2).bind (fun q6 => if y5 = q6.1 then (fk_B (x2 + 1) (fun y7 => L_X4_judge_34 fu x1 y7 q6.2 k)) else (some ((1 + x2), q6.2))))))))
def F_X4_judge (x1 : Int32) (σ : fk_T) : Option (Int32 × fk_T) := (F_X4_within x1 0 3 σ).bind (fun q1 => if (fk_b q1.1) = 0 then ((F_X4_found 0 q1.2).bind (fun q12 => some (q12.1, q12.2))) else ((F_X2_isMissing x1 q1.2).bind (fun q2 => if (fk_b q2.1) = 0 then (L_X4_judge_34 fk_N x1 0 q2.2 (fun y9 y10 s8 => some (0, s8))) else ((F_X4_found 5 q2.2).bind (fun q11 => some (q11.1, q11.2))))))
set_option maxRecDepth 100000 in
set_option maxHeartbeats 4000000 in
theorem W_X4_judge_34 {cx : aw_C} (hN : aw_nL cx = 3) (K : aw_K cx cX4_judge RX4 rX4_judge)  : ∀ (fu : Nat) (x1 : Int32) (x2 : Int32) (σ : fk_T) (k : Int32 → Int32 → fk_T → Option (Int32 × fk_T)), (∀ (x1 : Int32) (x2 : Int32) (σ : fk_T), af cx ρi 92 [some (.ref 0), some (.int x1), some (.int x2)] [] (hp σ) (k x1 x2 σ)) → af cx ρi 34 [some (.ref 0), some (.int x1), some (.int x2)] [] (hp σ) (L_X4_judge_34 fu x1 x2 σ k) := by
  intro fu
  induction fu with
  | zero => intros; exact af_none
  | succ fu ih34 =>
    intro x1 x2 σ k hk34
    rw [L_X4_judge_34]
    refine af_iload_n K 35 dX4_judge_34 rfl rfl ?_
    refine af_aload_n K 36 dX4_judge_35 rfl rfl ?_
    refine af_get K 39 dX4_judge_36 rfl fl_X4_45 (Nat.le_of_ble_eq_true rfl) rfl rfl ?_
    refine af_get K 42 dX4_judge_39 rfl fl_X4_208 (Nat.le_of_ble_eq_true rfl) rfl rfl ?_
    refine af_iload_n K 43 dX4_judge_42 rfl rfl ?_
    refine af_iald K 44 dX4_judge_43 rfl (Nat.le_of_ble_eq_true rfl) rfl (fun y3 => ?_)
    refine af_icmp_ge K 47 92 dX4_judge_44 rfl rfl (fun _ => ?_) (fun _ => ?_)
    · refine af_lm [true, true, true] rfl ?_
      exact hk34 _ _ _
    · refine af_aload_n K 48 dX4_judge_47 rfl rfl ?_
      refine af_get K 51 dX4_judge_48 rfl fl_X4_10 (Nat.le_of_ble_eq_true rfl) rfl rfl ?_
      refine af_iload_n K 52 dX4_judge_51 rfl rfl ?_
      refine af_callV_z K (b := 1) (vs := [.int x2]) mv_X0_has lk_201 ((hp_at _ (Nat.le_of_ble_eq_true rfl)).trans rfl) rfl 55 dX4_judge_52 rfl rfl rfl rfl (A_X0_has _ _ 1 (Or.inl rfl) x2 σ) rfl (fun q4 => ?_)
      refine af_if_eq K 58 82 dX4_judge_55 rfl rfl (fun _ => ?_) (fun _ => ?_)
      · refine af_iconst K 83 dX4_judge_82 rfl cs_iconst_1 ?_
        refine af_iload_n K 84 dX4_judge_83 rfl rfl ?_
        refine af_iadd K 85 dX4_judge_84 rfl ?_
        exact af_reti K dX4_judge_85
      · refine af_aload_n K 59 dX4_judge_58 rfl rfl ?_
        refine af_get K 62 dX4_judge_59 rfl fl_X4_10 (Nat.le_of_ble_eq_true rfl) rfl rfl ?_
        refine af_get K 65 dX4_judge_62 rfl fl_X4_87 (Nat.le_of_ble_eq_true rfl) rfl rfl ?_
        refine af_bipush K 67 dX4_judge_65 rfl cs_bipush_32 ?_
        refine af_iload_n K 68 dX4_judge_67 rfl rfl ?_
        refine af_iadd K 69 dX4_judge_68 rfl ?_
        refine af_iald K 70 dX4_judge_69 rfl (Nat.le_of_ble_eq_true rfl) rfl (fun y5 => ?_)
        refine af_aload_n K 71 dX4_judge_70 rfl rfl ?_
        refine af_get K 74 dX4_judge_71 rfl fl_X4_45 (Nat.le_of_ble_eq_true rfl) rfl rfl ?_
        refine af_iload_n K 75 dX4_judge_74 rfl rfl ?_
        refine af_iload_n K 76 dX4_judge_75 rfl rfl ?_
        refine af_callV_i K (b := 21) (vs := [.int x1, .int x2]) mv_X2_get lk_401 ((hp_at _ (Nat.le_of_ble_eq_true rfl)).trans rfl) rfl 79 dX4_judge_76 rfl rfl rfl rfl (A_X2_get _ _ x1 x2 q4.2) rfl (fun q6 => ?_)
        refine af_icmp_eq K 82 86 dX4_judge_79 rfl rfl (fun _ => ?_) (fun _ => ?_)
        · refine af_iincB K 89 (fun yy => [some (.ref 0), some (.int x1), some (.int yy)]) dX4_judge_86 rfl (by rw [hN]; exact Nat.le_of_ble_eq_true rfl) rfl cs_iconst_1 (fun _ => rfl) (fun y7 => ?_)
          refine af_goto K 34 dX4_judge_89 rfl ?_
          refine af_lm [true, true, true] rfl ?_
          exact ih34 _ _ _ _ hk34
        · refine af_iconst K 83 dX4_judge_82 rfl cs_iconst_1 ?_
          refine af_iload_n K 84 dX4_judge_83 rfl rfl ?_
          refine af_iadd K 85 dX4_judge_84 rfl ?_
          exact af_reti K dX4_judge_85
set_option maxRecDepth 100000 in
set_option maxHeartbeats 4000000 in
theorem A_X4_judge (X : aw_X) (l : Launch) (x1 : Int32) (σ : fk_T) : af_G X l mX4_judge [.ref 0, .int x1] (hp σ) ρi (F_X4_judge x1 σ) := by
  refine af_mk (by decide) rfl (fun q _ => aw_oki q) [some (.ref 0), some (.int x1), none] rfl ?_
  rintro cx rfl rfl hN K
  replace hN : aw_nL cx = 3 := hN
  replace K : aw_K cx cX4_judge RX4 rX4_judge := K
  unfold F_X4_judge
  refine af_iload_n K 1 dX4_judge_0 rfl rfl ?_
  refine af_iconst K 2 dX4_judge_1 rfl cs_iconst_0 ?_
  refine af_iconst K 3 dX4_judge_2 rfl cs_iconst_3 ?_
  refine af_callS_z K (vs := [.int x1, .int 0, .int 3]) ms_X4_within lk_169 6 dX4_judge_3 rfl rfl rfl rfl (A_X4_within _ _ x1 0 3 σ) rfl (fun q1 => ?_)
  refine af_if_ne K 9 15 dX4_judge_6 rfl rfl (fun _ => ?_) (fun _ => ?_)
  · refine af_aload_n K 16 dX4_judge_15 rfl rfl ?_
    refine af_get K 19 dX4_judge_16 rfl fl_X4_45 (Nat.le_of_ble_eq_true rfl) rfl rfl ?_
    refine af_iload_n K 20 dX4_judge_19 rfl rfl ?_
    refine af_callV_z K (b := 21) (vs := [.int x1]) mv_X2_isMissing lk_393 ((hp_at _ (Nat.le_of_ble_eq_true rfl)).trans rfl) rfl 23 dX4_judge_20 rfl rfl rfl rfl (A_X2_isMissing _ _ x1 q1.2) rfl (fun q2 => ?_)
    refine af_if_eq K 26 32 dX4_judge_23 rfl rfl (fun _ => ?_) (fun _ => ?_)
    · refine af_iconst K 33 dX4_judge_32 rfl cs_iconst_0 ?_
      refine af_istore_n K 34 [some (.ref 0), some (.int x1), some (.int 0)] dX4_judge_33 rfl (by rw [hN]; exact Nat.le_of_ble_eq_true rfl) rfl ?_
      refine af_lm [true, true, true] rfl ?_
      refine W_X4_judge_34 hN K  fk_N _ _ _ _ (fun y9 y10 s8 => ?_)
      refine af_iconst K 93 dX4_judge_92 rfl cs_iconst_0 ?_
      exact af_reti K dX4_judge_93
    · refine af_aload_n K 27 dX4_judge_26 rfl rfl ?_
      refine af_iconst K 28 dX4_judge_27 rfl cs_iconst_5 ?_
      refine af_callV_i K (b := 0) (vs := [.int 5]) mv_X4_found lk_172 ((hp_at _ (Nat.le_of_ble_eq_true rfl)).trans rfl) rfl 31 dX4_judge_28 rfl rfl rfl rfl (A_X4_found _ _ 5 q2.2) rfl (fun q11 => ?_)
      exact af_reti K dX4_judge_31
  · refine af_aload_n K 10 dX4_judge_9 rfl rfl ?_
    refine af_iconst K 11 dX4_judge_10 rfl cs_iconst_0 ?_
    refine af_callV_i K (b := 0) (vs := [.int 0]) mv_X4_found lk_172 ((hp_at _ (Nat.le_of_ble_eq_true rfl)).trans rfl) rfl 14 dX4_judge_11 rfl rfl rfl rfl (A_X4_found _ _ 0 q1.2) rfl (fun q12 => ?_)
    exact af_reti K dX4_judge_14
def F_X4_image  (σ : fk_T) : Option (Int32 × fk_T) := (F_X0_become 11 1 σ).bind (fun q1 => fk_B (fk_w q1 0 (upd (q1.1 0) 3 1)) (fun s2 => some (1, s2)))
set_option maxRecDepth 100000 in
set_option maxHeartbeats 4000000 in
theorem A_X4_image (X : aw_X) (l : Launch)  (σ : fk_T) : af_G X l mX4_image [.ref 0] (hp σ) ρi (F_X4_image  σ) := by
  refine af_mk (by decide) rfl (fun q _ => aw_oki q) [some (.ref 0)] rfl ?_
  rintro cx rfl rfl hN K
  replace hN : aw_nL cx = 1 := hN
  replace K : aw_K cx cX4_image RX4 rX4_image := K
  unfold F_X4_image
  refine af_aload_n K 1 dX4_image_0 rfl rfl ?_
  refine af_get K 4 dX4_image_1 rfl fl_X4_19 (Nat.le_of_ble_eq_true rfl) rfl rfl ?_
  refine af_aload_n K 5 dX4_image_4 rfl rfl ?_
  refine af_get K 8 dX4_image_5 rfl fl_X4_10 (Nat.le_of_ble_eq_true rfl) rfl rfl ?_
  refine af_callV_v K (b := 11) (vs := [.ref 1]) mv_X0_become lk_328 ((hp_at _ (Nat.le_of_ble_eq_true rfl)).trans rfl) rfl 11 dX4_image_8 rfl rfl rfl rfl (A_X0_become _ _ 11 (Or.inr (Or.inr rfl)) 1 (Or.inl rfl) σ) rfl (fun q1 => ?_)
  refine af_aload_n K 12 dX4_image_11 rfl rfl ?_
  refine af_iconst K 13 dX4_image_12 rfl cs_iconst_1 ?_
  refine af_putZ K (b := true) rfl 16 dX4_image_13 rfl fp_X4_22 (Nat.le_of_ble_eq_true rfl) rfl (Nat.le_of_ble_eq_true rfl) rfl (fun s2 => ?_)
  refine af_iconst K 17 dX4_image_16 rfl cs_iconst_1 ?_
  exact af_reti K dX4_image_17
def F_X4_undo  (σ : fk_T) : Option (Int32 × fk_T) := if (σ.1 0 3) = 0 then ((F_X4_found 3 σ).bind (fun q2 => some (q2.1, q2.2))) else ((F_X0_become 1 11 σ).bind (fun q1 => some ((q1.1 1 4), q1)))
set_option maxRecDepth 100000 in
set_option maxHeartbeats 4000000 in
theorem A_X4_undo (X : aw_X) (l : Launch)  (σ : fk_T) : af_G X l mX4_undo [.ref 0] (hp σ) ρi (F_X4_undo  σ) := by
  refine af_mk (by decide) rfl (fun q _ => aw_oki q) [some (.ref 0)] rfl ?_
  rintro cx rfl rfl hN K
  replace hN : aw_nL cx = 1 := hN
  replace K : aw_K cx cX4_undo RX4 rX4_undo := K
  unfold F_X4_undo
  refine af_aload_n K 1 dX4_undo_0 rfl rfl ?_
  refine af_get K 4 dX4_undo_1 rfl fl_X4_22 (Nat.le_of_ble_eq_true rfl) rfl rfl ?_
  refine af_if_ne K 7 13 dX4_undo_4 rfl rfl (fun _ => ?_) (fun _ => ?_)
  · refine af_aload_n K 14 dX4_undo_13 rfl rfl ?_
    refine af_get K 17 dX4_undo_14 rfl fl_X4_10 (Nat.le_of_ble_eq_true rfl) rfl rfl ?_
    refine af_aload_n K 18 dX4_undo_17 rfl rfl ?_
    refine af_get K 21 dX4_undo_18 rfl fl_X4_19 (Nat.le_of_ble_eq_true rfl) rfl rfl ?_
    refine af_callV_v K (b := 1) (vs := [.ref 11]) mv_X0_become lk_328 ((hp_at _ (Nat.le_of_ble_eq_true rfl)).trans rfl) rfl 24 dX4_undo_21 rfl rfl rfl rfl (A_X0_become _ _ 1 (Or.inl rfl) 11 (Or.inr (Or.inr rfl)) σ) rfl (fun q1 => ?_)
    refine af_aload_n K 25 dX4_undo_24 rfl rfl ?_
    refine af_get K 28 dX4_undo_25 rfl fl_X4_10 (Nat.le_of_ble_eq_true rfl) rfl rfl ?_
    refine af_get K 31 dX4_undo_28 rfl fl_X4_111 (Nat.le_of_ble_eq_true rfl) rfl rfl ?_
    exact af_reti K dX4_undo_31
  · refine af_aload_n K 8 dX4_undo_7 rfl rfl ?_
    refine af_iconst K 9 dX4_undo_8 rfl cs_iconst_3 ?_
    refine af_callV_i K (b := 0) (vs := [.int 3]) mv_X4_found lk_172 ((hp_at _ (Nat.le_of_ble_eq_true rfl)).trans rfl) rfl 12 dX4_undo_9 rfl rfl rfl rfl (A_X4_found _ _ 3 σ) rfl (fun q2 => ?_)
    exact af_reti K dX4_undo_12
def F_X4_tear  (σ : fk_T) : Option (Int32 × fk_T) := if (σ.1 0 3) = 0 then (fk_B (fk_w σ 0 (upd (σ.1 0) 3 0)) (fun s1 => some (0, s1))) else (fk_B (fk_w σ 0 (upd (σ.1 0) 3 0)) (fun s2 => some (1, s2)))
set_option maxRecDepth 100000 in
set_option maxHeartbeats 4000000 in
theorem A_X4_tear (X : aw_X) (l : Launch)  (σ : fk_T) : af_G X l mX4_tear [.ref 0] (hp σ) ρi (F_X4_tear  σ) := by
  refine af_mk (by decide) rfl (fun q _ => aw_oki q) [some (.ref 0), none] rfl ?_
  rintro cx rfl rfl hN K
  replace hN : aw_nL cx = 2 := hN
  replace K : aw_K cx cX4_tear RX4 rX4_tear := K
  unfold F_X4_tear
  refine af_aload_n K 1 dX4_tear_0 rfl rfl ?_
  refine af_get K 4 dX4_tear_1 rfl fl_X4_22 (Nat.le_of_ble_eq_true rfl) rfl rfl ?_
  refine af_if_eq K 7 11 dX4_tear_4 rfl rfl (fun _ => ?_) (fun _ => ?_)
  · refine af_iconst K 12 dX4_tear_11 rfl cs_iconst_0 ?_
    refine af_istore_n K 13 [some (.ref 0), some (.int 0)] dX4_tear_12 rfl (by rw [hN]; exact Nat.le_of_ble_eq_true rfl) rfl ?_
    refine af_aload_n K 14 dX4_tear_13 rfl rfl ?_
    refine af_iconst K 15 dX4_tear_14 rfl cs_iconst_0 ?_
    refine af_putZ K (b := false) rfl 18 dX4_tear_15 rfl fp_X4_22 (Nat.le_of_ble_eq_true rfl) rfl (Nat.le_of_ble_eq_true rfl) rfl (fun s1 => ?_)
    refine af_iload_n K 19 dX4_tear_18 rfl rfl ?_
    exact af_reti K dX4_tear_19
  · refine af_iconst K 8 dX4_tear_7 rfl cs_iconst_1 ?_
    refine af_goto K 12 dX4_tear_8 rfl ?_
    refine af_istore_n K 13 [some (.ref 0), some (.int 1)] dX4_tear_12 rfl (by rw [hN]; exact Nat.le_of_ble_eq_true rfl) rfl ?_
    refine af_aload_n K 14 dX4_tear_13 rfl rfl ?_
    refine af_iconst K 15 dX4_tear_14 rfl cs_iconst_0 ?_
    refine af_putZ K (b := false) rfl 18 dX4_tear_15 rfl fp_X4_22 (Nat.le_of_ble_eq_true rfl) rfl (Nat.le_of_ble_eq_true rfl) rfl (fun s2 => ?_)
    refine af_iload_n K 19 dX4_tear_18 rfl rfl ?_
    exact af_reti K dX4_tear_19
def F_X4_count (x1 : Int32) (σ : fk_T) : Option (Int32 × fk_T) := if x1 = 0 then (some ((σ.1 1 4), σ)) else (if x1 = 1 then (some ((σ.1 1 6), σ)) else (if x1 = 2 then (some ((σ.1 1 1), σ)) else (if x1 = 3 then (some ((σ.1 1 2), σ)) else (if x1 = 4 then ((F_X0_sumOf 1 40 σ).bind (fun q1 => some (q1.1, q1.2))) else (if x1 = 5 then (some ((σ.1 16 1), σ)) else (if x1 = 6 then (some ((σ.1 1 5), σ)) else (if x1 = 7 then ((F_X0_spotsHeld 1 σ).bind (fun q2 => some (q2.1, q2.2))) else ((F_X4_found 0 σ).bind (fun q3 => some (q3.1, q3.2))))))))))
set_option maxRecDepth 100000 in
set_option maxHeartbeats 4000000 in
theorem A_X4_count (X : aw_X) (l : Launch) (x1 : Int32) (σ : fk_T) : af_G X l mX4_count [.ref 0, .int x1] (hp σ) ρi (F_X4_count x1 σ) := by
  refine af_mk (by decide) rfl (fun q _ => aw_oki q) [some (.ref 0), some (.int x1)] rfl ?_
  rintro cx rfl rfl hN K
  replace hN : aw_nL cx = 2 := hN
  replace K : aw_K cx cX4_count RX4 rX4_count := K
  unfold F_X4_count
  refine af_iload_n K 1 dX4_count_0 rfl rfl ?_
  refine af_ite (fun hx => ?_) (fun hx0 => ?_)
  · refine af_tin K 48 0 hx dX4_count_1 (by decide) (by decide) rfl rfl ?_
    refine af_aload_n K 49 dX4_count_48 rfl rfl ?_
    refine af_get K 52 dX4_count_49 rfl fl_X4_10 (Nat.le_of_ble_eq_true rfl) rfl rfl ?_
    refine af_get K 55 dX4_count_52 rfl fl_X4_111 (Nat.le_of_ble_eq_true rfl) rfl rfl ?_
    exact af_reti K dX4_count_55
  refine af_ite (fun hx => ?_) (fun hx1 => ?_)
  · refine af_tin K 56 1 hx dX4_count_1 (by decide) (by decide) rfl rfl ?_
    refine af_aload_n K 57 dX4_count_56 rfl rfl ?_
    refine af_get K 60 dX4_count_57 rfl fl_X4_10 (Nat.le_of_ble_eq_true rfl) rfl rfl ?_
    refine af_get K 63 dX4_count_60 rfl fl_X4_142 (Nat.le_of_ble_eq_true rfl) rfl rfl ?_
    exact af_reti K dX4_count_63
  refine af_ite (fun hx => ?_) (fun hx2 => ?_)
  · refine af_tin K 64 2 hx dX4_count_1 (by decide) (by decide) rfl rfl ?_
    refine af_aload_n K 65 dX4_count_64 rfl rfl ?_
    refine af_get K 68 dX4_count_65 rfl fl_X4_10 (Nat.le_of_ble_eq_true rfl) rfl rfl ?_
    refine af_get K 71 dX4_count_68 rfl fl_X4_119 (Nat.le_of_ble_eq_true rfl) rfl rfl ?_
    exact af_reti K dX4_count_71
  refine af_ite (fun hx => ?_) (fun hx3 => ?_)
  · refine af_tin K 72 3 hx dX4_count_1 (by decide) (by decide) rfl rfl ?_
    refine af_aload_n K 73 dX4_count_72 rfl rfl ?_
    refine af_get K 76 dX4_count_73 rfl fl_X4_10 (Nat.le_of_ble_eq_true rfl) rfl rfl ?_
    refine af_get K 79 dX4_count_76 rfl fl_X4_122 (Nat.le_of_ble_eq_true rfl) rfl rfl ?_
    exact af_reti K dX4_count_79
  refine af_ite (fun hx => ?_) (fun hx4 => ?_)
  · refine af_tin K 80 4 hx dX4_count_1 (by decide) (by decide) rfl rfl ?_
    refine af_aload_n K 81 dX4_count_80 rfl rfl ?_
    refine af_get K 84 dX4_count_81 rfl fl_X4_10 (Nat.le_of_ble_eq_true rfl) rfl rfl ?_
    refine af_bipush K 86 dX4_count_84 rfl cs_bipush_40 ?_
    refine af_callV_i K (b := 1) (vs := [.int 40]) mv_X0_sumOf lk_312 ((hp_at _ (Nat.le_of_ble_eq_true rfl)).trans rfl) rfl 89 dX4_count_86 rfl rfl rfl rfl (A_X0_sumOf _ _ 1 (Or.inl rfl) 40 σ) rfl (fun q1 => ?_)
    exact af_reti K dX4_count_89
  refine af_ite (fun hx => ?_) (fun hx5 => ?_)
  · refine af_tin K 90 5 hx dX4_count_1 (by decide) (by decide) rfl rfl ?_
    refine af_aload_n K 91 dX4_count_90 rfl rfl ?_
    refine af_get K 94 dX4_count_91 rfl fl_X4_29 (Nat.le_of_ble_eq_true rfl) rfl rfl ?_
    refine af_get K 97 dX4_count_94 rfl fl_X4_181 (Nat.le_of_ble_eq_true rfl) rfl rfl ?_
    exact af_reti K dX4_count_97
  refine af_ite (fun hx => ?_) (fun hx6 => ?_)
  · refine af_tin K 98 6 hx dX4_count_1 (by decide) (by decide) rfl rfl ?_
    refine af_aload_n K 99 dX4_count_98 rfl rfl ?_
    refine af_get K 102 dX4_count_99 rfl fl_X4_10 (Nat.le_of_ble_eq_true rfl) rfl rfl ?_
    refine af_get K 105 dX4_count_102 rfl fl_X4_178 (Nat.le_of_ble_eq_true rfl) rfl rfl ?_
    exact af_reti K dX4_count_105
  refine af_ite (fun hx => ?_) (fun hx7 => ?_)
  · refine af_tin K 106 7 hx dX4_count_1 (by decide) (by decide) rfl rfl ?_
    refine af_aload_n K 107 dX4_count_106 rfl rfl ?_
    refine af_get K 110 dX4_count_107 rfl fl_X4_10 (Nat.le_of_ble_eq_true rfl) rfl rfl ?_
    refine af_callV_i K (b := 1) (vs := []) mv_X0_spotsHeld lk_682 ((hp_at _ (Nat.le_of_ble_eq_true rfl)).trans rfl) rfl 113 dX4_count_110 rfl rfl rfl rfl (A_X0_spotsHeld _ _ 1 (Or.inl rfl) σ) rfl (fun q2 => ?_)
    exact af_reti K dX4_count_113
  refine af_tout K 114 dX4_count_1 (tsw_0_7 hx0 hx1 hx2 hx3 hx4 hx5 hx6 hx7) rfl ?_
  refine af_aload_n K 115 dX4_count_114 rfl rfl ?_
  refine af_iconst K 116 dX4_count_115 rfl cs_iconst_0 ?_
  refine af_callV_i K (b := 0) (vs := [.int 0]) mv_X4_found lk_172 ((hp_at _ (Nat.le_of_ble_eq_true rfl)).trans rfl) rfl 119 dX4_count_116 rfl rfl rfl rfl (A_X4_found _ _ 0 σ) rfl (fun q3 => ?_)
  exact af_reti K dX4_count_119
def L_X4_status_31  : Nat → Int32 → Int32 → fk_T → (Int32 → Int32 → fk_T → Option (Int32 × fk_T)) → Option (Int32 × fk_T)
  | 0, _, _, _, _ => none
  | fu + 1, x2, x3, σ, k => if 7 ≤ x3 then (k x2 x3 σ) else (fk_A (σ.1 25) 7 x3 (fun y2 => fk_B (x2 + y2) (fun y3 => fk_B (x3 + 1) (fun y4 => L_X4_status_31 fu y3 y4 σ k))))
def F_X4_status (x1 : Int32) (σ : fk_T) : Option (Int32 × fk_T) := (F_X4_within x1 (-1) 6 σ).bind (fun q1 => if (fk_b q1.1) = 0 then ((F_X4_found 0 q1.2).bind (fun q9 => some (q9.1, q9.2))) else (if x1 < 0 then (L_X4_status_31 fk_N 0 0 q1.2 (fun y6 y7 s5 => some (y6, s5))) else (fk_A (q1.2.1 25) 7 x1 (fun y8 => some (y8, q1.2)))))
set_option maxRecDepth 100000 in
set_option maxHeartbeats 4000000 in
theorem W_X4_status_31 {cx : aw_C} (hN : aw_nL cx = 4) (K : aw_K cx cX4_status RX4 rX4_status)  : ∀ (fu : Nat) (x2 : Int32) (x3 : Int32) (σ : fk_T) (k : Int32 → Int32 → fk_T → Option (Int32 × fk_T)), (∀ (x2 : Int32) (x3 : Int32) (σ : fk_T), af cx ρi 52 [some (.ref 0), none, some (.int x2), some (.int x3)] [] (hp σ) (k x2 x3 σ)) → af cx ρi 31 [some (.ref 0), none, some (.int x2), some (.int x3)] [] (hp σ) (L_X4_status_31 fu x2 x3 σ k) := by
  intro fu
  induction fu with
  | zero => intros; exact af_none
  | succ fu ih31 =>
    intro x2 x3 σ k hk31
    rw [L_X4_status_31]
    refine af_iload_n K 32 dX4_status_31 rfl rfl ?_
    refine af_bipush K 34 dX4_status_32 rfl cs_bipush_7 ?_
    refine af_icmp_ge K 37 52 dX4_status_34 rfl rfl (fun _ => ?_) (fun _ => ?_)
    · refine af_lm [true, false, true, true] rfl ?_
      exact hk31 _ _ _
    · refine af_iload_n K 38 dX4_status_37 rfl rfl ?_
      refine af_aload_n K 39 dX4_status_38 rfl rfl ?_
      refine af_get K 42 dX4_status_39 rfl fl_X4_49 (Nat.le_of_ble_eq_true rfl) rfl rfl ?_
      refine af_iload_n K 43 dX4_status_42 rfl rfl ?_
      refine af_iald K 44 dX4_status_43 rfl (Nat.le_of_ble_eq_true rfl) rfl (fun y2 => ?_)
      refine af_iadd K 45 dX4_status_44 rfl ?_
      refine af_Bi (fun y3 => ?_)
      refine af_istore_n K 46 [some (.ref 0), none, some (.int y3), some (.int x3)] dX4_status_45 rfl (by rw [hN]; exact Nat.le_of_ble_eq_true rfl) rfl ?_
      refine af_iincB K 49 (fun yy => [some (.ref 0), none, some (.int y3), some (.int yy)]) dX4_status_46 rfl (by rw [hN]; exact Nat.le_of_ble_eq_true rfl) rfl cs_iconst_1 (fun _ => rfl) (fun y4 => ?_)
      refine af_goto K 31 dX4_status_49 rfl ?_
      refine af_lm [true, false, true, true] rfl ?_
      exact ih31 _ _ _ _ hk31
set_option maxRecDepth 100000 in
set_option maxHeartbeats 4000000 in
theorem A_X4_status (X : aw_X) (l : Launch) (x1 : Int32) (σ : fk_T) : af_G X l mX4_status [.ref 0, .int x1] (hp σ) ρi (F_X4_status x1 σ) := by
  refine af_mk (by decide) rfl (fun q _ => aw_oki q) [some (.ref 0), some (.int x1), none, none] rfl ?_
  rintro cx rfl rfl hN K
  replace hN : aw_nL cx = 4 := hN
  replace K : aw_K cx cX4_status RX4 rX4_status := K
  unfold F_X4_status
  refine af_iload_n K 1 dX4_status_0 rfl rfl ?_
  refine af_iconst K 2 dX4_status_1 rfl cs_iconst_m1 ?_
  refine af_bipush K 4 dX4_status_2 rfl cs_bipush_6 ?_
  refine af_callS_z K (vs := [.int x1, .int (-1), .int 6]) ms_X4_within lk_169 7 dX4_status_4 rfl rfl rfl rfl (A_X4_within _ _ x1 (-1) 6 σ) rfl (fun q1 => ?_)
  refine af_if_ne K 10 16 dX4_status_7 rfl rfl (fun _ => ?_) (fun _ => ?_)
  · refine af_iload_n K 17 dX4_status_16 rfl rfl ?_
    refine af_if_lt K 20 27 dX4_status_17 rfl rfl (fun _ => ?_) (fun _ => ?_)
    · refine af_iconst K 28 dX4_status_27 rfl cs_iconst_0 ?_
      refine af_istore_n K 29 [some (.ref 0), some (.int x1), some (.int 0), none] dX4_status_28 rfl (by rw [hN]; exact Nat.le_of_ble_eq_true rfl) rfl ?_
      refine af_iconst K 30 dX4_status_29 rfl cs_iconst_0 ?_
      refine af_istore_n K 31 [some (.ref 0), some (.int x1), some (.int 0), some (.int 0)] dX4_status_30 rfl (by rw [hN]; exact Nat.le_of_ble_eq_true rfl) rfl ?_
      refine af_lm [true, false, true, true] rfl ?_
      refine W_X4_status_31 hN K  fk_N _ _ _ _ (fun y6 y7 s5 => ?_)
      refine af_iload_n K 53 dX4_status_52 rfl rfl ?_
      exact af_reti K dX4_status_53
    · refine af_aload_n K 21 dX4_status_20 rfl rfl ?_
      refine af_get K 24 dX4_status_21 rfl fl_X4_49 (Nat.le_of_ble_eq_true rfl) rfl rfl ?_
      refine af_iload_n K 25 dX4_status_24 rfl rfl ?_
      refine af_iald K 26 dX4_status_25 rfl (Nat.le_of_ble_eq_true rfl) rfl (fun y8 => ?_)
      exact af_reti K dX4_status_26
  · refine af_aload_n K 11 dX4_status_10 rfl rfl ?_
    refine af_iconst K 12 dX4_status_11 rfl cs_iconst_0 ?_
    refine af_callV_i K (b := 0) (vs := [.int 0]) mv_X4_found lk_172 ((hp_at _ (Nat.le_of_ble_eq_true rfl)).trans rfl) rfl 15 dX4_status_12 rfl rfl rfl rfl (A_X4_found _ _ 0 q1.2) rfl (fun q9 => ?_)
    exact af_reti K dX4_status_15
