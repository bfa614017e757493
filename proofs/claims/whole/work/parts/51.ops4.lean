/-! ===== count, now ===== -/
theorem fB {α β : Type} (x : α) (f : α → Option β) : fk_B x f = f x := rfl
def heldK (G : Nat → Int32) : Nat → Nat → Int32 → Int32
  | 0, _, s => s
  | m + 1, i, s => heldK G m (i + 1) (if G (125 + i) = 0 then s else s + 1)
theorem heldK_s (G : Nat → Int32) (m i : Nat) (s : Int32) : heldK G (m + 1) i s = heldK G m (i + 1) (if G (125 + i) = 0 then s else s + 1) := rfl
theorem sp_m1 {x g : Int32} (h : x + 1 = g) : x = -1 ↔ g = 0 := by
  constructor
  · intro z; rw [← h, z]; rfl
  · intro z
    have h2 : x + 1 - 1 = 0 - 1 := by rw [h, z]
    rw [Int32.add_sub_cancel] at h2
    rw [h2]; rfl
theorem C_heldL {c : Nat} {σ : fk_T} {G : Nat → Int32} (h : CP c σ G) {k : Int32 → Int32 → fk_T → Option (Int32 × fk_T)} : ∀ (m i fu : Nat) (s : Int32), i + m = 10 → m < fu → L_X0_spotsHeld_4 c fu s (nI i) σ k = k (heldK G m i s) (nI 10) σ
  | m, i, 0, s, _, hf => by omega
  | 0, i, fu + 1, s, hi, _ => by
    have : i = 10 := by omega
    subst this
    rw [L_X0_spotsHeld_4, if_pos (by decide)]
    rfl
  | m + 1, i, fu + 1, s, hi, hf => by
    have h4 := sp_m1 (h.2.2.2.2 i (by omega))
    rw [L_X0_spotsHeld_4, if_neg (by rw [i_le, nI_tI (by omega), l10]; omega), fA rfl (by omega) (by omega)]
    simp only [fk_B]
    rw [nI_1, C_heldL h m (i + 1) fu _ (by omega) (by omega), C_heldL h m (i + 1) fu _ (by omega) (by omega)]
    rw [heldK_s]
    by_cases z : G (125 + i) = 0
    · rw [if_pos (h4.mpr z), if_pos z]
    · rw [if_neg (fun y => z (h4.mp y)), if_neg z]
theorem M_heldL {σ : fk_T} (hw : WF (σ.1 27)) {k : Int32 → Int32 → fk_T → Option (Int32 × fk_T)} : ∀ (m i fu : Nat) (s : Int32), i + m = 10 → m < fu → L_X5_holding_4 fu s (nI i) σ k = k (heldK (σ.1 27) m i s) (nI 10) σ
  | m, i, 0, s, _, hf => by omega
  | 0, i, fu + 1, s, hi, _ => by
    have : i = 10 := by omega
    subst this
    rw [L_X5_holding_4, if_pos (by decide)]
    rfl
  | m + 1, i, fu + 1, s, hi, hf => by
    have h4 := hw.2 i (by omega)
    rw [L_X5_holding_4, if_neg (by rw [i_le, nI_tI (by omega), l10]; omega), fA (j := 125 + i) (nl 125 i) (by omega) (by omega)]
    simp only [fk_B]
    rw [nI_1, M_heldL hw m (i + 1) fu _ (by omega) (by omega), M_heldL hw m (i + 1) fu _ (by omega) (by omega)]
    rw [heldK_s]
    by_cases z : σ.1 27 (125 + i) = 0
    · rw [if_pos (by rw [z]; decide), if_pos z, Int32.add_zero]
    · rw [if_neg (fun y => z (by rw [i_le, li0] at y; rw [i_eq, li0]; omega)), if_neg z]
theorem C_spotsHeld {c : Nat} {σ : fk_T} {G : Nat → Int32} (h : CP c σ G) : F_X0_spotsHeld c σ = some (heldK G 10 0 0, σ) := by
  unfold F_X0_spotsHeld
  rw [show L_X0_spotsHeld_4 c fk_N 0 0 σ (fun y6 y7 s5 => some (y6, s5)) = L_X0_spotsHeld_4 c fk_N 0 (nI 0) σ (fun y6 y7 s5 => some (y6, s5)) from rfl, C_heldL h 10 0 fk_N 0 (by omega) (by unfold fk_N; omega)]
theorem M_holding {σ : fk_T} (hw : WF (σ.1 27)) : F_X5_holding σ = some (heldK (σ.1 27) 10 0 0, σ) := by
  unfold F_X5_holding
  rw [show L_X5_holding_4 fk_N 0 0 σ (fun y7 y8 s6 => some (y7, s6)) = L_X5_holding_4 fk_N 0 (nI 0) σ (fun y7 y8 s6 => some (y7, s6)) from rfl, M_heldL hw 10 0 fk_N 0 (by omega) (by unfold fk_N; omega)]
theorem rdG {α : Type} {σ : fk_T} {f : Int32 → Option α} (j : Nat) (h : j < 135) : fk_A (σ.1 27) 135 (OfNat.ofNat j) f = f (σ.1 27 j) := fA (nlit j) h (by omega)
/-! the widest two -/
def faG (G : Nat → Int32) (a : Nat) : Nat → Nat → Int32 → Int32
  | 0, _, w => w
  | m + 1, b, w => faG G a m (b + 1) (if w < 0 then nI (8 * a + b) else if G (61 + (8 * a + b)) ≤ G (61 + w.toNatClampNeg) then w else nI (8 * a + b))
def fbG (G : Nat → Int32) : Nat → Nat → Int32 → Int32
  | 0, _, w => w
  | m + 1, a, w => fbG G m (a + 1) (faG G a m (a + 1) w)
theorem fbG_s (G : Nat → Int32) (m a : Nat) (w : Int32) : fbG G (m + 1) a w = fbG G m (a + 1) (faG G a m (a + 1) w) := rfl
def FW (w : Int32) : Prop := w = -1 ∨ ∃ q, q < 64 ∧ w = nI q
def FV (G : Nat → Int32) (v w : Int32) : Prop := (v = -1 ∧ w = -1) ∨ ∃ q, q < 64 ∧ w = nI q ∧ v = G (61 + q)
theorem C_widI {c n a : Nat} (hn : n ≤ 8) (ha : a < 8) {σ : fk_T} {G : Nat → Int32} (h : CP c σ G) (hw : WF G) (hG : G 0 = nI n) {k : Int32 → Int32 → Int32 → Int32 → fk_T → Option (Int32 × fk_T)} : ∀ (m b fu : Nat) (v w : Int32), FV G v w → a < b → b + m = n → m < fu → ∃ v', FV G v' (faG G a m b w) ∧ L_X0_widestTwo_19 c fu v w (nI a) (nI b) σ k = k v' (faG G a m b w) (nI a) (nI n) σ
  | m, b, 0, v, w, _, _, _, hf => by omega
  | 0, b, fu + 1, v, w, hv, hab, hi, _ => by
    have : b = n := by omega
    subst this
    refine ⟨v, hv, ?_⟩
    rw [L_X0_widestTwo_19, h.c6, hG, if_pos (by rw [i_le]; omega)]
    rfl
  | m + 1, b, fu + 1, v, w, hv, hab, hi, hf => by
    have hb8 : b < 8 := by omega
    have hg : gbt a b = 8 * a + b := by unfold gbt; rw [if_neg (by omega)]
    have hl := hw.lev (k := 61 + (8 * a + b)) (by omega) (by omega)
    have e1 : L_X0_widestTwo_19 c (fu + 1) v w (nI a) (nI b) σ k = if G (61 + (8 * a + b)) ≤ v then L_X0_widestTwo_19 c fu v w (nI a) (nI (b + 1)) σ k else L_X0_widestTwo_19 c fu (G (61 + (8 * a + b))) (nI (8 * a + b)) (nI a) (nI (b + 1)) σ k := by
      rw [L_X0_widestTwo_19, h.c6, hG, if_neg (by rw [i_le, nI_tI (by omega), nI_tI (by omega)]; omega), C_riftOf h rfl rfl ha hb8, bS]
      dsimp only
      rw [C_riftOf h rfl rfl ha hb8, bS, hg]
      simp only [fk_B]
      rw [nI_1, nm, nI_add]
    rw [e1]
    unfold faG
    have hF : FV G (G (61 + (8 * a + b))) (nI (8 * a + b)) := Or.inr ⟨8 * a + b, by omega, rfl, rfl⟩
    rcases hv with ⟨rfl, rfl⟩ | ⟨q, hq, rfl, rfl⟩
    · rw [if_neg (show ¬ G (61 + (8 * a + b)) ≤ -1 by rw [i_le, lim1]; omega), if_pos (show (-1 : Int32) < 0 by decide)]
      exact C_widI hn ha h hw hG m (b + 1) fu _ _ hF (by omega) (by omega) (by omega)
    · rw [if_neg (show ¬ nI q < 0 by rw [i_lt, nI_tI (by omega), li0]; omega), nI_cl (by omega)]
      by_cases z : G (61 + (8 * a + b)) ≤ G (61 + q)
      · rw [if_pos z, if_pos z]
        exact C_widI hn ha h hw hG m (b + 1) fu _ _ (Or.inr ⟨q, hq, rfl, rfl⟩) (by omega) (by omega) (by omega)
      · rw [if_neg z, if_neg z]
        exact C_widI hn ha h hw hG m (b + 1) fu _ _ hF (by omega) (by omega) (by omega)
theorem C_widO {c n : Nat} (hn : n ≤ 8) {σ : fk_T} {G : Nat → Int32} (h : CP c σ G) (hw : WF G) (hG : G 0 = nI n) {k : Int32 → Int32 → Int32 → fk_T → Option (Int32 × fk_T)} : ∀ (m a fu : Nat) (v w : Int32), FV G v w → a + m = n → m < fu → ∃ v', FV G v' (fbG G m a w) ∧ L_X0_widestTwo_6 c fu v w (nI a) σ k = k v' (fbG G m a w) (nI n) σ
  | m, a, 0, v, w, _, _, hf => by omega
  | 0, a, fu + 1, v, w, hv, hi, _ => by
    have : a = n := by omega
    subst this
    refine ⟨v, hv, ?_⟩
    rw [L_X0_widestTwo_6, h.c6, hG, if_pos (by rw [i_le]; omega)]
    rfl
  | m + 1, a, fu + 1, v, w, hv, hi, hf => by
    obtain ⟨v1, hv1, e1⟩ := C_widI hn (by omega : a < 8) h hw hG (k := fun y8 y9 y10 y11 s7 => fk_B (y10 + 1) (fun y12 => L_X0_widestTwo_6 c fu y8 y9 y12 s7 k)) m (a + 1) fk_N v w hv (by omega) (by omega) (by unfold fk_N; omega)
    obtain ⟨v2, hv2, e2⟩ := C_widO hn h hw hG (k := k) m (a + 1) fu v1 (faG G a m (a + 1) w) hv1 (by omega) (by omega)
    refine ⟨v2, hv2, ?_⟩
    rw [L_X0_widestTwo_6, h.c6, hG, if_neg (by rw [i_le, nI_tI (by omega), nI_tI (by omega)]; omega)]
    rw [fB, nI_1]
    refine e1.trans ?_
    rw [fB, nI_1, e2, fbG_s]
theorem C_widest {c : Nat} {σ : fk_T} {G : Nat → Int32} (h : CP c σ G) (hw : WF G) : F_X0_widestTwo c σ = some (fbG G (nG G) 0 (-1), σ) := by
  obtain ⟨n1, n2, n3⟩ := nG_of hw
  obtain ⟨v, hv, e⟩ := C_widO n2 h hw n1 (k := fun y14 y15 y16 s13 => some (y15, s13)) (nG G) 0 fk_N (-1) (-1) (Or.inl ⟨rfl, rfl⟩) (by omega) (by unfold fk_N; omega)
  exact e
theorem fa_ok {G : Nat → Int32} {a : Nat} (ha : a < 8) : ∀ (m b : Nat) (w : Int32), b + m ≤ 8 → FW w → FW (faG G a m b w)
  | 0, b, w, _, h => h
  | m + 1, b, w, hb9, h => by
    unfold faG
    apply fa_ok ha m (b + 1) _ (by omega)
    have hF : FW (nI (8 * a + b)) := Or.inr ⟨8 * a + b, by omega, rfl⟩
    split
    · exact hF
    · split
      · exact h
      · exact hF
theorem M_farI {n a : Nat} (hn : n ≤ 8) (ha : a < 8) {σ : fk_T} (hG : σ.1 27 0 = nI n) {k : Int32 → Int32 → Int32 → fk_T → Option (Int32 × fk_T)} : ∀ (m b fu : Nat) (w : Int32), FW w → b + m = n → m < fu → L_X5_farthest_18 fu w (nI a) (nI b) σ k = k (faG (σ.1 27) a m b w) (nI a) (nI n) σ
  | m, b, 0, w, _, _, hf => by omega
  | 0, b, fu + 1, w, hv, hi, _ => by
    have : b = n := by omega
    subst this
    rw [L_X5_farthest_18, rdG 0 (by omega), hG, if_pos (by rw [i_le]; omega)]
    rfl
  | m + 1, b, fu + 1, w, hv, hi, hf => by
    have hF : FW (nI (8 * a + b)) := Or.inr ⟨8 * a + b, by omega, rfl⟩
    rw [L_X5_farthest_18, rdG 0 (by omega), hG, if_neg (by rw [i_le, nI_tI (by omega), nI_tI (by omega)]; omega)]
    simp only [fk_B]
    unfold faG
    rcases hv with rfl | ⟨q, hq, rfl⟩
    · rw [if_pos (by decide), if_pos (by decide), nI_1, nm, nI_add]
      exact M_farI hn ha hG m (b + 1) fu _ hF (by omega) (by omega)
    · rw [if_neg (show ¬ nI q < 0 by rw [i_lt, nI_tI (by omega), li0]; omega), if_neg (show ¬ nI q < 0 by rw [i_lt, nI_tI (by omega), li0]; omega), nI_cl (by omega)]
      rw [fA (j := 61 + (8 * a + b)) (by rw [nm, nl, nI_add, Nat.add_assoc]) (by omega) (by omega), fA (j := 61 + q) (nl 61 q) (by omega) (by omega), nI_1, nm, nI_add]
      by_cases z : σ.1 27 (61 + (8 * a + b)) ≤ σ.1 27 (61 + q)
      · rw [if_pos z, if_pos z]
        exact M_farI hn ha hG m (b + 1) fu _ (Or.inr ⟨q, hq, rfl⟩) (by omega) (by omega)
      · rw [if_neg z, if_neg z]
        exact M_farI hn ha hG m (b + 1) fu _ hF (by omega) (by omega)
theorem M_farO {n : Nat} (hn : n ≤ 8) {σ : fk_T} (hG : σ.1 27 0 = nI n) {k : Int32 → Int32 → fk_T → Option (Int32 × fk_T)} : ∀ (m a fu : Nat) (w : Int32), FW w → a + m = n → m < fu → L_X5_farthest_4 fu w (nI a) σ k = k (fbG (σ.1 27) m a w) (nI n) σ
  | m, a, 0, w, _, _, hf => by omega
  | 0, a, fu + 1, w, hv, hi, _ => by
    have : a = n := by omega
    subst this
    rw [L_X5_farthest_4, rdG 0 (by omega), hG, if_pos (by rw [i_le]; omega)]
    rfl
  | m + 1, a, fu + 1, w, hv, hi, hf => by
    rw [L_X5_farthest_4, rdG 0 (by omega), hG, if_neg (by rw [i_le, nI_tI (by omega), nI_tI (by omega)]; omega)]
    have e1 := M_farI hn (by omega : a < 8) hG (k := fun y12 y13 y14 s11 => fk_B (y13 + 1) (fun y15 => L_X5_farthest_4 fu y12 y15 s11 k)) m (a + 1) fk_N w hv (by omega) (by unfold fk_N; omega)
    have e2 := M_farO hn hG (k := k) m (a + 1) fu (faG (σ.1 27) a m (a + 1) w) (fa_ok (by omega) _ _ _ (by omega) hv) (by omega) (by omega)
    rw [fB, nI_1]
    refine e1.trans ?_
    rw [fB, nI_1, e2, fbG_s]
theorem M_farthest {σ : fk_T} (hw : WF (σ.1 27)) : F_X5_farthest σ = some (fbG (σ.1 27) (nG (σ.1 27)) 0 (-1), σ) := by
  obtain ⟨n1, n2, n3⟩ := nG_of hw
  exact M_farO n2 n1 (k := fun y17 y18 s16 => some (y17, s16)) (nG (σ.1 27)) 0 fk_N (-1) (Or.inl rfl) (by omega) (by unfold fk_N; omega)

theorem Ivt {σ : fk_T} (hI : Inv σ) : σ.1 16 1 = σ.1 26 7 := by
  obtain ⟨t, t1, t2, t3, t4⟩ := hI.2.2.2.1
  rw [t2, t3]
theorem Q_count {σ : fk_T} (hI : Inv σ) (x1 : Int32) : QQ (F_X4_count x1) (F_X5_count x1) σ := by
  obtain ⟨hw, hc⟩ := hI.p
  by_cases h0 : x1 = 0
  · refine QQ.same hI (r := σ.1 27 1) ?_ ?_
    · unfold F_X4_count; rw [if_pos h0, hc.c4]
    · unfold F_X5_count; rw [if_pos h0, rdG 1 (by omega)]
  by_cases h1 : x1 = 1
  · refine QQ.same hI (r := σ.1 27 0) ?_ ?_
    · unfold F_X4_count; rw [if_neg h0, if_pos h1, hc.c6]
    · unfold F_X5_count; rw [if_neg h0, if_pos h1, rdG 0 (by omega)]
  by_cases h2 : x1 = 2
  · refine QQ.same hI (r := σ.1 27 4) ?_ ?_
    · unfold F_X4_count; rw [if_neg h0, if_neg h1, if_pos h2, hc.c1]
    · unfold F_X5_count; rw [if_neg h0, if_neg h1, if_pos h2, rdG 4 (by omega)]
  by_cases h3 : x1 = 3
  · refine QQ.same hI (r := σ.1 27 5) ?_ ?_
    · unfold F_X4_count; rw [if_neg h0, if_neg h1, if_neg h2, if_pos h3, hc.c2]
    · unfold F_X5_count; rw [if_neg h0, if_neg h1, if_neg h2, if_pos h3, rdG 5 (by omega)]
  by_cases h4 : x1 = 4
  · refine QQ.same hI (r := smK (fun j => σ.1 27 (13 + 40 + j)) (nG (σ.1 27)) 0 0) ?_ ?_
    · unfold F_X4_count; rw [if_neg h0, if_neg h1, if_neg h2, if_neg h3, if_pos h4, nlit 40, C_sumOf (by omega) hc hw, bS]
    · unfold F_X5_count; rw [if_neg h0, if_neg h1, if_neg h2, if_neg h3, if_pos h4, nlit 5, M_sumOf (by omega) hw, bS]
  by_cases h5 : x1 = 5
  · refine QQ.same hI (r := σ.1 26 7) ?_ ?_
    · unfold F_X4_count; rw [if_neg h0, if_neg h1, if_neg h2, if_neg h3, if_neg h4, if_pos h5, Ivt hI]
    · unfold F_X5_count; rw [if_neg h0, if_neg h1, if_neg h2, if_neg h3, if_neg h4, if_pos h5]
  by_cases h6 : x1 = 6
  · refine QQ.same hI (r := σ.1 27 2) ?_ ?_
    · unfold F_X4_count; rw [if_neg h0, if_neg h1, if_neg h2, if_neg h3, if_neg h4, if_neg h5, if_pos h6, hc.c5]
    · unfold F_X5_count; rw [if_neg h0, if_neg h1, if_neg h2, if_neg h3, if_neg h4, if_neg h5, if_pos h6, rdG 2 (by omega)]
  by_cases h7 : x1 = 7
  · refine QQ.same hI (r := heldK (σ.1 27) 10 0 0) ?_ ?_
    · unfold F_X4_count; rw [if_neg h0, if_neg h1, if_neg h2, if_neg h3, if_neg h4, if_neg h5, if_neg h6, if_pos h7, C_spotsHeld hc, bS]
    · unfold F_X5_count; rw [if_neg h0, if_neg h1, if_neg h2, if_neg h3, if_neg h4, if_neg h5, if_neg h6, if_pos h7, M_holding hw, bS]
  · refine QQ.find hI (k := 0) (by omega) ?_ ?_
    · unfold F_X4_count; rw [if_neg h0, if_neg h1, if_neg h2, if_neg h3, if_neg h4, if_neg h5, if_neg h6, if_neg h7]
    · unfold F_X5_count; rw [if_neg h0, if_neg h1, if_neg h2, if_neg h3, if_neg h4, if_neg h5, if_neg h6, if_neg h7]
theorem C_throws {σ : fk_T} {G : Nat → Int32} {c : Nat} (h : CP c σ G) (hw : WF G) : F_X0_throwsToday c σ = some (twoG G (todayG G / 10) (todayG G - todayG G / 10 * 10), σ) := by
  unfold F_X0_throwsToday
  rw [h.c4, fA (day_ix hw) (dI_lt G (by omega)) (by omega), h.2.1 _ (dI_lt G (by omega))]
  rw [C_hasTwo h, bS]
  rfl
theorem Q_now {σ : fk_T} (hI : Inv σ) (x1 : Int32) : QQ (F_X4_now x1) (F_X5_now x1) σ := by
  obtain ⟨hw, hc⟩ := hI.p
  by_cases h0 : x1 = 0
  · refine QQ.same hI (r := σ.1 27 1) ?_ ?_
    · unfold F_X4_now; rw [if_pos h0, hc.c4]
    · unfold F_X5_now; rw [if_pos h0, rdG 1 (by omega)]
  by_cases h1 : x1 = 1
  · refine QQ.same hI (r := σ.1 27 4) ?_ ?_
    · unfold F_X4_now; rw [if_neg h0, if_pos h1, hc.c1]
    · unfold F_X5_now; rw [if_neg h0, if_pos h1, rdG 4 (by omega)]
  by_cases h2 : x1 = 2
  · refine QQ.same hI (r := σ.1 27 5) ?_ ?_
    · unfold F_X4_now; rw [if_neg h0, if_neg h1, if_pos h2, hc.c2]
    · unfold F_X5_now; rw [if_neg h0, if_neg h1, if_pos h2, rdG 5 (by omega)]
  by_cases h3 : x1 = 3
  · refine QQ.same hI (r := σ.1 27 6) ?_ ?_
    · unfold F_X4_now; rw [if_neg h0, if_neg h1, if_neg h2, if_pos h3, hc.c3]
    · unfold F_X5_now; rw [if_neg h0, if_neg h1, if_neg h2, if_pos h3, rdG 6 (by omega)]
  by_cases h4 : x1 = 4
  · refine QQ.same hI (r := smK (fun j => σ.1 27 (13 + 8 + j)) (nG (σ.1 27)) 0 0) ?_ ?_
    · unfold F_X4_now; rw [if_neg h0, if_neg h1, if_neg h2, if_neg h3, if_pos h4, nlit 8, C_sumOf (by omega) hc hw, bS]
    · unfold F_X5_now; rw [if_neg h0, if_neg h1, if_neg h2, if_neg h3, if_pos h4, nlit 1, M_sumOf (by omega) hw, bS]
  by_cases h5 : x1 = 5
  · refine QQ.same hI (r := fbG (σ.1 27) (nG (σ.1 27)) 0 (-1)) ?_ ?_
    · unfold F_X4_now; rw [if_neg h0, if_neg h1, if_neg h2, if_neg h3, if_neg h4, if_pos h5, C_widest hc hw, bS]
    · unfold F_X5_now; rw [if_neg h0, if_neg h1, if_neg h2, if_neg h3, if_neg h4, if_pos h5, M_farthest hw, bS]
  by_cases h6 : x1 = 6
  · refine QQ.same hI (r := smK (fun j => σ.1 27 (13 + 40 + j)) (nG (σ.1 27)) 0 0) ?_ ?_
    · unfold F_X4_now; rw [if_neg h0, if_neg h1, if_neg h2, if_neg h3, if_neg h4, if_neg h5, if_pos h6, nlit 40, C_sumOf (by omega) hc hw, bS]
    · unfold F_X5_now; rw [if_neg h0, if_neg h1, if_neg h2, if_neg h3, if_neg h4, if_neg h5, if_pos h6, nlit 5, M_sumOf (by omega) hw, bS]
  by_cases h7 : x1 = 7
  · refine QQ.same hI (r := if twoG (σ.1 27) (todayG (σ.1 27) / 10) (todayG (σ.1 27) - todayG (σ.1 27) / 10 * 10) = false then 0 else 1) ?_ ?_
    · unfold F_X4_now; rw [if_neg h0, if_neg h1, if_neg h2, if_neg h3, if_neg h4, if_neg h5, if_neg h6, if_pos h7, C_throws hc hw, bS]; dsimp only; cases twoG (σ.1 27) (todayG (σ.1 27) / 10) (todayG (σ.1 27) - todayG (σ.1 27) / 10 * 10) <;> rfl
    · unfold F_X5_now; rw [if_neg h0, if_neg h1, if_neg h2, if_neg h3, if_neg h4, if_neg h5, if_neg h6, if_pos h7, M_todays hw, bS]; dsimp only; rw [M_todays hw, bS]; dsimp only; rw [M_areTwo hw, bS]; dsimp only; cases twoG (σ.1 27) (todayG (σ.1 27) / 10) (todayG (σ.1 27) - todayG (σ.1 27) / 10 * 10) <;> rfl
  · refine QQ.find hI (k := 0) (by omega) ?_ ?_
    · unfold F_X4_now; rw [if_neg h0, if_neg h1, if_neg h2, if_neg h3, if_neg h4, if_neg h5, if_neg h6, if_neg h7]
    · unfold F_X5_now; rw [if_neg h0, if_neg h1, if_neg h2, if_neg h3, if_neg h4, if_neg h5, if_neg h6, if_neg h7]
