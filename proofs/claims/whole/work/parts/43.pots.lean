/-! ===== who is there ===== -/
def hasG (G : Nat → Int32) (x : Int32) : Bool := decide (0 ≤ x.toInt ∧ x.toInt < (G 0).toInt)
def twoG (G : Nat → Int32) (x y : Int32) : Bool := if hasG G x then (if hasG G y then (if x = y then false else true) else false) else false
theorem hasG_of {G : Nat → Int32} (hw : WF G) {x : Int32} (h : hasG G x = true) : ∃ p : Nat, x = nI p ∧ p < 8 ∧ (p : Int) < (G 0).toInt := by
  have h1 := of_decide_eq_true h
  obtain ⟨p, e, hp⟩ := toN h1.1
  have := hw.n
  exact ⟨p, e, by omega, by omega⟩
theorem hasG_nI {G : Nat → Int32} {p : Nat} (hp : p < 8) (h : (p : Int) < (G 0).toInt) : hasG G (nI p) = true := by
  unfold hasG
  rw [nI_tI (by omega)]
  exact decide_eq_true ⟨by omega, h⟩
theorem twoG_of {G : Nat → Int32} (hw : WF G) {x y : Int32} (h : twoG G x y = true) : ∃ a b : Nat, x = nI a ∧ y = nI b ∧ a < 8 ∧ b < 8 ∧ a ≠ b ∧ (a : Int) < (G 0).toInt ∧ (b : Int) < (G 0).toInt := by
  unfold twoG at h
  by_cases h1 : hasG G x = true
  · rw [if_pos h1] at h
    by_cases h2 : hasG G y = true
    · rw [if_pos h2] at h
      by_cases h3 : x = y
      · rw [if_pos h3] at h; cases h
      · obtain ⟨a, e1, ha, ha2⟩ := hasG_of hw h1
        obtain ⟨b, e2, hb, hb2⟩ := hasG_of hw h2
        exact ⟨a, b, e1, e2, ha, hb, fun z => h3 (by rw [e1, e2, z]), ha2, hb2⟩
    · rw [if_neg h2] at h; cases h
  · rw [if_neg h1] at h; cases h
theorem C_has {c : Nat} {σ : fk_T} {G : Nat → Int32} (h : CP c σ G) (x : Int32) : F_X0_has c x σ = some (hasG G x, σ) := by
  unfold F_X0_has hasG
  rw [h.c6]
  by_cases h1 : 0 ≤ x.toInt
  · rw [if_neg (by rw [i_lt, li0]; omega)]
    by_cases h2 : x.toInt < (G 0).toInt
    · rw [if_neg (by rw [i_le]; omega), decide_eq_true ⟨h1, h2⟩]
    · rw [if_pos (by rw [i_le]; omega), decide_eq_false (fun z => h2 z.2)]
  · rw [if_pos (by rw [i_lt, li0]; omega), decide_eq_false (fun z => h1 z.1)]
theorem C_hasTwo {c : Nat} {σ : fk_T} {G : Nat → Int32} (h : CP c σ G) (x y : Int32) : F_X0_hasTwo c x y σ = some (twoG G x y, σ) := by
  unfold F_X0_hasTwo
  simp only [C_has h, bS, fb0]
  unfold twoG
  cases hasG G x
  · rfl
  · cases hasG G y
    · rfl
    · simp only [if_false, if_true, Bool.true_eq_false, ite_true]
      by_cases e : x = y
      · rw [if_pos e, if_pos e]
      · rw [if_neg e, if_neg e]
theorem M_isPotter {σ : fk_T} (hw : WF (σ.1 27)) (x : Int32) : F_X5_isPotter x σ = some (hasG (σ.1 27) x, σ) := by
  unfold F_X5_isPotter
  have hn := hw.n
  have e : (σ.1 27 0 - 1).toInt = (σ.1 27 0).toInt - 1 := by rw [ti_sub (by rw [li1]; omega) (by rw [li1]; omega), li1]
  rw [fA (j := 0) (nlit 0) (by omega) (by omega), M_in, bS]
  simp only [Int32.toInt_toInt64, lL0, e, hasG]
  congr 2
  apply decide_eq_decide.mpr
  omega
theorem M_areTwo {σ : fk_T} (hw : WF (σ.1 27)) (x y : Int32) : F_X5_areTwo x y σ = some (twoG (σ.1 27) x y, σ) := by
  unfold F_X5_areTwo
  simp only [M_isPotter hw, bS, fb0]
  unfold twoG
  cases hasG (σ.1 27) x
  · rfl
  · cases hasG (σ.1 27) y
    · rfl
    · simp only [if_false, if_true, Bool.true_eq_false, ite_true]
      by_cases e : x = y
      · rw [if_pos e, if_pos e]
      · rw [if_neg e, if_neg e]
/-! ===== what a pot does ===== -/
def flop1 (G : Nat → Int32) (p : Nat) : Nat → Int32 := ga (ga G (53 + p) 1 9999) (21 + p) (boilG G p) 99
def stand1 (G : Nat → Int32) (p : Nat) : Nat → Int32 := ga (ga G (45 + p) 1 9999) (21 + p) (-coolG G p) 99
def sellG (G : Nat → Int32) (r l : Int32) : Nat → Int32 := ga (ga (ga G 4 (r + fk_abs l) 99999) 5 (if l = 0 then 1 else 0) 9999) 6 (if l = 0 then (if r < 40 then 0 else 1) else 0) 9999
def potG (G : Nat → Int32) (a b : Nat) : Nat → Int32 := ga (if flopG (riseG G (G 3) a b) (leanG G a b) = true then flop1 (flop1 G a) b else sellG (stand1 (stand1 G a) b) (riseG G (G 3) a b) (leanG G a b)) (61 + gbt a b) (saysG G a + saysG G b) 99
theorem ga_ne {G : Nat → Int32} {k j : Nat} {x most : Int32} (h : j ≠ k) : ga G k x most j = G j := u_ne _ _ h
theorem wf_flop1 {G : Nat → Int32} (h : WF G) {p : Nat} (hp : p < 8) : WF (flop1 G p) := by
  unfold flop1
  exact (h.ga (by omega) (by omega) (by rw [l9999, hb_9999 (by omega) (by omega)])).ga (by omega) (by omega) (by rw [l99, hb_99 (by omega) (by omega)])
theorem wf_stand1 {G : Nat → Int32} (h : WF G) {p : Nat} (hp : p < 8) : WF (stand1 G p) := by
  unfold stand1
  exact (h.ga (by omega) (by omega) (by rw [l9999, hb_9999 (by omega) (by omega)])).ga (by omega) (by omega) (by rw [l99, hb_99 (by omega) (by omega)])
theorem wf_sellG {G : Nat → Int32} (h : WF G) (r l : Int32) : WF (sellG G r l) := by
  unfold sellG
  exact ((h.ga (by omega) (by omega) (by rw [l99999]; rfl)).ga (by omega) (by omega) (by rw [l9999]; rfl)).ga (by omega) (by omega) (by rw [l9999]; rfl)
theorem wf_potG {G : Nat → Int32} (h : WF G) {a b : Nat} (ha : a < 8) (hb8 : b < 8) : WF (potG G a b) := by
  unfold potG
  have := gbt_lt ha hb8
  refine WF.ga ?_ (by omega) (by omega) (by rw [l99, hb_99 (by omega) (by omega)])
  split
  · exact wf_flop1 (wf_flop1 h ha) hb8
  · exact wf_sellG (wf_stand1 (wf_stand1 h ha) hb8) _ _
theorem n_potG {G : Nat → Int32} {a b : Nat} (ha : a < 8) (hb8 : b < 8) : potG G a b 0 = G 0 ∧ potG G a b 1 = G 1 := by
  unfold potG
  rw [ga_ne (by omega), ga_ne (by omega)]
  split
  · unfold flop1
    constructor <;> rw [ga_ne (by omega), ga_ne (by omega), ga_ne (by omega), ga_ne (by omega)]
  · unfold sellG stand1
    constructor <;> rw [ga_ne (by omega), ga_ne (by omega), ga_ne (by omega), ga_ne (by omega), ga_ne (by omega), ga_ne (by omega), ga_ne (by omega)]
theorem w_w (σ : fk_T) (a : Nat) (f g : Nat → Int32) : fk_w (fk_w σ a f) a g = fk_w σ a g := by
  unfold fk_w
  apply Prod.ext
  · funext y
    show (if y = a then g else if y = a then f else σ.1 y) = if y = a then g else σ.1 y
    split <;> rfl
  · rfl
/-- the model -/
theorem M_flops {σ : fk_T} {x : Int32} {p : Nat} (hx : x = nI p) (hp : p < 8) : F_X5_flops x σ = some (fk_w σ 27 (flop1 (σ.1 27) p)) := by
  unfold F_X5_flops
  rw [M_adds (k := 53 + p) (by rw [hx, nl]) (by omega), bS, M_boils hx hp, bS, M_adds (k := 21 + p) (by rw [hx, nl]) (by omega), bS]
  rw [w_self, w_w]
  have e : boilG (ga (σ.1 27) (53 + p) 1 9999) p = boilG (σ.1 27) p := by unfold boilG; rw [ga_ne (by omega)]
  rw [e]
  rfl
theorem M_throwsOne {σ : fk_T} {x : Int32} {p : Nat} (hx : x = nI p) (hp : p < 8) : F_X5_throwsOne x σ = some (fk_w σ 27 (stand1 (σ.1 27) p)) := by
  unfold F_X5_throwsOne
  rw [M_adds (k := 45 + p) (by rw [hx, nl]) (by omega), bS, M_cools hx hp, bS, M_adds (k := 21 + p) (by rw [hx, nl]) (by omega), bS]
  rw [w_self, w_w]
  have e : coolG (ga (σ.1 27) (45 + p) 1 9999) p = coolG (σ.1 27) p := by unfold coolG; rw [ga_ne (by omega)]
  rw [e]
  rfl
theorem M_pots {σ : fk_T} (hw : WF (σ.1 27)) {x y : Int32} {a b : Nat} (hx : x = nI a) (hy : y = nI b) (ha : a < 8) (hb8 : b < 8) : F_X5_pots x y σ = some (fk_w σ 27 (potG (σ.1 27) a b)) := by
  have hg := gbt_lt ha hb8
  unfold F_X5_pots
  rw [M_says hx ha, bS, M_says hy hb8, bS]
  simp only [fk_B]
  rw [M_rises hx hy ha hb8, bS, M_leans hw hx hy ha hb8, bS, M_isFlop hw hx hy ha hb8, bS]
  simp only [fb0]
  unfold potG
  cases hf : flopG (riseG (σ.1 27) (σ.1 27 3) a b) (leanG (σ.1 27) a b)
  · simp only [if_true, Bool.false_eq_true, if_false]
    rw [M_throwsOne hx ha, bS, M_throwsOne hy hb8, bS, M_size, bS, M_adds (k := 4) (nlit 4) (by omega), bS]
    simp only [M_adds (k := 5) (nlit 5) (by omega), M_adds (k := 6) (nlit 6) (by omega), bS, M_between hx hy ha hb8, M_adds (k := 61 + gbt a b) rfl (by omega)]
    simp only [w_w, w_self]
    unfold sellG
    by_cases e : leanG (σ.1 27) a b = 0
    · simp only [e, if_true]
      split
      · rfl
      · rfl
    · simp only [e, if_false]
  · simp only [Bool.true_eq_false, if_false, if_true]
    rw [M_flops hx ha, bS, M_flops hy hb8, bS, M_between hx hy ha hb8, bS, M_adds (k := 61 + gbt a b) rfl (by omega), bS]
    simp only [w_w, w_self]
