/-! ===== years, days ===== -/
def ageK (G : Nat → Int32) (i : Nat) : Nat → (Nat → Int32)
  | 0 => G
  | m + 1 => ageK (ga G (37 + i) 1 99) (i + 1) m
theorem ageK_wf : ∀ (m : Nat) {G : Nat → Int32} {i : Nat}, WF G → i + m ≤ 8 → WF (ageK G i m) ∧ ageK G i m 0 = G 0 ∧ ageK G i m 1 = G 1
  | 0, _, _, h, _ => ⟨h, rfl, rfl⟩
  | m + 1, G, i, h, hi => by
    have h1 : WF (ga G (37 + i) 1 99) := h.ga (by omega) (by omega) (by rw [l99, hb_99 (by omega) (by omega)])
    obtain ⟨a, b, c⟩ := ageK_wf m h1 (i := i + 1) (by omega)
    exact ⟨a, b.trans (ga_ne (by omega)), c.trans (ga_ne (by omega))⟩
theorem C_ageL {c n : Nat} (hn : n ≤ 8) {k : Int32 → fk_T → Option fk_T} : ∀ (m i fu : Nat) {σ : fk_T} {G : Nat → Int32}, CP c σ G → WF G → G 0 = nI n → i + m = n → m < fu → ∃ σ', L_X0_ageAll_2 c fu (nI i) σ k = k (nI n) σ' ∧ CP c σ' (ageK G i m) ∧ FrP c σ σ'
  | 0, i, 0, _, _, _, _, _, _, hf => by omega
  | 0, i, fu + 1, σ, G, h, hw, hG, hi, _ => by
    rw [L_X0_ageAll_2, h.c6, hG, if_pos (by rw [i_le, nI_tI (by omega), nI_tI (by omega)]; omega)]
    have : i = n := by omega
    subst this
    exact ⟨σ, rfl, h, FrP.rf _ _⟩
  | m + 1, i, 0, _, _, _, _, _, _, hf => by omega
  | m + 1, i, fu + 1, σ, G, h, hw, hG, hi, hf => by
    have b1 := hw.lev (k := 37 + i) (by omega) (by omega)
    have e1 : fk_min (G (37 + i) + 1) 99 = gh (G (37 + i) + 1) 99 := min_gh (by rw [ti_add (by rw [li1]; omega) (by rw [li1]; omega), li1]; omega)
    have h1 : CP c _ (ga G (37 + i) 1 99) := h.trm (i := 24 + i) (m := 37 + i) (by omega) (by omega) (gh (G (37 + i) + 1) 99)
    have w1 : WF (ga G (37 + i) 1 99) := hw.ga (by omega) (by omega) (by rw [l99, hb_99 (by omega) (by omega)])
    obtain ⟨s2, e2, c2, f2⟩ := C_ageL hn m (i + 1) fu (k := k) h1 w1 ((ga_ne (by omega)).trans hG) (by omega) (by omega)
    rw [L_X0_ageAll_2, h.c6, hG, if_neg (by rw [i_le, nI_tI (by omega), nI_tI (by omega)]; omega), rT h (37 + i) (nl 24 i) (by omega) (by omega), e1, fS (nl 24 i) (by omega) (by omega)]
    simp only [fk_B]
    rw [nI_1, e2]
    exact ⟨s2, rfl, c2, (FrP.w _ (by omega)).tr f2⟩
theorem C_ageAll {c n : Nat} (hn : n ≤ 8) {σ : fk_T} {G : Nat → Int32} (h : CP c σ G) (hw : WF G) (hG : G 0 = nI n) : ∃ σ', F_X0_ageAll c σ = some σ' ∧ CP c σ' (ageK G 0 n) ∧ FrP c σ σ' := by
  unfold F_X0_ageAll
  exact C_ageL hn n 0 fk_N h hw hG (by omega) (by unfold fk_N; omega)
theorem M_ageL {n : Nat} (hn : n ≤ 8) {k : Int32 → fk_T → Option fk_T} : ∀ (m i fu : Nat) {σ : fk_T}, σ.1 27 0 = nI n → i + m = n → m < fu → L_X5_dayGoes_47 fu (nI i) σ k = k (nI n) (fk_w σ 27 (ageK (σ.1 27) i m))
  | 0, i, 0, _, _, _, hf => by omega
  | 0, i, fu + 1, σ, hG, hi, _ => by
    rw [L_X5_dayGoes_47, fA (j := 0) (nlit 0) (by omega) (by omega), hG, if_pos (by rw [i_le, nI_tI (by omega), nI_tI (by omega)]; omega)]
    have : i = n := by omega
    subst this
    have e : fk_w σ 27 (ageK (σ.1 27) i 0) = σ := by
      apply Prod.ext
      · funext y
        show (if y = 27 then σ.1 27 else σ.1 y) = σ.1 y
        split
        · rename_i e; rw [e]
        · rfl
      · rfl
    rw [e]
  | m + 1, i, 0, _, _, _, hf => by omega
  | m + 1, i, fu + 1, σ, hG, hi, hf => by
    rw [L_X5_dayGoes_47, fA (j := 0) (nlit 0) (by omega) (by omega), hG, if_neg (by rw [i_le, nI_tI (by omega), nI_tI (by omega)]; omega), M_adds (k := 37 + i) (nl 37 i) (by omega), bS]
    simp only [fk_B]
    rw [nI_1, M_ageL hn m (i + 1) fu (by rw [w_self, ga_ne (by omega)]; exact hG) (by omega) (by omega), w_self, w_w]
    rfl
/-! ===== the rest of a number by another ===== -/
theorem rem_of {x : Int32} {d : Nat} (hd : 0 < d) (hd2 : d < 1000) (hx : 0 ≤ x.toInt) : x - x / nI d * nI d = nI (x.toInt % d).toNat := by
  obtain ⟨p, e, hp⟩ := toN hx
  have h2 := ti_hi x
  subst e
  rw [pk_rem (by omega) hd (by omega), ← hp]
  congr 1
def dI (G : Nat → Int32) (d : Nat) : Nat := ((G 1).toInt % d).toNat
theorem dI_lt (G : Nat → Int32) {d : Nat} (hd : 0 < d) : dI G d < d := by
  unfold dI
  have h1 := Int.emod_nonneg (G 1).toInt (b := (d : Int)) (by omega)
  have h2 := Int.emod_lt_of_pos (G 1).toInt (b := (d : Int)) (by omega)
  omega
theorem day_ix {G : Nat → Int32} (hw : WF G) : G 1 - G 1 / 6 * 6 = nI (dI G 6) := rem_of (d := 6) (by omega) (by omega) hw.day.1
/-- how many are there -/
def nG (G : Nat → Int32) : Nat := (G 0).toInt.toNat
theorem nG_of {G : Nat → Int32} (hw : WF G) : G 0 = nI (nG G) ∧ nG G ≤ 8 ∧ (nG G : Int) = (G 0).toInt := by
  have := hw.n
  obtain ⟨p, e, hp⟩ := toN hw.n.1
  have : p = nG G := by unfold nG; omega
  subst this
  exact ⟨e, by omega, hp⟩
def ageG (G : Nat → Int32) : Nat → Int32 := if G 1 - G 1 / 10 * 10 = 9 then ageK G 0 (nG G) else G
def todayG (G : Nat → Int32) : Int32 := G (7 + dI G 6)
def throwG (G : Nat → Int32) : Nat → Int32 := if twoG G (todayG G / 10) (todayG G - todayG G / 10 * 10) = true then potG G (todayG G / 10).toInt.toNat (todayG G - todayG G / 10 * 10).toInt.toNat else G
def dayG (G : Nat → Int32) : Nat → Int32 := ga (ageG (throwG G)) 1 1 99999
theorem wf_throwG {G : Nat → Int32} (hw : WF G) : WF (throwG G) ∧ throwG G 0 = G 0 ∧ throwG G 1 = G 1 := by
  unfold throwG
  by_cases h : twoG G (todayG G / 10) (todayG G - todayG G / 10 * 10) = true
  · rw [if_pos h]
    obtain ⟨a, b, e1, e2, ha, hb8, -⟩ := twoG_of hw h
    rw [e2, e1, nI_tI (by omega), nI_tI (by omega)]
    exact ⟨wf_potG hw (by omega) (by omega), n_potG (by omega) (by omega)⟩
  · rw [if_neg h]; exact ⟨hw, rfl, rfl⟩
theorem wf_ageG {G : Nat → Int32} (hw : WF G) : WF (ageG G) ∧ ageG G 0 = G 0 ∧ ageG G 1 = G 1 := by
  unfold ageG
  split
  · exact ageK_wf _ hw (by have := (nG_of hw).2.1; omega)
  · exact ⟨hw, rfl, rfl⟩
theorem wf_dayG {G : Nat → Int32} (hw : WF G) : WF (dayG G) ∧ dayG G 0 = G 0 := by
  obtain ⟨w1, n1, d1⟩ := wf_throwG hw
  obtain ⟨w2, n2, d2⟩ := wf_ageG w1
  exact ⟨w2.ga (by omega) (by omega) (by rw [l99999]; rfl), (ga_ne (by omega)).trans (n2.trans n1)⟩
theorem M_todays {σ : fk_T} (hw : WF (σ.1 27)) : F_X5_todays σ = some (todayG (σ.1 27), σ) := by
  unfold F_X5_todays todayG
  have := dI_lt (σ.1 27) (d := 6) (by omega)
  rw [fA (j := 1) (nlit 1) (by omega) (by omega), day_ix hw, fA (nl 7 _) (by omega) (by omega)]
theorem w_id {σ : fk_T} {a : Nat} {g : Nat → Int32} (h : g = σ.1 a) : fk_w σ a g = σ := by
  subst h
  apply Prod.ext
  · funext y
    show (if y = a then σ.1 a else σ.1 y) = σ.1 y
    split
    · rename_i e; rw [e]
    · rfl
  · rfl
theorem M_dayGoes {σ : fk_T} (hw : WF (σ.1 27)) : F_X5_dayGoes σ = some (fk_w σ 27 (dayG (σ.1 27))) := by
  have tail : ∀ τ : fk_T, WF (τ.1 27) → (fk_A (τ.1 27) 135 1 (fun y15 => if (y15 - y15 / 10 * 10) = 9 then (L_X5_dayGoes_47 fk_N 0 τ (fun y18 s17 => (F_X5_adds 1 1 99999 s17).bind (fun q19 => some q19))) else ((F_X5_adds 1 1 99999 τ).bind (fun q16 => some q16)))) = some (fk_w τ 27 (ga (ageG (τ.1 27)) 1 1 99999)) := by
    intro τ ht
    obtain ⟨e0, e1, e2⟩ := nG_of ht
    rw [fA (j := 1) (nlit 1) (by omega) (by omega)]
    unfold ageG
    split
    · rw [show (0 : Int32) = nI 0 from rfl, M_ageL e1 (nG (τ.1 27)) 0 fk_N e0 (by omega) (by unfold fk_N; omega), M_adds (k := 1) (nlit 1) (by omega), bS, w_self, w_w]
    · rw [M_adds (k := 1) (nlit 1) (by omega), bS]
  unfold F_X5_dayGoes
  rw [M_todays hw, bS]
  simp only [fk_B]
  rw [M_todays hw, bS, M_areTwo hw, bS]
  simp only [fb0]
  unfold dayG throwG
  cases hf : twoG (σ.1 27) (todayG (σ.1 27) / 10) (todayG (σ.1 27) - todayG (σ.1 27) / 10 * 10)
  · simp only [if_true, Bool.false_eq_true, if_false]
    exact tail σ hw
  · simp only [Bool.true_eq_false, if_false, if_true]
    obtain ⟨a, b, e1, e2, ha, hb8, -⟩ := twoG_of hw hf
    rw [M_pots hw e1 e2 ha hb8, bS]
    have w1 := wf_potG hw ha hb8
    have t := tail (fk_w σ 27 (potG (σ.1 27) a b)) (by rw [w_self]; exact w1)
    rw [t, w_self, w_w, e2, e1, nI_tI (by omega), nI_tI (by omega)]
    rfl
/-- one day of the class, as passDays has it -/
theorem C_day1 {c : Nat} (hc : hp_P c) {σ : fk_T} {G : Nat → Int32} (h : CP c σ G) (hw : WF G) {x1 x2 : Int32} {fu : Nat} {k : Int32 → Int32 → fk_T → Option fk_T} (hlt : ¬ x1 ≤ x2) : ∃ σ', L_X0_passDays_2 c (fu + 1) x1 x2 σ k = L_X0_passDays_2 c fu x1 (x2 + 1) σ' k ∧ CP c σ' (dayG G) ∧ FrP c σ σ' := by
  have hd6 := dI_lt G (d := 6) (by omega)
  have tail : ∀ (τ : fk_T) (T : Nat → Int32), CP c τ T → WF T → ∃ σ', (if ((τ.1 c 4) - (τ.1 c 4) / 10 * 10) = 9 then ((F_X0_ageAll c τ).bind (fun q11 => fk_B (fk_w q11 c (upd (q11.1 c) 4 (fk_min ((q11.1 c 4) + 1) 99999))) (fun s12 => fk_B (x2 + 1) (fun y13 => L_X0_passDays_2 c fu x1 y13 s12 k)))) else (fk_B (fk_w τ c (upd (τ.1 c) 4 (fk_min ((τ.1 c 4) + 1) 99999))) (fun s9 => fk_B (x2 + 1) (fun y10 => L_X0_passDays_2 c fu x1 y10 s9 k)))) = L_X0_passDays_2 c fu x1 (x2 + 1) σ' k ∧ CP c σ' (ga (ageG T) 1 1 99999) ∧ FrP c τ σ' := by
    intro τ T ht wt
    obtain ⟨e0, e1, e2⟩ := nG_of wt
    have step : ∀ (υ : fk_T) (U : Nat → Int32), CP c υ U → WF U → CP c (fk_w υ c (upd (υ.1 c) 4 (fk_min ((υ.1 c 4) + 1) 99999))) (ga U 1 1 99999) := by
      intro υ U hu wu
      have bd := wu.day
      rw [hu.c4, min_gh (by rw [ti_add (by rw [li1]; omega) (by rw [li1]; omega), li1]; omega)]
      exact hu.obj (i := 4) (by omega) _
    simp only [fk_B]
    rw [ht.c4]
    unfold ageG
    split
    · obtain ⟨s1, a1, c1, f1⟩ := C_ageAll e1 ht wt e0
      rw [a1, bS]
      exact ⟨_, rfl, step s1 _ c1 (ageK_wf _ wt (by omega)).1, f1.tr (FrP.w _ (by omega))⟩
    · rw [← ht.c4]
      exact ⟨_, rfl, step τ T ht wt, FrP.w _ (by omega)⟩
  rw [L_X0_passDays_2, if_neg hlt, h.c4, day_ix hw, fA rfl (by omega) (by omega), h.2.1 _ (by omega), C_hasTwo h, bS]
  simp only [fb0]
  unfold dayG throwG
  have et : G (7 + dI G 6) = todayG G := rfl
  rw [et]
  cases hf : twoG G (todayG G / 10) (todayG G - todayG G / 10 * 10)
  · simp only [if_true, Bool.false_eq_true, if_false]
    exact tail σ G h hw
  · simp only [Bool.true_eq_false, if_false, if_true]
    obtain ⟨a, b, e1, e2, ha, hb8, -⟩ := twoG_of hw hf
    obtain ⟨s1, a1, c1, f1⟩ := C_throwPot h hw e1 e2 ha hb8
    rw [a1, bS]
    obtain ⟨s2, a2, c2, f2⟩ := tail s1 _ c1 (wf_potG hw ha hb8)
    refine ⟨s2, a2, ?_, f1.tr f2⟩
    rw [e2, e1, nI_tI (by omega), nI_tI (by omega)]
    exact c2
def daysG (G : Nat → Int32) : Nat → (Nat → Int32)
  | 0 => G
  | n + 1 => daysG (dayG G) n
theorem wf_daysG : ∀ (n : Nat) {G : Nat → Int32}, WF G → WF (daysG G n) ∧ daysG G n 0 = G 0
  | 0, _, h => ⟨h, rfl⟩
  | n + 1, G, h => by
    obtain ⟨a, b⟩ := wf_daysG n (wf_dayG h).1
    exact ⟨a, b.trans (wf_dayG h).2⟩
theorem daysG_s (G : Nat → Int32) (n : Nat) : daysG G (n + 1) = daysG (dayG G) n := rfl
theorem daysG_succ : ∀ (n : Nat) (G : Nat → Int32), daysG G (n + 1) = dayG (daysG G n)
  | 0, _ => rfl
  | n + 1, G => by rw [daysG_s G (n + 1), daysG_succ n (dayG G), daysG_s G n]
theorem C_passL {c : Nat} (hc : hp_P c) {n : Nat} (hn : n < 4000) {k : Int32 → Int32 → fk_T → Option fk_T} : ∀ (m i fu : Nat) {σ : fk_T} {G : Nat → Int32}, CP c σ G → WF G → i + m = n → m < fu → ∃ σ', L_X0_passDays_2 c fu (nI n) (nI i) σ k = k (nI n) (nI n) σ' ∧ CP c σ' (daysG G m) ∧ FrP c σ σ'
  | 0, i, 0, _, _, _, _, _, hf => by omega
  | 0, i, fu + 1, σ, G, h, hw, hi, _ => by
    rw [L_X0_passDays_2, if_pos (by rw [i_le, nI_tI (by omega), nI_tI (by omega)]; omega)]
    have : i = n := by omega
    subst this
    exact ⟨σ, rfl, h, FrP.rf _ _⟩
  | m + 1, i, 0, _, _, _, _, _, hf => by omega
  | m + 1, i, fu + 1, σ, G, h, hw, hi, hf => by
    obtain ⟨s1, e1, c1, f1⟩ := C_day1 hc (fu := fu) (k := k) (x1 := nI n) (x2 := nI i) h hw (by rw [i_le, nI_tI (by omega), nI_tI (by omega)]; omega)
    rw [e1, nI_1]
    obtain ⟨s2, e2, c2, f2⟩ := C_passL hc hn m (i + 1) fu (k := k) c1 (wf_dayG hw).1 (by omega) (by omega)
    exact ⟨s2, e2, c2, f1.tr f2⟩
theorem C_passDays {c : Nat} (hc : hp_P c) {x : Int32} {n : Nat} (hx : x = nI n) (hn : n < 4000) {σ : fk_T} {G : Nat → Int32} (h : CP c σ G) (hw : WF G) : ∃ σ', F_X0_passDays c x σ = some σ' ∧ CP c σ' (daysG G n) ∧ FrP c σ σ' := by
  subst hx
  unfold F_X0_passDays
  exact C_passL hc hn n 0 fk_N h hw (by omega) (by unfold fk_N; omega)
theorem M_daysL {n : Nat} (hn : n < 4000) {k : Int32 → Int32 → fk_T → Option fk_T} : ∀ (m i fu : Nat) {σ : fk_T}, WF (σ.1 27) → i + m = n → m < fu → L_X5_daysGo_2 fu (nI n) (nI i) σ k = k (nI n) (nI n) (fk_w σ 27 (daysG (σ.1 27) m))
  | 0, i, 0, _, _, _, hf => by omega
  | 0, i, fu + 1, σ, hw, hi, _ => by
    rw [L_X5_daysGo_2, if_pos (by rw [i_le, nI_tI (by omega), nI_tI (by omega)]; omega)]
    have : i = n := by omega
    subst this
    rw [show daysG (σ.1 27) 0 = σ.1 27 from rfl, w_id rfl]
  | m + 1, i, 0, _, _, _, hf => by omega
  | m + 1, i, fu + 1, σ, hw, hi, hf => by
    rw [L_X5_daysGo_2, if_neg (by rw [i_le, nI_tI (by omega), nI_tI (by omega)]; omega), M_dayGoes hw, bS]
    simp only [fk_B]
    rw [nI_1, M_daysL hn m (i + 1) fu (by rw [w_self]; exact (wf_dayG hw).1) (by omega) (by omega), w_self, w_w]
    rfl
theorem M_daysGo {x : Int32} {n : Nat} (hx : x = nI n) (hn : n < 4000) {σ : fk_T} (hw : WF (σ.1 27)) : F_X5_daysGo x σ = some (fk_w σ 27 (daysG (σ.1 27) n)) := by
  subst hx
  unfold F_X5_daysGo
  rw [show (0 : Int32) = nI 0 from rfl, M_daysL hn n 0 fk_N hw (by omega) (by unfold fk_N; omega)]
