/-! ===== fits, kinds ===== -/
def toldK (f : Nat → Int32) (w : Nat) : Nat → Nat → (Nat → Int32) → Bool
  | 0, _, _ => true
  | m + 1, i, G => if f i = -1 ∨ f i = G w then toldK f w m (i + 1) (dayG G) else false
theorem toldK_s (f : Nat → Int32) (w m i : Nat) (G : Nat → Int32) : toldK f w (m + 1) i G = if f i = -1 ∨ f i = G w then toldK f w m (i + 1) (dayG G) else false := rfl
def fcK (Q : Nat → Bool) : Nat → Nat → Int32 → Int32
  | 0, _, c => c
  | m + 1, v, c => if Q v = true then fcK Q m (v + 1) (c + 1) else fcK Q m (v + 1) c
theorem fcK_s (Q : Nat → Bool) (m v : Nat) (c : Int32) : fcK Q (m + 1) v c = if Q v = true then fcK Q m (v + 1) (c + 1) else fcK Q m (v + 1) c := rfl
def fsK (Q : Nat → Bool) : Nat → Nat → Int32 → Int32
  | 0, _, c => c
  | m + 1, v, c => if Q v = true then fsK Q m (v + 1) (c ||| (1 <<< (nI v &&& 31))) else fsK Q m (v + 1) c
theorem fsK_s (Q : Nat → Bool) (m v : Nat) (c : Int32) : fsK Q (m + 1) v c = if Q v = true then fsK Q m (v + 1) (c ||| (1 <<< (nI v &&& 31))) else fsK Q m (v + 1) c := rfl
theorem C_tRiftL {a b : Nat} (ha : a < 8) (hb8 : b < 8) {s z : Nat} (hs : s < 4) (hz : z ≤ 40) {f : Nat → Int32} : ∀ (m i fu : Nat) {τ : fk_T} {G : Nat → Int32}, CP 6 τ G → WF G → τ.1 23 s = nI z → (∀ j, τ.1 24 (40 * s + j) = f j) → 0 < i → i + m = z → m < fu → ∃ τ', FrP 6 τ τ' ∧ L_X4_trialRiftIsTold_3 fu (nI s) (nI a) (nI b) (nI i) τ (fun _ _ _ _ s => some (true, s)) = some (toldK f (61 + gbt a b) m i (dayG G), τ')
  | m, i, 0, _, _, _, _, _, _, _, _, hf => by omega
  | 0, i, fu + 1, τ, G, h, hw, h3, h4, h0, hi, _ => by
    have : i = z := by omega
    subst this
    refine ⟨τ, FrP.rf _ _, ?_⟩
    rw [L_X4_trialRiftIsTold_3, fA rfl hs (by omega), h3, if_pos (by rw [i_le]; omega)]
    rfl
  | m + 1, i, fu + 1, τ, G, h, hw, h3, h4, h0, hi, hf => by
    obtain ⟨s1, g1, g2, g3⟩ := C_passDays (Or.inr (Or.inl rfl)) (x := 1) (n := 1) rfl (by omega) h hw
    have g9 : CP 6 s1 (dayG G) := g2
    have e3 : s1.1 23 s = nI z := by rw [g3.1 23 (by omega)]; exact h3
    have e4 : ∀ j, s1.1 24 (40 * s + j) = f j := fun j => by rw [g3.1 24 (by omega)]; exact h4 j
    obtain ⟨τ', f1, q1⟩ := C_tRiftL ha hb8 hs hz m (i + 1) fu g9 (wf_dayG hw).1 e3 e4 (by omega) (by omega) (by omega)
    rw [L_X4_trialRiftIsTold_3, fA rfl hs (by omega), h3, if_neg (by rw [i_le, nI_tI (by omega), nI_tI (by omega)]; omega), if_neg (by rw [i_le, nI_tI (by omega), li0]; omega), g1, bS, C_get rfl rfl hs (by omega), bS, e4, toldK_s]
    dsimp only
    by_cases q : f i = -1
    · refine ⟨τ', g3.tr f1, ?_⟩
      rw [if_pos q, if_pos (Or.inl q), fB, nI_1, q1]
    · rw [if_neg q, C_riftOf g9 rfl rfl ha hb8, bS]
      try dsimp only
      by_cases q2 : f i = dayG G (61 + gbt a b)
      · refine ⟨τ', g3.tr f1, ?_⟩
        rw [if_pos q2, if_pos (Or.inr q2), fB, nI_1, q1]
      · refine ⟨s1, g3, ?_⟩
        rw [if_neg q2, if_neg (fun y => y.elim q q2)]
theorem C_tRift {a b : Nat} (ha : a < 8) (hb8 : b < 8) {s z : Nat} (hs : s < 4) (hz : z ≤ 40) {f : Nat → Int32} {τ : fk_T} {G : Nat → Int32} (h : CP 6 τ G) (hw : WF G) (h3 : τ.1 23 s = nI z) (h4 : ∀ j, τ.1 24 (40 * s + j) = f j) : ∃ τ', FrP 6 τ τ' ∧ F_X4_trialRiftIsTold (nI s) (nI a) (nI b) τ = some (toldK f (61 + gbt a b) z 0 G, τ') := by
  unfold F_X4_trialRiftIsTold
  cases z with
  | zero =>
    refine ⟨τ, FrP.rf _ _, ?_⟩
    rw [show fk_N = 4095 + 1 from rfl, L_X4_trialRiftIsTold_3, fA rfl hs (by omega), h3, if_pos (by decide)]
    rfl
  | succ m =>
    obtain ⟨τ', f1, q1⟩ := C_tRiftL ha hb8 hs hz m 1 4095 h hw h3 h4 (by omega) (by omega) (by omega)
    rw [show fk_N = 4095 + 1 from rfl, L_X4_trialRiftIsTold_3, fA rfl hs (by omega), h3, if_neg (by rw [i_le, nI_tI (by omega), li0]; omega), if_pos (by decide), C_get (x := nI s) (y := 0) (s := s) (i := 0) rfl rfl hs (by omega), bS, h4, toldK_s]
    dsimp only
    by_cases q : f 0 = -1
    · refine ⟨τ', f1, ?_⟩
      rw [if_pos q, if_pos (Or.inl q), fB]
      exact q1
    · rw [if_neg q, C_riftOf h rfl rfl ha hb8, bS]
      try dsimp only
      by_cases q2 : f 0 = G (61 + gbt a b)
      · refine ⟨τ', f1, ?_⟩
        rw [if_pos q2, if_pos (Or.inr q2), fB]
        exact q1
      · refine ⟨τ, FrP.rf _ _, ?_⟩
        rw [if_neg q2, if_neg (fun y => y.elim q q2)]
theorem C_tHeatL {p : Nat} (hp : p < 8) {s z : Nat} (hs : s < 4) (hz : z ≤ 40) {f : Nat → Int32} : ∀ (m i fu : Nat) {τ : fk_T} {G : Nat → Int32}, CP 6 τ G → WF G → τ.1 23 s = nI z → (∀ j, τ.1 24 (40 * s + j) = f j) → 0 < i → i + m = z → m < fu → ∃ τ', FrP 6 τ τ' ∧ L_X4_trialHeatIsTold_2 fu (nI s) (nI p) (nI i) τ (fun _ _ _ s => some (true, s)) = some (toldK f (21 + p) m i (dayG G), τ')
  | m, i, 0, _, _, _, _, _, _, _, _, hf => by omega
  | 0, i, fu + 1, τ, G, h, hw, h3, h4, h0, hi, _ => by
    have : i = z := by omega
    subst this
    refine ⟨τ, FrP.rf _ _, ?_⟩
    rw [L_X4_trialHeatIsTold_2, fA rfl hs (by omega), h3, if_pos (by rw [i_le]; omega)]
    rfl
  | m + 1, i, fu + 1, τ, G, h, hw, h3, h4, h0, hi, hf => by
    obtain ⟨s1, g1, g2, g3⟩ := C_passDays (Or.inr (Or.inl rfl)) (x := 1) (n := 1) rfl (by omega) h hw
    have g9 : CP 6 s1 (dayG G) := g2
    have e3 : s1.1 23 s = nI z := by rw [g3.1 23 (by omega)]; exact h3
    have e4 : ∀ j, s1.1 24 (40 * s + j) = f j := fun j => by rw [g3.1 24 (by omega)]; exact h4 j
    obtain ⟨τ', f1, q1⟩ := C_tHeatL hp hs hz m (i + 1) fu g9 (wf_dayG hw).1 e3 e4 (by omega) (by omega) (by omega)
    rw [L_X4_trialHeatIsTold_2, fA rfl hs (by omega), h3, if_neg (by rw [i_le, nI_tI (by omega), nI_tI (by omega)]; omega), if_neg (by rw [i_le, nI_tI (by omega), li0]; omega), g1, bS, C_get rfl rfl hs (by omega), bS, e4, toldK_s]
    dsimp only
    by_cases q : f i = -1
    · refine ⟨τ', g3.tr f1, ?_⟩
      rw [if_pos q, if_pos (Or.inl q), fB, nI_1, q1]
    · rw [if_neg q, rT (b := 6) g9 (21 + p) (nl 8 p) (by omega) (by omega)]
      try dsimp only
      by_cases q2 : f i = dayG G (21 + p)
      · refine ⟨τ', g3.tr f1, ?_⟩
        rw [if_pos q2, if_pos (Or.inr q2), fB, nI_1, q1]
      · refine ⟨s1, g3, ?_⟩
        rw [if_neg q2, if_neg (fun y => y.elim q q2)]
theorem C_tHeat {p : Nat} (hp : p < 8) {s z : Nat} (hs : s < 4) (hz : z ≤ 40) {f : Nat → Int32} {τ : fk_T} {G : Nat → Int32} (h : CP 6 τ G) (hw : WF G) (h3 : τ.1 23 s = nI z) (h4 : ∀ j, τ.1 24 (40 * s + j) = f j) : ∃ τ', FrP 6 τ τ' ∧ F_X4_trialHeatIsTold (nI s) (nI p) τ = some (toldK f (21 + p) z 0 G, τ') := by
  unfold F_X4_trialHeatIsTold
  cases z with
  | zero =>
    refine ⟨τ, FrP.rf _ _, ?_⟩
    rw [show fk_N = 4095 + 1 from rfl, L_X4_trialHeatIsTold_2, fA rfl hs (by omega), h3, if_pos (by decide)]
    rfl
  | succ m =>
    obtain ⟨τ', f1, q1⟩ := C_tHeatL hp hs hz m 1 4095 h hw h3 h4 (by omega) (by omega) (by omega)
    rw [show fk_N = 4095 + 1 from rfl, L_X4_trialHeatIsTold_2, fA rfl hs (by omega), h3, if_neg (by rw [i_le, nI_tI (by omega), li0]; omega), if_pos (by decide), C_get (x := nI s) (y := 0) (s := s) (i := 0) rfl rfl hs (by omega), bS, h4, toldK_s]
    dsimp only
    by_cases q : f 0 = -1
    · refine ⟨τ', f1, ?_⟩
      rw [if_pos q, if_pos (Or.inl q), fB]
      exact q1
    · rw [if_neg q, rT (b := 6) h (21 + p) (nl 8 p) (by omega) (by omega)]
      try dsimp only
      by_cases q2 : f 0 = G (21 + p)
      · refine ⟨τ', f1, ?_⟩
        rw [if_pos q2, if_pos (Or.inr q2), fB]
        exact q1
      · refine ⟨τ, FrP.rf _ _, ?_⟩
        rw [if_neg q2, if_neg (fun y => y.elim q q2)]
theorem l6 : (6 : Int32).toInt = 6 := by decide
theorem C_fiL {a b : Nat} (ha : a < 8) (hb8 : b < 8) {s z : Nat} (hs : s < 4) (hz : z ≤ 40) {f G : Nat → Int32} (hw : WF G) : ∀ (m v fu : Nat) (c : Int32) {τ : fk_T}, CP 1 τ G → τ.1 23 s = nI z → (∀ j, τ.1 24 (40 * s + j) = f j) → v + m = 100 → m < fu → ∃ τ', FrP 6 τ τ' ∧ ∀ k, L_X4_fits_56 fu (nI s) (nI a) (nI b) c (nI v) τ k = k (nI s) (nI a) (nI b) (fcK (fun v => toldK f (61 + gbt a b) z 0 (upd G (61 + gbt a b) (nI v))) m v c) (nI 100) τ'
  | m, v, 0, _, _, _, _, _, _, hf => by omega
  | 0, v, fu + 1, c, τ, h, h3, h4, hv, _ => by
    have : v = 100 := by omega
    subst this
    refine ⟨τ, FrP.rf _ _, fun k => ?_⟩
    rw [L_X4_fits_56, if_pos (by decide)]
    rfl
  | m + 1, v, fu + 1, c, τ, h, h3, h4, hv, hf => by
    have hbt := gbt_lt ha hb8
    obtain ⟨s0, b1, b2, b3⟩ := C_become (b := 6) (c := 1) (Or.inr (Or.inl rfl)) (Or.inl rfl) (by omega) h
    obtain ⟨s1, d1, d2, d3⟩ := C_setRift b2 (v := nI v) rfl rfl ha hb8
    have fr1 := b3.tr d3
    have hw1 : WF (upd G (61 + gbt a b) (nI v)) := hw.set (by omega) (by omega) (fun _ _ => by rw [hb_99 (by omega) (by omega), nI_tI (by omega)]; omega)
    obtain ⟨s2, g1, g2⟩ := C_tRift ha hb8 hs hz (f := f) d2 hw1 (by rw [fr1.1 23 (by omega)]; exact h3) (fun j => by rw [fr1.1 24 (by omega)]; exact h4 j)
    have fr := fr1.tr g1
    have h1 : CP 1 s2 G := h.fr (fun a z1 z2 => fr.1 a (by omega))
    have ih := fun c => C_fiL ha hb8 hs hz (f := f) hw m (v + 1) fu c h1 (by rw [fr.1 23 (by omega)]; exact h3) (fun j => by rw [fr.1 24 (by omega)]; exact h4 j) (by omega) (by omega)
    have st : ∀ k, L_X4_fits_56 (fu + 1) (nI s) (nI a) (nI b) c (nI v) τ k = if toldK f (61 + gbt a b) z 0 (upd G (61 + gbt a b) (nI v)) = true then L_X4_fits_56 fu (nI s) (nI a) (nI b) (c + 1) (nI (v + 1)) s2 k else L_X4_fits_56 fu (nI s) (nI a) (nI b) c (nI (v + 1)) s2 k := fun k => by
      rw [L_X4_fits_56, if_neg (by rw [i_lt, nI_tI (by omega), l99]; omega), b1, bS, d1, bS, g2, bS]
      dsimp only
      rw [fB, fB, fB, nI_1]
      cases toldK f (61 + gbt a b) z 0 (upd G (61 + gbt a b) (nI v))
      · rw [if_pos (show fk_b false = 0 from rfl), if_neg (by decide)]
      · rw [if_neg fbT, if_pos rfl]
    rw [fcK_s]
    try dsimp only
    by_cases q : toldK f (61 + gbt a b) z 0 (upd G (61 + gbt a b) (nI v)) = true
    · obtain ⟨τ', f1, q1⟩ := ih (c + 1)
      exact ⟨τ', fr.tr f1, fun k => by rw [st, if_pos q, if_pos q]; exact q1 k⟩
    · obtain ⟨τ', f1, q1⟩ := ih c
      exact ⟨τ', fr.tr f1, fun k => by rw [st, if_neg q, if_neg q]; exact q1 k⟩
theorem C_kiL {p : Nat} (hp : p < 8) {s z : Nat} (hs : s < 4) (hz : z ≤ 40) {f G : Nat → Int32} (hw : WF G) : ∀ (m v fu : Nat) (c : Int32) {τ : fk_T}, CP 1 τ G → τ.1 23 s = nI z → (∀ j, τ.1 24 (40 * s + j) = f j) → v + m = 7 → m < fu → ∃ τ', FrP 6 τ τ' ∧ ∀ k, L_X4_kinds_54 fu (nI s) (nI p) c (nI v) τ k = k (nI s) (nI p) (fsK (fun v => toldK f (21 + p) z 0 (upd G (13 + p) (nI v))) m v c) (nI 7) τ'
  | m, v, 0, _, _, _, _, _, _, hf => by omega
  | 0, v, fu + 1, c, τ, h, h3, h4, hv, _ => by
    have : v = 7 := by omega
    subst this
    refine ⟨τ, FrP.rf _ _, fun k => ?_⟩
    rw [L_X4_kinds_54, if_pos (by decide)]
    rfl
  | m + 1, v, fu + 1, c, τ, h, h3, h4, hv, hf => by
    obtain ⟨s0, b1, b2, b3⟩ := C_become (b := 6) (c := 1) (Or.inr (Or.inl rfl)) (Or.inl rfl) (by omega) h
    have d2 := b2.trm (i := 0 + p) (m := 13 + p) (by omega) (by omega) (nI v)
    have fr1 : FrP 6 τ (fk_w s0 8 (upd (s0.1 8) (0 + p) (nI v))) := b3.tr (FrP.w _ (by omega))
    have hw1 : WF (upd G (13 + p) (nI v)) := hw.set (by omega) (by omega) (fun _ _ => by rw [hb_kind hp, nI_tI (by omega)]; omega)
    obtain ⟨s2, g1, g2⟩ := C_tHeat hp hs hz (f := f) d2 hw1 (by rw [fr1.1 23 (by omega)]; exact h3) (fun j => by rw [fr1.1 24 (by omega)]; exact h4 j)
    have fr := fr1.tr g1
    have h1 : CP 1 s2 G := h.fr (fun a z1 z2 => fr.1 a (by omega))
    have ih := fun c => C_kiL hp hs hz (f := f) hw m (v + 1) fu c h1 (by rw [fr.1 23 (by omega)]; exact h3) (fun j => by rw [fr.1 24 (by omega)]; exact h4 j) (by omega) (by omega)
    have st : ∀ k, L_X4_kinds_54 (fu + 1) (nI s) (nI p) c (nI v) τ k = if toldK f (21 + p) z 0 (upd G (13 + p) (nI v)) = true then L_X4_kinds_54 fu (nI s) (nI p) (c ||| (1 <<< (nI v &&& 31))) (nI (v + 1)) s2 k else L_X4_kinds_54 fu (nI s) (nI p) c (nI (v + 1)) s2 k := fun k => by
      rw [L_X4_kinds_54, if_neg (by rw [i_lt, nI_tI (by omega), l6]; omega), b1, bS, fS (j := 0 + p) (nl 0 p) (by omega) (by omega), g2, bS]
      dsimp only
      rw [fB, fB, fB, nI_1]
      cases toldK f (21 + p) z 0 (upd G (13 + p) (nI v))
      · rw [if_pos (show fk_b false = 0 from rfl), if_neg (by decide)]
      · rw [if_neg fbT, if_pos rfl]
    rw [fsK_s]
    try dsimp only
    by_cases q : toldK f (21 + p) z 0 (upd G (13 + p) (nI v)) = true
    · obtain ⟨τ', f1, q1⟩ := ih (c ||| (1 <<< (nI v &&& 31)))
      exact ⟨τ', fr.tr f1, fun k => by rw [st, if_pos q, if_pos q]; exact q1 k⟩
    · obtain ⟨τ', f1, q1⟩ := ih c
      exact ⟨τ', fr.tr f1, fun k => by rw [st, if_neg q, if_neg q]; exact q1 k⟩
theorem st_eq {σ σ' : fk_T} (h : ∀ r, r ≠ 27 → σ'.1 r = σ.1 r) (h2 : σ'.2 = σ.2) : fk_w σ' 27 (σ.1 27) = σ := by
  apply Prod.ext
  · funext r
    show (if r = 27 then σ.1 27 else σ'.1 r) = σ.1 r
    by_cases e : r = 27
    · rw [if_pos e, e]
    · rw [if_neg e, h r e]
  · exact h2
theorem M_ftL {w : Nat} (hw9 : w < 135) {s z : Nat} (hs : s < 4) (hz : z ≤ 40) {f G0 : Nat → Int32} {x2 x3 x5 x6 x7 x8 : Int32} : ∀ (m i fu : Nat) {σ : fk_T}, WF (σ.1 27) → Out G0 (σ.1 27) → σ.1 34 s = nI z → (∀ j, j < z → σ.1 35 (40 * s + j) = f j) → i + m = z → m < fu → ∃ σ' i', (∀ k, L_X5_fitting_40 fu (nI s) x2 x3 (nI w) x5 x6 x7 x8 1 (nI i) σ k = k (nI s) x2 x3 (nI w) x5 x6 x7 x8 (fk_b (toldK f w m i (σ.1 27))) i' σ') ∧ (∀ r, r ≠ 27 → σ'.1 r = σ.1 r) ∧ Out G0 (σ'.1 27) ∧ σ'.2 = σ.2
  | m, i, 0, _, _, _, _, _, _, hf => by omega
  | 0, i, fu + 1, σ, hw, ho, h3, h4, hi, _ => by
    have : i = z := by omega
    subst this
    refine ⟨σ, nI i, fun k => ?_, fun _ _ => rfl, ho, rfl⟩
    rw [L_X5_fitting_40, fA rfl hs (by omega), h3, if_pos (by rw [i_le]; omega)]
    rfl
  | m + 1, i, fu + 1, σ, hw, ho, h3, h4, hi, hf => by
    have hd := M_dayGoes hw
    have eo : ∀ r, r ≠ 27 → (fk_w σ 27 (dayG (σ.1 27))).1 r = σ.1 r := fun r hr => w_ne _ _ hr
    have ho2 : Out G0 ((fk_w σ 27 (dayG (σ.1 27))).1 27) := by rw [w_self]; exact ho.tr (out_dayG hw)
    obtain ⟨σ', i', a1, a2, a3, a4⟩ := M_ftL hw9 hs hz (f := f) (G0 := G0) (x2 := x2) (x3 := x3) (x5 := x5) (x6 := x6) (x7 := x7) (x8 := x8) m (i + 1) fu (σ := fk_w σ 27 (dayG (σ.1 27))) (by rw [w_self]; exact (wf_dayG hw).1) ho2 (by rw [eo 34 (by omega)]; exact h3) (fun j hj => by rw [eo 35 (by omega)]; exact h4 j hj) (by omega) (by omega)
    rw [w_self] at a1
    have hg : ∀ k, L_X5_fitting_40 (fu + 1) (nI s) x2 x3 (nI w) x5 x6 x7 x8 1 (nI i) σ k = if f i = -1 ∨ f i = σ.1 27 w then L_X5_fitting_40 fu (nI s) x2 x3 (nI w) x5 x6 x7 x8 1 (nI (i + 1)) (fk_w σ 27 (dayG (σ.1 27))) k else L_X5_fitting_40 fu (nI s) x2 x3 (nI w) x5 x6 x7 x8 0 (nI (i + 1)) (fk_w σ 27 (dayG (σ.1 27))) k := fun k => by
      rw [L_X5_fitting_40, fA rfl hs (by omega), h3, if_neg (by rw [i_le, nI_tI (by omega), nI_tI (by omega)]; omega), if_neg (by decide), fA (j := 40 * s + i) (by rw [nm, nI_add]) (by omega) (by omega), h4 i (by omega), hd]
      by_cases q : f i = -1
      · rw [if_pos q, if_pos (Or.inl q), bS, fB, nI_1]
      · rw [if_neg q, fA (j := w) rfl hw9 (by omega)]
        by_cases q2 : f i = σ.1 27 w
        · rw [if_pos q2, if_pos (Or.inr q2), bS, fB, nI_1]
        · rw [if_neg q2, if_neg (fun y => y.elim q q2), bS, fB, nI_1]
    rw [toldK_s]
    by_cases q : f i = -1 ∨ f i = σ.1 27 w
    · refine ⟨σ', i', fun k => ?_, fun r hr => by rw [a2 r hr, eo r hr], a3, a4⟩
      rw [hg, if_pos q, if_pos q]
      exact a1 k
    · refine ⟨fk_w σ 27 (dayG (σ.1 27)), nI (i + 1), fun k => ?_, eo, ho2, rfl⟩
      rw [hg, if_neg q, if_neg q]
      cases fu with
      | zero => omega
      | succ fu =>
        rw [L_X5_fitting_40, fA rfl hs (by omega), if_pos (show (0 : Int32) = 0 from rfl)]
        show (if _ then _ else _) = _
        split <;> rfl
/-- the outer loop, a step -/
theorem M_fiS {w w2 : Nat} (hw9 : w < 135) (hw29 : w2 < 135) {s z top v : Nat} (hs : s < 4) (hz : z ≤ 40) (ht : top < 1000) (hv : v ≤ top) {f G A : Nat → Int32} (hwf : WF (upd G w (nI v))) {σ : fk_T} (h27 : σ.1 27 = G) (h29 : σ.1 29 = cpG G A) (h3 : σ.1 34 s = nI z) (h4 : ∀ j, j < z → σ.1 35 (40 * s + j) = f j) {x5 x6 x7 : Int32} {fu : Nat} : ∀ k, L_X5_fitting_20 (fu + 1) (nI s) (nI w) (nI top) (nI w2) x5 x6 x7 (nI v) σ k = L_X5_fitting_20 fu (nI s) (nI w) (nI top) (nI w2) x5 (if toldK f w2 z 0 (upd G w (nI v)) = true ∧ ¬ x5 = 0 then x6 ||| (1 <<< (nI v &&& 31)) else x6) (if toldK f w2 z 0 (upd G w (nI v)) = true then x7 + 1 else x7) (nI (v + 1)) σ k := fun k => by
  have e27 : (fk_w σ 27 (upd (σ.1 27) w (nI v))).1 27 = upd G w (nI v) := by rw [w_self, h27]
  obtain ⟨σ', i', a1, a2, a3, a4⟩ := M_ftL hw29 hs hz (f := f) (G0 := G) (x2 := nI w) (x3 := nI top) (x5 := x5) (x6 := x6) (x7 := x7) (x8 := nI v) z 0 fk_N (σ := fk_w σ 27 (upd (σ.1 27) w (nI v))) (by rw [e27]; exact hwf) (by rw [e27]; exact Out.u _ hw9) (by rw [w_ne _ _ (by omega)]; exact h3) (fun j hj => by rw [w_ne _ _ (by omega)]; exact h4 j hj) (by omega) (by unfold fk_N; omega)
  have a9 : ∀ r, r ≠ 27 → σ'.1 r = σ.1 r := fun r hr => by rw [a2 r hr, w_ne _ _ hr]
  have bk : F_X5_copies 29 27 σ' = some σ := by
    rw [M_back (G := G) (A := A) (by rw [a9 29 (by omega)]; exact h29) a3, ← h27, st_eq a9 a4]
  rw [e27] at a1
  rw [L_X5_fitting_20, if_neg (by rw [i_lt, nI_tI (by omega), nI_tI (by omega)]; omega), fS (j := w) rfl hw9 (by omega)]
  refine (a1 _).trans ?_
  rw [bk, bS]
  cases toldK f w2 z 0 (upd G w (nI v))
  · rw [if_pos (show fk_b false = 0 from rfl), fB, if_pos (show fk_b false = 0 from rfl), fB, fB, nI_1, Int32.or_zero, Int32.add_zero, if_neg (fun y => absurd y.1 (by decide)), if_neg (by decide)]
  · rw [if_neg fbT, if_pos (show true = true from rfl)]
    by_cases q : x5 = 0
    · rw [if_pos q, fB, if_neg fbT, fB, fB, nI_1, Int32.or_zero, if_neg (fun y => y.2 q)]
    · rw [if_neg q, fB, if_neg fbT, fB, fB, nI_1, if_pos ⟨rfl, q⟩]
theorem M_fiL {w w2 : Nat} (hw9 : w < 135) (hw29 : w2 < 135) {s z top : Nat} (hs : s < 4) (hz : z ≤ 40) (ht : top < 1000) {f G A : Nat → Int32} (hwf : ∀ v, v ≤ top → WF (upd G w (nI v))) {σ : fk_T} (h27 : σ.1 27 = G) (h29 : σ.1 29 = cpG G A) (h3 : σ.1 34 s = nI z) (h4 : ∀ j, j < z → σ.1 35 (40 * s + j) = f j) {x5 : Int32} : ∀ (m v fu : Nat) (x6 x7 : Int32), v + m = top + 1 → m < fu → ∃ y6, (¬ x5 = 0 → y6 = fsK (fun v => toldK f w2 z 0 (upd G w (nI v))) m v x6) ∧ ∀ k, L_X5_fitting_20 fu (nI s) (nI w) (nI top) (nI w2) x5 x6 x7 (nI v) σ k = k (nI s) (nI w) (nI top) (nI w2) x5 y6 (fcK (fun v => toldK f w2 z 0 (upd G w (nI v))) m v x7) (nI (top + 1)) σ
  | m, v, 0, _, _, _, hf => by omega
  | 0, v, fu + 1, x6, x7, hv, _ => by
    have : v = top + 1 := by omega
    subst this
    refine ⟨x6, fun _ => rfl, fun k => ?_⟩
    rw [L_X5_fitting_20, if_pos (by rw [i_lt, nI_tI (by omega), nI_tI (by omega)]; omega)]
    rfl
  | m + 1, v, fu + 1, x6, x7, hv, hf => by
    obtain ⟨y6, a1, a2⟩ := M_fiL hw9 hw29 hs hz ht hwf h27 h29 h3 h4 (x5 := x5) m (v + 1) fu (if toldK f w2 z 0 (upd G w (nI v)) = true ∧ ¬ x5 = 0 then x6 ||| (1 <<< (nI v &&& 31)) else x6) (if toldK f w2 z 0 (upd G w (nI v)) = true then x7 + 1 else x7) (by omega) (by omega)
    refine ⟨y6, fun h5 => ?_, fun k => ?_⟩
    · rw [a1 h5, fsK_s]
      try dsimp only
      by_cases q : toldK f w2 z 0 (upd G w (nI v)) = true
      · rw [if_pos ⟨q, h5⟩, if_pos q]
      · rw [if_neg (fun y => q y.1), if_neg q]
    · rw [M_fiS hw9 hw29 hs hz ht (by omega) (hwf v (by omega)) h27 h29 h3 h4, a2, fcK_s]
      try dsimp only
      by_cases q : toldK f w2 z 0 (upd G w (nI v)) = true
      · rw [if_pos q, if_pos q]
      · rw [if_neg q, if_neg q]
theorem Q_fits {σ : fk_T} (hI : Inv σ) (x1 x2 x3 : Int32) : QQ (F_X4_fits x1 x2 x3) (F_X5_fits x1 x2 x3) σ := by
  obtain ⟨hw, hc⟩ := hI.p
  have c1 : ∀ τ, F_X4_within x1 0 3 τ = some (inR x1 0 3, τ) := cR x1 0 3 (by omega) (by omega)
  cases h1 : inR x1 0 3
  · refine QQ.find hI (k := 0) (by omega) ?_ ?_
    · first | (simp only [F_X4_fits, c1, h1, bS, fb0, if_true, if_false, Bool.true_eq_false, Bool.false_eq_true, reduceIte]; done) | (simp only [F_X4_fits, c1, h1, bS, fb0, if_true, if_false, Bool.true_eq_false, Bool.false_eq_true, reduceIte]; rfl)
    · have m1 : F_X5_whyNone x1 (f25 σ 0) = some (0, (f25 σ 0)) := M_why0 h1 _
      first | (simp only [F_X5_fits, m1, h1, bS, fb0, if_true, if_false, Bool.true_eq_false, Bool.false_eq_true, reduceIte, show ¬ ((0 : Int32) < 0) by decide]; done) | (simp only [F_X5_fits, m1, h1, bS, fb0, if_true, if_false, Bool.true_eq_false, Bool.false_eq_true, reduceIte, show ¬ ((0 : Int32) < 0) by decide]; rfl)
  obtain ⟨s, e1, s1, s2, hs⟩ := inR_of h1
  have hs4 : s < 4 := by omega
  obtain ⟨v1, v2, v3, z, hz, v4, v5⟩ := hI.2.2.2.2 s hs4
  by_cases hm : σ.1 22 s = 0
  · refine QQ.find hI (k := 5) (by omega) ?_ ?_
    · simp only [F_X4_fits, c1, h1, C_misT e1 hs4 hm, bS, fb0, if_true, if_false, Bool.true_eq_false, Bool.false_eq_true, reduceIte]
    · have m1 := M_why5 h1 e1 hs4 (τ := f25 σ 5) (by rw [f25_ne _ _ (by omega), ← v1]; exact hm)
      simp only [F_X5_fits, m1, bS, show ¬ ((5 : Int32) < 0) by decide, if_false]
  cases h2 : twoG (σ.1 27) x2 x3
  · refine QQ.find hI (k := 0) (by omega) ?_ ?_
    · first | (simp only [F_X4_fits, c1, h1, C_misF e1 hs4 hm, C_hasTwo hc x2 x3, h2, bS, fb0, if_true, if_false, Bool.true_eq_false, Bool.false_eq_true, reduceIte]; done) | (simp only [F_X4_fits, c1, h1, C_misF e1 hs4 hm, C_hasTwo hc x2 x3, h2, bS, fb0, if_true, if_false, Bool.true_eq_false, Bool.false_eq_true, reduceIte]; rfl)
    · have m1 := M_whyN h1 e1 hs4 (τ := f25 σ 0) (by rw [f25_ne _ _ (by omega), ← v1]; exact hm)
      have m2 : F_X5_areTwo x2 x3 (f25 σ 0) = some (twoG (σ.1 27) x2 x3, (f25 σ 0)) := M_areTwo (σ := (f25 σ 0)) hw x2 x3
      simp only [F_X5_fits, m1, m2, h2, show ((-1 : Int32) < 0) by decide, bS, fb0, if_true, if_false, Bool.true_eq_false, Bool.false_eq_true, reduceIte]
  obtain ⟨a, b, ea, eb, ha, hb8, hab, -⟩ := twoG_of hw h2
  have hbt := gbt_lt ha hb8
  obtain ⟨s1, f1, g1⟩ := C_fiL ha hb8 hs4 hz (f := fun j => σ.1 24 (40 * s + j)) hw 100 0 fk_N 0 hc v4 (fun _ => rfl) (by omega) (by unfold fk_N; omega)
  have t27 : s1.1 27 = σ.1 27 := f1.1 27 (by omega)
  have a27 : (as29 s1).1 27 = σ.1 27 := by rw [as_ne _ (by omega), t27]
  have a29 : (as29 s1).1 29 = cpG (σ.1 27) (s1.1 29) := by rw [as_29, t27]
  have hwf : ∀ v, v ≤ 99 → WF (upd (σ.1 27) (61 + gbt a b) (nI v)) := fun v hv => hw.set (by omega) (by omega) (fun _ _ => by rw [hb_99 (by omega) (by omega), nI_tI (by omega)]; omega)
  obtain ⟨y6, -, k2⟩ := M_fiL (w := 61 + gbt a b) (w2 := 61 + gbt a b) (by omega) (by omega) hs4 hz (top := 99) (by omega) (f := fun j => σ.1 24 (40 * s + j)) hwf a27 a29 (by rw [as_ne _ (by omega), f1.1 34 (by omega), ← v3]; exact v4) (fun j hj => by rw [as_ne _ (by omega), f1.1 35 (by omega)]; exact (v5 j hj).symm) (x5 := 0) 100 0 fk_N 0 0 (by omega) (by unfold fk_N; omega)
  refine ⟨fcK (fun v => toldK (fun j => σ.1 24 (40 * s + j)) (61 + gbt a b) z 0 (upd (σ.1 27) (61 + gbt a b) (nI v))) 100 0 0, s1, as29 s1, ?_, ?_, (hI.trial f1).aside⟩
  · simp only [F_X4_fits, c1, h1, C_misF e1 hs4 hm, C_hasTwo hc, h2, bS, fb0, if_true, if_false, Bool.true_eq_false, Bool.false_eq_true, reduceIte]
    rw [e1, ea, eb]
    exact g1 _
  · have m1 := M_whyN h1 e1 hs4 (τ := s1) (by rw [f1.1 33 (by omega), ← v1]; exact hm)
    have m2 : F_X5_areTwo x2 x3 s1 = some (twoG (σ.1 27) x2 x3, s1) := by rw [M_areTwo (by rw [t27]; exact hw), t27]
    simp only [F_X5_fits, m1, m2, h2, show ((-1 : Int32) < 0) by decide, bS, fb0, if_true, if_false, Bool.true_eq_false, Bool.false_eq_true, reduceIte]
    rw [M_between ea eb ha hb8, bS]
    dsimp only
    rw [M_between ea eb ha hb8, bS]
    dsimp only
    unfold F_X5_fitting
    rw [M_aside, bS, e1]
    refine (congrArg (fun o : Option (Int32 × fk_T) => o.bind (fun q => some (q.1, q.2))) (k2 _)).trans ?_
    rfl
theorem Q_kinds {σ : fk_T} (hI : Inv σ) (x1 x2 : Int32) : QQ (F_X4_kinds x1 x2) (F_X5_kinds x1 x2) σ := by
  obtain ⟨hw, hc⟩ := hI.p
  have c1 : ∀ τ, F_X4_within x1 0 3 τ = some (inR x1 0 3, τ) := cR x1 0 3 (by omega) (by omega)
  cases h1 : inR x1 0 3
  · refine QQ.find hI (k := 0) (by omega) ?_ ?_
    · first | (simp only [F_X4_kinds, c1, h1, bS, fb0, if_true, if_false, Bool.true_eq_false, Bool.false_eq_true, reduceIte]; done) | (simp only [F_X4_kinds, c1, h1, bS, fb0, if_true, if_false, Bool.true_eq_false, Bool.false_eq_true, reduceIte]; rfl)
    · have m1 : F_X5_whyNone x1 (f25 σ 0) = some (0, (f25 σ 0)) := M_why0 h1 _
      first | (simp only [F_X5_kinds, m1, h1, bS, fb0, if_true, if_false, Bool.true_eq_false, Bool.false_eq_true, reduceIte, show ¬ ((0 : Int32) < 0) by decide]; done) | (simp only [F_X5_kinds, m1, h1, bS, fb0, if_true, if_false, Bool.true_eq_false, Bool.false_eq_true, reduceIte, show ¬ ((0 : Int32) < 0) by decide]; rfl)
  obtain ⟨s, e1, s1, s2, hs⟩ := inR_of h1
  have hs4 : s < 4 := by omega
  obtain ⟨v1, v2, v3, z, hz, v4, v5⟩ := hI.2.2.2.2 s hs4
  by_cases hm : σ.1 22 s = 0
  · refine QQ.find hI (k := 5) (by omega) ?_ ?_
    · simp only [F_X4_kinds, c1, h1, C_misT e1 hs4 hm, bS, fb0, if_true, if_false, Bool.true_eq_false, Bool.false_eq_true, reduceIte]
    · have m1 := M_why5 h1 e1 hs4 (τ := f25 σ 5) (by rw [f25_ne _ _ (by omega), ← v1]; exact hm)
      simp only [F_X5_kinds, m1, bS, show ¬ ((5 : Int32) < 0) by decide, if_false]
  cases h2 : hasG (σ.1 27) x2
  · refine QQ.find hI (k := 0) (by omega) ?_ ?_
    · first | (simp only [F_X4_kinds, c1, h1, C_misF e1 hs4 hm, C_has hc x2, h2, bS, fb0, if_true, if_false, Bool.true_eq_false, Bool.false_eq_true, reduceIte]; done) | (simp only [F_X4_kinds, c1, h1, C_misF e1 hs4 hm, C_has hc x2, h2, bS, fb0, if_true, if_false, Bool.true_eq_false, Bool.false_eq_true, reduceIte]; rfl)
    · have m1 := M_whyN h1 e1 hs4 (τ := f25 σ 0) (by rw [f25_ne _ _ (by omega), ← v1]; exact hm)
      have m2 : F_X5_isPotter x2 (f25 σ 0) = some (hasG (σ.1 27) x2, (f25 σ 0)) := M_isPotter (σ := (f25 σ 0)) hw x2
      simp only [F_X5_kinds, m1, m2, h2, show ((-1 : Int32) < 0) by decide, bS, fb0, if_true, if_false, Bool.true_eq_false, Bool.false_eq_true, reduceIte]
  obtain ⟨p, ea, hp, -⟩ := hasG_of hw h2
  obtain ⟨s1, f1, g1⟩ := C_kiL hp hs4 hz (f := fun j => σ.1 24 (40 * s + j)) hw 7 0 fk_N 0 hc v4 (fun _ => rfl) (by omega) (by unfold fk_N; omega)
  have t27 : s1.1 27 = σ.1 27 := f1.1 27 (by omega)
  have a27 : (as29 s1).1 27 = σ.1 27 := by rw [as_ne _ (by omega), t27]
  have a29 : (as29 s1).1 29 = cpG (σ.1 27) (s1.1 29) := by rw [as_29, t27]
  have hwf : ∀ v, v ≤ 6 → WF (upd (σ.1 27) (13 + p) (nI v)) := fun v hv => hw.set (by omega) (by omega) (fun _ _ => by rw [hb_kind hp, nI_tI (by omega)]; omega)
  obtain ⟨y6, k1, k2⟩ := M_fiL (w := 13 + p) (w2 := 21 + p) (by omega) (by omega) hs4 hz (top := 6) (by omega) (f := fun j => σ.1 24 (40 * s + j)) hwf a27 a29 (by rw [as_ne _ (by omega), f1.1 34 (by omega), ← v3]; exact v4) (fun j hj => by rw [as_ne _ (by omega), f1.1 35 (by omega)]; exact (v5 j hj).symm) (x5 := 1) 7 0 fk_N 0 0 (by omega) (by unfold fk_N; omega)
  have k3 := k1 (by decide)
  refine ⟨fsK (fun v => toldK (fun j => σ.1 24 (40 * s + j)) (21 + p) z 0 (upd (σ.1 27) (13 + p) (nI v))) 7 0 0, s1, as29 s1, ?_, ?_, (hI.trial f1).aside⟩
  · simp only [F_X4_kinds, c1, h1, C_misF e1 hs4 hm, C_has hc, h2, bS, fb0, if_true, if_false, Bool.true_eq_false, Bool.false_eq_true, reduceIte]
    rw [e1, ea]
    exact g1 _
  · have m1 := M_whyN h1 e1 hs4 (τ := s1) (by rw [f1.1 33 (by omega), ← v1]; exact hm)
    have m2 : F_X5_isPotter x2 s1 = some (hasG (σ.1 27) x2, s1) := by rw [M_isPotter (by rw [t27]; exact hw), t27]
    simp only [F_X5_kinds, m1, m2, h2, show ((-1 : Int32) < 0) by decide, bS, fb0, if_true, if_false, Bool.true_eq_false, Bool.false_eq_true, reduceIte]
    rw [ea, nl, nl]
    unfold F_X5_fitting
    rw [M_aside, bS, e1]
    refine (congrArg (fun o : Option (Int32 × fk_T) => o.bind (fun q => some (q.1, q.2))) (k2 _)).trans ?_
    rw [k3]
    rfl
