/-! ===== text: items, side by side ===== -/
def kM (μ μ' : fk_T) : Prop := (∀ a, a ≠ 26 → a ≠ 27 → μ'.1 a = μ.1 a) ∧ ∀ i, i ≠ 8 → i ≠ 9 → i ≠ 10 → i ≠ 12 → μ'.1 26 i = μ.1 26 i
theorem kM.rf (μ : fk_T) : kM μ μ := ⟨fun _ _ _ => rfl, fun _ _ _ _ _ => rfl⟩
theorem kM.tr {μ μ1 μ2 : fk_T} (h1 : kM μ μ1) (h2 : kM μ1 μ2) : kM μ μ2 := ⟨fun a ha hb => (h2.1 a ha hb).trans (h1.1 a ha hb), fun i a b c d => (h2.2 i a b c d).trans (h1.2 i a b c d)⟩
theorem gM.k {μ μ' : fk_T} (h : gM μ μ') : kM μ μ' := ⟨fun a ha _ => h.1 a ha, h.2⟩
theorem kM.w (μ : fk_T) (g : Nat → Int32) : kM μ (fk_w μ 27 g) := ⟨fun _ _ h => w_ne _ _ h, fun i _ _ _ _ => by rw [w_ne _ _ (by omega)]⟩
def fC (τ τ' : fk_T) : Prop := ∀ a, a < 6 ∨ (10 < a ∧ a ≠ 18) → τ'.1 a = τ.1 a
theorem fC.rf (τ : fk_T) : fC τ τ := fun _ _ => rfl
theorem fC.tr {τ τ1 τ2 : fk_T} (h1 : fC τ τ1) (h2 : fC τ1 τ2) : fC τ τ2 := fun a ha => (h2 a ha).trans (h1 a ha)
theorem gC.f {τ τ' : fk_T} (h : gC τ τ') : fC τ τ' := fun a ha => h a (by omega)
theorem FrP.f {τ τ' : fk_T} (h : FrP 6 τ τ') : fC τ τ' := fun a ha => h.1 a (by omega)
def fM (μ μ' : fk_T) : Prop := kM μ μ' ∧ Out (μ.1 27) (μ'.1 27)
theorem fM.tr {μ μ1 μ2 : fk_T} (h1 : fM μ μ1) (h2 : fM μ1 μ2) : fM μ μ2 := ⟨h1.1.tr h2.1, h1.2.tr h2.2⟩
theorem gM.f {μ μ' : fk_T} (h : gM μ μ') : fM μ μ' := ⟨h.k, by rw [h.1 27 (by omega)]; exact Out.rf _⟩
theorem CP.g {τ τ' : fk_T} {G : Nat → Int32} (h : CP 6 τ G) (g : gC τ τ') : CP 6 τ' G := h.fr (fun a h1 h2 => g a (by omega))
theorem txS.fr {B : Nat → Int32} {t q : Nat} {τ τ' μ μ' : fk_T} (h : txS B t τ μ q) (h1 : τ'.1 18 = τ.1 18) (h2 : μ'.1 26 = μ.1 26) (h3 : μ'.2 = μ.2) : txS B t τ' μ' q := by
  unfold txS; rw [h1, h2, h3]; exact h
/-! behind a fault -/
def haF (τ : fk_T) : Prop := (∃ j, j ≤ 120 ∧ τ.1 18 4 = nI j) ∧ ¬ τ.1 18 5 = -1
theorem txF.ha {t : Nat} {τ μ : fk_T} (h : txF t τ μ) (ht : t ≤ 120) : haF τ := by
  obtain ⟨h1, f, h2, h3, h4⟩ := h
  exact ⟨h1, by rw [h3]; exact nI_m1 (by omega)⟩
theorem txF.ge {t : Nat} {τ μ : fk_T} (h : txF t τ μ) (ht : t ≤ 120) : (0 : Int32) ≤ μ.1 26 12 := by
  obtain ⟨h1, f, h2, h3, h4⟩ := h
  rw [h4]; exact nI_g0 (by omega)
theorem txF.st {t : Nat} {τ τ' μ : fk_T} (h : txF t τ μ) (h1 : ∃ j, j ≤ 120 ∧ τ'.1 18 4 = nI j) (h2 : τ'.1 18 5 = τ.1 18 5) : txF t τ' μ := by
  obtain ⟨-, f, b, c, d⟩ := h
  exact ⟨h1, f, b, by rw [h2, c], d⟩
theorem haF.tok {τ : fk_T} (h : haF τ) {α : Type} (k : Int32 → Option α) : ∃ y, fk_A (τ.1 19) 121 (τ.1 18 4) k = k y := by
  obtain ⟨⟨j, h1, h2⟩, -⟩ := h
  exact ⟨τ.1 19 j, fA h2 (by omega) (by omega)⟩
theorem C_num1 {τ : fk_T} (h : haF τ) (lo hi : Int32) : F_X1_readNumber lo hi τ = some (lo, τ) := by
  unfold F_X1_readNumber
  obtain ⟨y, e⟩ := h.tok (fun y1 => (F_X1_hasFault τ).bind (fun q2 => if (fk_b q2.1) = 0 then ((F_X4_within y1 lo hi q2.2).bind (fun q4 => if (fk_b q4.1) = 0 then ((F_X1_refuse q4.2).bind (fun q6 => some (lo, q6))) else ((F_X1_step q4.2).bind (fun q5 => some (y1, q5))))) else ((F_X1_refuse q2.2).bind (fun q3 => some (lo, q3)))))
  refine e.trans ?_
  rw [C_hasF1 h.2, bS]
  dsimp only
  rw [if_neg fbT, C_ref1 h.2, bS]
theorem C_step1 {τ : fk_T} (h : haF τ) : ∃ τ', F_X1_step τ = some τ' ∧ haF τ' ∧ τ'.1 18 5 = τ.1 18 5 ∧ gC τ τ' := by
  obtain ⟨⟨j, h1, h2⟩, h3⟩ := h
  unfold F_X1_step
  by_cases q : (120 : Int32) ≤ τ.1 18 4
  · exact ⟨τ, if_pos q, ⟨⟨j, h1, h2⟩, h3⟩, rfl, gC.rf _⟩
  · rw [if_neg q, fB]
    rw [h2, i_le, l120, nI_tI (by omega)] at q
    refine ⟨_, rfl, ⟨⟨j + 1, by omega, by rw [w_self, u_self, h2, nI_1]⟩, by rw [w_self, u_ne _ _ (by omega)]; exact h3⟩, by rw [w_self, u_ne _ _ (by omega)], gC.w _ _⟩
theorem C_per1 {τ : fk_T} (h : haF τ) (x1 x2 : Int32) : ∃ y τ', F_X1_readPerhaps x1 x2 τ = some (y, τ') ∧ haF τ' ∧ τ'.1 18 5 = τ.1 18 5 ∧ gC τ τ' := by
  unfold F_X1_readPerhaps
  obtain ⟨y, e⟩ := h.tok (fun y1 => if y1 = ((-10) - x1) then ((F_X1_step τ).bind (fun q2 => (F_X1_readNumber 0 99 q2).bind (fun q3 => some (q3.1, q3.2)))) else (some (x2, τ)))
  rw [e]
  by_cases q : y = (-10) - x1
  · obtain ⟨τ', a1, a2, a3, a4⟩ := C_step1 h
    refine ⟨0, τ', ?_, a2, a3, a4⟩
    rw [if_pos q, a1, bS, C_num1 a2, bS]
  · exact ⟨x2, τ, if_neg q, h, rfl, gC.rf _⟩
theorem M_per1 {μ : fk_T} (h : (0 : Int32) ≤ μ.1 26 12) (W : Int64) (x3 x4 : Int32) : F_X5_perhaps W x3 x4 μ = some μ := by
  unfold F_X5_perhaps; rw [if_pos h]
/-! a word and a number, perhaps -/
theorem tx_per {B : Nat → Int32} {t q : Nat} {τ μ : fk_T} (hT : TK B t τ) (hR : RBy B t μ) (hS : txS B t τ μ q) {w b p : Nat} (hw : w < 13) {W : Int64} (hW : W.toInt = (wW.getD w 0 : Int)) (hb6 : b < 6) (hp : p < 8) (d0 : Int32) : (∃ τ' μ' q' y, F_X1_readPerhaps (nI w) d0 τ = some (y, τ') ∧ F_X5_perhaps W (nI p) (nI b) μ = some μ' ∧ q ≤ q' ∧ txS B t τ' μ' q' ∧ gC τ τ' ∧ kM μ μ' ∧ ((y = d0 ∧ μ'.1 27 = μ.1 27) ∨ (0 ≤ y.toInt ∧ y.toInt ≤ 99 ∧ μ'.1 27 = upd (μ.1 27) (13 + 8 * b + p) y))) ∨ (∃ τ' μ' y, F_X1_readPerhaps (nI w) d0 τ = some (y, τ') ∧ F_X5_perhaps W (nI p) (nI b) μ = some μ' ∧ txF t τ' μ' ∧ gC τ τ' ∧ gM μ μ') := by
  have ht := hR.1
  have h12 : ¬ (0 : Int32) ≤ μ.1 26 12 := by rw [hS.2.2.1]; decide
  have hword := tx_word hS hw hW
  by_cases e : tkT B t q = -10 - nI w
  · have so := tx_so1 hS hw e
    obtain ⟨τ1, μ1, q1, s1, s2, s3, s4, s5, s6⟩ := tx_step hR hS (Or.inl so)
    have ec : F_X1_readPerhaps (nI w) d0 τ = (F_X1_readNumber 0 99 τ1).bind (fun q3 => some (q3.1, q3.2)) := by
      unfold F_X1_readPerhaps
      rw [tx_tok ht hT hS, if_pos e, s1, bS]
    have em : F_X5_perhaps W (nI p) (nI b) μ = (F_X5_numberHere 0 99 (-1) μ1).bind (fun q3 => if 0 ≤ (q3.2.1 26 12) then (some q3.2) else ((F_X5_sets (nI p) (nI b) q3.1 q3.2).bind (fun q4 => some q4))) := by
      unfold F_X5_perhaps
      rw [if_neg h12, hword, bS]
      dsimp only
      rw [decide_eq_true e, if_neg fbT, s2, bS]
    rcases tx_num (hT.g s5) (hR.g s6) s4 0 99 (by decide) (by decide) with ⟨n1, n2, τ2, μ2, q2, n3, n4, -, n5, n6, n7, n8⟩ | ⟨-, τ2, μ2, n3, n4, n5, n6, n7⟩
    · rw [li0] at n1
      rw [show (99 : Int32).toInt = 99 by decide] at n2
      refine Or.inl ⟨τ2, fk_w μ2 27 (upd (μ2.1 27) (13 + 8 * b + p) (tkT B t q1)), q2, tkT B t q1, ?_, ?_, by omega, ?_, s5.tr n7, (s6.k.tr n8.k).tr (kM.w _ _), Or.inr ⟨n1, n2, ?_⟩⟩
      · rw [ec, n3, bS]
      · rw [em, n4 (-1) (fun z => by rw [z, lim1] at n1; omega), bS]
        dsimp only
        rw [if_neg (by rw [n6.2.2.1]; decide), M_sets rfl rfl hp hb6, bS]
      · exact n6.fr rfl (w_ne _ _ (by omega)) rfl
      · rw [w_self, n8.1 27 (by omega), s6.1 27 (by omega)]
    · refine Or.inr ⟨τ2, μ2, 0, ?_, ?_, n5, s5.tr n6, s6.tr n7⟩
      · rw [ec, n3, bS]
      · rw [em, n4 (-1), bS]
        dsimp only
        rw [if_pos (n5.ge ht)]
  · refine Or.inl ⟨τ, μ, q, d0, ?_, ?_, by omega, hS, gC.rf _, kM.rf _, Or.inl ⟨rfl, rfl⟩⟩
    · unfold F_X1_readPerhaps
      rw [tx_tok ht hT hS, if_neg e]
    · unfold F_X5_perhaps
      rw [if_neg h12, hword, bS]
      dsimp only
      rw [decide_eq_false e, if_pos fbF]
theorem ng_h {G : Nat → Int32} {p : Nat} (hp : p < 8) (k h c y h' : Int32) : upd (newG G p k h c y) (21 + p) h' = newG G p k h' c y := by
  funext j
  unfold upd newG
  repeat' split
  all_goals first | rfl | (exfalso; omega)
theorem ng_c {G : Nat → Int32} {p : Nat} (hp : p < 8) (k h c y h' : Int32) : upd (newG G p k h c y) (29 + p) h' = newG G p k h h' y := by
  funext j
  unfold upd newG
  repeat' split
  all_goals first | rfl | (exfalso; omega)
theorem ng_y {G : Nat → Int32} {p : Nat} (hp : p < 8) (k h c y h' : Int32) : upd (newG G p k h c y) (37 + p) h' = newG G p k h c h' := by
  funext j
  unfold upd newG
  repeat' split
  all_goals first | rfl | (exfalso; omega)
theorem out_newG {G : Nat → Int32} {p : Nat} (hp : p < 8) (k h c y : Int32) : Out G (newG G p k h c y) := fun j hj => by
  unfold newG
  rw [if_neg (by omega), if_neg (by omega), if_neg (by omega), if_neg (by omega), if_neg (by omega), if_neg (by omega), if_neg (by omega)]
/-- what an item's reading comes to -/
def txI (B : Nat → Int32) (t : Nat) (τ μ : fk_T) (q : Nat) (fc fm : fk_T → Option fk_T) : Prop := (∃ τ' μ' q', fc τ = some τ' ∧ fm μ = some μ' ∧ q < q' ∧ txS B t τ' μ' q' ∧ fC τ τ' ∧ fM μ μ' ∧ WF (μ'.1 27) ∧ CP 6 τ' (μ'.1 27)) ∨ (∃ τ' μ', fc τ = some τ' ∧ fm μ = some μ' ∧ txF t τ' μ' ∧ fC τ τ' ∧ fM μ μ')
/-- behind a fault the class still adds a potter to what is thrown away -/
theorem C_tail0 {τ : fk_T} {G : Nat → Int32} (h : haF τ) (hc : CP 6 τ G) {n : Nat} (hn : n < 8) (hG : G 0 = nI n) (x1 x2 x3 x4 : Int32) : ∃ τ', (F_X0_addPotter 6 x1 x2 x3 x4 τ).bind (fun q6 => some q6.2) = some τ' ∧ τ'.1 18 = τ.1 18 ∧ fC τ τ' := by
  obtain ⟨s1, g1, g2, g3⟩ := C_addPotter hc hn hG x1 x2 x3 x4
  exact ⟨s1, by rw [g1, bS], g3.1 18 (by omega), g3.f⟩
theorem C_tail1 {τ : fk_T} {G : Nat → Int32} (h : haF τ) (hc : CP 6 τ G) {n : Nat} (hn : n < 8) (hG : G 0 = nI n) (x1 x2 x3 : Int32) : ∃ τ', (F_X1_readPerhaps 12 0 τ).bind (fun q5 => (F_X0_addPotter 6 x1 x2 x3 q5.1 q5.2).bind (fun q6 => some q6.2)) = some τ' ∧ (∃ j, j ≤ 120 ∧ τ'.1 18 4 = nI j) ∧ τ'.1 18 5 = τ.1 18 5 ∧ fC τ τ' := by
  obtain ⟨y, τ1, a1, a2, a3, a4⟩ := C_per1 h 12 0
  obtain ⟨τ2, b1, b2, b3⟩ := C_tail0 a2 (hc.g a4) hn hG x1 x2 x3 y
  exact ⟨τ2, by rw [a1, bS]; exact b1, by rw [b2]; exact a2.1, by rw [b2]; exact a3, a4.f.tr b3⟩
theorem C_tail2 {τ : fk_T} {G : Nat → Int32} (h : haF τ) (hc : CP 6 τ G) {n : Nat} (hn : n < 8) (hG : G 0 = nI n) (x1 x2 : Int32) : ∃ τ', (F_X1_readPerhaps 11 20 τ).bind (fun q4 => (F_X1_readPerhaps 12 0 q4.2).bind (fun q5 => (F_X0_addPotter 6 x1 x2 q4.1 q5.1 q5.2).bind (fun q6 => some q6.2))) = some τ' ∧ (∃ j, j ≤ 120 ∧ τ'.1 18 4 = nI j) ∧ τ'.1 18 5 = τ.1 18 5 ∧ fC τ τ' := by
  obtain ⟨y, τ1, a1, a2, a3, a4⟩ := C_per1 h 11 20
  obtain ⟨τ2, b1, b2, b3, b4⟩ := C_tail1 a2 (hc.g a4) hn hG x1 x2 y
  exact ⟨τ2, by rw [a1, bS]; exact b1, b2, by rw [b3]; exact a3, a4.f.tr b4⟩
theorem tx_pot {B : Nat → Int32} {t q : Nat} {τ μ : fk_T} (hT : TK B t τ) (hR : RBy B t μ) (hS : txS B t τ μ q) (hw : WF (μ.1 27)) (hc : CP 6 τ (μ.1 27)) {w : Nat} (hw7 : w < 7) (htk : tkT B t q = -10 - nI w) : txI B t τ μ q (F_X1_readPotter (nI w)) (F_X5_potterHere (nI w)) := by
  have ht := hR.1
  obtain ⟨z1, z2, z3⟩ := nG_of hw
  have l8 : (8 : Int32).toInt = 8 := by decide
  by_cases hf : nG (μ.1 27) = 8
  · obtain ⟨τ1, μ1, s1, s2, s3, s4, s5⟩ := tx_fault ht hT hS
    refine Or.inr ⟨τ1, μ1, ?_, ?_, s3, s4.f, s5.f⟩
    · unfold F_X1_readPotter F_X0_isFull
      rw [hc.c6, z1, hf, if_neg (by decide), bS]
      dsimp only
      rw [if_neg fbT, s1, bS]
    · unfold F_X5_potterHere
      rw [rdG 0 (by omega), z1, hf, if_pos (by decide), s2, bS]
  · have hn : nG (μ.1 27) < 8 := by omega
    obtain ⟨τ1, μ1, q1, s1, s2, s3, s4, s5, s6⟩ := tx_step hR hS (Or.inl (tx_so1 hS (by omega) htk))
    have e27 : μ1.1 27 = μ.1 27 := s6.1 27 (by omega)
    have hc1 : CP 6 τ1 (μ.1 27) := hc.g s5
    have cm := M_comes (x1 := nI w) (x2 := 30) (σ := μ1) hn (by rw [e27, z1])
    rw [e27] at cm
    have ec : F_X1_readPotter (nI w) τ = (F_X1_readPerhaps 10 30 τ1).bind (fun q3 => (F_X1_readPerhaps 11 20 q3.2).bind (fun q4 => (F_X1_readPerhaps 12 0 q4.2).bind (fun q5 => (F_X0_addPotter 6 (nI w) q3.1 q4.1 q5.1 q5.2).bind (fun q6 => some q6.2)))) := by
      unfold F_X1_readPotter F_X0_isFull
      rw [hc.c6, z1, if_pos (by rw [i_lt, nI_tI (by omega), l8]; omega), bS]
      dsimp only
      rw [if_pos fbF, s1, bS]
    have em : F_X5_potterHere (nI w) μ = (F_X5_perhaps 161156 (nI (nG (μ.1 27))) 1 (fk_w μ1 27 (newG (μ.1 27) (nG (μ.1 27)) (nI w) 30 20 0))).bind (fun q4 => (F_X5_perhaps 60269 (nI (nG (μ.1 27))) 2 q4).bind (fun q5 => (F_X5_perhaps 13385674 (nI (nG (μ.1 27))) 3 q5).bind (fun q6 => some q6))) := by
      unfold F_X5_potterHere
      rw [rdG 0 (by omega), z1, if_neg (by rw [i_eq, nI_tI (by omega), l8]; omega), s2, bS, cm, bS]
    have sA : txS B t τ1 (fk_w μ1 27 (newG (μ.1 27) (nG (μ.1 27)) (nI w) 30 20 0)) q1 := s4.fr rfl (w_ne _ _ (by omega)) rfl
    have kA : kM μ (fk_w μ1 27 (newG (μ.1 27) (nG (μ.1 27)) (nI w) 30 20 0)) := s6.k.tr (kM.w _ _)
    have rA : RBy B t (fk_w μ1 27 (newG (μ.1 27) (nG (μ.1 27)) (nI w) 30 20 0)) := (hR.g s6).fr (by rw [w_ne _ _ (by omega)]) (w_ne _ _ (by omega))
    have gA : (fk_w μ1 27 (newG (μ.1 27) (nG (μ.1 27)) (nI w) 30 20 0)).1 27 = newG (μ.1 27) (nG (μ.1 27)) (nI w) 30 20 0 := w_self _ _ _
    generalize fk_w μ1 27 (newG (μ.1 27) (nG (μ.1 27)) (nI w) 30 20 0) = μA at em sA kA rA gA
    -- heat
    rcases tx_per (hT.g s5) rA sA (w := 10) (b := 1) (p := nG (μ.1 27)) (by omega) (W := 161156) (by decide) (by omega) hn 30 with ⟨τ2, μ2, q2, h, p1, p2, p3, p4, p5, p6, p7⟩ | ⟨τ2, μ2, h, p1, p2, p3, p4, p5⟩
    · have rB : RBy B t μ2 := rA.fr (p6.2 7 (by omega) (by omega) (by omega) (by omega)) (p6.1 32 (by omega) (by omega))
      have gB : μ2.1 27 = newG (μ.1 27) (nG (μ.1 27)) (nI w) h 20 0 ∧ 0 ≤ h.toInt ∧ h.toInt ≤ 99 := by
        rcases p7 with ⟨y1, y2⟩ | ⟨y1, y2, y3⟩
        · rw [y2, gA, y1]; exact ⟨rfl, by decide, by decide⟩
        · refine ⟨?_, y1, y2⟩
          rw [y3, gA, show 13 + 8 * 1 + nG (μ.1 27) = 21 + nG (μ.1 27) by omega, ng_h hn]
      have tB := (hT.g s5).g p5
      -- care
      rcases tx_per tB rB p4 (w := 11) (b := 2) (p := nG (μ.1 27)) (by omega) (W := 60269) (by decide) (by omega) hn 20 with ⟨τ3, μ3, q3, c, r1, r2, r3, r4, r5, r6, r7⟩ | ⟨τ3, μ3, c, r1, r2, r3, r4, r5⟩
      · have rC : RBy B t μ3 := rB.fr (r6.2 7 (by omega) (by omega) (by omega) (by omega)) (r6.1 32 (by omega) (by omega))
        have gD : μ3.1 27 = newG (μ.1 27) (nG (μ.1 27)) (nI w) h c 0 ∧ 0 ≤ c.toInt ∧ c.toInt ≤ 99 := by
          rcases r7 with ⟨y1, y2⟩ | ⟨y1, y2, y3⟩
          · rw [y2, gB.1, y1]; exact ⟨rfl, by decide, by decide⟩
          · refine ⟨?_, y1, y2⟩
            rw [y3, gB.1, show 13 + 8 * 2 + nG (μ.1 27) = 29 + nG (μ.1 27) by omega, ng_c hn]
        have tC := tB.g r5
        -- years
        rcases tx_per tC rC r4 (w := 12) (b := 3) (p := nG (μ.1 27)) (by omega) (W := 13385674) (by decide) (by omega) hn 0 with ⟨τ4, μ4, q4, y, u1, u2, u3, u4, u5, u6, u7⟩ | ⟨τ4, μ4, y, u1, u2, u3, u4, u5⟩
        · have gE : μ4.1 27 = newG (μ.1 27) (nG (μ.1 27)) (nI w) h c y ∧ 0 ≤ y.toInt ∧ y.toInt ≤ 99 := by
            rcases u7 with ⟨y1, y2⟩ | ⟨y1, y2, y3⟩
            · rw [y2, gD.1, y1]; exact ⟨rfl, by decide, by decide⟩
            · refine ⟨?_, y1, y2⟩
              rw [y3, gD.1, show 13 + 8 * 3 + nG (μ.1 27) = 37 + nG (μ.1 27) by omega, ng_y hn]
          obtain ⟨τ5, v1, v2, v3⟩ := C_addPotter (((hc1.g p5).g r5).g u5) hn z1 (nI w) h c y
          refine Or.inl ⟨τ5, μ4, q4, ?_, ?_, by omega, u4.fr (v3.1 18 (by omega)) rfl rfl, (((s5.f.tr p5.f).tr r5.f).tr u5.f).tr v3.f, ⟨((kA.tr p6).tr r6).tr u6, ?_⟩, ?_, ?_⟩
          · rw [ec]
            refine (congrArg (fun o : Option (Int32 × fk_T) => o.bind _) p1).trans ?_
            rw [bS]
            refine (congrArg (fun o : Option (Int32 × fk_T) => o.bind _) r1).trans ?_
            rw [bS]
            refine (congrArg (fun o : Option (Int32 × fk_T) => o.bind _) u1).trans ?_
            rw [bS, v1, bS]
          · rw [em]
            refine (congrArg (fun o : Option fk_T => o.bind _) p2).trans ?_
            rw [bS]
            refine (congrArg (fun o : Option fk_T => o.bind _) r2).trans ?_
            rw [bS]
            refine (congrArg (fun o : Option fk_T => o.bind _) u2).trans ?_
            rw [bS]
          · rw [gE.1]; exact out_newG hn _ _ _ _
          · rw [gE.1]
            exact wf_newG hw hn z1 (by rw [nI_tI (by omega)]; omega) gB.2 gD.2 gE.2
          · rw [gE.1]; exact v2
        · obtain ⟨τ5, v1, v2, v3⟩ := C_tail0 (u3.ha ht) (((hc1.g p5).g r5).g u4) hn z1 (nI w) h c y
          refine Or.inr ⟨τ5, μ4, ?_, ?_, u3.st (by rw [v2]; exact (u3.ha ht).1) (by rw [v2]), (((s5.f.tr p5.f).tr r5.f).tr u4.f).tr v3, ⟨((kA.tr p6).tr r6).tr u5.k, ?_⟩⟩
          · rw [ec]
            refine (congrArg (fun o : Option (Int32 × fk_T) => o.bind _) p1).trans ?_
            rw [bS]
            refine (congrArg (fun o : Option (Int32 × fk_T) => o.bind _) r1).trans ?_
            rw [bS]
            refine (congrArg (fun o : Option (Int32 × fk_T) => o.bind _) u1).trans ?_
            rw [bS]
            exact v1
          · rw [em]
            refine (congrArg (fun o : Option fk_T => o.bind _) p2).trans ?_
            rw [bS]
            refine (congrArg (fun o : Option fk_T => o.bind _) r2).trans ?_
            rw [bS]
            refine (congrArg (fun o : Option fk_T => o.bind _) u2).trans ?_
            rw [bS]
          · rw [u5.1 27 (by omega), gD.1]; exact out_newG hn _ _ _ _
      · obtain ⟨τ5, v1, v2, v3, v4⟩ := C_tail1 (r3.ha ht) ((hc1.g p5).g r4) hn z1 (nI w) h c
        refine Or.inr ⟨τ5, μ3, ?_, ?_, r3.st v2 v3, ((s5.f.tr p5.f).tr r4.f).tr v4, ⟨(kA.tr p6).tr r5.k, ?_⟩⟩
        · rw [ec]
          refine (congrArg (fun o : Option (Int32 × fk_T) => o.bind _) p1).trans ?_
          rw [bS]
          refine (congrArg (fun o : Option (Int32 × fk_T) => o.bind _) r1).trans ?_
          rw [bS]
          exact v1
        · rw [em]
          refine (congrArg (fun o : Option fk_T => o.bind _) p2).trans ?_
          rw [bS]
          refine (congrArg (fun o : Option fk_T => o.bind _) r2).trans ?_
          rw [bS, M_per1 (r3.ge ht), bS]
        · rw [r5.1 27 (by omega), gB.1]; exact out_newG hn _ _ _ _
    · obtain ⟨τ5, v1, v2, v3, v4⟩ := C_tail2 (p3.ha ht) (hc1.g p4) hn z1 (nI w) h
      refine Or.inr ⟨τ5, μ2, ?_, ?_, p3.st v2 v3, (s5.f.tr p4.f).tr v4, ⟨kA.tr p5.k, ?_⟩⟩
      · rw [ec]
        refine (congrArg (fun o : Option (Int32 × fk_T) => o.bind _) p1).trans ?_
        rw [bS]
        exact v1
      · rw [em]
        refine (congrArg (fun o : Option fk_T => o.bind _) p2).trans ?_
        rw [bS, M_per1 (p3.ge ht), bS, M_per1 (p3.ge ht), bS]
      · rw [p5.1 27 (by omega), gA]; exact out_newG hn _ _ _ _
