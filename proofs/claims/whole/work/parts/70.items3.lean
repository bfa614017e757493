/-! ===== text: an item, all items, the text ===== -/
def kdV (x : Int32) : Int32 := if x = -10 - nI 0 then 0 else if x = -10 - nI 1 then 1 else if x = -10 - nI 2 then 2 else if x = -10 - nI 3 then 3 else if x = -10 - nI 4 then 4 else if x = -10 - nI 5 then 5 else if x = -10 - nI 6 then 6 else -1
theorem tx_kind {B : Nat → Int32} {t q : Nat} {τ μ : fk_T} (hS : txS B t τ μ q) : F_X5_kindHere μ = some (kdV (tkT B t q), μ) := by
  unfold F_X5_kindHere kdV
  rw [tx_word hS (w := 0) (by omega) (W := 237962520) (by decide), bS]
  dsimp only
  by_cases h0 : tkT B t q = -10 - nI 0
  · rw [decide_eq_true h0, if_neg fbT, if_pos h0]
  rw [decide_eq_false h0, if_pos fbF, if_neg h0]
  rw [tx_word hS (w := 1) (by omega) (W := 3410828815) (by decide), bS]
  dsimp only
  by_cases h1 : tkT B t q = -10 - nI 1
  · rw [decide_eq_true h1, if_neg fbT, if_pos h1]
  rw [decide_eq_false h1, if_pos fbF, if_neg h1]
  rw [tx_word hS (w := 2) (by omega) (W := 14270) (by decide), bS]
  dsimp only
  by_cases h2 : tkT B t q = -10 - nI 2
  · rw [decide_eq_true h2, if_neg fbT, if_pos h2]
  rw [decide_eq_false h2, if_pos fbF, if_neg h2]
  rw [tx_word hS (w := 3) (by omega) (W := 87024528) (by decide), bS]
  dsimp only
  by_cases h3 : tkT B t q = -10 - nI 3
  · rw [decide_eq_true h3, if_neg fbT, if_pos h3]
  rw [decide_eq_false h3, if_pos fbF, if_neg h3]
  rw [tx_word hS (w := 4) (by omega) (W := 6223046688) (by decide), bS]
  dsimp only
  by_cases h4 : tkT B t q = -10 - nI 4
  · rw [decide_eq_true h4, if_neg fbT, if_pos h4]
  rw [decide_eq_false h4, if_pos fbF, if_neg h4]
  rw [tx_word hS (w := 5) (by omega) (W := 206754213222) (by decide), bS]
  dsimp only
  by_cases h5 : tkT B t q = -10 - nI 5
  · rw [decide_eq_true h5, if_neg fbT, if_pos h5]
  rw [decide_eq_false h5, if_pos fbF, if_neg h5]
  rw [tx_word hS (w := 6) (by omega) (W := 1888) (by decide), bS]
  dsimp only
  by_cases h6 : tkT B t q = -10 - nI 6
  · rw [decide_eq_true h6, if_neg fbT, if_pos h6]
  rw [decide_eq_false h6, if_pos fbF, if_neg h6]
theorem sub10 {w : Nat} (h : w < 13) : (-10 : Int32) - (-10 - nI w) = nI w := by
  rw [i_eq, ti_sub (by rw [m10 h, lm10]; omega) (by rw [m10 h, lm10]; omega), m10 h, lm10, nI_tI (by omega)]
  omega
theorem txI.cg {B : Nat → Int32} {t q : Nat} {τ μ : fk_T} {fc fm gc gm : fk_T → Option fk_T} (h : txI B t τ μ q gc gm) (h1 : fc τ = gc τ) (h2 : fm μ = gm μ) : txI B t τ μ q fc fm := by
  unfold txI; rw [h1, h2]; exact h
theorem bSS {α : Type} (o : Option α) : o.bind (fun q => some q) = o := by cases o <;> rfl
theorem tx_item {B : Nat → Int32} {t q : Nat} {τ μ : fk_T} (hT : TK B t τ) (hR : RBy B t μ) (hS : txS B t τ μ q) (hw : WF (μ.1 27)) (hc : CP 6 τ (μ.1 27)) : txI B t τ μ q F_X1_readItem F_X5_item := by
  have ht := hR.1
  have l7 : (7 : Int32).toInt = 7 := by decide
  have l8 : (8 : Int32).toInt = 8 := by decide
  have l9 : (9 : Int32).toInt = 9 := by decide
  have ec : F_X1_readItem τ = (if decide ((0 : Int32).toInt ≤ (-10 - tkT B t q).toInt ∧ (-10 - tkT B t q).toInt ≤ (6 : Int32).toInt) = false then (if -10 - tkT B t q = 7 then F_X1_readRift τ else (if -10 - tkT B t q = 8 then F_X1_readPair τ else (if -10 - tkT B t q = 9 then F_X1_readClay τ else F_X1_refuse τ))) else F_X1_readPotter (-10 - tkT B t q) τ) := by
    unfold F_X1_readItem
    rw [tx_tok ht hT hS, fB, C_within, bS]
    dsimp only
    cases decide ((0 : Int32).toInt ≤ (-10 - tkT B t q).toInt ∧ (-10 - tkT B t q).toInt ≤ (6 : Int32).toInt)
    · rw [if_pos fbF, if_pos (show false = false from rfl)]
      by_cases a7 : -10 - tkT B t q = 7
      · rw [if_pos a7, if_pos a7, bSS]
      rw [if_neg a7, if_neg a7]
      by_cases a8 : -10 - tkT B t q = 8
      · rw [if_pos a8, if_pos a8, bSS]
      rw [if_neg a8, if_neg a8]
      by_cases a9 : -10 - tkT B t q = 9
      · rw [if_pos a9, if_pos a9, bSS]
      rw [if_neg a9, if_neg a9, bSS]
    · rw [if_neg fbT, if_neg (show ¬ true = false by decide), bSS]
  have em : F_X5_item μ = (if kdV (tkT B t q) < 0 then (if tkT B t q = -10 - nI 7 then F_X5_riftHere μ else (if tkT B t q = -10 - nI 8 then F_X5_pairHere μ else (if tkT B t q = -10 - nI 9 then (F_X5_next_ μ).bind (fun q6 => (F_X5_numberHere 1 20 (-1) q6).bind (fun q7 => fk_S q7.2 27 135 3 q7.1 (fun s8 => some s8))) else F_X5_wrongHere μ))) else F_X5_potterHere (kdV (tkT B t q)) μ) := by
    unfold F_X5_item
    rw [tx_kind hS, bS]
    dsimp only
    rw [tx_word hS (w := 7) (by omega) (W := 361037) (by decide), bS]
    dsimp only
    rw [tx_word hS (w := 8) (by omega) (W := 315918) (by decide), bS]
    dsimp only
    rw [tx_word hS (w := 9) (by omega) (W := 67849) (by decide), bS]
    dsimp only
    rw [bSS, bSS, bSS, bSS]
    by_cases k : kdV (tkT B t q) < 0
    · rw [if_pos k, if_pos k]
      by_cases h7 : tkT B t q = -10 - nI 7
      · rw [decide_eq_true h7, if_neg fbT, if_pos h7]
      rw [decide_eq_false h7, if_pos fbF, if_neg h7]
      by_cases h8 : tkT B t q = -10 - nI 8
      · rw [decide_eq_true h8, if_neg fbT, if_pos h8]
      rw [decide_eq_false h8, if_pos fbF, if_neg h8]
      by_cases h9 : tkT B t q = -10 - nI 9
      · rw [decide_eq_true h9, if_neg fbT, if_pos h9]
      rw [decide_eq_false h9, if_pos fbF, if_neg h9]
    · rw [if_neg k, if_neg k]
  by_cases h0 : tkT B t q = -10 - nI 0
  · refine (tx_pot hT hR hS hw hc (w := 0) (by omega) h0).cg ?_ ?_
    · rw [ec, h0, sub10 (by omega), if_neg (by decide)]
    · rw [em, h0, show kdV (-10 - nI 0) = nI 0 by decide, if_neg (by decide)]
  by_cases h1 : tkT B t q = -10 - nI 1
  · refine (tx_pot hT hR hS hw hc (w := 1) (by omega) h1).cg ?_ ?_
    · rw [ec, h1, sub10 (by omega), if_neg (by decide)]
    · rw [em, h1, show kdV (-10 - nI 1) = nI 1 by decide, if_neg (by decide)]
  by_cases h2 : tkT B t q = -10 - nI 2
  · refine (tx_pot hT hR hS hw hc (w := 2) (by omega) h2).cg ?_ ?_
    · rw [ec, h2, sub10 (by omega), if_neg (by decide)]
    · rw [em, h2, show kdV (-10 - nI 2) = nI 2 by decide, if_neg (by decide)]
  by_cases h3 : tkT B t q = -10 - nI 3
  · refine (tx_pot hT hR hS hw hc (w := 3) (by omega) h3).cg ?_ ?_
    · rw [ec, h3, sub10 (by omega), if_neg (by decide)]
    · rw [em, h3, show kdV (-10 - nI 3) = nI 3 by decide, if_neg (by decide)]
  by_cases h4 : tkT B t q = -10 - nI 4
  · refine (tx_pot hT hR hS hw hc (w := 4) (by omega) h4).cg ?_ ?_
    · rw [ec, h4, sub10 (by omega), if_neg (by decide)]
    · rw [em, h4, show kdV (-10 - nI 4) = nI 4 by decide, if_neg (by decide)]
  by_cases h5 : tkT B t q = -10 - nI 5
  · refine (tx_pot hT hR hS hw hc (w := 5) (by omega) h5).cg ?_ ?_
    · rw [ec, h5, sub10 (by omega), if_neg (by decide)]
    · rw [em, h5, show kdV (-10 - nI 5) = nI 5 by decide, if_neg (by decide)]
  by_cases h6 : tkT B t q = -10 - nI 6
  · refine (tx_pot hT hR hS hw hc (w := 6) (by omega) h6).cg ?_ ?_
    · rw [ec, h6, sub10 (by omega), if_neg (by decide)]
    · rw [em, h6, show kdV (-10 - nI 6) = nI 6 by decide, if_neg (by decide)]
  by_cases h7 : tkT B t q = -10 - nI 7
  · refine (tx_rift hT hR hS hw hc h7).cg ?_ ?_
    · rw [ec, h7, sub10 (by omega), if_pos (by decide), if_pos (by decide)]
    · rw [em, h7, if_pos (show kdV (-10 - nI 7) < 0 by decide), if_pos rfl]
  by_cases h8 : tkT B t q = -10 - nI 8
  · refine (tx_pair hT hR hS hw hc h8).cg ?_ ?_
    · rw [ec, h8, sub10 (by omega), if_pos (by decide), if_neg (by decide), if_pos (by decide)]
    · rw [em, h8, if_pos (show kdV (-10 - nI 8) < 0 by decide), if_neg (by decide), if_pos rfl]
  by_cases h9 : tkT B t q = -10 - nI 9
  · refine (tx_clay hT hR hS hw hc h9).cg ?_ ?_
    · rw [ec, h9, sub10 (by omega), if_pos (by decide), if_neg (by decide), if_neg (by decide), if_pos (by decide)]
    · rw [em, h9, if_pos (show kdV (-10 - nI 9) < 0 by decide), if_neg (by decide), if_neg (by decide), if_pos rfl]
  have hlo : -22 ≤ (tkT B t q).toInt ∧ (tkT B t q).toInt ≤ 1000 := by
    rcases hS.2.2.2.2.2.2.tk with ⟨z, -⟩ | ⟨z, -⟩ | ⟨z, y, -⟩ | ⟨-, z, y⟩ | ⟨z, -⟩
    · rw [z, lim1]; omega
    · rw [z, lm2]; omega
    · omega
    · omega
    · rw [z, lm3]; omega
  have hsub : (-10 - tkT B t q).toInt = -10 - (tkT B t q).toInt := by rw [ti_sub (by rw [lm10]; omega) (by rw [lm10]; omega), lm10]
  have no : ∀ w, w < 13 → ¬ tkT B t q = -10 - nI w → ¬ (-10 - (tkT B t q).toInt = (w : Int)) := fun w hw9 h z => h (by rw [i_eq, m10 hw9]; omega)
  have n0 := no 0 (by omega) h0
  have n1 := no 1 (by omega) h1
  have n2 := no 2 (by omega) h2
  have n3 := no 3 (by omega) h3
  have n4 := no 4 (by omega) h4
  have n5 := no 5 (by omega) h5
  have n6 := no 6 (by omega) h6
  have n7 := no 7 (by omega) h7
  have n8 := no 8 (by omega) h8
  have n9 := no 9 (by omega) h9
  obtain ⟨τ1, μ1, s1, s2, s3, s4, s5⟩ := tx_fault ht hT hS
  refine Or.inr ⟨τ1, μ1, ?_, ?_, s3, s4.f, s5.f⟩
  · rw [ec, if_pos (decide_eq_false (by rw [hsub, li0, l6]; omega)), if_neg (by rw [i_eq, hsub, l7]; omega), if_neg (by rw [i_eq, hsub, l8]; omega), if_neg (by rw [i_eq, hsub, l9]; omega)]
    exact s1
  · have k : kdV (tkT B t q) = -1 := by
      unfold kdV
      rw [if_neg h0, if_neg h1, if_neg h2, if_neg h3, if_neg h4, if_neg h5, if_neg h6]
    rw [em, k, if_pos (by decide), if_neg h7, if_neg h8, if_neg h9]
    exact s2
/-! all items -/
def cMid (fu : Nat) (n : Int32) (τ : fk_T) : Option (Int32 × fk_T) := fk_A (τ.1 19) 121 (τ.1 18 4) (fun y6 => if y6 = (-1) then some (n, τ) else ((F_X1_take (-2) τ).bind (fun q7 => L_X1_readItems_12 fu n q7 (fun y9 s8 => some (y9, s8)))))
def mMid (fu : Nat) (n : Int32) (μ : fk_T) : Option (Int32 × fk_T) := L_X5_items_20 fu n μ (fun y9 s8 => if 0 ≤ (s8.1 26 12) then (some (y9, s8)) else (if (s8.1 26 9) = 0 then (some (y9, s8)) else ((F_X5_wrongHere  s8).bind (fun q10 => some (y9, q10)))))
/-- how all ends on both sides -/
def txE (t : Nat) (τ μ : fk_T) (oc om : Option (Int32 × fk_T)) : Prop := (∃ r τ' μ', oc = some (r, τ') ∧ om = some (r, μ') ∧ τ'.1 18 5 = -1 ∧ μ'.1 26 12 = -1 ∧ fC τ τ' ∧ fM μ μ' ∧ WF (μ'.1 27) ∧ CP 6 τ' (μ'.1 27)) ∨ (∃ r r' τ' μ' f, oc = some (r, τ') ∧ om = some (r', μ') ∧ f ≤ t ∧ τ'.1 18 5 = nI f ∧ μ'.1 26 12 = nI f ∧ fC τ τ' ∧ fM μ μ')
theorem txE.fr {t : Nat} {τ μ τ1 μ1 : fk_T} {oc om : Option (Int32 × fk_T)} (h : txE t τ1 μ1 oc om) (h1 : fC τ τ1) (h2 : fM μ μ1) : txE t τ μ oc om := by
  rcases h with ⟨r, τ', μ', a1, a2, a3, a4, a5, a6, a7⟩ | ⟨r, r', τ', μ', f, a1, a2, a3, a4, a5, a6, a7⟩
  · exact Or.inl ⟨r, τ', μ', a1, a2, a3, a4, h1.tr a5, h2.tr a6, a7⟩
  · exact Or.inr ⟨r, r', τ', μ', f, a1, a2, a3, a4, a5, h1.tr a6, h2.tr a7⟩
theorem fM.rf (μ : fk_T) : fM μ μ := ⟨kM.rf _, Out.rf _⟩
theorem C_loopF {fu : Nat} {n : Int32} {τ : fk_T} (h : ¬ τ.1 18 5 = -1) : L_X1_readItems_12 (fu + 1) n τ (fun y9 s8 => some (y9, s8)) = some (n, τ) := by
  rw [L_X1_readItems_12]
  by_cases q : (120 : Int32) ≤ n
  · rw [if_pos q]
  · rw [if_neg q, C_hasF1 h, bS]
    dsimp only
    rw [if_neg fbT]
theorem mid_F {t : Nat} (ht : t ≤ 120) {τ μ : fk_T} (h : txF t τ μ) (fu fv : Nat) (n : Int32) : txE t τ μ (cMid (fu + 1) n τ) (mMid (fv + 1) n μ) := by
  have hh := h.ha ht
  have hg := h.ge ht
  obtain ⟨-, f, a1, a2, a3⟩ := h
  refine Or.inr ⟨n, n, τ, μ, f, ?_, ?_, a1, a2, a3, fC.rf _, fM.rf _⟩
  · unfold cMid F_X1_take
    obtain ⟨y, e⟩ := hh.tok (fun y6 => if y6 = (-1) then some (n, τ) else (((F_X1_hasFault  τ).bind (fun q1 => if (fk_b q1.1) = 0 then (fk_A (q1.2.1 19) 121 (q1.2.1 18 4) (fun y3 => if y3 = -2 then ((F_X1_step  q1.2).bind (fun q4 => some q4)) else ((F_X1_refuse  q1.2).bind (fun q5 => some q5)))) else ((F_X1_refuse  q1.2).bind (fun q2 => some q2)))).bind (fun q7 => L_X1_readItems_12 (fu + 1) n q7 (fun y9 s8 => some (y9, s8)))))
    refine e.trans ?_
    by_cases q : y = -1
    · rw [if_pos q]
    · rw [if_neg q, C_hasF1 hh.2, bS]
      dsimp only
      rw [if_neg fbT, C_ref1 hh.2, bS, bS, C_loopF hh.2]
  · unfold mMid
    rw [L_X5_items_20, if_pos hg]
    try dsimp only
    rw [if_pos hg]
theorem mid_S {B : Nat → Int32} {t : Nat} : ∀ (m fu fv n q : Nat) {τ μ : fk_T}, TK B t τ → RBy B t μ → txS B t τ μ q → WF (μ.1 27) → CP 6 τ (μ.1 27) → n ≤ q → t - q ≤ m → m < fu → m < fv → txE t τ μ (cMid fu (nI n) τ) (mMid fv (nI n) μ)
  | m, 0, _, _, _, _, _, _, _, _, _, _, _, _, hf, _ => by omega
  | m, _, 0, _, _, _, _, _, _, _, _, _, _, _, _, hf => by omega
  | m, fu + 1, fv + 1, n, q, τ, μ, hT, hR, hS, hw, hc, hn, hm, hf, hf2 => by
    have ht := hR.1
    have hq := hS.2.2.2.1
    have h5 := hS.2.1
    have h12 := hS.2.2.1
    have ng : ¬ (0 : Int32) ≤ μ.1 26 12 := by rw [h12]; decide
    have tkk := hS.2.2.2.2.2.2.tk
    have ec : cMid (fu + 1) (nI n) τ = if tkT B t q = -1 then some (nI n, τ) else (F_X1_take (-2) τ).bind (fun q7 => L_X1_readItems_12 (fu + 1) (nI n) q7 (fun y9 s8 => some (y9, s8))) := by
      unfold cMid
      rw [tx_tok ht hT hS]
    have et : F_X1_take (-2) τ = if tkT B t q = -2 then F_X1_step τ else F_X1_refuse τ := by
      unfold F_X1_take
      rw [C_hasF0 h5, bS]
      dsimp only
      rw [if_pos fbF, tx_tok ht hT hS, bSS, bSS]
    by_cases e1 : tkT B t q = -1
    · -- the end
      have so : μ.1 26 9 = 0 := by
        rcases tkk with ⟨-, z⟩ | ⟨z, -⟩ | ⟨z, -⟩ | ⟨-, z, -⟩ | ⟨z, -⟩
        · exact z
        · rw [e1] at z; exact absurd z (by decide)
        · rw [e1, lim1] at z; omega
        · rw [e1, lim1] at z; omega
        · rw [e1] at z; exact absurd z (by decide)
      refine Or.inl ⟨nI n, τ, μ, by rw [ec, if_pos e1], ?_, h5, h12, fC.rf _, fM.rf _, hw, hc⟩
      unfold mMid
      rw [L_X5_items_20, if_neg ng, so, if_neg (by decide)]
      try dsimp only
      rw [if_neg ng, if_pos rfl]
    · by_cases e2 : tkT B t q = -2
      · -- a sign
        have so : μ.1 26 9 = 3 := by
          rcases tkk with ⟨z, -⟩ | ⟨-, z⟩ | ⟨z, -⟩ | ⟨-, z, -⟩ | ⟨z, -⟩
          · rw [e2] at z; exact absurd z (by decide)
          · exact z
          · rw [e2, lm2] at z; omega
          · rw [e2, lm2] at z; omega
          · rw [e2] at z; exact absurd z (by decide)
        have hqt : q < t := by
          by_cases z : q = t
          · unfold tkT at e2
            rw [if_pos z] at e2
            exact absurd e2 (by decide)
          · omega
        obtain ⟨τ1, μ1, q1, s1, s2, s3, s4, s5, s6⟩ := tx_step hR hS (Or.inr (Or.inr so))
        have e27 : μ1.1 27 = μ.1 27 := s6.1 27 (by omega)
        have I := tx_item (hT.g s5) (hR.g s6) s4 (by rw [e27]; exact hw) (by rw [e27]; exact hc.g s5)
        have ec2 : ∀ τ2, F_X1_readItem τ1 = some τ2 → cMid (fu + 1) (nI n) τ = cMid fu (nI (n + 1)) τ2 := fun τ2 h => by
          rw [ec, if_neg e1, et, if_pos e2, s1, bS, L_X1_readItems_12, if_neg (by rw [i_le, l120, nI_tI (by omega)]; omega), C_hasF0 s4.2.1, bS]
          dsimp only
          rw [if_pos fbF, h, bS, fB, nI_1]
          rfl
        have em2 : ∀ μ2, F_X5_item μ1 = some μ2 → mMid (fv + 1) (nI n) μ = mMid fv (nI (n + 1)) μ2 := fun μ2 h => by
          unfold mMid
          rw [L_X5_items_20, if_neg ng, if_pos so, s2, bS, h, bS, fB, nI_1]
        rcases I with ⟨τ2, μ2, q2, i1, i2, i3, i4, i5, i6, i7, i8⟩ | ⟨τ2, μ2, i1, i2, i3, i4, i5⟩
        · have hT2 : TK B t τ2 := (hT.g s5).fr (i5 19 (by omega)) (i5 20 (by omega))
          have hR2 : RBy B t μ2 := (hR.g s6).fr (i6.1.2 7 (by omega) (by omega) (by omega) (by omega)) (i6.1.1 32 (by omega) (by omega))
          rw [ec2 τ2 i1, em2 μ2 i2]
          exact (mid_S (m - 1) fu fv (n + 1) q2 hT2 hR2 i4 i7 i8 (by omega) (by omega) (by omega) (by omega)).fr (s5.f.tr i5) (s6.f.tr i6)
        · rw [ec2 τ2 i1, em2 μ2 i2]
          obtain ⟨fu, rfl⟩ : ∃ x, fu = x + 1 := ⟨fu - 1, by omega⟩
          obtain ⟨fv, rfl⟩ : ∃ x, fv = x + 1 := ⟨fv - 1, by omega⟩
          exact (mid_F ht i3 fu fv (nI (n + 1))).fr (s5.f.tr i4) (s6.f.tr i5)
      · -- what can't stand there
        have so : ¬ μ.1 26 9 = 3 ∧ ¬ μ.1 26 9 = 0 := by
          rcases tkk with ⟨z, -⟩ | ⟨z, -⟩ | ⟨-, -, z, -⟩ | ⟨z, -, -⟩ | ⟨-, z⟩
          · exact absurd z e1
          · exact absurd z e2
          · rw [z]; exact ⟨by decide, by decide⟩
          · rw [z]; exact ⟨by decide, by decide⟩
          · rw [z]; exact ⟨by decide, by decide⟩
        obtain ⟨τ1, μ1, s1, s2, s3, s4, s5⟩ := tx_fault ht hT hS
        have hh := s3.ha ht
        obtain ⟨-, f, a1, a2, a3⟩ := s3
        refine Or.inr ⟨nI n, nI n, τ1, μ1, f, ?_, ?_, a1, a2, a3, s4.f, s5.f⟩
        · rw [ec, if_neg e1, et, if_neg e2, s1, bS, C_loopF hh.2]
        · unfold mMid
          rw [L_X5_items_20, if_neg ng, if_neg so.1]
          try dsimp only
          rw [if_neg ng, if_neg so.2, s2, bS]
/-- the whole reading -/
theorem tx_all {B : Nat → Int32} {t : Nat} {τ μ : fk_T} (hT : TK B t τ) (hR : RBy B t μ) (hw : WF (μ.1 27)) (hc : CP 6 τ (μ.1 27)) : txE t τ μ (F_X1_readItems τ) (F_X5_items μ) := by
  have ht := hR.1
  have g1 : gC τ (fk_w (fk_w τ 18 (upd (τ.1 18) 5 (-1))) 18 (upd (upd (τ.1 18) 5 (-1)) 4 0)) := (gC.w _ _).tr (gC.w _ _)
  have n1 : RN μ (at8 μ 0) := RN.at8 μ 0
  have g2 : gM μ (fk_w (at8 μ 0) 26 (upd ((at8 μ 0).1 26) 12 (-1))) := n1.gM.tr (gM.w _ _)
  obtain ⟨q, μ1, c1, c2, c3, c4, c5, c6, c7, c8⟩ := M_next (B := B) (t := t) (p := 0) (μ := fk_w (at8 μ 0) 26 (upd ((at8 μ 0).1 26) 12 (-1))) (hR.g g2) (by rw [w_self, u_ne _ _ (by omega), at8_8]) (by omega)
  have cq : lxC B q = 0 := by
    have := lxC_bl (B := B) (p := 0) q (fun i h1 h2 => c4 i h1 (by omega))
    rw [Nat.zero_add] at this
    exact this
  have hS : txS B t (fk_w (fk_w τ 18 (upd (τ.1 18) 5 (-1))) 18 (upd (upd (τ.1 18) 5 (-1)) 4 0)) μ1 q := ⟨by rw [w_self, u_self, cq]; rfl, by rw [w_self, u_ne _ _ (by omega), u_self], by rw [c6.2 12 (by omega) (by omega) (by omega), w_self, u_self], c3, fun h => lxS_at (e := 0) rfl (by omega) (fun i h1 h2 => c4 i h1 h2) (c5 h), c7, c8⟩
  have g3 : gM μ μ1 := g2.tr c6.gM
  have e27 : μ1.1 27 = μ.1 27 := g3.1 27 (by omega)
  have I := tx_item (hT.g g1) (hR.g g3) hS (by rw [e27]; exact hw) (by rw [e27]; exact hc.g g1)
  have ec : ∀ τ2, F_X1_readItem (fk_w (fk_w τ 18 (upd (τ.1 18) 5 (-1))) 18 (upd (upd (τ.1 18) 5 (-1)) 4 0)) = some τ2 → F_X1_readItems τ = cMid 4095 (nI 1) τ2 := fun τ2 h => by
    unfold F_X1_readItems
    rw [fB, fB, w_self, show fk_N = 4095 + 1 from rfl, L_X1_readItems_12, if_neg (by decide), C_hasF0 hS.2.1, bS]
    dsimp only
    rw [if_pos fbF, h, bS, fB]
    rfl
  have em : ∀ μ2, F_X5_item μ1 = some μ2 → F_X5_items μ = mMid fk_N (nI 1) μ2 := fun μ2 h => by
    unfold F_X5_items
    rw [fB, fB]
    refine (congrArg (fun o : Option fk_T => o.bind _) (show _ = some μ1 from c1)).trans ?_
    rw [bS, h, bS]
    rfl
  rcases I with ⟨τ2, μ2, q2, i1, i2, i3, i4, i5, i6, i7, i8⟩ | ⟨τ2, μ2, i1, i2, i3, i4, i5⟩
  · have hT2 : TK B t τ2 := (hT.g g1).fr (i5 19 (by omega)) (i5 20 (by omega))
    have hR2 : RBy B t μ2 := (hR.g g3).fr (i6.1.2 7 (by omega) (by omega) (by omega) (by omega)) (i6.1.1 32 (by omega) (by omega))
    rw [ec τ2 i1, em μ2 i2]
    exact (mid_S t 4095 fk_N 1 q2 hT2 hR2 i4 i7 i8 (by omega) (by omega) (by omega) (by unfold fk_N; omega)).fr (g1.f.tr i5) (g3.f.tr i6)
  · rw [ec τ2 i1, em μ2 i2]
    exact (mid_F ht i3 4094 4095 (nI 1)).fr (g1.f.tr i4) (g3.f.tr i5)
