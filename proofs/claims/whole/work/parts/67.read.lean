/-! ===== text: both read side by side ===== -/
def tkT (B : Nat → Int32) (t q : Nat) : Int32 := if q = t then -1 else tokV B t q
theorem lm2 : (-2 : Int32).toInt = -2 := by decide
theorem lm3 : (-3 : Int32).toInt = -3 := by decide
theorem lm10 : (-10 : Int32).toInt = -10 := by decide
/-- the class's token beside what the reference holds -/
theorem TD.tk {B : Nat → Int32} {t q : Nat} {a so : Int32} {v : Int64} (h : TD B t q a so v) : (tkT B t q = -1 ∧ so = 0) ∨ (tkT B t q = -2 ∧ so = 3) ∨ ((tkT B t q).toInt ≤ -3 ∧ -22 ≤ (tkT B t q).toInt ∧ so = 1 ∧ ∀ w, w < 13 → (tkT B t q = -10 - nI w ↔ v.toInt = (wW.getD w 0 : Int))) ∨ (so = 2 ∧ 0 ≤ (tkT B t q).toInt ∧ ((tkT B t q).toInt = v.toInt ∧ v.toInt ≤ 999 ∨ (tkT B t q).toInt = 1000 ∧ 1000 ≤ v.toInt)) ∨ (tkT B t q = -3 ∧ so = 4) := by
  unfold tkT
  rcases h with ⟨h1, h2⟩ | ⟨h1, h2, h3, h4⟩ | ⟨h1, h2, h3, h4, h5⟩ | ⟨h1, h2, h3, h4, h5⟩ | ⟨h1, h2, h3, h4, h5⟩
  · exact Or.inl ⟨if_pos h1, h2⟩
  · have := lx_si h2
    refine Or.inr (Or.inl ⟨?_, h3⟩)
    rw [if_neg (by omega)]
    unfold tokV
    rw [this.2, this.1, if_neg (by decide), if_neg (by decide), if_pos h2]
  · refine Or.inr (Or.inr (Or.inl ?_))
    rw [if_neg (by omega)]
    have e : tokV B t q = wvI B q (rlK (lxL B) (t - q) q) 13 0 := by
      unfold tokV
      rw [lxL_D h2, if_neg (by decide), if_pos h2]
    rw [e]
    refine ⟨wv_lo _ _ _, ?_, h3, fun w hw => ?_⟩
    · rcases wvI_r B q (rlK (lxL B) (t - q) q) 13 0 (by omega) with ⟨z, -⟩ | ⟨u, -, b, c, -⟩
      · rw [z]; decide
      · rw [c, m10 b]; omega
    · rw [wv_word hw, h5]
      have t5 := (w_tab ⟨w, hw⟩).2.2.2.2.1
      dsimp only at t5
      have r := wr_rel (B := B) (i := q) (rlK (lxL B) (t - q) q) 0 0 (Or.inl rfl)
      rw [Nat.add_zero, Nat.zero_add] at r
      omega
  · refine Or.inr (Or.inr (Or.inr (Or.inl ⟨h3, ?_⟩)))
    rw [if_neg (by omega)]
    have e : tokV B t q = nI (ncK B (rlK (lxD B) (t - q) q) 0 q) := by
      unfold tokV
      rw [if_pos h2]
    have r := num_rel (B := B) (rlK (lxD B) (t - q) q) 0 0 q (rlK_in _ _ _) (Or.inl ⟨rfl, by omega⟩)
    rw [e, nI_tI (by omega), h5]
    omega
  · refine Or.inr (Or.inr (Or.inr (Or.inr ⟨?_, h5⟩)))
    rw [if_neg (by omega)]
    unfold tokV
    rw [h2, h3, if_neg (by decide), if_neg (by decide), if_neg h4]
/-- the end of a token -/
theorem TD.fin {B : Nat → Int32} {t q : Nat} {a so : Int32} {v : Int64} (h : TD B t q a so v) (hs : q < t → lxS B q = true) (hso : so = 1 ∨ so = 2 ∨ so = 3) : ∃ e, a = nI e ∧ q < e ∧ e ≤ t ∧ lxC B e = lxC B q + 1 ∧ (e < t → lxG B e = false) := by
  rcases h with ⟨h1, h2⟩ | ⟨h1, h2, h3, h4⟩ | ⟨h1, h2, h3, h4, h5⟩ | ⟨h1, h2, h3, h4, h5⟩ | ⟨h1, h2, h3, h4, h5⟩
  · rw [h2] at hso
    exact absurd hso (by decide)
  · have := lx_si h2
    refine ⟨q + 1, h4, by omega, by omega, by rw [lxC_s, if_pos (hs h1)], fun _ => lxG_b this.1 this.2⟩
  · have p := rlK_pos (Q := lxL B) (m := t - q) h2 (by omega)
    have l := rlK_le (lxL B) (t - q) q
    have r := rlK_in (lxL B) (t - q) q
    obtain ⟨n, hn⟩ : ∃ n, rlK (lxL B) (t - q) q = n + 1 := ⟨rlK (lxL B) (t - q) q - 1, by omega⟩
    have c := lxC_run (B := B) (Q := lxL B) lxG_LL (hs h1) r n (by omega)
    refine ⟨_, h4, by omega, by omega, by rw [hn]; exact c, fun he => ?_⟩
    have z := rlK_end (lxL B) (t - q) q (by omega)
    rw [hn] at z ⊢
    exact lxG_L (j := q + n) (r n (by omega)) z
  · have p := rlK_pos (Q := lxD B) (m := t - q) h2 (by omega)
    have l := rlK_le (lxD B) (t - q) q
    have r := rlK_in (lxD B) (t - q) q
    obtain ⟨n, hn⟩ : ∃ n, rlK (lxD B) (t - q) q = n + 1 := ⟨rlK (lxD B) (t - q) q - 1, by omega⟩
    have c := lxC_run (B := B) (Q := lxD B) lxG_DD (hs h1) r n (by omega)
    refine ⟨_, h4, by omega, by omega, by rw [hn]; exact c, fun he => ?_⟩
    have z := rlK_end (lxD B) (t - q) q (by omega)
    rw [hn] at z ⊢
    exact lxG_D (j := q + n) (r n (by omega)) z
  · rw [h5] at hso
    exact absurd hso (by decide)
/-- both stand at the token at q, no fault yet -/
def txS (B : Nat → Int32) (t : Nat) (τ μ : fk_T) (q : Nat) : Prop := τ.1 18 4 = nI (lxC B q) ∧ τ.1 18 5 = -1 ∧ μ.1 26 12 = -1 ∧ q ≤ t ∧ (q < t → lxS B q = true) ∧ μ.1 26 10 = nI q ∧ TD B t q (μ.1 26 8) (μ.1 26 9) μ.2
/-- both have the same fault -/
def txF (t : Nat) (τ μ : fk_T) : Prop := (∃ j, j ≤ 120 ∧ τ.1 18 4 = nI j) ∧ ∃ f, f ≤ t ∧ τ.1 18 5 = nI f ∧ μ.1 26 12 = nI f
def gC (τ τ' : fk_T) : Prop := ∀ a, a ≠ 18 → τ'.1 a = τ.1 a
def gM (μ μ' : fk_T) : Prop := (∀ a, a ≠ 26 → μ'.1 a = μ.1 a) ∧ ∀ i, i ≠ 8 → i ≠ 9 → i ≠ 10 → i ≠ 12 → μ'.1 26 i = μ.1 26 i
theorem gC.rf (τ : fk_T) : gC τ τ := fun _ _ => rfl
theorem gM.rf (μ : fk_T) : gM μ μ := ⟨fun _ _ => rfl, fun _ _ _ _ _ => rfl⟩
theorem gC.tr {τ τ1 τ2 : fk_T} (h1 : gC τ τ1) (h2 : gC τ1 τ2) : gC τ τ2 := fun a ha => (h2 a ha).trans (h1 a ha)
theorem gM.tr {μ μ1 μ2 : fk_T} (h1 : gM μ μ1) (h2 : gM μ1 μ2) : gM μ μ2 := ⟨fun a ha => (h2.1 a ha).trans (h1.1 a ha), fun i a b c d => (h2.2 i a b c d).trans (h1.2 i a b c d)⟩
theorem gC.w (τ : fk_T) (g : Nat → Int32) : gC τ (fk_w τ 18 g) := fun _ h => w_ne _ _ h
theorem gM.w (μ : fk_T) (x : Int32) : gM μ (fk_w μ 26 (upd (μ.1 26) 12 x)) := ⟨fun _ h => w_ne _ _ h, fun i _ _ _ h => by rw [w_self, u_ne _ _ h]⟩
theorem RN.gM {μ μ' : fk_T} (h : RN μ μ') : gM μ μ' := ⟨h.1, fun i a b c _ => h.2 i a b c⟩
theorem TK.fr {B : Nat → Int32} {t : Nat} {τ τ' : fk_T} (h : TK B t τ) (h1 : τ'.1 19 = τ.1 19) (h2 : τ'.1 20 = τ.1 20) : TK B t τ' := by
  unfold TK; rw [h1, h2]; exact h
theorem TK.g {B : Nat → Int32} {t : Nat} {τ τ' : fk_T} (h : TK B t τ) (g : gC τ τ') : TK B t τ' := h.fr (g 19 (by omega)) (g 20 (by omega))
theorem RBy.g {B : Nat → Int32} {t : Nat} {μ μ' : fk_T} (h : RBy B t μ) (g : gM μ μ') : RBy B t μ' := h.fr (g.2 7 (by omega) (by omega) (by omega) (by omega)) (g.1 32 (by omega))
theorem tx_tok {B : Nat → Int32} {t q : Nat} {τ μ : fk_T} (ht : t ≤ 120) (hT : TK B t τ) (hS : txS B t τ μ q) {α : Type} {k : Int32 → Option α} : fk_A (τ.1 19) 121 (τ.1 18 4) k = k (tkT B t q) := by
  have hC := lxC_le B q
  obtain ⟨a1, a2, a3, a4, a5, a6, a7⟩ := hS
  rw [fA (j := lxC B q) a1 (by omega) (by omega)]
  unfold tkT
  by_cases e : q = t
  · rw [if_pos e, e, hT.2.1]
  · rw [if_neg e, (hT.1 q (by omega) (a5 (by omega))).1]
theorem tx_start {B : Nat → Int32} {t q : Nat} {τ μ : fk_T} (ht : t ≤ 120) (hT : TK B t τ) (hS : txS B t τ μ q) {α : Type} {k : Int32 → Option α} : fk_A (τ.1 20) 121 (τ.1 18 4) k = k (nI q) := by
  have hC := lxC_le B q
  obtain ⟨a1, a2, a3, a4, a5, a6, a7⟩ := hS
  rw [fA (j := lxC B q) a1 (by omega) (by omega)]
  by_cases e : q = t
  · rw [e, hT.2.2]
  · rw [(hT.1 q (by omega) (a5 (by omega))).2]
theorem l120 : (120 : Int32).toInt = 120 := by decide
theorem tx_step {B : Nat → Int32} {t q : Nat} {τ μ : fk_T} (hR : RBy B t μ) (hS : txS B t τ μ q) (hso : μ.1 26 9 = 1 ∨ μ.1 26 9 = 2 ∨ μ.1 26 9 = 3) : ∃ τ' μ' q', F_X1_step τ = some τ' ∧ F_X5_next_ μ = some μ' ∧ q < q' ∧ txS B t τ' μ' q' ∧ gC τ τ' ∧ gM μ μ' := by
  have ht := hR.1
  obtain ⟨a1, a2, a3, a4, a5, a6, a7⟩ := hS
  obtain ⟨e, b1, b2, b3, b4, b5⟩ := a7.fin a5 hso
  have hC := lxC_le B q
  obtain ⟨q', μ', c1, c2, c3, c4, c5, c6, c7, c8⟩ := M_next hR b1 b3
  have cq : lxC B q' = lxC B q + 1 := by
    have := lxC_bl (B := B) (p := e) (q' - e) (fun i h1 h2 => c4 i h1 (by omega))
    rw [show e + (q' - e) = q' by omega] at this
    rw [this, b4]
  refine ⟨fk_w τ 18 (upd (τ.1 18) 4 (nI (lxC B q'))), μ', q', ?_, c1, by omega, ⟨by rw [w_self, u_self], by rw [w_self, u_ne _ _ (by omega), a2], ?_, c3, fun h => ?_, c7, c8⟩, gC.w _ _, c6.gM⟩
  · unfold F_X1_step
    rw [a1, if_neg (by rw [i_le, nI_tI (by omega), l120]; omega), fB, nI_1, cq]
  · rw [c6.2 12 (by omega) (by omega) (by omega), a3]
  · exact lxS_at (b5 (by omega)) c2 c4 (c5 h)
theorem nI_m1 {n : Nat} (h : n < 2147483648) : ¬ nI n = -1 := by rw [i_eq, nI_tI h, lim1]; omega
theorem nI_g0 {n : Nat} (h : n < 2147483648) : (0 : Int32) ≤ nI n := by rw [i_le, nI_tI h, li0]; omega
theorem tx_fault {B : Nat → Int32} {t q : Nat} {τ μ : fk_T} (ht : t ≤ 120) (hT : TK B t τ) (hS : txS B t τ μ q) : ∃ τ' μ', F_X1_refuse τ = some τ' ∧ F_X5_wrongHere μ = some μ' ∧ txF t τ' μ' ∧ gC τ τ' ∧ gM μ μ' := by
  have hC := lxC_le B q
  have hst := hS
  obtain ⟨a1, a2, a3, a4, a5, a6, a7⟩ := hS
  refine ⟨fk_w τ 18 (upd (τ.1 18) 5 (nI q)), fk_w μ 26 (upd (μ.1 26) 12 (nI q)), ?_, ?_, ⟨⟨lxC B q, by omega, by rw [w_self, u_ne _ _ (by omega), a1]⟩, q, a4, by rw [w_self, u_self], by rw [w_self, u_self]⟩, gC.w _ _, gM.w _ _⟩
  · unfold F_X1_refuse
    rw [if_pos a2, tx_start ht hT hst, fB]
  · unfold F_X5_wrongHere
    rw [a3, if_neg (by decide), fB, a6]
theorem C_hasF0 {τ : fk_T} (h : τ.1 18 5 = -1) : F_X1_hasFault τ = some (false, τ) := by unfold F_X1_hasFault; rw [if_pos h]
theorem C_hasF1 {τ : fk_T} (h : ¬ τ.1 18 5 = -1) : F_X1_hasFault τ = some (true, τ) := by unfold F_X1_hasFault; rw [if_neg h]
theorem C_ref1 {τ : fk_T} (h : ¬ τ.1 18 5 = -1) : F_X1_refuse τ = some τ := by unfold F_X1_refuse; rw [if_neg h]
theorem L32 {v : Int64} {x : Int32} (h : v.toInt = x.toInt) : v.toInt32 = x := by
  have h1 := ti_lo x
  have h2 := ti_hi x
  rw [i_eq, Int64.toInt_toInt32, h]
  exact Int.bmod_eq_of_le (by omega) (by omega)
/-- a number within a range, on both sides -/
theorem tx_num {B : Nat → Int32} {t q : Nat} {τ μ : fk_T} (hT : TK B t τ) (hR : RBy B t μ) (hS : txS B t τ μ q) (lo hi : Int32) (hlo : 0 ≤ lo.toInt) (hhi : hi.toInt ≤ 99) : (lo.toInt ≤ (tkT B t q).toInt ∧ (tkT B t q).toInt ≤ hi.toInt ∧ ∃ τ' μ' q', F_X1_readNumber lo hi τ = some (tkT B t q, τ') ∧ (∀ no, ¬ tkT B t q = no → F_X5_numberHere lo hi no μ = some (tkT B t q, μ')) ∧ (F_X5_numberHere lo hi (tkT B t q) μ = (F_X5_wrongHere μ).bind (fun q6 => some (0, q6))) ∧ q < q' ∧ txS B t τ' μ' q' ∧ gC τ τ' ∧ gM μ μ') ∨ (¬ (lo.toInt ≤ (tkT B t q).toInt ∧ (tkT B t q).toInt ≤ hi.toInt) ∧ ∃ τ' μ', F_X1_readNumber lo hi τ = some (lo, τ') ∧ (∀ no, F_X5_numberHere lo hi no μ = some (0, μ')) ∧ txF t τ' μ' ∧ gC τ τ' ∧ gM μ μ') := by
  have ht := hR.1
  have hst := hS
  obtain ⟨a1, a2, a3, a4, a5, a6, a7⟩ := hS
  have key : (lo.toInt ≤ (tkT B t q).toInt ∧ (tkT B t q).toInt ≤ hi.toInt) → μ.1 26 9 = 2 ∧ μ.2.toInt = (tkT B t q).toInt := fun h => by
    rcases a7.tk with ⟨z, -⟩ | ⟨z, -⟩ | ⟨z, -⟩ | ⟨z, z2, z3⟩ | ⟨z, -⟩
    · rw [z, lim1] at h; omega
    · rw [z, lm2] at h; omega
    · omega
    · exact ⟨z, by omega⟩
    · rw [z, lm3] at h; omega
  have key2 : μ.1 26 9 = 2 → lo.toInt ≤ μ.2.toInt ∧ μ.2.toInt ≤ hi.toInt → (lo.toInt ≤ (tkT B t q).toInt ∧ (tkT B t q).toInt ≤ hi.toInt) := fun h9 h => by
    rcases a7.tk with ⟨-, z⟩ | ⟨-, z⟩ | ⟨-, -, z, -⟩ | ⟨z, z2, z3⟩ | ⟨-, z⟩
    · rw [h9] at z; exact absurd z (by decide)
    · rw [h9] at z; exact absurd z (by decide)
    · rw [h9] at z; exact absurd z (by decide)
    · omega
    · rw [h9] at z; exact absurd z (by decide)
  by_cases h : lo.toInt ≤ (tkT B t q).toInt ∧ (tkT B t q).toInt ≤ hi.toInt
  · obtain ⟨k1, k2⟩ := key h
    obtain ⟨τ', μ', q', s1, s2, s3, s4, s5, s6⟩ := tx_step hR hst (Or.inr (Or.inl k1))
    refine Or.inl ⟨h.1, h.2, τ', μ', q', ?_, fun no hno => ?_, ?_, s3, s4, s5, s6⟩
    · unfold F_X1_readNumber
      rw [tx_tok ht hT hst, C_hasF0 a2, bS]
      dsimp only
      rw [if_pos fbF, C_within, bS]
      dsimp only
      rw [decide_eq_true h, if_neg fbT, s1, bS]
    · unfold F_X5_numberHere
      rw [fB, if_pos k1, M_in, bS, Int32.toInt_toInt64, Int32.toInt_toInt64, k2]
      dsimp only
      rw [decide_eq_true h, if_neg fbT, L32 k2, if_neg hno, s2, bS]
    · unfold F_X5_numberHere
      rw [fB, if_pos k1, M_in, bS, Int32.toInt_toInt64, Int32.toInt_toInt64, k2]
      dsimp only
      rw [decide_eq_true h, if_neg fbT, L32 k2, if_pos rfl]
  · obtain ⟨τ', μ', s1, s2, s3, s4, s5⟩ := tx_fault ht hT hst
    refine Or.inr ⟨h, τ', μ', ?_, fun no => ?_, s3, s4, s5⟩
    · unfold F_X1_readNumber
      rw [tx_tok ht hT hst, C_hasF0 a2, bS]
      dsimp only
      rw [if_pos fbF, C_within, bS]
      dsimp only
      rw [decide_eq_false h, if_pos fbF, s1, bS]
    · unfold F_X5_numberHere
      rw [fB]
      by_cases k1 : μ.1 26 9 = 2
      · rw [if_pos k1, M_in, bS, Int32.toInt_toInt64, Int32.toInt_toInt64]
        dsimp only
        rw [decide_eq_false (fun z => h (key2 k1 z)), if_pos fbF, s2, bS]
      · rw [if_neg k1, s2, bS]
theorem M_isWord (W : Int64) (μ : fk_T) : F_X5_isWord W μ = some (decide (μ.1 26 9 = 1 ∧ μ.2.toInt = W.toInt), μ) := by
  unfold F_X5_isWord
  by_cases h : μ.1 26 9 = 1
  · rw [if_pos h]
    by_cases h2 : μ.2.toInt = W.toInt
    · rw [if_pos (cmpl_eq.mpr h2), decide_eq_true ⟨h, h2⟩]
    · rw [if_neg (fun z => h2 (cmpl_eq.mp z)), decide_eq_false (fun z => h2 z.2)]
  · rw [if_neg h, decide_eq_false (fun z => h z.1)]
theorem tx_word {B : Nat → Int32} {t q : Nat} {τ μ : fk_T} (hS : txS B t τ μ q) {w : Nat} (hw : w < 13) {W : Int64} (hW : W.toInt = (wW.getD w 0 : Int)) : F_X5_isWord W μ = some (decide (tkT B t q = -10 - nI w), μ) := by
  obtain ⟨a1, a2, a3, a4, a5, a6, a7⟩ := hS
  rw [M_isWord]
  refine congrArg (fun b => some (b, μ)) (decide_eq_decide.mpr ?_)
  rw [hW]
  rcases a7.tk with ⟨z, y⟩ | ⟨z, y⟩ | ⟨z, -, y, x⟩ | ⟨y, z, -⟩ | ⟨z, y⟩
  · rw [y, z, i_eq, i_eq, m10 hw, lim1]
    exact ⟨fun h => absurd h.1 (by decide), fun h => by omega⟩
  · rw [y, z, i_eq, i_eq, m10 hw, lm2]
    exact ⟨fun h => absurd h.1 (by decide), fun h => by omega⟩
  · rw [x w hw]
    exact ⟨fun h => h.2, fun h => ⟨y, h⟩⟩
  · rw [y, i_eq (x := tkT B t q), m10 hw]
    exact ⟨fun h => absurd h.1 (by decide), fun h => by omega⟩
  · rw [y, z, i_eq (x := -3), m10 hw, lm3]
    exact ⟨fun h => absurd h.1 (by decide), fun h => by omega⟩
theorem tx_so1 {B : Nat → Int32} {t q : Nat} {τ μ : fk_T} (hS : txS B t τ μ q) {w : Nat} (hw : w < 13) (h : tkT B t q = -10 - nI w) : μ.1 26 9 = 1 := by
  obtain ⟨a1, a2, a3, a4, a5, a6, a7⟩ := hS
  have h2 := congrArg Int32.toInt h
  rw [m10 hw] at h2
  rcases a7.tk with ⟨z, y⟩ | ⟨z, y⟩ | ⟨z, -, y, x⟩ | ⟨y, z, -⟩ | ⟨z, y⟩
  · rw [z, lim1] at h2; omega
  · rw [z, lm2] at h2; omega
  · exact y
  · omega
  · rw [z, lm3] at h2; omega
