/-! ===== reconcile ===== -/
def bcV (x0 : Int32) : Int32 :=
  let y1 := x0 - (((x0.toUInt32 >>> ((1 : Int32).toUInt32 &&& Int32.toUInt32 31)).toInt32) &&& 1431655765)
  let y2 := (y1 &&& 858993459) + (((y1.toUInt32 >>> ((2 : Int32).toUInt32 &&& Int32.toUInt32 31)).toInt32) &&& 858993459)
  let y3 := (y2 + ((y2.toUInt32 >>> ((4 : Int32).toUInt32 &&& Int32.toUInt32 31)).toInt32)) &&& 252645135
  let y4 := y3 + ((y3.toUInt32 >>> ((8 : Int32).toUInt32 &&& Int32.toUInt32 31)).toInt32)
  let y5 := y4 + ((y4.toUInt32 >>> ((16 : Int32).toUInt32 &&& Int32.toUInt32 31)).toInt32)
  y5 &&& 63
theorem C_bc (x : Int32) (σ : fk_T) : F_J6_bitCount_0f7a4 x σ = some (bcV x, σ) := rfl
def bit (x : Int32) (j : Nat) : Int32 := (x >>> (nI j &&& 31)) &&& 1
def onV (x : Int32) : Int32 := smK (bit x) 8 0 0
theorem bc_on : ∀ s : Fin 256, bcV (nI s.val) = onV (nI s.val) := by decide +kernel
theorem M_onL {x : Int32} {σ : fk_T} {k : Int32 → Int32 → Int32 → fk_T → Option (Int32 × fk_T)} : ∀ (m i fu : Nat) (s : Int32), i + m = 8 → m < fu → L_X5_ones_4 fu x s (nI i) σ k = k x (smK (bit x) m i s) (nI 8) σ
  | m, i, 0, s, _, hf => by omega
  | 0, i, fu + 1, s, hi, _ => by
    have : i = 8 := by omega
    subst this
    rw [L_X5_ones_4, if_pos (by decide)]
    rfl
  | m + 1, i, fu + 1, s, hi, hf => by
    rw [L_X5_ones_4, if_neg (by rw [i_le, nI_tI (by omega), show (8 : Int32).toInt = 8 by decide]; omega), fB, fB, nI_1, M_onL m (i + 1) fu _ (by omega) (by omega)]
    rfl
theorem M_ones (x : Int32) (σ : fk_T) : F_X5_ones x σ = some (onV x, σ) := M_onL 8 0 fk_N 0 (by omega) (by unfold fk_N; omega)
def rsI (x : Int32) (a : Nat) : Nat → Nat → (Nat → Int32) → (Nat → Int32)
  | 0, _, G => G
  | m + 1, b, G => rsI x a m (b + 1) (if bit x a = 1 then (if bit x b = 1 then upd G (61 + (8 * a + b)) 0 else G) else G)
theorem rsI_s (x : Int32) (a m b : Nat) (G : Nat → Int32) : rsI x a (m + 1) b G = rsI x a m (b + 1) (if bit x a = 1 then (if bit x b = 1 then upd G (61 + (8 * a + b)) 0 else G) else G) := rfl
def rsO (x : Int32) : Nat → Nat → (Nat → Int32) → (Nat → Int32)
  | 0, _, G => G
  | m + 1, a, G => rsO x m (a + 1) (rsI x a m (a + 1) G)
theorem rsO_s (x : Int32) (m a : Nat) (G : Nat → Int32) : rsO x (m + 1) a G = rsO x m (a + 1) (rsI x a m (a + 1) G) := rfl
def Ok (G G' : Nat → Int32) : Prop := WF G' ∧ G' 0 = G 0 ∧ G' 5 = G 5 ∧ Out G G'
theorem ok_I (x : Int32) {a : Nat} (ha : a < 8) : ∀ (m b : Nat) {G : Nat → Int32}, WF G → b + m ≤ 8 → Ok G (rsI x a m b G)
  | 0, _, G, h, _ => ⟨h, rfl, rfl, Out.rf G⟩
  | m + 1, b, G, h, hb9 => by
    rw [rsI_s]
    have h1 : Ok G (upd G (61 + (8 * a + b)) 0) := ⟨h.set (by omega) (by omega) (fun _ _ => ⟨by rw [li0]; omega, by rw [li0]; exact hb_nn _⟩), u_ne _ _ (by omega), u_ne _ _ (by omega), Out.u _ (by omega)⟩
    have h2 : Ok G (if bit x a = 1 then (if bit x b = 1 then upd G (61 + (8 * a + b)) 0 else G) else G) := by
      split
      · split
        · exact h1
        · exact ⟨h, rfl, rfl, Out.rf G⟩
      · exact ⟨h, rfl, rfl, Out.rf G⟩
    obtain ⟨a1, a2, a3, a4⟩ := ok_I x ha m (b + 1) h2.1 (by omega)
    exact ⟨a1, a2.trans h2.2.1, a3.trans h2.2.2.1, h2.2.2.2.tr a4⟩
theorem ok_O (x : Int32) : ∀ (m a : Nat) {G : Nat → Int32}, WF G → a + m ≤ 8 → Ok G (rsO x m a G)
  | 0, _, G, h, _ => ⟨h, rfl, rfl, Out.rf G⟩
  | m + 1, a, G, h, hb9 => by
    rw [rsO_s]
    have h2 := ok_I x (a := a) (by omega) m (a + 1) h (by omega)
    obtain ⟨a1, a2, a3, a4⟩ := ok_O x m (a + 1) h2.1 (by omega)
    exact ⟨a1, a2.trans h2.2.1, a3.trans h2.2.2.1, h2.2.2.2.tr a4⟩
theorem C_rsI {c n a : Nat} (hn : n ≤ 8) (ha : a < 8) (x : Int32) {k : Int32 → Int32 → Int32 → fk_T → Option fk_T} : ∀ (m b fu : Nat) {σ : fk_T} {G : Nat → Int32}, CP c σ G → G 0 = nI n → a < b → b + m = n → m < fu → ∃ σ', L_X0_reconcileSet_14 c fu x (nI a) (nI b) σ k = k x (nI a) (nI n) σ' ∧ CP c σ' (rsI x a m b G) ∧ FrP c σ σ'
  | m, b, 0, _, _, _, _, _, _, hf => by omega
  | 0, b, fu + 1, σ, G, h, hG, hab, hi, _ => by
    have : b = n := by omega
    subst this
    refine ⟨σ, ?_, h, FrP.rf _ _⟩
    rw [L_X0_reconcileSet_14, h.c6, hG, if_pos (by rw [i_le]; omega)]
  | m + 1, b, fu + 1, σ, G, h, hG, hab, hi, hf => by
    have hg : gbt a b = 8 * a + b := by unfold gbt; rw [if_neg (by omega)]
    rw [rsI_s]
    have ex := fun (τ : fk_T) (G' : Nat → Int32) (h' : CP c τ G') (e : G' 0 = nI n) => C_rsI hn ha x (k := k) m (b + 1) fu h' e (by omega) (by omega) (by omega)
    have u1 : L_X0_reconcileSet_14 c (fu + 1) x (nI a) (nI b) σ k = if bit x a = 1 then (if bit x b = 1 then ((F_X0_setRift c (nI a) (nI b) 0 σ).bind (fun q4 => L_X0_reconcileSet_14 c fu x (nI a) (nI (b + 1)) q4 k)) else L_X0_reconcileSet_14 c fu x (nI a) (nI (b + 1)) σ k) else L_X0_reconcileSet_14 c fu x (nI a) (nI (b + 1)) σ k := by
      rw [L_X0_reconcileSet_14, h.c6, hG, if_neg (by rw [i_le, nI_tI (by omega), nI_tI (by omega)]; omega), ← nI_1]
      rfl
    rw [u1]
    by_cases z1 : bit x a = 1
    · rw [if_pos z1, if_pos z1]
      by_cases z2 : bit x b = 1
      · rw [if_pos z2, if_pos z2]
        obtain ⟨s1, g1, g2, g3⟩ := C_setRift h (x := nI a) (y := nI b) (v := 0) rfl rfl ha (by omega)
        rw [hg] at g2
        obtain ⟨s2, q1, q2, q3⟩ := ex s1 _ g2 (by rw [u_ne _ _ (by omega), hG])
        exact ⟨s2, by rw [g1, bS, q1], q2, g3.tr q3⟩
      · rw [if_neg z2, if_neg z2]
        exact ex σ G h hG
    · rw [if_neg z1, if_neg z1]
      exact ex σ G h hG
theorem C_rsO {c n : Nat} (hn : n ≤ 8) (x : Int32) {k : Int32 → Int32 → fk_T → Option fk_T} : ∀ (m a fu : Nat) {σ : fk_T} {G : Nat → Int32}, CP c σ G → WF G → G 0 = nI n → a + m = n → m < fu → ∃ σ', L_X0_reconcileSet_2 c fu x (nI a) σ k = k x (nI n) σ' ∧ CP c σ' (rsO x m a G) ∧ FrP c σ σ'
  | m, a, 0, _, _, _, _, _, _, hf => by omega
  | 0, a, fu + 1, σ, G, h, _, hG, hi, _ => by
    have : a = n := by omega
    subst this
    refine ⟨σ, ?_, h, FrP.rf _ _⟩
    rw [L_X0_reconcileSet_2, h.c6, hG, if_pos (by rw [i_le]; omega)]
  | m + 1, a, fu + 1, σ, G, h, hw, hG, hi, hf => by
    obtain ⟨s1, g1, g2, g3⟩ := C_rsI hn (by omega : a < 8) x (k := fun y7 y8 y9 s6 => fk_B (y8 + 1) (fun y10 => L_X0_reconcileSet_2 c fu y7 y10 s6 k)) m (a + 1) fk_N h hG (by omega) (by omega) (by unfold fk_N; omega)
    have o1 := ok_I x (by omega : a < 8) m (a + 1) hw (by omega)
    obtain ⟨s2, q1, q2, q3⟩ := C_rsO hn x (k := k) m (a + 1) fu g2 o1.1 (o1.2.1.trans hG) (by omega) (by omega)
    refine ⟨s2, ?_, q2, g3.tr q3⟩
    rw [L_X0_reconcileSet_2, h.c6, hG, if_neg (by rw [i_le, nI_tI (by omega), nI_tI (by omega)]; omega), fB, nI_1]
    refine g1.trans ?_
    rw [fB, nI_1, q1]
theorem M_rsI {n a : Nat} (hn : n ≤ 8) (ha : a < 8) (x : Int32) {k : Int32 → Int32 → Int32 → fk_T → Option fk_T} : ∀ (m b fu : Nat) {σ : fk_T}, σ.1 27 0 = nI n → b + m = n → m < fu → L_X5_reconciles_16 fu x (nI a) (nI b) σ k = k x (nI a) (nI n) (fk_w σ 27 (rsI x a m b (σ.1 27)))
  | m, b, 0, _, _, _, hf => by omega
  | 0, b, fu + 1, σ, hG, hi, _ => by
    have : b = n := by omega
    subst this
    rw [L_X5_reconciles_16, rdG 0 (by omega), hG, if_pos (by rw [i_le]; omega)]
    show _ = k x (nI a) (nI b) (fk_w σ 27 (σ.1 27))
    rw [w_id rfl]
  | m + 1, b, fu + 1, σ, hG, hi, hf => by
    have u1 : L_X5_reconciles_16 (fu + 1) x (nI a) (nI b) σ k = if bit x a = 1 then (if bit x b = 1 then L_X5_reconciles_16 fu x (nI a) (nI (b + 1)) (fk_w σ 27 (upd (σ.1 27) (61 + (8 * a + b)) 0)) k else L_X5_reconciles_16 fu x (nI a) (nI (b + 1)) σ k) else L_X5_reconciles_16 fu x (nI a) (nI (b + 1)) σ k := by
      rw [L_X5_reconciles_16, rdG 0 (by omega), hG, if_neg (by rw [i_le, nI_tI (by omega), nI_tI (by omega)]; omega), fS (j := 61 + (8 * a + b)) (by rw [nm, nl, nI_add, Nat.add_assoc]) (by omega) (by omega), ← nI_1]
      rfl
    rw [u1, rsI_s]
    by_cases z1 : bit x a = 1
    · rw [if_pos z1, if_pos z1]
      by_cases z2 : bit x b = 1
      · rw [if_pos z2, if_pos z2, M_rsI hn ha x m (b + 1) fu (by rw [w_self, u_ne _ _ (by omega), hG]) (by omega) (by omega), w_w, w_self]
      · rw [if_neg z2, if_neg z2, M_rsI hn ha x m (b + 1) fu hG (by omega) (by omega)]
    · rw [if_neg z1, if_neg z1, M_rsI hn ha x m (b + 1) fu hG (by omega) (by omega)]
theorem M_rsO {n : Nat} (hn : n ≤ 8) (x : Int32) {k : Int32 → Int32 → fk_T → Option fk_T} : ∀ (m a fu : Nat) {σ : fk_T}, WF (σ.1 27) → σ.1 27 0 = nI n → a + m = n → m < fu → L_X5_reconciles_2 fu x (nI a) σ k = k x (nI n) (fk_w σ 27 (rsO x m a (σ.1 27)))
  | m, a, 0, _, _, _, _, hf => by omega
  | 0, a, fu + 1, σ, _, hG, hi, _ => by
    have : a = n := by omega
    subst this
    rw [L_X5_reconciles_2, rdG 0 (by omega), hG, if_pos (by rw [i_le]; omega)]
    show _ = k x (nI a) (fk_w σ 27 (σ.1 27))
    rw [w_id rfl]
  | m + 1, a, fu + 1, σ, hw, hG, hi, hf => by
    have g1 := M_rsI hn (by omega : a < 8) x (k := fun y9 y10 y11 s8 => fk_B (y10 + 1) (fun y12 => L_X5_reconciles_2 fu y9 y12 s8 k)) m (a + 1) fk_N hG (by omega) (by unfold fk_N; omega)
    have o1 := ok_I x (by omega : a < 8) m (a + 1) hw (by omega)
    have q1 := M_rsO hn x (k := k) m (a + 1) fu (σ := fk_w σ 27 (rsI x a m (a + 1) (σ.1 27))) (by rw [w_self]; exact o1.1) (by rw [w_self, o1.2.1, hG]) (by omega) (by omega)
    rw [L_X5_reconciles_2, rdG 0 (by omega), hG, if_neg (by rw [i_le, nI_tI (by omega), nI_tI (by omega)]; omega), fB, nI_1]
    refine g1.trans ?_
    rw [fB, nI_1, q1, w_w, w_self, rsO_s]
def keG (G : Nat → Int32) (n : Nat) (x : Int32) : Bool := decide (daysG (rsO x (nG G) 0 G) n 5 = G 5)
theorem C_keeps {τ : fk_T} {G : Nat → Int32} (h : CP 1 τ G) (hw : WF G) {n : Nat} (hn : n < 4000) (x : Int32) : ∃ τ', F_X4_keepsRound x (nI n) τ = some (keG G n x, τ') ∧ FrP 6 τ τ' := by
  obtain ⟨n1, n2, n3⟩ := nG_of hw
  obtain ⟨s0, b1, b2, b3⟩ := C_become (b := 6) (c := 1) (Or.inr (Or.inl rfl)) (Or.inl rfl) (by omega) h
  obtain ⟨s1, g1, g2, g3⟩ := C_rsO n2 x (k := fun y12 y13 s11 => some s11) (nG G) 0 fk_N b2 hw n1 (by omega) (by unfold fk_N; omega)
  obtain ⟨s2, q1, q2, q3⟩ := C_passDays (Or.inr (Or.inl rfl)) (x := nI n) rfl hn g2 (ok_O x (nG G) 0 hw (by omega)).1
  have fr : FrP 6 τ s2 := (b3.tr g3).tr q3
  have h1 : CP 1 s2 G := h.fr (fun a z1 z2 => fr.1 a (by omega))
  refine ⟨s2, ?_, fr⟩
  unfold F_X4_keepsRound
  rw [b1, bS, show F_X0_reconcileSet 6 x s0 = some s1 from g1, bS, q1, bS, q2.c2, h1.c2]
  unfold keG
  by_cases z : daysG (rsO x (nG G) 0 G) n 5 = G 5
  · rw [if_pos z, decide_eq_true z]
  · rw [if_neg z, decide_eq_false z]
theorem M_keeps {G A : Nat → Int32} (hw : WF G) {σ : fk_T} (h29 : σ.1 29 = cpG G A) (h27 : σ.1 27 = G) {n : Nat} (hn : n < 4000) (x : Int32) {α : Type} (f g : fk_T → Option α) : ((F_X5_reconciles x σ).bind (fun q4 => (F_X5_behind (nI n) 5 q4).bind (fun q5 => fk_A (q5.2.1 27) 135 5 (fun y6 => if q5.1 = y6 then f q5.2 else g q5.2)))) = if keG G n x = true then f σ else g σ := by
  obtain ⟨n1, n2, n3⟩ := nG_of hw
  have o1 := ok_O x (nG G) 0 hw (by omega)
  have r1 : F_X5_reconciles x σ = some (fk_w σ 27 (rsO x (nG G) 0 G)) := by
    have := M_rsO n2 x (k := fun y14 y15 s13 => some s13) (nG G) 0 fk_N (σ := σ) (by rw [h27]; exact hw) (by rw [h27]; exact n1) (by omega) (by unfold fk_N; omega)
    rw [h27] at this
    exact this
  rw [r1, bS, M_behind (G := G) (A := A) (by rw [w_ne _ _ (by omega), h29]) (by rw [w_self]; exact o1.1) (by rw [w_self]; exact o1.2.2.2) rfl hn (nlit 5) (by omega), bS, w_w, w_self, w_id h27.symm]
  dsimp only
  rw [fA (j := 5) (nlit 5) (by omega) (by omega), w_self]
  unfold keG
  by_cases z : daysG (rsO x (nG G) 0 G) n 5 = G 5
  · rw [if_pos z, decide_eq_true z, if_pos rfl]
  · rw [if_neg z, decide_eq_false z, if_neg (by decide)]
def rcK (G : Nat → Int32) (n : Nat) : Nat → Nat → Int32 → Int32
  | 0, _, b => b
  | m + 1, s, b => rcK G n m (s + 1) (if (b < 0 ∨ onV (nI s) < onV b) ∧ keG G n (nI s) = true then nI s else b)
theorem rcK_s (G : Nat → Int32) (n m s : Nat) (b : Int32) : rcK G n (m + 1) s b = rcK G n m (s + 1) (if (b < 0 ∨ onV (nI s) < onV b) ∧ keG G n (nI s) = true then nI s else b) := rfl
def RB (b : Int32) : Prop := b = -1 ∨ ∃ q, q < 256 ∧ b = nI q
theorem rb_s {G : Nat → Int32} {n s : Nat} {b : Int32} (hs : s < 256) (h : RB b) : RB (if (b < 0 ∨ onV (nI s) < onV b) ∧ keG G n (nI s) = true then nI s else b) := by
  split
  · exact Or.inr ⟨s, hs, rfl⟩
  · exact h
theorem rc_ok (G : Nat → Int32) (n : Nat) : ∀ (m s : Nat) {b : Int32}, s + m ≤ 256 → RB b → RB (rcK G n m s b)
  | 0, _, _, _, h => h
  | m + 1, s, b, hs, h => by rw [rcK_s]; exact rc_ok G n m (s + 1) (by omega) (rb_s (by omega) h)
theorem C_rcL {G : Nat → Int32} (hw : WF G) {n N : Nat} (hn : n < 4000) (hN : N ≤ 256) {k : Int32 → Int32 → Int32 → Int32 → fk_T → Option (Int32 × fk_T)} : ∀ (m s fu : Nat) {b : Int32} {τ : fk_T}, RB b → CP 1 τ G → s + m = N → m < fu → ∃ τ', FrP 6 τ τ' ∧ L_X4_reconcile_31 fu (nI n) (nI N) b (nI s) τ k = k (nI n) (nI N) (rcK G n m s b) (nI N) τ'
  | m, s, 0, _, _, _, _, _, hf => by omega
  | 0, s, fu + 1, b, τ, hb9, h, hs, _ => by
    have : s = N := by omega
    subst this
    refine ⟨τ, FrP.rf _ _, ?_⟩
    rw [L_X4_reconcile_31, if_pos (by rw [i_le]; omega)]
    rfl
  | m + 1, s, fu + 1, b, τ, hb9, h, hs, hf => by
    obtain ⟨s1, g1, fr⟩ := C_keeps h hw hn (nI s)
    have h1 : CP 1 s1 G := h.fr (fun a z1 z2 => fr.1 a (by omega))
    have e0 : ¬ nI N ≤ nI s := by rw [i_le, nI_tI (by omega), nI_tI (by omega)]; omega
    rw [rcK_s]
    have ex := fun (τ : fk_T) (h : CP 1 τ G) (b' : Int32) (hb' : RB b') => C_rcL hw hn hN (k := k) m (s + 1) fu hb' h (by omega) (by omega)
    have key : ∃ τ', FrP 6 τ τ' ∧ CP 1 τ' G ∧ L_X4_reconcile_31 (fu + 1) (nI n) (nI N) b (nI s) τ k = L_X4_reconcile_31 fu (nI n) (nI N) (if (b < 0 ∨ onV (nI s) < onV b) ∧ keG G n (nI s) = true then nI s else b) (nI (s + 1)) τ' k := by
      have n10 : ¬ ((1 : Int32) = 0) := by decide
      rcases hb9 with rfl | ⟨q, hq, rfl⟩
      · refine ⟨s1, fr, h1, ?_⟩
        rw [L_X4_reconcile_31, if_neg e0, if_pos (show (-1 : Int32) < 0 by decide), if_neg n10, g1, bS]
        dsimp only
        rw [fB, fB, nI_1]
        cases hk : keG G n (nI s)
        · rw [if_pos (show fk_b false = 0 from rfl), if_neg (fun z => by cases z.2)]
        · rw [if_neg fbT, if_pos ⟨Or.inl (by decide), rfl⟩]
      · have nq : ¬ nI q < 0 := by rw [i_lt, nI_tI (by omega), li0]; omega
        have b1 : bcV (nI s) = onV (nI s) := bc_on ⟨s, by omega⟩
        have b2 : bcV (nI q) = onV (nI q) := bc_on ⟨q, hq⟩
        by_cases z : onV (nI q) ≤ onV (nI s)
        · have z' : ¬ onV (nI s) < onV (nI q) := by rw [i_lt]; rw [i_le] at z; omega
          refine ⟨τ, FrP.rf _ _, h, ?_⟩
          rw [L_X4_reconcile_31, if_neg e0, if_neg nq, C_bc, bS]
          dsimp only
          rw [C_bc, bS, b1, b2]
          dsimp only
          rw [if_pos z, if_pos rfl, fB, nI_1, if_neg (fun y => y.1.elim nq z')]
        · have z' : onV (nI s) < onV (nI q) := by rw [i_lt]; rw [i_le] at z; omega
          refine ⟨s1, fr, h1, ?_⟩
          rw [L_X4_reconcile_31, if_neg e0, if_neg nq, C_bc, bS]
          dsimp only
          rw [C_bc, bS, b1, b2]
          dsimp only
          rw [if_neg z, if_neg n10, g1, bS]
          dsimp only
          rw [fB (nI s + 1), nI_1]
          cases hk : keG G n (nI s)
          · rw [if_pos (show fk_b false = 0 from rfl), if_neg (fun z => by cases z.2)]
          · rw [if_neg fbT, if_pos ⟨Or.inr z', rfl⟩]; rfl
    obtain ⟨t1, f1, c1, k1⟩ := key
    rw [k1]
    obtain ⟨t2, f2, k2⟩ := ex t1 c1 _ (rb_s (G := G) (n := n) (by omega : s < 256) hb9)
    exact ⟨t2, f1.tr f2, k2⟩
theorem M_rcL {G A : Nat → Int32} (hw : WF G) {σ : fk_T} (h29 : σ.1 29 = cpG G A) (h27 : σ.1 27 = G) {n N : Nat} (hn : n < 4000) (hN : N ≤ 256) (hG : (1 : Int32) <<< (G 0 &&& 31) = nI N) {k : Int32 → Int32 → Int32 → fk_T → Option (Int32 × fk_T)} : ∀ (m s fu : Nat) {b : Int32}, RB b → s + m = N → m < fu → L_X5_reconcile_33 fu (nI n) b (nI s) σ k = k (nI n) (rcK G n m s b) (nI N) σ
  | m, s, 0, _, _, _, hf => by omega
  | 0, s, fu + 1, b, hb9, hs, _ => by
    have : s = N := by omega
    subst this
    rw [L_X5_reconcile_33, rdG 0 (by omega), h27, hG, if_pos (by rw [i_le]; omega)]
    rfl
  | m + 1, s, fu + 1, b, hb9, hs, hf => by
    have ex := fun (b' : Int32) (hb' : RB b') => M_rcL hw h29 h27 hn hN hG (k := k) m (s + 1) fu hb' (by omega) (by omega)
    have e0 : ¬ nI N ≤ nI s := by rw [i_le, nI_tI (by omega), nI_tI (by omega)]; omega
    rw [rcK_s, ← ex _ (rb_s (G := G) (n := n) (by omega : s < 256) hb9)]
    rcases hb9 with rfl | ⟨q, hq, rfl⟩
    · rw [L_X5_reconcile_33, rdG 0 (by omega), h27, hG, if_neg e0, if_pos (show (-1 : Int32) < 0 by decide)]
      simp only [fB, nI_1]
      refine (M_keeps hw h29 h27 hn (nI s) (fun τ => L_X5_reconcile_33 fu (nI n) (nI s) (nI (s + 1)) τ k) (fun τ => L_X5_reconcile_33 fu (nI n) (-1) (nI (s + 1)) τ k)).trans ?_
      cases hk : keG G n (nI s)
      · rw [if_neg (by decide), if_neg (fun z => by cases z.2)]
      · rw [if_pos rfl, if_pos ⟨Or.inl (by decide), rfl⟩]
    · have nq : ¬ nI q < 0 := by rw [i_lt, nI_tI (by omega), li0]; omega
      rw [L_X5_reconcile_33, rdG 0 (by omega), h27, hG, if_neg e0, if_neg nq, M_ones, bS]
      dsimp only
      rw [M_ones, bS]
      dsimp only
      simp only [fB, nI_1]
      by_cases z : onV (nI s) < onV (nI q)
      · rw [if_pos z]
        refine (M_keeps hw h29 h27 hn (nI s) (fun τ => L_X5_reconcile_33 fu (nI n) (nI s) (nI (s + 1)) τ k) (fun τ => L_X5_reconcile_33 fu (nI n) (nI q) (nI (s + 1)) τ k)).trans ?_
        cases hk : keG G n (nI s)
        · rw [if_neg (by decide), if_neg (fun z => by cases z.2)]
        · rw [if_pos rfl, if_pos ⟨Or.inr z, rfl⟩]
      · rw [if_neg z, if_neg (fun y => y.1.elim nq z)]
theorem shl_n {G : Nat → Int32} (hw : WF G) : (1 : Int32) <<< (G 0 &&& 31) = nI (2 ^ nG G) ∧ 2 ^ nG G ≤ 256 := by
  obtain ⟨n1, n2, n3⟩ := nG_of hw
  rw [n1]
  rcases (show nG G = 0 ∨ nG G = 1 ∨ nG G = 2 ∨ nG G = 3 ∨ nG G = 4 ∨ nG G = 5 ∨ nG G = 6 ∨ nG G = 7 ∨ nG G = 8 by omega) with e | e | e | e | e | e | e | e | e <;> rw [e] <;> decide
theorem ge0 {r : Int32} (h : RB r) : (0 ≤ r ↔ ¬ r = -1) := by
  rcases h with rfl | ⟨q, hq, rfl⟩
  · decide
  · rw [i_le, i_eq, li0, lim1, nI_tI (by omega)]; omega

theorem Q_reconcile {σ : fk_T} (hI : Inv σ) (x1 : Int32) : QQ (F_X4_reconcile x1) (F_X5_reconcile x1) σ := by
  obtain ⟨hw, hc⟩ := hI.p
  have c1 : ∀ τ, F_X4_within x1 0 20 τ = some (inR x1 0 20, τ) := cR x1 0 20 (by omega) (by omega)
  cases h1 : inR x1 0 20
  · refine QQ.find hI (k := 0) (by omega) ?_ ?_
    · first | (simp only [F_X4_reconcile, c1, h1, bS, fb0, if_true, if_false, Bool.true_eq_false, Bool.false_eq_true, reduceIte]; done) | (simp only [F_X4_reconcile, c1, h1, bS, fb0, if_true, if_false, Bool.true_eq_false, Bool.false_eq_true, reduceIte]; rfl)
    · have m1 : ∀ τ, F_X5_in x1.toInt64 0 20 τ = some (inR x1 0 20, τ) := mR x1 0 20 (by omega) (by omega)
      first | (simp only [F_X5_reconcile, m1, h1, bS, fb0, if_true, if_false, Bool.true_eq_false, Bool.false_eq_true, reduceIte]; done) | (simp only [F_X5_reconcile, m1, h1, bS, fb0, if_true, if_false, Bool.true_eq_false, Bool.false_eq_true, reduceIte]; rfl)
  obtain ⟨n, e1, n1, n2, hn⟩ := inR_of h1
  obtain ⟨w1, w2⟩ := shl_n hw
  obtain ⟨s1, f1, g1⟩ := C_rcL hw (by omega : n < 4000) w2 (k := fun y18 y19 y20 y21 s17 => if 0 ≤ y20 then (some (y20, s17)) else ((F_X4_found 3 s17).bind (fun q22 => some (q22.1, q22.2)))) (2 ^ nG (σ.1 27)) 0 fk_N (b := -1) (Or.inl rfl) hc (by omega) (by unfold fk_N; omega)
  have ok := rc_ok (σ.1 27) n (2 ^ nG (σ.1 27)) 0 (b := -1) (by omega) (Or.inl rfl)
  refine QQ.best hI (r := rcK (σ.1 27) n (2 ^ nG (σ.1 27)) 0 (-1)) f1 (ok.imp (fun z => z) (fun ⟨q, hq, e⟩ => ⟨q, by omega, e⟩)) ?_ (fun τ hτ e27 => ?_)
  · simp only [F_X4_reconcile, c1, h1, bS, fb0, if_true, if_false, Bool.true_eq_false, Bool.false_eq_true, reduceIte]
    rw [fB, hc.c6, w1, e1]
    refine g1.trans ?_
    by_cases z : rcK (σ.1 27) n (2 ^ nG (σ.1 27)) 0 (-1) = -1
    · rw [if_pos z, if_neg (fun y => (ge0 ok).mp y z)]
    · rw [if_neg z, if_pos ((ge0 ok).mpr z)]
  · have m1 : ∀ τ, F_X5_in x1.toInt64 0 20 τ = some (inR x1 0 20, τ) := mR x1 0 20 (by omega) (by omega)
    simp only [F_X5_reconcile, m1, h1, bS, fb0, if_true, if_false, Bool.true_eq_false, Bool.false_eq_true, reduceIte]
    rw [M_aside, bS, e1]
    have a27 : (as29 τ).1 27 = σ.1 27 := by rw [as_ne _ (by omega), e27]
    have a29 : (as29 τ).1 29 = cpG (σ.1 27) (τ.1 29) := by rw [as_29, e27]
    exact M_rcL hw a29 a27 (by omega : n < 4000) w2 w1 (k := fun y18 y19 y20 s17 => if 0 ≤ y19 then (some (y19, s17)) else ((F_X5_finds 3 s17).bind (fun q21 => some (q21.1, q21.2)))) (2 ^ nG (σ.1 27)) 0 fk_N (b := -1) (Or.inl rfl) (by omega) (by unfold fk_N; omega)
