/-! ===== text: the tape as tokens, purely ===== -/
def lxL (B : Nat → Int32) (i : Nat) : Bool := decide (97 ≤ (B i).toInt ∧ (B i).toInt ≤ 122)
def lxD (B : Nat → Int32) (i : Nat) : Bool := decide (48 ≤ (B i).toInt ∧ (B i).toInt ≤ 57)
def lxG (B : Nat → Int32) : Nat → Bool
  | 0 => false
  | j + 1 => (lxL B (j + 1) && lxL B j) || (lxD B (j + 1) && lxD B j)
def lxS (B : Nat → Int32) (i : Nat) : Bool := !(decide (B i = 32)) && !(lxG B i)
def lxC (B : Nat → Int32) : Nat → Nat
  | 0 => 0
  | i + 1 => if lxS B i = true then lxC B i + 1 else lxC B i
theorem lxC_s (B : Nat → Int32) (i : Nat) : lxC B (i + 1) = if lxS B i = true then lxC B i + 1 else lxC B i := rfl
theorem lxC_le (B : Nat → Int32) : ∀ i, lxC B i ≤ i
  | 0 => Nat.le_refl _
  | i + 1 => by have := lxC_le B i; rw [lxC_s]; split <;> omega
theorem lxC_mono (B : Nat → Int32) (i : Nat) : ∀ m, lxC B i ≤ lxC B (i + m)
  | 0 => Nat.le_refl _
  | m + 1 => by have := lxC_mono B i m; rw [← Nat.add_assoc, lxC_s]; split <;> omega
theorem lxC_lt {B : Nat → Int32} {i j : Nat} (h : i < j) (hs : lxS B i = true) : lxC B i < lxC B j := by
  have h1 := lxC_mono B (i + 1) (j - (i + 1))
  rw [show i + 1 + (j - (i + 1)) = j by omega, lxC_s, if_pos hs] at h1
  omega
theorem lxL_D {B : Nat → Int32} {i : Nat} (h : lxL B i = true) : lxD B i = false := by
  have := of_decide_eq_true h
  exact decide_eq_false (by omega)
theorem lxD_L {B : Nat → Int32} {i : Nat} (h : lxD B i = true) : lxL B i = false := by
  have := of_decide_eq_true h
  exact decide_eq_false (by omega)
/-! runs -/
def rlK (Q : Nat → Bool) : Nat → Nat → Nat
  | 0, _ => 0
  | m + 1, i => if Q i = true then rlK Q m (i + 1) + 1 else 0
theorem rlK_s (Q : Nat → Bool) (m i : Nat) : rlK Q (m + 1) i = if Q i = true then rlK Q m (i + 1) + 1 else 0 := rfl
theorem rlK_le (Q : Nat → Bool) : ∀ m i, rlK Q m i ≤ m
  | 0, _ => Nat.le_refl _
  | m + 1, i => by have := rlK_le Q m (i + 1); rw [rlK_s]; split <;> omega
theorem rlK_in (Q : Nat → Bool) : ∀ m i k, k < rlK Q m i → Q (i + k) = true
  | 0, _, k, h => absurd h (Nat.not_lt_zero _)
  | m + 1, i, k, h => by
    rw [rlK_s] at h
    by_cases q : Q i = true
    · rw [if_pos q] at h
      cases k with
      | zero => exact q
      | succ k => rw [show i + (k + 1) = i + 1 + k by omega]; exact rlK_in Q m (i + 1) k (by omega)
    · rw [if_neg q] at h; omega
theorem rlK_end (Q : Nat → Bool) : ∀ m i, rlK Q m i < m → Q (i + rlK Q m i) = false
  | 0, _, h => absurd h (Nat.not_lt_zero _)
  | m + 1, i, h => by
    rw [rlK_s] at h ⊢
    by_cases q : Q i = true
    · rw [if_pos q] at h ⊢
      rw [show i + (rlK Q m (i + 1) + 1) = i + 1 + rlK Q m (i + 1) by omega]
      exact rlK_end Q m (i + 1) (by omega)
    · rw [if_neg q]
      rw [Nat.add_zero]
      exact Bool.eq_false_iff.mpr q
theorem rlK_pos {Q : Nat → Bool} {m i : Nat} (h : Q i = true) (hm : 0 < m) : 0 < rlK Q m i := by
  cases m with
  | zero => omega
  | succ m => rw [rlK_s, if_pos h]; omega
/-- a token that is a run counts once -/
theorem lxC_run {B : Nat → Int32} {Q : Nat → Bool} (hQ : ∀ j, Q j = true → Q (j + 1) = true → lxG B (j + 1) = true) {q n : Nat} (hs : lxS B q = true) (hr : ∀ k, k < n → Q (q + k) = true) : ∀ k, k < n → lxC B (q + k + 1) = lxC B q + 1
  | 0, _ => by rw [Nat.add_zero, lxC_s, if_pos hs]
  | k + 1, h => by
    have h1 := lxC_run hQ hs hr k (by omega)
    have h2 := hQ (q + k) (hr k (by omega)) (hr (k + 1) h)
    rw [lxC_s, if_neg, ← h1]
    · rfl
    · show ¬ lxS B (q + k + 1) = true
      unfold lxS
      rw [h2]
      simp
theorem lxG_LL {B : Nat → Int32} (j : Nat) (h1 : lxL B j = true) (h2 : lxL B (j + 1) = true) : lxG B (j + 1) = true := by
  show ((lxL B (j + 1) && lxL B j) || (lxD B (j + 1) && lxD B j)) = true
  rw [h1, h2]; rfl
theorem lxG_DD {B : Nat → Int32} (j : Nat) (h1 : lxD B j = true) (h2 : lxD B (j + 1) = true) : lxG B (j + 1) = true := by
  show ((lxL B (j + 1) && lxL B j) || (lxD B (j + 1) && lxD B j)) = true
  rw [h1, h2]; simp
/-- blanks count nothing -/
theorem lxC_bl {B : Nat → Int32} {p : Nat} : ∀ m, (∀ i, p ≤ i → i < p + m → B i = 32) → lxC B (p + m) = lxC B p
  | 0, _ => rfl
  | m + 1, h => by
    rw [← Nat.add_assoc, lxC_s, if_neg, lxC_bl m (fun i h1 h2 => h i h1 (by omega))]
    unfold lxS
    rw [h (p + m) (by omega) (by omega)]
    simp
theorem l32 : (32 : Int32).toInt = 32 := by decide
theorem l59 : (59 : Int32).toInt = 59 := by decide
theorem lxG_b {B : Nat → Int32} {j : Nat} (hL : lxL B j = false) (hD : lxD B j = false) : lxG B (j + 1) = false := by
  show ((lxL B (j + 1) && lxL B j) || (lxD B (j + 1) && lxD B j)) = false
  rw [hL, hD]; simp
theorem lxG_L {B : Nat → Int32} {j : Nat} (hL : lxL B j = true) (h : lxL B (j + 1) = false) : lxG B (j + 1) = false := by
  show ((lxL B (j + 1) && lxL B j) || (lxD B (j + 1) && lxD B j)) = false
  rw [h, lxL_D hL]; simp
theorem lxG_D {B : Nat → Int32} {j : Nat} (hD : lxD B j = true) (h : lxD B (j + 1) = false) : lxG B (j + 1) = false := by
  show ((lxL B (j + 1) && lxL B j) || (lxD B (j + 1) && lxD B j)) = false
  rw [h, lxD_L hD]; simp
theorem lx_bl {B : Nat → Int32} {j : Nat} (h : B j = 32) : lxL B j = false ∧ lxD B j = false := by
  constructor
  · exact decide_eq_false (by rw [h, l32]; omega)
  · exact decide_eq_false (by rw [h, l32]; omega)
theorem lx_si {B : Nat → Int32} {j : Nat} (h : B j = 59) : lxL B j = false ∧ lxD B j = false := by
  constructor
  · exact decide_eq_false (by rw [h, l59]; omega)
  · exact decide_eq_false (by rw [h, l59]; omega)
/-- behind a token's end e, over blanks, a token begins -/
theorem lxS_at {B : Nat → Int32} {e q : Nat} (he : lxG B e = false) (hq : e ≤ q) (hb9 : ∀ i, e ≤ i → i < q → B i = 32) (hn : ¬ B q = 32) : lxS B q = true := by
  have hg : lxG B q = false := by
    by_cases z : q = e
    · rw [z]; exact he
    · cases q with
      | zero => rfl
      | succ q =>
        have := lx_bl (hb9 q (by omega) (by omega))
        exact lxG_b this.1 this.2
  unfold lxS
  rw [hg, decide_eq_false hn]
  rfl
/-! numbers -/
def dv (B : Nat → Int32) (i : Nat) : Nat := ((B i).toInt - 48).toNat
def ncK (B : Nat → Int32) : Nat → Nat → Nat → Nat
  | 0, a, _ => a
  | n + 1, a, i => ncK B n (min (10 * a + dv B i) 1000) (i + 1)
def nrK (B : Nat → Int32) : Nat → Nat → Nat → Nat
  | 0, a, _ => a
  | n + 1, a, i => nrK B n (if 999 < a then a else a * 10 + dv B i) (i + 1)
theorem dv_le {B : Nat → Int32} {i : Nat} (h : lxD B i = true) : dv B i ≤ 9 ∧ (B i).toInt = (dv B i : Int) + 48 := by
  have := of_decide_eq_true h
  unfold dv
  omega
theorem num_rel {B : Nat → Int32} : ∀ (n a b i : Nat), (∀ k, k < n → lxD B (i + k) = true) → ((a = b ∧ b ≤ 999) ∨ (a = 1000 ∧ 1000 ≤ b ∧ b ≤ 9999)) → ((ncK B n a i = nrK B n b i ∧ nrK B n b i ≤ 999) ∨ (ncK B n a i = 1000 ∧ 1000 ≤ nrK B n b i ∧ nrK B n b i ≤ 9999))
  | 0, _, _, _, _, h => h
  | n + 1, a, b, i, hd, h => by
    have h0 := dv_le (hd 0 (by omega))
    rw [Nat.add_zero] at h0
    refine num_rel n _ _ (i + 1) (fun k hk => by rw [show i + 1 + k = i + (k + 1) by omega]; exact hd (k + 1) (by omega)) ?_
    by_cases q : 999 < b
    · rw [if_pos q]; omega
    · rw [if_neg q]; omega
/-! words -/
def lv (B : Nat → Int32) (i : Nat) : Nat := ((B i).toInt - 96).toNat
def pv (B : Nat → Int32) (i : Nat) : Nat → Nat
  | 0 => 0
  | n + 1 => pv B i n * 27 + lv B (i + n)
theorem pv_s (B : Nat → Int32) (i n : Nat) : pv B i (n + 1) = pv B i n * 27 + lv B (i + n) := rfl
def wrK (B : Nat → Int32) : Nat → Nat → Nat → Nat
  | 0, a, _ => a
  | n + 1, a, i => wrK B n (if 100000000000000000 < a then a else a * 27 + lv B i) (i + 1)
theorem lv_le {B : Nat → Int32} {i : Nat} (h : lxL B i = true) : 1 ≤ lv B i ∧ lv B i ≤ 26 ∧ (B i).toInt = (lv B i : Int) + 96 := by
  have := of_decide_eq_true h
  unfold lv
  omega
theorem wr_rel {B : Nat → Int32} {i : Nat} : ∀ (n k a : Nat), (a = pv B i k ∨ (100000000000000000 < a ∧ 100000000000000000 < pv B i k)) → (wrK B n a (i + k) = pv B i (k + n) ∨ (100000000000000000 < wrK B n a (i + k) ∧ 100000000000000000 < pv B i (k + n)))
  | 0, _, _, h => h
  | n + 1, k, a, h => by
    have := wr_rel (B := B) (i := i) n (k + 1) (if 100000000000000000 < a then a else a * 27 + lv B (i + k)) (by
      rw [pv_s]
      by_cases q : 100000000000000000 < a
      · rw [if_pos q]; right; omega
      · rw [if_neg q]; left; omega)
    rw [show k + (n + 1) = k + 1 + n by omega]
    exact this
theorem wr_le {B : Nat → Int32} : ∀ (n a i : Nat), (∀ k, k < n → lxL B (i + k) = true) → a ≤ 2700000000000000026 → wrK B n a i ≤ 2700000000000000026
  | 0, _, _, _, h => h
  | n + 1, a, i, hd, h => by
    have h0 := lv_le (hd 0 (by omega))
    rw [Nat.add_zero] at h0
    refine wr_le n _ (i + 1) (fun k hk => by rw [show i + 1 + k = i + (k + 1) by omega]; exact hd (k + 1) (by omega)) ?_
    by_cases q : 100000000000000000 < a
    · rw [if_pos q]; omega
    · rw [if_neg q]; omega
def valR : List Nat → Nat
  | [] => 0
  | d :: r => valR r * 27 + d
theorem pv_val {B : Nat → Int32} {i : Nat} : ∀ (rs : List Nat) (n : Nat), (∀ d ∈ rs, 1 ≤ d ∧ d ≤ 26) → (∀ k, k < n → 1 ≤ lv B (i + k) ∧ lv B (i + k) ≤ 26) → (pv B i n = valR rs ↔ n = rs.length ∧ ∀ k, k < n → lv B (i + k) = rs.getD (n - 1 - k) 0)
  | [], 0, _, _ => ⟨fun _ => ⟨rfl, fun k hk => absurd hk (Nat.not_lt_zero _)⟩, fun _ => rfl⟩
  | [], n + 1, _, hl => by
    have := hl n (by omega)
    refine ⟨fun h => ?_, fun h => absurd h.1 (by simp)⟩
    rw [pv_s] at h
    have h2 : pv B i n * 27 + lv B (i + n) = 0 := h
    omega
  | d :: r, 0, hd, _ => by
    have := hd d (List.mem_cons_self ..)
    refine ⟨fun h => ?_, fun h => absurd h.1 (by simp)⟩
    have h2 : 0 = valR r * 27 + d := h
    omega
  | d :: r, n + 1, hd, hl => by
    have h1 := hd d (List.mem_cons_self ..)
    have h2 := hl n (by omega)
    have ih := pv_val r n (fun x hx => hd x (List.mem_cons_of_mem _ hx)) (fun k hk => hl k (by omega))
    have e : pv B i (n + 1) = valR (d :: r) ↔ (pv B i n = valR r ∧ lv B (i + n) = d) := by
      rw [pv_s, show valR (d :: r) = valR r * 27 + d from rfl]
      omega
    rw [e, ih]
    constructor
    · rintro ⟨⟨a, b⟩, c⟩
      refine ⟨by rw [List.length_cons, a], fun k hk => ?_⟩
      by_cases z : k = n
      · subst z
        rw [c, show k + 1 - 1 - k = 0 by omega]
        rfl
      · rw [b k (by omega), show n + 1 - 1 - k = (n - 1 - k) + 1 by omega]
        rfl
    · rintro ⟨a, b⟩
      rw [List.length_cons] at a
      refine ⟨⟨by omega, fun k hk => ?_⟩, ?_⟩
      · have := b k (by omega)
        rw [show n + 1 - 1 - k = (n - 1 - k) + 1 by omega] at this
        exact this
      · have := b n (by omega)
        rw [show n + 1 - 1 - n = 0 by omega] at this
        exact this
def wW : List Nat := [237962520, 3410828815, 14270, 87024528, 6223046688, 206754213222, 1888, 361037, 315918, 67849, 161156, 60269, 13385674]
def wRev (w : Nat) : List Nat := ((aw_sb.getD w []).map (fun x => (x.toInt - 96).toNat)).reverse
theorem w_tab : ∀ w : Fin 13, (wRev w.val).length = fs_n (1010 + w.val) ∧ valR (wRev w.val) = wW.getD w.val 0 ∧ (∀ d ∈ wRev w.val, 1 ≤ d ∧ d ≤ 26) ∧ fs_n (1010 + w.val) ≤ 8 ∧ wW.getD w.val 0 ≤ 100000000000000000 ∧ ∀ k : Fin 8, k.val < fs_n (1010 + w.val) → (wRev w.val).getD (fs_n (1010 + w.val) - 1 - k.val) 0 = ((fs_row (1010 + w.val) k.val).toInt - 96).toNat ∧ 97 ≤ (fs_row (1010 + w.val) k.val).toInt ∧ (fs_row (1010 + w.val) k.val).toInt ≤ 122 := by decide +kernel
theorem w_inj : ∀ w v : Fin 13, wW.getD w.val 0 = wW.getD v.val 0 → w = v := by decide +kernel
theorem w_iff {B : Nat → Int32} {i n w : Nat} (hw : w < 13) (hr : ∀ k, k < n → lxL B (i + k) = true) : pv B i n = wW.getD w 0 ↔ n = fs_n (1010 + w) ∧ ∀ k, k < n → B (i + k) = fs_row (1010 + w) k := by
  obtain ⟨t1, t2, t3, t4, t5, t6⟩ := w_tab ⟨w, hw⟩
  dsimp only at t1 t2 t3 t4 t5 t6
  rw [← t2, pv_val (wRev w) n t3 (fun k hk => ⟨(lv_le (hr k hk)).1, (lv_le (hr k hk)).2.1⟩), t1]
  constructor
  · rintro ⟨a, b⟩
    refine ⟨a, fun k hk => ?_⟩
    have h1 := b k hk
    have h2 := t6 ⟨k, by omega⟩ (by dsimp only; omega)
    dsimp only at h2
    rw [a, h2.1] at h1
    have h3 := lv_le (hr k hk)
    rw [i_eq]
    omega
  · rintro ⟨a, b⟩
    refine ⟨a, fun k hk => ?_⟩
    have h2 := t6 ⟨k, by omega⟩ (by dsimp only; omega)
    dsimp only at h2
    rw [a, h2.1, ← b k hk]
    rfl
/-- the class's token of a word -/
def wvI (B : Nat → Int32) (i n : Nat) : Nat → Nat → Int32
  | 0, _ => -3
  | m + 1, w => if pv B i n = wW.getD w 0 then -10 - nI w else wvI B i n m (w + 1)
theorem wvI_s (B : Nat → Int32) (i n m w : Nat) : wvI B i n (m + 1) w = if pv B i n = wW.getD w 0 then -10 - nI w else wvI B i n m (w + 1) := rfl
def tokV (B : Nat → Int32) (t i : Nat) : Int32 := if lxD B i = true then nI (ncK B (rlK (lxD B) (t - i) i) 0 i) else if lxL B i = true then wvI B i (rlK (lxL B) (t - i) i) 13 0 else if B i = 59 then -2 else -3
theorem m10 {w : Nat} (h : w < 13) : (-10 - nI w).toInt = -10 - (w : Int) := by
  rw [ti_sub (by rw [nI_tI (by omega), show (-10 : Int32).toInt = -10 by decide]; omega) (by rw [nI_tI (by omega), show (-10 : Int32).toInt = -10 by decide]; omega), nI_tI (by omega), show (-10 : Int32).toInt = -10 by decide]
theorem wvI_r (B : Nat → Int32) (i n : Nat) : ∀ m w, w + m = 13 → (wvI B i n m w = -3 ∧ ∀ v, w ≤ v → v < 13 → ¬ pv B i n = wW.getD v 0) ∨ ∃ v, w ≤ v ∧ v < 13 ∧ wvI B i n m w = -10 - nI v ∧ pv B i n = wW.getD v 0
  | 0, w, h => Or.inl ⟨rfl, fun v h1 h2 => by omega⟩
  | m + 1, w, h => by
    rw [wvI_s]
    by_cases q : pv B i n = wW.getD w 0
    · rw [if_pos q]; exact Or.inr ⟨w, by omega, by omega, rfl, q⟩
    · rw [if_neg q]
      rcases wvI_r B i n m (w + 1) (by omega) with ⟨a, b⟩ | ⟨v, a, b, c, d⟩
      · refine Or.inl ⟨a, fun v h1 h2 => ?_⟩
        by_cases z : v = w
        · rw [z]; exact q
        · exact b v (by omega) h2
      · exact Or.inr ⟨v, by omega, b, c, d⟩
theorem wv_word {B : Nat → Int32} {i n v : Nat} (hv : v < 13) : wvI B i n 13 0 = -10 - nI v ↔ pv B i n = wW.getD v 0 := by
  rcases wvI_r B i n 13 0 (by omega) with ⟨a, b⟩ | ⟨u, a, b, c, d⟩
  · refine ⟨fun h => ?_, fun h => absurd h (b v (by omega) hv)⟩
    rw [a] at h
    have := congrArg Int32.toInt h
    rw [m10 hv, show (-3 : Int32).toInt = -3 by decide] at this
    omega
  · rw [c, d]
    constructor
    · intro h
      have := congrArg Int32.toInt h
      rw [m10 hv, m10 b] at this
      rw [show u = v by omega]
    · intro h
      have := w_inj ⟨u, b⟩ ⟨v, hv⟩ h
      rw [Fin.mk.injEq] at this
      rw [this]
theorem wv_lo (B : Nat → Int32) (i n : Nat) : (wvI B i n 13 0).toInt ≤ -3 := by
  rcases wvI_r B i n 13 0 (by omega) with ⟨a, b⟩ | ⟨u, a, b, c, d⟩
  · rw [a]; decide
  · rw [c, m10 b]; omega
