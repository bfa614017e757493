/-! ===== contracts and calls ===== -/
/-- a method: name, code, locals, answer's type, room -/
abbrev aw_M : Type := MethodName × ByteArray × Nat × Option FieldType × Room
def aw_Pc (X : aw_X) (ad : Nat → Nat) (vs : List Value) (h : aw_H) (sz : Nat) : Array Value → State → Prop := va_Pc (vs.map (aw_v ad)) (fun U => U.heap.size = sz ∧ va_P X.1 aw_cl (aw_w X ad h) U.heap ∧ aw_SX X (va_A (aw_w X ad h) sz) U ∧ va_D (fun _ => True) (aw_w X ad h))
def aw_Qc (X : aw_X) (ad : Nat → Nat) (h : aw_H) (sz : Nat) (r : Option Value) (h' : aw_H) : Array Value → State → Outcome → State → Prop := fun _ st oc t => oc = .returned (r.map (aw_v ad)) ∧ (va_P X.1 aw_cl (aw_w X ad h') t.heap ∧ va_D (va_A (aw_w X ad h) sz) (aw_w X ad h')) ∧ va_F (va_A (aw_w X ad h) sz) st t
def aw_ws (M : aw_M) : List Cond := Jvm.Cond.code M.1 M.2.1 M.2.2.1 M.2.2.2.1 :: aw_tb
/-- the method, from the world h with arguments vs, ends with r and the world h' (no cell is made) -/
def af_M (X : aw_X) (l : Launch) (M : aw_M) (vs : List Value) (h : aw_H) (r : Option Value) (h' : aw_H) : Prop :=
  ∀ (ad : Nat → Nat) (sz : Nat), aw_S X ad → Met l M.1 (aw_ws M) M.2.2.2.2 (aw_Pc X ad vs h sz) (aw_Qc X ad h sz r h') 0 0 (va_A (aw_w X ad h) sz)
def af_G (X : aw_X) (l : Launch) (M : aw_M) (vs : List Value) (h : aw_H) {β : Type} (ρ : β → Option Value × aw_H) (f : Option β) : Prop := ∀ q, f = some q → af_M X l M vs h (ρ q).1 (ρ q).2
theorem aw_go {p : Program} {l : Launch} {e : Env} {R : Room} {s : State} {m : MethodId} {args : Array Value} {below : List Frame} {meth : Method} {c : Code} {H : Heap} {locs : List Loc} {cells slots : Nat} {Q : State → Prop} {pc : Nat} {ls : Array Slot} {rest st0 : List Value} {A0 A1 : Nat → Prop} {H0 : Heap} {free : Addr → Prop} {Qa : State → Outcome → State → Prop} {rv : Option Value} {PT : Heap → Prop}
    (hr : va_Run p l e R s m args below meth c H locs cells slots 0 0 (F0 m pc ls st0) rest Qa free) (hS : va_S A0 H0 H locs) (hA : ∀ q, q < H.size → A1 q → A0 q) (hf : ∀ q, free q → A0 q) (hQ : ∀ st o t, Qa st o t → o = .returned rv ∧ PT t.heap ∧ va_F A1 st t)
    (kk : ∀ (H1 : Heap) (locs1 : List Loc), PT H1 → va_S A0 H0 H1 locs1 → W p l e R s m args below meth c H1 locs1 cells slots Q (F0 m (pc + 3) ls (rv.toList ++ rest))) : W p l e R s m args below meth c H locs cells slots Q (F0 m pc ls st0) := by
  intro T hT X
  obtain ⟨v, st₀, t, T', L, h0, X', hL, e1, e2, hq, st⟩ := hr T hT X
  obtain ⟨hv, hp, hz, hk⟩ := hQ _ _ _ hq
  cases hv
  rw [h0] at hz hk
  obtain ⟨t2, a1, b1⟩ := kk T'.heap (locs ++ L) (by rw [e1]; exact hp)
    ⟨Nat.le_trans hS.1 (by rw [e1]; exact hz), fun q h1 h2 => by rw [e1, hk q (Nat.lt_of_lt_of_le h1 hS.1) (fun z => h2 (hA q (Nat.lt_of_lt_of_le h1 hS.1) z))]; exact hS.2.1 q h1 h2, fun q hq => by
      rcases List.mem_append.mp hq with h | h
      · exact hS.2.2 q h
      · exact hf _ (hL q h)⟩ T' rfl X'
  exact ⟨t2, st t2 a1, b1⟩
def aw_fit (M : aw_M) (rm : Room) : Bool := Nat.ble (M.2.2.2.2.frames + 1) rm.frames && Nat.ble (8 + (M.2.2.1 + 11) + M.2.2.2.2.locals) rm.locals
theorem aw_fit_of {M : aw_M} {rm : Room} (h : aw_fit M rm = true) : M.2.2.2.2.frames + 1 ≤ rm.frames ∧ 8 + (M.2.2.1 + 11) + M.2.2.2.2.locals ≤ rm.locals := by
  unfold aw_fit at h
  rw [Bool.and_eq_true] at h
  exact ⟨Nat.le_of_ble_eq_true h.1, Nat.le_of_ble_eq_true h.2⟩
/-- what every call of a method needs of it: np parameters -/
def aw_m0 (M : aw_M) (np : Nat) : Prop := Jvm.Cond.code M.1 M.2.1 M.2.2.1 M.2.2.2.1 ∈ aw_tb ∧ Jvm.Cond.initialized M.1.cls ∈ aw_tb ∧ M.2.2.2.2.cells = 0 ∧ M.2.2.2.2.slots = 0 ∧ M.1.cls ≠ "java/lang/invoke/MethodHandle" ∧ M.1.cls ≠ "java/lang/invoke/VarHandle" ∧ (parseMethodDescriptor M.1.desc).map (fun d => d.parameters.length) = some np
def aw_mV (M : aw_M) (np : Nat) : Prop := aw_m0 M np ∧ Jvm.Cond.instanceMethod M.1 ∈ aw_tb ∧ Jvm.Cond.selects M.1.cls M.1 M.1 ∈ aw_tb
def aw_mS (M : aw_M) (np : Nat) : Prop := aw_m0 M np ∧ Jvm.Cond.static M.1 ∈ aw_tb
theorem aw_ws_good {M : aw_M} {np : Nat} (h : aw_m0 M np) : GoodIn aw_tb (aw_ws M) := by
  intro w hw
  rcases List.mem_cons.mp hw with rfl | hw
  · exact ⟨h.1, aw_good _ h.1⟩
  · exact ⟨hw, aw_good _ hw⟩
theorem aw_toList (ad : Nat → Nat) (o : Option Value) (st : List Value) : (o.map (aw_v ad)).toList ++ st.map (aw_v ad) = (o.toList ++ st).map (aw_v ad) := by
  cases o <;> simp
theorem aw_blind {X : aw_X} {ad : Nat → Nat} {vs : List Value} {h : aw_H} {sz : Nat} : FrameBlind (aw_Pc X ad vs h sz) := by
  intro a U g mk q
  obtain ⟨q0, q1, qP, qS, qD⟩ := q
  exact ⟨q0, q1, qP, qS.blind, qD⟩
theorem aw_pre {X : aw_X} {ad : Nat → Nat} {vs : List Value} {h : aw_H} {A : Nat → Prop} {s : State} {H : Heap} {locs : List Loc} (hSX : aw_SX X A s) (h2 : va_P X.1 aw_cl (aw_w X ad h) H) (h3 : va_D A (aw_w X ad h)) (h4 : va_S A s.heap H locs) (hF : ∀ q, va_A (aw_w X ad h) H.size q → A q) : ∀ U : State, U.heap = H → s.WarmedH U.vm → aw_Pc X ad vs h H.size (vs.map (aw_v ad)).toArray U :=
  fun U hU hW => ⟨rfl, by rw [hU], by rw [hU]; exact h2, hSX.call h4 hU hW hF, h3.weaken (fun _ _ _ _ => trivial)⟩
theorem aw_freeA {X : aw_X} {ad : Nat → Nat} {h : aw_H} {A : Nat → Prop} {s : State} {H : Heap} {locs : List Loc} (h3 : va_D A (aw_w X ad h)) (h4 : va_S A s.heap H locs) (hA : ∀ q, s.heap.size ≤ q → A q) : ∀ q, va_A (aw_w X ad h) H.size q → A q := by
  intro q hq
  rcases hq with ⟨k, e, hk⟩ | hq
  · exact h3.2 k (q, e) hk
  · exact hA q (Nat.le_trans h4.1 hq)
theorem af_callV {cx : aw_C} {cc : ByteArray} {own : String} {rm : Room} (K : aw_K cx cc own rm) {α : Type} {ρ : α → Option Value × aw_H} {pc : Nat} {lv : List (Option Value)} {st : List Value} {h : aw_H} {β : Type} {ρ' : β → Option Value × aw_H} {f : Option β} {kf : β → Option α} {idx np : Nat} {M : aw_M} {vs : List Value} {b ci N : Nat} {T : u_T} {fs : List Value} (V : aw_mV M np) (lk : Jvm.Cond.methodLink own idx M.1 ∈ aw_tb) (hb2 : h[b]? = some (.inr (ci, fs))) (hcl : aw_cl[ci]? = some (M.1.cls, T, N)) (n : Nat) (d : decode cc pc = .ok (.invokevirtual idx, 3)) (hn : pc + 3 = n) (hl : vs.length = np) (hcat : Nat.ble (st.map fun v => v.category).sum 8 = true) (hfit : aw_fit M rm = true) (G : af_G (aw_xX cx) (aw_xl cx) M (.ref b :: vs) h ρ' f) {stk : List Value} (hs : stk = vs.reverse ++ .ref b :: st) (k : ∀ q1, af cx ρ n lv ((ρ' q1).1.toList ++ st) (ρ' q1).2 (kf q1)) : af cx ρ pc lv stk h (f.bind kf) := by
  subst hs
  obtain ⟨p, l, e, R, s, m, args, below, meth, c, Q, A, cells, slots, X, nL, Ad⟩ := cx
  subst hn
  intro q hq hr ad H locs ls h1 h2 h3 h4 h5
  obtain ⟨q1, hf1, hk1⟩ := Option.bind_eq_some_iff.mp hq
  obtain ⟨hx, hb, hml, hown, hts, hSX, hA, hlk, hR, hc0, hs0, hAd⟩ := K
  subst hR
  have hM := G q1 hf1 ad H.size (hAd ad h1)
  have hF : ∀ q, va_A (aw_w X ad h) H.size q → A q := aw_freeA h3 h4 hA
  refine aw_go (A1 := va_A (aw_w X ad h) H.size) (rv := (ρ' q1).1.map (aw_v ad)) (PT := fun H1 => va_P X.1 aw_cl (aw_w X ad (ρ' q1).2) H1 ∧ va_D (va_A (aw_w X ad h) H.size) (aw_w X ad (ρ' q1).2)) (va_runV (As := vs.map (aw_v ad)) (rest := st.map (aw_v ad)) ⟨hx, hb, hml, hown, hts⟩ hM (cwV np hts (fun w hw => by
    unfold wsV at hw
    rcases List.mem_append.mp hw with hw | hw
    · have hw2 : w ∈ aw_tb := by
        simp only [List.mem_cons, List.not_mem_nil, or_false] at hw
        rcases hw with rfl | rfl | rfl | rfl
        · exact lk
        · exact V.2.1
        · exact V.2.2
        · exact V.1.2.1
      exact ⟨hw2, aw_good _ hw2⟩
    · exact aw_ws_good V.1 w hw) rfl V.1.2.2.1 V.1.2.2.2.1 ⟨rfl, V.1.2.2.2.2⟩ (aw_fit_of hfit)) ⟨aw_blind, va_recv hSX.1 h2 hcl (aw_w_at hb2), aw_pre hSX h2 h3 h4 hF⟩ rfl (by rw [List.length_map]; exact hl) h5.1 (by simp [aw_v]) (lv_room (by rw [aw_cats]; exact Nat.le_of_ble_eq_true hcat)) d ⟨hc0, hs0⟩) h4 (fun q _ z => hF q z) hF (fun _ _ _ z => z) (fun H1 locs1 g1 g2 => ?_)
  rw [aw_toList]
  exact k q1 q hk1 hr ad H1 locs1 ls h1 g1.1 (g1.2.weaken (fun _ _ _ z => hF _ z)) g2 h5
theorem af_callS {cx : aw_C} {cc : ByteArray} {own : String} {rm : Room} (K : aw_K cx cc own rm) {α : Type} {ρ : α → Option Value × aw_H} {pc : Nat} {lv : List (Option Value)} {st : List Value} {h : aw_H} {β : Type} {ρ' : β → Option Value × aw_H} {f : Option β} {kf : β → Option α} {idx np : Nat} {M : aw_M} {vs : List Value} (V : aw_mS M np) (lk : Jvm.Cond.methodLink own idx M.1 ∈ aw_tb) (n : Nat) (d : decode cc pc = .ok (.invokestatic idx, 3)) (hn : pc + 3 = n) (hl : vs.length = np) (hcat : Nat.ble (st.map fun v => v.category).sum 8 = true) (hfit : aw_fit M rm = true) (G : af_G (aw_xX cx) (aw_xl cx) M (vs) h ρ' f) {stk : List Value} (hs : stk = vs.reverse ++ st) (k : ∀ q1, af cx ρ n lv ((ρ' q1).1.toList ++ st) (ρ' q1).2 (kf q1)) : af cx ρ pc lv stk h (f.bind kf) := by
  subst hs
  obtain ⟨p, l, e, R, s, m, args, below, meth, c, Q, A, cells, slots, X, nL, Ad⟩ := cx
  subst hn
  intro q hq hr ad H locs ls h1 h2 h3 h4 h5
  obtain ⟨q1, hf1, hk1⟩ := Option.bind_eq_some_iff.mp hq
  obtain ⟨hx, hb, hml, hown, hts, hSX, hA, hlk, hR, hc0, hs0, hAd⟩ := K
  subst hR
  have hM := G q1 hf1 ad H.size (hAd ad h1)
  have hF : ∀ q, va_A (aw_w X ad h) H.size q → A q := aw_freeA h3 h4 hA
  refine aw_go (A1 := va_A (aw_w X ad h) H.size) (rv := (ρ' q1).1.map (aw_v ad)) (PT := fun H1 => va_P X.1 aw_cl (aw_w X ad (ρ' q1).2) H1 ∧ va_D (va_A (aw_w X ad h) H.size) (aw_w X ad (ρ' q1).2)) (va_runS (As := vs.map (aw_v ad)) (rest := st.map (aw_v ad)) ⟨hx, hb, hml, hown, hts⟩ hM (va_cwS np hts (fun w hw => by
    unfold va_wsS at hw
    rcases List.mem_append.mp hw with hw | hw
    · have hw2 : w ∈ aw_tb := by
        simp only [List.mem_cons, List.not_mem_nil, or_false] at hw
        rcases hw with rfl | rfl | rfl
        · exact lk
        · exact V.2
        · exact V.1.2.1
      exact ⟨hw2, aw_good _ hw2⟩
    · exact aw_ws_good V.1 w hw) rfl V.1.2.2.1 V.1.2.2.2.1 V.1.2.2.2.2 (aw_fit_of hfit)) ⟨aw_blind, aw_pre hSX h2 h3 h4 hF⟩ rfl (by rw [List.length_map]; exact hl) h5.1 (by simp [aw_v]) (lv_room (by rw [aw_cats]; exact Nat.le_of_ble_eq_true hcat)) d ⟨hc0, hs0⟩) h4 (fun q _ z => hF q z) hF (fun _ _ _ z => z) (fun H1 locs1 g1 g2 => ?_)
  rw [aw_toList]
  exact k q1 q hk1 hr ad H1 locs1 ls h1 g1.1 (g1.2.weaken (fun _ _ _ z => hF _ z)) g2 h5
theorem af_callN {cx : aw_C} {cc : ByteArray} {own : String} {rm : Room} (K : aw_K cx cc own rm) {α : Type} {ρ : α → Option Value × aw_H} {pc : Nat} {lv : List (Option Value)} {st : List Value} {h : aw_H} {β : Type} {ρ' : β → Option Value × aw_H} {f : Option β} {kf : β → Option α} {idx np : Nat} {M : aw_M} {vs : List Value} {host : String} (V : aw_mS M np) (hnw : ∀ {X : aw_X} {A : Nat → Prop} {U : State}, aw_SX X A U → va_Nw (.methodLinkNest own idx M.1 host) U) (n : Nat) (d : decode cc pc = .ok (.invokestatic idx, 3)) (hn : pc + 3 = n) (hl : vs.length = np) (hcat : Nat.ble (st.map fun v => v.category).sum 8 = true) (hfit : aw_fit M rm = true) (G : af_G (aw_xX cx) (aw_xl cx) M (vs) h ρ' f) {stk : List Value} (hs : stk = vs.reverse ++ st) (k : ∀ q1, af cx ρ n lv ((ρ' q1).1.toList ++ st) (ρ' q1).2 (kf q1)) : af cx ρ pc lv stk h (f.bind kf) := by
  subst hs
  obtain ⟨p, l, e, R, s, m, args, below, meth, c, Q, A, cells, slots, X, nL, Ad⟩ := cx
  subst hn
  intro q hq hr ad H locs ls h1 h2 h3 h4 h5
  obtain ⟨q1, hf1, hk1⟩ := Option.bind_eq_some_iff.mp hq
  obtain ⟨hx, hb, hml, hown, hts, hSX, hA, hlk, hR, hc0, hs0, hAd⟩ := K
  subst hR
  have hM := G q1 hf1 ad H.size (hAd ad h1)
  have hF : ∀ q, va_A (aw_w X ad h) H.size q → A q := aw_freeA h3 h4 hA
  refine aw_go (A1 := va_A (aw_w X ad h) H.size) (rv := (ρ' q1).1.map (aw_v ad)) (PT := fun H1 => va_P X.1 aw_cl (aw_w X ad (ρ' q1).2) H1 ∧ va_D (va_A (aw_w X ad h) H.size) (aw_w X ad (ρ' q1).2)) (va_runSN (As := vs.map (aw_v ad)) (rest := st.map (aw_v ad)) ⟨hx, hb, hml, hown, hts⟩ hM ⟨va_cnB np hts (aw_ws_good V.1) rfl V.1.2.2.1 V.1.2.2.2.1 (hnw hSX) (hts _ V.1.2.1) V.1.2.2.2.2 (aw_fit_of hfit), hts _ V.2, trivial⟩ ⟨aw_blind, aw_pre hSX h2 h3 h4 hF⟩ rfl (by rw [List.length_map]; exact hl) h5.1 (by simp [aw_v]) (lv_room (by rw [aw_cats]; exact Nat.le_of_ble_eq_true hcat)) d ⟨hc0, hs0⟩) h4 (fun q _ z => hF q z) hF (fun _ _ _ z => z) (fun H1 locs1 g1 g2 => ?_)
  rw [aw_toList]
  exact k q1 q hk1 hr ad H1 locs1 ls h1 g1.1 (g1.2.weaken (fun _ _ _ z => hF _ z)) g2 h5
/-! ===== a method's contract out of its walk ===== -/
def aw_l0 (vs : List Value) (n : Nat) : List (Option Value) := vs.flatMap (fun v => if v.category = 2 then [some v, none] else [some v]) ++ List.replicate (n - (vs.flatMap (fun v => if v.category = 2 then [some v, none] else [some v])).length) none
theorem aw_l0_sl (ad : Nat → Nat) (vs : List Value) (i : Nat) (v : Value) (h : (vs.flatMap (fun v => if v.category = 2 then [some v, none] else [some v]))[i]? = some (some v)) : (lg_sl (vs.map (aw_v ad)))[i]? = some (.val (aw_v ad v)) := by
  induction vs generalizing i with
  | nil => simp at h
  | cons w vs ih =>
    simp only [List.flatMap_cons, lg_sl, List.map_cons, aw_cat] at h ⊢
    by_cases hc : w.category = 2
    · rw [if_pos hc] at h
      rw [if_pos hc]
      match i, h with
      | 0, h => simp at h; subst h; rfl
      | 1, h => simp at h
      | i + 2, h =>
        simp only [List.cons_append, List.getElem?_cons_succ, List.nil_append] at h ⊢
        exact ih i h
    · rw [if_neg hc] at h
      rw [if_neg hc]
      match i, h with
      | 0, h => simp at h; subst h; rfl
      | i + 1, h =>
        simp only [List.cons_append, List.getElem?_cons_succ, List.nil_append] at h ⊢
        exact ih i h
theorem aw_sl_len (ad : Nat → Nat) (vs : List Value) : (lg_sl (vs.map (aw_v ad))).length = (vs.flatMap (fun v => if v.category = 2 then [some v, none] else [some v])).length := by
  induction vs with
  | nil => rfl
  | cons w vs ih =>
    simp only [lg_sl, List.map_cons, List.flatMap_cons, List.length_append, aw_cat] at ih ⊢
    rw [ih]
    by_cases hc : w.category = 2
    · rw [if_pos hc, if_pos hc]; rfl
    · rw [if_neg hc, if_neg hc]; rfl
theorem aw_l0_L (ad : Nat → Nat) (vs : List Value) {n : Nat} (h : (vs.flatMap (fun v => if v.category = 2 then [some v, none] else [some v])).length ≤ n) : aw_L ad n (aw_l0 vs n) ((lg_sl (vs.map (aw_v ad)) ++ List.replicate (n - (lg_sl (vs.map (aw_v ad))).length) Slot.unset).toArray) := by
  have hl := lv_entry (vs.map (aw_v ad)) (n := n) (by rw [aw_sl_len]; exact h)
  refine ⟨hl.1, hl.2.1, fun i v hi => ?_⟩
  unfold aw_l0 at hi
  by_cases hlt : i < (vs.flatMap (fun v => if v.category = 2 then [some v, none] else [some v])).length
  · rw [List.getElem?_append_left hlt] at hi
    have := aw_l0_sl ad vs i v hi
    rw [List.getElem?_toArray, List.getElem?_append_left (by rw [aw_sl_len]; exact hlt)]
    exact this
  · rw [List.getElem?_append_right (by omega)] at hi
    have hm := List.mem_of_getElem? hi
    rw [List.mem_replicate] at hm
    cases hm.2
/-- an answer of a type -/
def aw_rok (ret : Option FieldType) (r : Option Value) : Prop :=
  (ret = none ∧ r = none) ∨ (ret = some .int ∧ ∃ x, r = some (.int x)) ∨ (ret = some .long ∧ ∃ x, r = some (.long x)) ∨ (∃ ty x, ret = some ty ∧ r = some (.int x) ∧ narrow ty (.int x) = .int x) ∨ (∃ nm a, ret = some (.object nm) ∧ r = some (.ref a))
theorem af_mk {X : aw_X} {l : Launch} {M : aw_M} {vs : List Value} {h : aw_H} {α : Type} {ρ : α → Option Value × aw_H} {f : Option α} (hy : plainName M.1.cls = true) (hsz : Nat.ble (vs.flatMap (fun v => if v.category = 2 then [some v, none] else [some v])).length M.2.2.1 = true) (hret : ∀ q, f = some q → aw_rok M.2.2.2.1 (ρ q).1) (lv0 : List (Option Value)) (hlv : aw_l0 vs M.2.2.1 = lv0)
    (body : ∀ cx : aw_C, aw_xX cx = X → aw_xl cx = l → aw_nL cx = M.2.2.1 → aw_K cx M.2.1 M.1.cls M.2.2.2.2 → af cx ρ 0 lv0 [] h f) : af_G X l M vs h ρ f := by
  subst hlv
  intro q hq ad sz hS
  refine Met.ofW (cc := M.2.1) (maxL := M.2.2.1) (ret := M.2.2.2.1) hy rfl ?_
  intro p e s m args below meth c s₁ B hml hv
  obtain ⟨rfl, hsz2, hP, hSX, hD0⟩ := hv
  subst hsz2
  have hts := atoms_spec (ws := aw_ws M) B.pre
  have hown : s.vm.findClass M.1.cls = some m.cls := findClass_of_methodNamed B.named
  have hlocks := B.notSynchronized
  have hr := B.returns
  rw [lg_entry_eq]
  have hD : va_D (va_A (aw_w X ad h) s.heap.size) (aw_w X ad h) := hD0.self
  have hR0 : (headSpec (aw_ws M) M.2.2.2.2).room = M.2.2.2.2 := rfl
  refine body (p, l, e, (headSpec (aw_ws M) M.2.2.2.2).room, s, m, (vs.map (aw_v ad)).toArray, below, meth, c, MQ below (aw_Qc X ad h s.heap.size (ρ q).1 (ρ q).2) (vs.map (aw_v ad)).toArray s 0 0 (va_A (aw_w X ad h) s.heap.size), va_A (aw_w X ad h) s.heap.size, 0, 0, X, M.2.2.1, fun ad' => ad' = ad) rfl rfl rfl ⟨B.exec, B.bytes, hml, hown, fun w hw => hts w (List.mem_cons_of_mem _ hw), hSX, fun q hq => Or.inr hq, hlocks, hR0, Nat.zero_le _, Nat.zero_le _, fun ad' h9 => by rw [h9]; exact hS⟩ q hq ?_ ad s.heap [] _ rfl hP hD va_S.rf (aw_l0_L ad vs (Nat.le_of_ble_eq_true hsz))
  rintro ad' H locs ls pc rfl g2 g3 g4 hdg
  rw [B.bytes] at hdg
  have post : ∀ t : State, t.heap = H → aw_Qc X ad' h s.heap.size (ρ q).1 (ρ q).2 (vs.map (aw_v ad')).toArray s (.returned ((ρ q).1.map (aw_v ad'))) t := fun t ht => ⟨rfl, ⟨by rw [ht]; exact g2, g3⟩, g4.F ht⟩
  rcases hret q hq with ⟨e1, e2⟩ | ⟨e1, x, e2⟩ | ⟨e1, x, e2⟩ | ⟨ty, x, e1, e2, e3⟩ | ⟨nm, x, e1, e2⟩
  · rw [e2] at hdg post ⊢
    exact W.vret B.exec B.bytes (hr.trans e1) (fun t ht _ => post t ht) g4.2.2 hdg
  · rw [e2] at hdg post ⊢
    exact W.iret B.exec B.bytes (hr.trans e1) (fun t ht _ => post t ht) g4.2.2 hdg
  · rw [e2] at hdg post ⊢
    exact W.lret B.exec B.bytes (hr.trans e1) (fun t ht _ => post t ht) g4.2.2 hdg
  · rw [e2] at hdg post ⊢
    exact W.zret B.exec B.bytes (hr.trans e1) e3 (fun t ht _ => post t ht) g4.2.2 hdg
  · rw [e2] at hdg post ⊢
    exact W.aret (v := .ref (ad' x)) B.exec B.bytes (hr.trans e1) (Or.inl ⟨nm, rfl⟩) (Or.inr ⟨_, rfl⟩) (fun t ht _ => post t ht) g4.2.2 hdg
/-! ===== kinds of answers ===== -/
abbrev ρv : fk_T → Option Value × aw_H := fun q => (none, hp q)
abbrev ρi : Int32 × fk_T → Option Value × aw_H := fun q => (some (.int q.1), hp q.2)
abbrev ρl : Int64 × fk_T → Option Value × aw_H := fun q => (some (.long q.1), hp q.2)
abbrev ρz : Bool × fk_T → Option Value × aw_H := fun q => (some (.int (fk_b q.1)), hp q.2)
abbrev ρr : Nat × fk_T → Option Value × aw_H := fun q => (some (.ref q.1), hp q.2)
theorem aw_okv (q : fk_T) : aw_rok none (ρv q).1 := Or.inl ⟨rfl, rfl⟩
theorem aw_oki (q : Int32 × fk_T) : aw_rok (some .int) (ρi q).1 := Or.inr (Or.inl ⟨rfl, q.1, rfl⟩)
theorem aw_okl (q : Int64 × fk_T) : aw_rok (some .long) (ρl q).1 := Or.inr (Or.inr (Or.inl ⟨rfl, q.1, rfl⟩))
theorem aw_okz (q : Bool × fk_T) : aw_rok (some .boolean) (ρz q).1 := Or.inr (Or.inr (Or.inr (Or.inl ⟨.boolean, fk_b q.1, rfl, rfl, by cases q.1 <;> rfl⟩)))
theorem aw_okr (nm : String) (q : Nat × fk_T) : aw_rok (some (.object nm)) (ρr q).1 := Or.inr (Or.inr (Or.inr (Or.inr ⟨nm, q.1, rfl, rfl⟩)))
