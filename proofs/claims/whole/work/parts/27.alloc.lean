/-! ===== worlds that grow: constructors ===== -/
def aw_rf (n : Nat) (v : Value) : Bool := match v with
  | .ref k => Nat.blt k n || Nat.ble 1000 k
  | _ => true
def aw_re (n : Nat) (e : aw_E) : Bool := match e with
  | .inl _ => true
  | .inr o => o.2.all (aw_rf n)
def aw_rl (n : Nat) (lv : List (Option Value)) : Bool := lv.all (fun o => match o with
  | none => true
  | some v => aw_rf n v)
def aw_ag (n : Nat) (ad ad' : Nat → Nat) : Prop := ∀ k, k < n ∨ 1000 ≤ k → ad' k = ad k
theorem aw_v_ext {n : Nat} {ad ad' : Nat → Nat} (hag : aw_ag n ad ad') {v : Value} (h : aw_rf n v = true) : aw_v ad' v = aw_v ad v := by
  cases v with
  | ref k =>
    unfold aw_rf at h
    rw [Bool.or_eq_true] at h
    show Value.ref (ad' k) = Value.ref (ad k)
    rw [hag k (h.elim (fun z => Or.inl (Nat.le_of_ble_eq_true z)) (fun z => Or.inr (Nat.le_of_ble_eq_true z)))]
  | _ => rfl
theorem aw_st_ext {n : Nat} {ad ad' : Nat → Nat} (hag : aw_ag n ad ad') {st : List Value} (h : st.all (aw_rf n) = true) : st.map (aw_v ad') = st.map (aw_v ad) := by
  apply List.map_congr_left
  intro v hv
  exact aw_v_ext hag (List.all_eq_true.mp h v hv)
theorem aw_e_ext {X : aw_X} {n : Nat} {ad ad' : Nat → Nat} (hag : aw_ag n ad ad') {e : aw_E} (h : aw_re n e = true) : aw_e X ad' e = aw_e X ad e := by
  cases e with
  | inl q => rfl
  | inr o =>
    show Sum.inr (o.1, o.2.map (aw_v ad')) = Sum.inr (o.1, o.2.map (aw_v ad))
    rw [aw_st_ext hag h]
theorem aw_w_ext {X : aw_X} {n : Nat} {ad ad' : Nat → Nat} (hag : aw_ag n ad ad') {h : aw_H} (hn : h.length ≤ n) (hw : h.all (aw_re n) = true) : aw_w X ad' h = aw_w X ad h := by
  apply List.ext_getElem?
  intro i
  rw [aw_w_get, aw_w_get]
  cases hi : h[i]? with
  | none => rfl
  | some e =>
    have hl := (List.getElem?_eq_some_iff.mp hi).1
    show some (ad' i, aw_e X ad' e) = some (ad i, aw_e X ad e)
    rw [hag i (Or.inl (by omega)), aw_e_ext hag (List.all_eq_true.mp hw e (List.mem_of_getElem? hi))]
theorem aw_L_ext {n : Nat} {ad ad' : Nat → Nat} (hag : aw_ag n ad ad') {nL : Nat} {lv : List (Option Value)} {ls : Array Slot} (hw : aw_rl n lv = true) (h : aw_L ad nL lv ls) : aw_L ad' nL lv ls := by
  refine ⟨h.1, h.2.1, fun i v hi => ?_⟩
  have := List.all_eq_true.mp hw (some v) (List.mem_of_getElem? hi)
  rw [aw_v_ext hag this]
  exact h.2.2 i v hi
/-- a method at work, but for the cells and slots made -/
abbrev aw_B : Type := Program × Launch × Env × Room × State × MethodId × Array Value × List Frame × Method × Code × (State → Prop) × (Nat → Prop) × aw_X × Nat × ((Nat → Nat) → Prop)
def aw_cs (B : aw_B) (c s : Nat) : aw_C := match B with
  | (p, l, e, R, st, m, args, below, meth, co, Q, A, X, nL, Ad) => (p, l, e, R, st, m, args, below, meth, co, Q, A, c, s, X, nL, Ad)
/-- places below n0 keep their addresses -/
def aw_cl0 (B : aw_B) (n0 : Nat) : Prop := match B with
  | (_, _, _, _, _, _, _, _, _, _, _, _, _, _, Ad) => ∀ ad ad', Ad ad → aw_ag n0 ad ad' → Ad ad'
def aw_ini (B : aw_B) : Prop := match B with
  | (_, _, _, _, _, _, _, _, meth, _, _, _, _, _, _) => meth.name = "<init>"
theorem aw_ext1 {X : aw_X} {ad : Nat → Nat} {h : aw_H} {q : Nat} (hl : h.length < 1000) : aw_ag h.length ad (fun k => if k = h.length then q else ad k) := by
  intro k hk
  show (if k = h.length then q else ad k) = ad k
  rw [if_neg (by omega)]
theorem aw_w_new {X : aw_X} {ad : Nat → Nat} {h : aw_H} {q : Nat} {e : aw_E} (hl : h.length < 1000) (hw : h.all (aw_re h.length) = true) (he : aw_re h.length e = true) : aw_w X (fun k => if k = h.length then q else ad k) (h ++ [e]) = aw_w X ad h ++ [(q, aw_e X ad e)] := by
  have hag := aw_ext1 (X := X) (ad := ad) (q := q) hl
  rw [aw_w_push, aw_w_ext hag (Nat.le_refl _) hw, aw_e_ext hag he]
  simp
section GF
variable {B : aw_B} {c s : Nat} {cc : ByteArray} {own : String} {rm : Room} {α : Type} {ρ : α → Option Value × aw_H} {f : Option α} {pc : Nat} {lv : List (Option Value)} {st : List Value} {h : aw_H}
theorem gf_newa (K : aw_K (aw_cs B c s) cc own rm) {n0 : Nat} (hcl : aw_cl0 B n0) (b : Bool) {at' : ArrayType} (N : Nat) {k : Int32} (n : Nat) (h2 : aw_H) (d : decode cc pc = .ok (.newarray at', 2)) (hn : pc + 2 = n) (hat : newarray.typeOf at' = if b then .byte else .int) (hw : Jvm.Cond.arrayClass (newarray.typeOf at') ∈ aw_tb) (hk : ¬ k < 0) (hN : k.toNatClampNeg = N) (hNb : Nat.ble N 100000 = true) (hc : Nat.ble (c + 1) rm.cells = true) (hs : Nat.ble (s + N) rm.slots = true) (hn0 : n0 ≤ h.length) (hlen : h.length < 1000) (hwf : h.all (aw_re h.length) = true) (hst : st.all (aw_rf h.length) = true) (hlv : aw_rl h.length lv = true) (e2 : h ++ [.inl (b, N, fun _ => 0)] = h2) (hr : ∀ q, f = some q → aw_ret (aw_cs B (c + 1) (s + N)) (ρ q).1 (ρ q).2) (kk : af (aw_cs B (c + 1) (s + N)) ρ n lv (.ref h.length :: st) h2 f) : af (aw_cs B c s) ρ pc lv (.int k :: st) h f := by
  subst hn; subst e2
  obtain ⟨p, l, e, R, s0, m, args, below, meth, co, Q, A, X, nL, Ad⟩ := B
  intro q hq _ ad H locs ls h1 h2 h3 h4 h5
  obtain ⟨hx, hb, hml, hown, hts, hSX, hA, hlk, hR, hc0, hs0, hAd⟩ := K
  subst hR
  have hcomp : N * componentBytes (newarray.typeOf at') ≤ 536870912 := by
    have := Nat.le_of_ble_eq_true hNb
    rw [hat]
    cases b
    · show N * 4 ≤ _; omega
    · show N * 1 ≤ _; omega
  refine va_newa (ty := newarray.typeOf at') (a0 := (N, .inl (fun _ => 0))) hx hb (hts _ hw) rfl hSX.1 h2 h3 h4 hA (fun cA => ?_) hk hN hcomp (Nat.le_of_ble_eq_true hc) (Nat.le_of_ble_eq_true hs) d (fun a cA H1 gK gP gD gS => ?_)
  · rw [hat]; cases b <;> rfl
  · have hcA : cA = if b then X.2.2.1 else X.2.1 := by
      have g1 := (gK.2 2 (cA, newarray.typeOf at') rfl).2
      cases b
      · have g2 := (gK.2 0 (X.2.1, .int) rfl).2
        rw [hat] at g1
        exact Option.some.inj (g1.symm.trans g2)
      · have g2 := (gK.2 1 (X.2.2.1, .byte) rfl).2
        rw [hat] at g1
        exact Option.some.inj (g1.symm.trans g2)
    have hag := aw_ext1 (X := X) (ad := ad) (h := h) (q := a) hlen
    have hag0 : aw_ag n0 ad (fun k => if k = h.length then a else ad k) := fun k hk => hag k (by omega)
    have ew : aw_w X (fun k => if k = h.length then a else ad k) (h ++ [.inl (b, N, fun _ => 0)]) = aw_w X ad h ++ [(a, .inl (cA, N, .inl fun _ => 0))] := by
      rw [aw_w_new hlen hwf rfl, hcA]; rfl
    have g := kk q hq (hr q hq) (fun k => if k = h.length then a else ad k) H1 locs ls (hcl ad _ h1 hag0) (by rw [ew]; exact gP) (by rw [ew]; exact gD) gS (aw_L_ext hag hlv h5)
    rw [List.map_cons, aw_st_ext hag hst] at g
    have et : aw_v (fun k => if k = h.length then a else ad k) (.ref h.length) = .ref a := by
      show Value.ref (if h.length = h.length then a else ad h.length) = _
      rw [if_pos rfl]
    rw [et] at g
    exact g
theorem gf_new (K : aw_K (aw_cs B c s) cc own rm) {n0 : Nat} (hcl : aw_cl0 B n0) {idx ci N : Nat} {C : String} {T : u_T} (ty : Nat → FieldType) (fs : List Value) (n : Nat) (h2 : aw_H) (d : decode cc pc = .ok (.new idx, 3)) (hn : pc + 3 = n) (hc9 : aw_cl[ci]? = some (C, T, N)) (hin : ∀ w ∈ u_ws C T N, w ∈ aw_tb) (hty : ∀ k, k < N → parseFieldDescriptor (T k).2.2.1 = some (ty k)) (w1 : Jvm.Cond.classLink own idx C ∈ aw_tb) (w2 : Jvm.Cond.instantiable C N ∈ aw_tb) (w3 : Jvm.Cond.initialized C ∈ aw_tb) (hfs : ∀ j, j < N → defaultValue (ty j) = vp_V fs j) (hff : ∀ ad, fs.map (aw_v ad) = fs) (hfw : fs.all (aw_rf h.length) = true) (hc : Nat.ble (c + 1) rm.cells = true) (hs : Nat.ble (s + N) rm.slots = true) (hn0 : n0 ≤ h.length) (hlen : h.length < 1000) (hwf : h.all (aw_re h.length) = true) (hst : st.all (aw_rf h.length) = true) (hlv : aw_rl h.length lv = true) (e2 : h ++ [.inr (ci, fs)] = h2) (hr : ∀ q, f = some q → aw_ret (aw_cs B (c + 1) (s + N)) (ρ q).1 (ρ q).2) (kk : af (aw_cs B (c + 1) (s + N)) ρ n lv (.ref h.length :: st) h2 f) : af (aw_cs B c s) ρ pc lv st h f := by
  subst hn; subst e2
  obtain ⟨p, l, e, R, s0, m, args, below, meth, co, Q, A, X, nL, Ad⟩ := B
  intro q hq _ ad H locs ls h1 h2 h3 h4 h5
  obtain ⟨hx, hb, hml, hown, hts, hSX, hA, hlk, hR, hc0, hs0, hAd⟩ := K
  subst hR
  refine va_new (ci := ci) (fs := fs) hx hb hts hin ty hty hown (hts _ w1) (hts _ w2) (hts _ w3) hSX.1 h2 h3 h4 hA hc9 hfs (Nat.le_of_ble_eq_true hc) (Nat.le_of_ble_eq_true hs) d (fun a H1 gP gD gS => ?_)
  have hag := aw_ext1 (X := X) (ad := ad) (h := h) (q := a) hlen
  have hag0 : aw_ag n0 ad (fun k => if k = h.length then a else ad k) := fun k hk => hag k (by omega)
  have ew : aw_w X (fun k => if k = h.length then a else ad k) (h ++ [.inr (ci, fs)]) = aw_w X ad h ++ [(a, .inr (ci, fs))] := by
    rw [aw_w_new (e := .inr (ci, fs)) hlen hwf hfw]
    show _ ++ [(a, Sum.inr (ci, fs.map (aw_v ad)))] = _
    rw [hff ad]
  have g := kk q hq (hr q hq) (fun k => if k = h.length then a else ad k) H1 locs ls (hcl ad _ h1 hag0) (by rw [ew]; exact gP) (by rw [ew]; exact gD) gS (aw_L_ext hag hlv h5)
  rw [List.map_cons, aw_st_ext hag hst] at g
  have et : aw_v (fun k => if k = h.length then a else ad k) (.ref h.length) = .ref a := by
    show Value.ref (if h.length = h.length then a else ad h.length) = _
    rw [if_pos rfl]
  rw [et] at g
  exact g
end GF
section GG
variable {cx : aw_C} {cc : ByteArray} {own : String} {rm : Room} {α : Type} {ρ : α → Option Value × aw_H} {f : Option α} {pc : Nat} {lv : List (Option Value)} {st : List Value} {h : aw_H}
theorem gf_obj (K : aw_K cx cc own rm) {idx a : Nat} (n : Nat) (d : decode cc pc = .ok (.invokespecial idx, 3)) (hn : pc + 3 = n) (w1 : Jvm.Cond.methodLink own idx Lib.objectInit ∈ aw_tb) (w2 : Jvm.Cond.instanceMethod Lib.objectInit ∈ aw_tb) (w3 : Jvm.Cond.code Lib.objectInit ⟨#[0xb1]⟩ 1 none ∈ aw_tb) (hf : Nat.ble 1 rm.frames = true) (hlo : Nat.ble 20 rm.locals = true) (hcat : Nat.ble (st.map fun v => v.category).sum 8 = true) (k : af cx ρ n lv st h f) : af cx ρ pc lv (.ref a :: st) h f := by
  subst hn
  obtain ⟨p, l, e, R, s, m, args, below, meth, c, Q, A, cells, slots, X, nL, Ad⟩ := cx
  intro q hq hr ad H locs ls h1 h2 h3 h4 h5
  obtain ⟨hx, hb, hml, hown, hts, hSX, hA, hlk, hR, hc0, hs0, hAd⟩ := K
  subst hR
  have hl2 := Nat.le_of_ble_eq_true hlo
  have hc2 := Nat.le_of_ble_eq_true hcat
  refine W.objInit (g := F0 m pc ls (.ref (ad a) :: st.map (aw_v ad))) (rest := st.map (aw_v ad)) hx hb hown (hts _ w1) (hts _ w2) (hts _ w3) rfl (h5.1.trans hml.symm) rfl d (Nat.le_of_ble_eq_true hf) (by show 2 * 0 + _ + 12 ≤ _; rw [aw_cats]; omega) ?_
  exact k q hq hr ad H locs ls h1 h2 h3 h4 h5
theorem gf_get (K : aw_K cx cc own rm) {idx ci j a : Nat} {fs : List Value} {v : Value} (n : Nat) (d : decode cc pc = .ok (.getfield idx, 3)) (hn : pc + 3 = n) (F : aw_fl own idx ci j) (hc : h[a]? = some (.inr (ci, fs))) (hv : fs[j]? = some v) (k : af cx ρ n lv (v :: st) h f) : af cx ρ pc lv (.ref a :: st) h f := by
  subst hn
  obtain ⟨p, l, e, R, s, m, args, below, meth, c, Q, A, cells, slots, X, nL, Ad⟩ := cx
  intro q hq hr ad H locs ls h1 h2 h3 h4 h5
  obtain ⟨C, T, N, f1, f2, f3, f4⟩ := F
  exact va_get (D := X.1) (ci := ci) (v := aw_v ad v) (fs := fs.map (aw_v ad)) K.1 K.2.1 K.2.2.2.2.1 f3 K.2.2.2.1 K.2.2.2.2.2.1.1 h2 a (aw_w_at hc) f1 j f2 (K.2.2.2.2.1 _ f4) (fun _ h9 => h9) (by rw [List.getElem?_map, hv]; rfl) d (k q hq hr ad H locs ls h1 h2 h3 h4 h5)
theorem gf_put (K : aw_K cx cc own rm) {idx ci j a : Nat} {fs : List Value} {ty : FieldType} {v : Value} (n : Nat) (h2 : aw_H) (d : decode cc pc = .ok (.putfield idx, 3)) (hn : pc + 3 = n) (F : aw_fp own idx ci j ty) (hc : h[a]? = some (.inr (ci, fs))) (hl : j < fs.length) (hnr : ∀ ad, narrow ty (aw_v ad v) = aw_v ad v) (hft : ∀ ad, fits ty (aw_v ad v) = true) (e2 : h.set a (.inr (ci, fs.set j v)) = h2) (k : af cx ρ n lv st h2 f) : af cx ρ pc lv (v :: .ref a :: st) h f := by
  subst hn; subst e2
  obtain ⟨p, l, e, R, s, m, args, below, meth, c, Q, A, cells, slots, X, nL, Ad⟩ := cx
  intro q hq hr ad H locs ls h1 h2 h3 h4 h5
  obtain ⟨C, T, N, t, f1, f2, f3, f4, f5, f6, f7, f8⟩ := F
  refine va_put (D := X.1) (ci := ci) (v := aw_v ad v) (fs := fs.map (aw_v ad)) (ty := ty) K.1 K.2.1 K.2.2.2.2.1 f3 t f5 f6 K.2.2.2.1 K.2.2.2.2.2.1.1 h2 h3 h4 a (aw_w_at hc) f1 j f2 (K.2.2.2.2.1 _ f4) (fun _ h9 => h9) f7 f8 (hnr ad) (hft ad) (by rw [List.length_map]; exact hl) d (fun H1 locs1 g1 g2 g3 => k q hq hr ad H1 locs1 ls h1 ?_ ?_ g3 h5)
  · rw [← aw_w_set]
    rw [← List.map_set] at g1
    exact g1
  · rw [← aw_w_set]
    rw [← List.map_set] at g2
    exact g2
/-- a final field, of a type, of the class itself -/
def aw_ff (own : String) (idx ci k : Nat) (ty : FieldType) : Prop := ∃ (C : String) (T : u_T) (N : Nat) (t : Nat → FieldType), aw_cl[ci]? = some (C, T, N) ∧ k < N ∧ (∀ w ∈ u_ws C T N, w ∈ aw_tb) ∧ Jvm.Cond.fieldLink own idx (T k).1 (T k).2.1 (T k).2.2.1 ∈ aw_tb ∧ (∀ k, k < N → parseFieldDescriptor (T k).2.2.1 = some (t k)) ∧ (∀ a, a < N → ∀ b, b < N → a ≠ b → (T a).2.1 ≠ (T b).2.1) ∧ (T k).2.2.2 = true ∧ parseFieldDescriptor (T k).2.2.1 = some ty ∧ (T k).1 = own
def aw_isI (cx : aw_C) : Prop := match cx with
  | (_, _, _, _, _, _, _, _, meth, _, _, _, _, _, _, _, _) => meth.name = "<init>"
theorem gf_putF (K : aw_K cx cc own rm) (hi : aw_isI cx) {idx ci j a : Nat} {fs : List Value} {ty : FieldType} {v : Value} (n : Nat) (h2 : aw_H) (d : decode cc pc = .ok (.putfield idx, 3)) (hn : pc + 3 = n) (F : aw_ff own idx ci j ty) (hc : h[a]? = some (.inr (ci, fs))) (hl : j < fs.length) (hnr : ∀ ad, narrow ty (aw_v ad v) = aw_v ad v) (hft : ∀ ad, fits ty (aw_v ad v) = true) (e2 : h.set a (.inr (ci, fs.set j v)) = h2) (k : af cx ρ n lv st h2 f) : af cx ρ pc lv (v :: .ref a :: st) h f := by
  subst hn; subst e2
  obtain ⟨p, l, e, R, s, m, args, below, meth, c, Q, A, cells, slots, X, nL, Ad⟩ := cx
  intro q hq hr ad H locs ls h1 h2 h3 h4 h5
  obtain ⟨C, T, N, t, f1, f2, f3, f4, f5, f6, f7, f8, f9⟩ := F
  refine va_putF (D := X.1) (ci := ci) (v := aw_v ad v) (fs := fs.map (aw_v ad)) (ty := ty) K.1 K.2.1 K.2.2.2.2.1 f3 t f5 f6 K.2.2.2.1 K.2.2.2.2.2.1.1 h2 h3 h4 a (aw_w_at hc) f1 j f2 (K.2.2.2.2.1 _ f4) (fun _ h9 => h9) f7 hi f9 f8 (hnr ad) (hft ad) (by rw [List.length_map]; exact hl) d (fun H1 locs1 g1 g2 g3 => k q hq hr ad H1 locs1 ls h1 ?_ ?_ g3 h5)
  · rw [← aw_w_set]
    rw [← List.map_set] at g1
    exact g1
  · rw [← aw_w_set]
    rw [← List.map_set] at g2
    exact g2
theorem gf_alen (K : aw_K cx cc own rm) {a N : Nat} {g : Nat → Int32} (n : Nat) (d : decode cc pc = .ok (.arraylength, 1)) (hn : pc + 1 = n) (hc : h[a]? = some (.inl (false, N, g))) (k : af cx ρ n lv (.int (Int32.ofNat N) :: st) h f) : af cx ρ pc lv (.ref a :: st) h f := by
  subst hn
  obtain ⟨p, l, e, R, s, m, args, below, meth, c, Q, A, cells, slots, X, nL, Ad⟩ := cx
  intro q hq hr ad H locs ls h1 h2 h3 h4 h5
  exact va_alen K.1 K.2.1 K.2.2.2.2.2.1.1 h2 a 0 (aw_w_at (e := .inl (false, N, g)) hc) rfl rfl d (k q hq hr ad H locs ls h1 h2 h3 h4 h5)
theorem gf_iast (K : aw_K cx cc own rm) {a N : Nat} {g : Nat → Int32} {i x : Int32} (n : Nat) (d : decode cc pc = .ok (.iastore, 1)) (hn : pc + 1 = n) (hc : h[a]? = some (.inl (false, N, g))) (hi : vp_in i N) (k : af cx ρ n lv st (h.set a (.inl (false, N, upd g i.toNatClampNeg x))) f) : af cx ρ pc lv (.int x :: .int i :: .ref a :: st) h f := by
  subst hn
  obtain ⟨p, l, e, R, s, m, args, below, meth, c, Q, A, cells, slots, X, nL, Ad⟩ := cx
  intro q hq hr ad H locs ls h1 h2 h3 h4 h5
  refine va_iast (f := g) (x := x) K.1 K.2.1 K.2.2.2.2.2.1.1 h2 h3 h4 a 0 (aw_w_at (e := .inl (false, N, g)) hc) rfl hi d (fun H1 locs1 g1 g2 g3 => k q hq hr ad H1 locs1 ls h1 ?_ ?_ g3 h5)
  · rw [← aw_w_set]; exact g1
  · rw [← aw_w_set]; exact g2
end GG
/-! ===== a constructor's contract ===== -/
def aw_QN (X : aw_X) (ad : Nat → Nat) (h : aw_H) (sz : Nat) (h' : aw_H) : Array Value → State → Outcome → State → Prop := fun _ st oc t => oc = .returned none ∧ (∃ ad', aw_ag h.length ad ad' ∧ va_P X.1 aw_cl (aw_w X ad' h') t.heap ∧ va_D (va_A (aw_w X ad h) sz) (aw_w X ad' h')) ∧ va_F (va_A (aw_w X ad h) sz) st t
def af_N (X : aw_X) (l : Launch) (M : aw_M) (vs : List Value) (h h' : aw_H) (mc ms : Nat) : Prop :=
  ∀ (ad : Nat → Nat) (sz : Nat), aw_S X ad → Met l M.1 (aw_ws M) M.2.2.2.2 (aw_Pc X ad vs h sz) (aw_QN X ad h sz h') mc ms (va_A (aw_w X ad h) sz)
theorem aw_ag.S {X : aw_X} {n : Nat} {ad ad' : Nat → Nat} (h : aw_ag n ad ad') (hS : aw_S X ad) : aw_S X ad' := fun k hk => (h k (Or.inr hk)).trans (hS k hk)
theorem af_mkN {X : aw_X} {l : Launch} {M : aw_M} {vs : List Value} {h h' : aw_H} {mc ms : Nat} (hy : plainName M.1.cls = true) (hnm : M.1.name = "<init>") (hrt : M.2.2.2.1 = none) (hsz : Nat.ble (vs.flatMap (fun v => if v.category = 2 then [some v, none] else [some v])).length M.2.2.1 = true) (hmc : M.2.2.2.2.cells = mc) (hms : M.2.2.2.2.slots = ms) (lv0 : List (Option Value)) (hlv : aw_l0 vs M.2.2.1 = lv0)
    (body : ∀ B : aw_B, (∀ c s, aw_xX (aw_cs B c s) = X) → (∀ c s, aw_xl (aw_cs B c s) = l) → (∀ c s, aw_nL (aw_cs B c s) = M.2.2.1) → (∀ c s, c ≤ mc → s ≤ ms → aw_K (aw_cs B c s) M.2.1 M.1.cls M.2.2.2.2) → (∀ c s, aw_isI (aw_cs B c s)) → aw_cl0 B h.length → (∀ c s, c ≤ mc → s ≤ ms → aw_ret (aw_cs B c s) none h') → aw_R (aw_cs B 0 0) 0 lv0 [] h) : af_N X l M vs h h' mc ms := by
  subst hlv
  intro ad sz hS
  refine Met.ofW (cc := M.2.1) (maxL := M.2.2.1) (ret := M.2.2.2.1) hy rfl ?_
  intro p e s m args below meth c s₁ B hml hv
  obtain ⟨rfl, hsz2, hP, hSX, hD0⟩ := hv
  subst hsz2
  have hts := atoms_spec (ws := aw_ws M) B.pre
  have hown : s.vm.findClass M.1.cls = some m.cls := findClass_of_methodNamed B.named
  have hlocks := B.notSynchronized
  have hr := B.returns
  have hin : meth.name = "<init>" := (name_of_methodNamed B.named B.method).1.trans hnm
  rw [lg_entry_eq]
  have hD : va_D (va_A (aw_w X ad h) s.heap.size) (aw_w X ad h) := hD0.self
  have hR0 : (headSpec (aw_ws M) M.2.2.2.2).room = M.2.2.2.2 := rfl
  refine body (p, l, e, (headSpec (aw_ws M) M.2.2.2.2).room, s, m, (vs.map (aw_v ad)).toArray, below, meth, c, MQ below (aw_QN X ad h s.heap.size h') (vs.map (aw_v ad)).toArray s mc ms (va_A (aw_w X ad h) s.heap.size), va_A (aw_w X ad h) s.heap.size, X, M.2.2.1, fun ad' => aw_ag h.length ad ad') (fun _ _ => rfl) (fun _ _ => rfl) (fun _ _ => rfl) (fun c1 s1 g1 g2 => ⟨B.exec, B.bytes, hml, hown, fun w hw => hts w (List.mem_cons_of_mem _ hw), hSX, fun q hq => Or.inr hq, hlocks, hR0, by rw [hR0, hmc]; exact g1, by rw [hR0, hms]; exact g2, fun ad' h9 => h9.S hS⟩) (fun _ _ => hin) (fun a1 a2 g1 g2 k hk => (g2 k hk).trans (g1 k hk)) ?_ ad s.heap [] _ (fun _ _ => rfl) hP hD va_S.rf (aw_l0_L ad vs (Nat.le_of_ble_eq_true hsz))
  intro c1 s1 k1 k2 ad' H locs ls pc g1 g2 g3 g4 hdg
  rw [B.bytes] at hdg
  refine W.widen k1 k2 ?_
  exact W.vret B.exec B.bytes (hr.trans hrt) (fun t ht _ => ⟨rfl, ⟨ad', g1, by rw [ht]; exact g2, g3⟩, g4.F ht⟩) g4.2.2 hdg
theorem aw_goN {p : Program} {l : Launch} {e : Env} {R : Room} {s : State} {m : MethodId} {args : Array Value} {below : List Frame} {meth : Method} {c : Code} {H : Heap} {locs : List Loc} {cells slots mc ms : Nat} {Q : State → Prop} {pc : Nat} {ls : Array Slot} {rest st0 : List Value} {A0 A1 : Nat → Prop} {H0 : Heap} {free : Addr → Prop} {Qa : State → Outcome → State → Prop} {rv : Option Value} {PT : Heap → Prop}
    (hr : va_Run p l e R s m args below meth c H locs cells slots mc ms (F0 m pc ls st0) rest Qa free) (hS : va_S A0 H0 H locs) (hA : ∀ q, q < H.size → A1 q → A0 q) (hf : ∀ q, free q → A0 q) (hQ : ∀ st o t, Qa st o t → o = .returned rv ∧ PT t.heap ∧ va_F A1 st t)
    (kk : ∀ (H1 : Heap) (locs1 : List Loc), PT H1 → va_S A0 H0 H1 locs1 → W p l e R s m args below meth c H1 locs1 (cells + mc) (slots + ms) Q (F0 m (pc + 3) ls (rv.toList ++ rest))) : W p l e R s m args below meth c H locs cells slots Q (F0 m pc ls st0) := by
  intro T hT X
  obtain ⟨v, st₀, t, T', L, h0, X', hL, e1, e2, hq, st⟩ := hr T hT X
  obtain ⟨hv, hp, hz, hk⟩ := hQ _ _ _ hq
  cases hv
  rw [h0] at hz hk
  obtain ⟨t2, a1, b1⟩ := kk T'.heap (locs ++ L) (by rw [e1]; exact hp)
    ⟨Nat.le_trans hS.1 (by rw [e1]; exact hz), fun q h1 h2 => by rw [e1, hk q (Nat.lt_of_lt_of_le h1 hS.1) (fun z => h2 (hA q (Nat.lt_of_lt_of_le h1 hS.1) z))]; exact hS.2.1 q h1 h2, fun q hq => by
      rcases List.mem_append.mp hq with h | h
      · exact hS.2.2 q h
      · exact hf _ (hL q h)⟩ T' rfl X'
  exact ⟨t2, st t2 a1, b1⟩
/-- a constructor, called -/
def aw_mI (M : aw_M) (np mc ms : Nat) : Prop := Jvm.Cond.code M.1 M.2.1 M.2.2.1 M.2.2.2.1 ∈ aw_tb ∧ Jvm.Cond.initialized M.1.cls ∈ aw_tb ∧ M.2.2.2.2.cells = mc ∧ M.2.2.2.2.slots = ms ∧ M.1.cls ≠ "java/lang/invoke/MethodHandle" ∧ M.1.cls ≠ "java/lang/invoke/VarHandle" ∧ (parseMethodDescriptor M.1.desc).map (fun d => d.parameters.length) = some np ∧ Jvm.Cond.instanceMethod M.1 ∈ aw_tb ∧ M.1.name = "<init>" ∧ M.2.2.2.1 = none
theorem gf_callI {B : aw_B} {c s : Nat} {cc : ByteArray} {own : String} {rm : Room} {α : Type} {ρ : α → Option Value × aw_H} {f : Option α} {pc : Nat} {lv : List (Option Value)} {st : List Value} {h : aw_H} (K : aw_K (aw_cs B c s) cc own rm) {n0 : Nat} (hcl : aw_cl0 B n0) {M : aw_M} {np mc ms idx : Nat} {vs : List Value} {b : Nat} (V : aw_mI M np mc ms) (lk : Jvm.Cond.methodLink own idx M.1 ∈ aw_tb) (n : Nat) (h2 : aw_H) (d : decode cc pc = .ok (.invokespecial idx, 3)) (hn : pc + 3 = n) (hl : vs.length = np) (hcat : Nat.ble (st.map fun v => v.category).sum 8 = true) (hfit : aw_fit M rm = true) (hc : Nat.ble (c + mc) rm.cells = true) (hs : Nat.ble (s + ms) rm.slots = true) (hn0 : n0 ≤ h.length) (hst : st.all (aw_rf h.length) = true) (hlv : aw_rl h.length lv = true) (G : af_N (aw_xX (aw_cs B c s)) (aw_xl (aw_cs B c s)) M (.ref b :: vs) h h2 mc ms) {stk : List Value} (es : stk = vs.reverse ++ .ref b :: st) (hr : ∀ q, f = some q → aw_ret (aw_cs B (c + mc) (s + ms)) (ρ q).1 (ρ q).2) (kk : af (aw_cs B (c + mc) (s + ms)) ρ n lv st h2 f) : af (aw_cs B c s) ρ pc lv stk h f := by
  subst es; subst hn
  obtain ⟨p, l, e, R, s0, m, args, below, meth, co, Q, A, X, nL, Ad⟩ := B
  intro q hq _ ad H locs ls h1 h2 h3 h4 h5
  obtain ⟨hx, hb, hml, hown, hts, hSX, hA, hlk, hR, hc0, hs0, hAd⟩ := K
  subst hR
  obtain ⟨v1, v2, v3, v4, v5, v6, v7, v8, v9, v10⟩ := V
  have hM := G ad H.size (hAd ad h1)
  have hF : ∀ q, va_A (aw_w X ad h) H.size q → A q := aw_freeA h3 h4 hA
  have hgood : GoodIn aw_tb (aw_ws M) := by
    intro w hw
    rcases List.mem_cons.mp hw with rfl | hw
    · exact ⟨v1, aw_good _ v1⟩
    · exact ⟨hw, aw_good _ hw⟩
  refine aw_goN (A1 := va_A (aw_w X ad h) H.size) (rv := none) (PT := fun H1 => ∃ ad', aw_ag h.length ad ad' ∧ va_P X.1 aw_cl (aw_w X ad' _) H1 ∧ va_D (va_A (aw_w X ad h) H.size) (aw_w X ad' _)) (va_runI (As := vs.map (aw_v ad)) (rest := st.map (aw_v ad)) ⟨hx, hb, hml, hown, hts⟩ hM (cwI np hts hgood (by rw [aw_ws, v10]) v3 v4 (hts _ v2) (hts _ lk) (hts _ v8) v9 ⟨v5, v6, v7⟩ (aw_fit_of hfit)) ⟨aw_blind, aw_pre hSX h2 h3 h4 hF⟩ rfl (by rw [List.length_map]; exact hl) h5.1 (by simp [aw_v]) (lv_room (by rw [aw_cats]; exact Nat.le_of_ble_eq_true hcat)) d ⟨Nat.le_of_ble_eq_true hc, Nat.le_of_ble_eq_true hs⟩) h4 (fun q _ z => hF q z) hF (fun _ _ _ z => z) (fun H1 locs1 g1 g2 => ?_)
  obtain ⟨ad', hag, gP, gD⟩ := g1
  have hag0 : aw_ag n0 ad ad' := fun k hk => hag k (by omega)
  have g := kk q hq (hr q hq) ad' H1 locs1 ls (hcl ad _ h1 hag0) gP (gD.weaken (fun _ _ _ z => hF _ z)) g2 (aw_L_ext hag hlv h5)
  rw [aw_st_ext hag hst] at g
  exact g
