/-! REGIONS OF THE HEAP: cells cs from p on. -/
def put (h : xH) (p : Nat) (cs : List xC) : xH := h.take p ++ (cs ++ h.drop (p + cs.length))
def has (h : xH) (p : Nat) (cs : List xC) : Prop := ∀ i c, cs[i]? = some c → h[p + i]? = some c
theorem put_len {h : xH} {p : Nat} {cs : List xC} (hl : p + cs.length ≤ h.length) : (put h p cs).length = h.length := by
  simp only [put, List.length_append, List.length_take, List.length_drop]
  omega
theorem put_in {h : xH} {p i : Nat} {cs : List xC} {c : xC} (hl : p + cs.length ≤ h.length) (hi : cs[i]? = some c) : (put h p cs)[p + i]? = some c := by
  have hlt := (List.getElem?_eq_some_iff.mp hi).1
  unfold put
  rw [List.getElem?_append_right (by rw [List.length_take]; omega), List.length_take, show p + i - min p h.length = i by omega, List.getElem?_append_left hlt]
  exact hi
theorem put_out {h : xH} {p q : Nat} {cs : List xC} (hl : p + cs.length ≤ h.length) (hq : q < p ∨ p + cs.length ≤ q) : (put h p cs)[q]? = h[q]? := by
  unfold put
  rcases hq with hq | hq
  · rw [List.getElem?_append_left (by rw [List.length_take]; omega), List.getElem?_take_of_lt hq]
  · rw [List.getElem?_append_right (by rw [List.length_take]; omega), List.length_take, List.getElem?_append_right (by omega), List.getElem?_drop]
    congr 1
    omega
theorem put_self {h : xH} {p : Nat} {cs : List xC} (hl : p + cs.length ≤ h.length) (hh : has h p cs) : put h p cs = h := by
  refine List.ext_getElem? fun q => ?_
  by_cases hq : q < p ∨ p + cs.length ≤ q
  · exact put_out hl hq
  · have h1 : cs[q - p]? = some (cs[q - p]'(by omega)) := List.getElem?_eq_getElem (by omega)
    have h2 := put_in hl h1
    have h3 := hh _ _ h1
    rw [show p + (q - p) = q by omega] at h2 h3
    rw [h2, h3]
theorem put_set {h : xH} {p i : Nat} {cs : List xC} {c : xC} (hl : p + cs.length ≤ h.length) (hi : i < cs.length) : (put h p cs).set (p + i) c = put h p (cs.set i c) := by
  refine List.ext_getElem? fun q => ?_
  have hl2 : p + (cs.set i c).length ≤ h.length := by rw [List.length_set]; exact hl
  by_cases hq : q < p ∨ p + cs.length ≤ q
  · rw [List.getElem?_set_ne (by omega), put_out hl hq, put_out hl2 (by rw [List.length_set]; exact hq)]
  · by_cases hqi : p + i = q
    · subst hqi
      rw [List.getElem?_set_self (by rw [put_len hl]; omega), put_in hl2 (List.getElem?_set_self hi)]
    · have h1 : cs[q - p]? = some (cs[q - p]'(by omega)) := List.getElem?_eq_getElem (by omega)
      have h2 := put_in hl h1
      have h3 : (cs.set i c)[q - p]? = some (cs[q - p]'(by omega)) := by rw [List.getElem?_set_ne (by omega)]; exact h1
      have h4 := put_in hl2 h3
      rw [show p + (q - p) = q by omega] at h2 h4
      rw [List.getElem?_set_ne hqi, h2, h4]
theorem put_put {h : xH} {p : Nat} {cs ds : List xC} (hl : p + cs.length ≤ h.length) (he : cs.length = ds.length) : put (put h p cs) p ds = put h p ds := by
  have hl2 : p + ds.length ≤ h.length := by omega
  have hl3 : p + ds.length ≤ (put h p cs).length := by rw [put_len hl]; exact hl2
  refine List.ext_getElem? fun q => ?_
  by_cases hq : q < p ∨ p + ds.length ≤ q
  · rw [put_out hl3 hq, put_out hl (by omega), put_out hl2 hq]
  · have h1 : ds[q - p]? = some (ds[q - p]'(by omega)) := List.getElem?_eq_getElem (by omega)
    have h2 := put_in hl2 h1
    have h3 := put_in hl3 h1
    rw [show p + (q - p) = q by omega] at h2 h3
    rw [h2, h3]
theorem has_put {h : xH} {p : Nat} {cs : List xC} (hl : p + cs.length ≤ h.length) : has (put h p cs) p cs := fun _ _ hi => put_in hl hi
theorem has_out {h : xH} {p q : Nat} {cs ds : List xC} (hl : p + cs.length ≤ h.length) (hq : q + ds.length ≤ p ∨ p + cs.length ≤ q) (hh : has h q ds) : has (put h p cs) q ds := fun i c hi => by
  have hlt := (List.getElem?_eq_some_iff.mp hi).1
  rw [put_out hl (by omega)]
  exact hh i c hi
theorem has_len {h : xH} {p : Nat} {cs : List xC} (hh : has h p cs) (h0 : 0 < cs.length) : p + cs.length ≤ h.length := by
  have h1 : cs[cs.length - 1]? = some (cs[cs.length - 1]'(by omega)) := List.getElem?_eq_getElem (by omega)
  have h2 := (List.getElem?_eq_some_iff.mp (hh _ _ h1)).1
  omega
theorem has_at {h : xH} {p i : Nat} {cs : List xC} {c : xC} (hh : has h p cs) (hi : cs[i]? = some c) : h[p + i]? = some c := hh _ _ hi
theorem xsrc {h : xH} {p q i : Nat} {cs ds : List xC} {c : xC} (hl : p + cs.length ≤ h.length) (hs : has h q ds) (hq : q + ds.length ≤ p ∨ p + cs.length ≤ q) (hi : ds[i]? = some c) : (put h p cs)[q + i]? = some c := has_out hl hq hs i c hi
theorem xso {h : xH} {p q : Nat} {cs : List xC} {c : xC} (hl : p + cs.length ≤ h.length) (hs : h[q]? = some c) (hq : q < p ∨ p + cs.length ≤ q) : (put h p cs)[q]? = some c := (put_out hl hq).trans hs
theorem xnone {h : xH} {p q : Nat} {cs : List xC} (hl : p + cs.length ≤ h.length) (hB : h.length ≤ 1000000) (hq : 1000000 ≤ q) : (put h p cs)[q]? = none := List.getElem?_eq_none (by rw [put_len hl]; omega)
/-- lists of numbers -/
theorem xl_get {α : Type} {l : List α} {j : Nat} {d : α} (h : j < l.length) : l[j]? = some (l.getD j d) := by
  rw [List.getD_eq_getElem?_getD, List.getElem?_eq_getElem h]
  rfl
def gd (l : List Int32) (j : Nat) : Int32 := l.getD j 0
theorem xgd {l : List Int32} {j : Nat} (h : j < l.length) : l[j]? = some (gd l j) := xl_get h
def gdL (l : List Int64) (j : Nat) : Int64 := l.getD j 0
theorem xgdL {l : List Int64} {j : Nat} (h : j < l.length) : l[j]? = some (gdL l j) := xl_get h
theorem gd_set {l : List Int32} {i j : Nat} {x : Int32} (h : i < l.length) : gd (l.set i x) j = if i = j then x else gd l j := by
  unfold gd
  simp only [List.getD_eq_getElem?_getD, List.getElem?_set]
  by_cases e : i = j
  · subst e
    simp [h]
  · simp [e]
def up {α : Type} (f : Nat → α) (i : Nat) (x : α) : Nat → α := fun j => if j = i then x else f j
theorem xf_int {c b : Nat} {x : Int32} (h : xfty c b = .int) : xfits c b (.int x) = true := by
  unfold xfits
  rw [h]
  simp [narrow, fits]
theorem xf_ref {c b q : Nat} {t : FieldType} (h : xfty c b = .array t) : xfits c b (.ref q) = true := by
  unfold xfits
  rw [h]
  simp [narrow, fits]
theorem xf_obj {c b q : Nat} {t : String} (h : xfty c b = .object t) : xfits c b (.ref q) = true := by
  unfold xfits
  rw [h]
  simp [narrow, fits]
section YR
variable {S : List Int32} {d m pc nx a b c i : Nat} {ins : Instr} {v w : Value} {L st : List Value} {h : xH} {p : Nat} {cs cs' : List xC} {k0 : Nat × Nat} {Q : xR → Prop}
theorem y_getR {fs : List Value} {j q : Nat} (hc : xc m pc = some (.getfield i, nx, c, b, v)) (hl : p + cs.length ≤ h.length) (hq : p + j = q) (hp : cs[j]? = some (.inl (c, fs))) (h1 : (c == 1000) = false) (hw : fs[b]? = some w) (k : yW S d m (nx, L, w :: st, (put h p cs, k0)) Q) : yW S d m (pc, L, .ref q :: st, (put h p cs, k0)) Q := by
  subst hq
  exact y_getf hc h1 (put_in hl hp) hw k
theorem y_putR {fs : List Value} {j q : Nat} (hc : xc m pc = some (.putfield i, nx, c, b, v)) (hl : p + cs.length ≤ h.length) (hq : p + j = q) (hp : cs[j]? = some (.inl (c, fs))) (hb : b < fs.length) (hf : xfits c b w = true) (he : cs.set j (.inl (c, fs.set b w)) = cs') (k : yW S d m (nx, L, st, (put h p cs', k0)) Q) : yW S d m (pc, L, w :: .ref q :: st, (put h p cs, k0)) Q := by
  subst hq; subst he
  refine y_putf hc (put_in hl hp) hb hf ?_
  have hj := (List.getElem?_eq_some_iff.mp hp).1
  show yW S d m (nx, L, st, ((put h p cs).set (p + j) _, k0)) Q
  rw [put_set hl hj]
  exact k
theorem y_aldR {t n j q : Nat} {l : List Int32} {k x : Int32} (hc : xc m pc = some (ins, nx, a, b, v)) (hi : (ins = .iaload ∧ t = 0) ∨ (ins = .caload ∧ t = 1) ∨ (ins = .baload ∧ t = 2)) (hl : p + cs.length ≤ h.length) (hq : p + n = q) (hp : cs[n]? = some (.inr (.inl (t, l)))) (hk : xidx k j) (hx : l[j]? = some x) (kk : yW S d m (nx, L, .int x :: st, (put h p cs, k0)) Q) : yW S d m (pc, L, .int k :: .ref q :: st, (put h p cs, k0)) Q := by
  subst hq
  exact y_ald hc hi (put_in hl hp) hk hx kk
theorem y_astR {t n j q : Nat} {l : List Int32} {k x y : Int32} (hc : xc m pc = some (ins, nx, a, b, v)) (hi : (ins = .iastore ∧ t = 0) ∨ (ins = .castore ∧ t = 1) ∨ (ins = .bastore ∧ t = 2)) (hl : p + cs.length ≤ h.length) (hq : p + n = q) (hp : cs[n]? = some (.inr (.inl (t, l)))) (hk : xidx k j) (hj : j < l.length) (hy : xnar t x = y) (he : cs.set n (.inr (.inl (t, l.set j y))) = cs') (kk : yW S d m (nx, L, st, (put h p cs', k0)) Q) : yW S d m (pc, L, .int x :: .int k :: .ref q :: st, (put h p cs, k0)) Q := by
  subst hq; subst he
  refine y_ast hc hi (put_in hl hp) hk hj hy ?_
  have hn := (List.getElem?_eq_some_iff.mp hp).1
  show yW S d m (nx, L, st, ((put h p cs).set (p + n) _, k0)) Q
  rw [put_set hl hn]
  exact kk
theorem y_alenR {cl : xC} {n q k : Nat} (hc : xc m pc = some (.arraylength, nx, a, b, v)) (hl : p + cs.length ≤ h.length) (hq : p + n = q) (hp : cs[n]? = some cl) (hn : xlen cl = some k) (kk : yW S d m (nx, L, .int (nI k) :: st, (put h p cs, k0)) Q) : yW S d m (pc, L, .ref q :: st, (put h p cs, k0)) Q := by
  subst hq
  exact y_alen hc (put_in hl hp) hn kk
theorem xrcvR {k n q : Nat} {fs : List Value} (hl : p + cs.length ≤ h.length) (hq : p + n = q) (hp : cs[n]? = some (.inl (k, fs))) : xrcv k (put h p cs, k0) (.ref q) = true := by
  subst hq
  simp only [xrcv]
  rw [put_in hl hp]
  simp
theorem xrcv_of {k q : Nat} {fs : List Value} {s : xS} (hp : s.1[q]? = some (.inl (k, fs))) : xrcv k s (.ref q) = true := by
  simp only [xrcv]
  rw [hp]
  simp
end YR
section YX
variable {S : List Int32} {d m pc nx a b i : Nat} {v w : Value} {L st args rest : List Value} {s s' : xS} {Q : xR → Prop}
/-- calls whose answer is told exactly -/
theorem y_S1 (hc : xc m pc = some (.invokestatic i, nx, a, b, v)) (h9 : (a == 9000 || (a == 9001 || a == 9002)) = false) (hb : b ≤ st.length) (h8 : xcat (st.drop b) ≤ 8) (ha : (st.take b).reverse = args) (hr : st.drop b = rest) (hT : yT S d a args s (· = (.inl (some w), s'))) (k : yW S d m (nx, L, w :: rest, s') Q) : yW S d m (pc, L, st, s) Q :=
  y_callS hc h9 hb h8 ha hr hT fun q hq => by subst hq; exact Or.inl ⟨w, rfl, k⟩
theorem y_S0 (hc : xc m pc = some (.invokestatic i, nx, a, b, v)) (h9 : (a == 9000 || (a == 9001 || a == 9002)) = false) (hb : b ≤ st.length) (h8 : xcat (st.drop b) ≤ 8) (ha : (st.take b).reverse = args) (hr : st.drop b = rest) (hT : yT S d a args s (· = (.inl none, s'))) (k : yW S d m (nx, L, rest, s') Q) : yW S d m (pc, L, st, s) Q :=
  y_callS hc h9 hb h8 ha hr hT fun q hq => by subst hq; exact Or.inr (Or.inl ⟨rfl, k⟩)
theorem y_V1 (hc : xc m pc = some (.invokevirtual i, nx, a, b, v)) (hb : b ≤ st.length) (h8 : xcat (st.drop b) ≤ 8) (ha : (st.take b).reverse = args) (hr : st.drop b = rest) (hrc : xrcv (xmc a) s (args.headD .null) = true) (hT : yT S d a args s (· = (.inl (some w), s'))) (k : yW S d m (nx, L, w :: rest, s') Q) : yW S d m (pc, L, st, s) Q :=
  y_callV hc hb h8 ha hr hrc hT fun q hq => by subst hq; exact Or.inl ⟨w, rfl, k⟩
theorem y_V0 (hc : xc m pc = some (.invokevirtual i, nx, a, b, v)) (hb : b ≤ st.length) (h8 : xcat (st.drop b) ≤ 8) (ha : (st.take b).reverse = args) (hr : st.drop b = rest) (hrc : xrcv (xmc a) s (args.headD .null) = true) (hT : yT S d a args s (· = (.inl none, s'))) (k : yW S d m (nx, L, rest, s') Q) : yW S d m (pc, L, st, s) Q :=
  y_callV hc hb h8 ha hr hrc hT fun q hq => by subst hq; exact Or.inr (Or.inl ⟨rfl, k⟩)
theorem y_I1 (hc : xc m pc = some (.invokespecial i, nx, a, b, v)) (h9 : (a == 9003) = false) (hb : b ≤ st.length) (h8 : xcat (st.drop b) ≤ 8) (ha : (st.take b).reverse = args) (hr : st.drop b = rest) (hrc : xrq (if xmc a = 5000 then 2 else 1) a s (args.headD .null) = true) (hT : yT S d a args s (· = (.inl (some w), s'))) (k : yW S d m (nx, L, w :: rest, s') Q) : yW S d m (pc, L, st, s) Q :=
  y_callI hc h9 hb h8 ha hr hrc hT fun q hq => by subst hq; exact Or.inl ⟨w, rfl, k⟩
theorem y_I0 (hc : xc m pc = some (.invokespecial i, nx, a, b, v)) (h9 : (a == 9003) = false) (hb : b ≤ st.length) (h8 : xcat (st.drop b) ≤ 8) (ha : (st.take b).reverse = args) (hr : st.drop b = rest) (hrc : xrq (if xmc a = 5000 then 2 else 1) a s (args.headD .null) = true) (hT : yT S d a args s (· = (.inl none, s'))) (k : yW S d m (nx, L, rest, s') Q) : yW S d m (pc, L, st, s) Q :=
  y_callI hc h9 hb h8 ha hr hrc hT fun q hq => by subst hq; exact Or.inr (Or.inl ⟨rfl, k⟩)
/-- calls whose answer is one of several -/
theorem y_S1e {α : Type} {P : α → Prop} {wv : α → Value} {F : α → xS} (hc : xc m pc = some (.invokestatic i, nx, a, b, v)) (h9 : (a == 9000 || (a == 9001 || a == 9002)) = false) (hb : b ≤ st.length) (h8 : xcat (st.drop b) ≤ 8) (ha : (st.take b).reverse = args) (hr : st.drop b = rest) (hT : yT S d a args s (fun r => ∃ z, P z ∧ r = (.inl (some (wv z)), F z))) (k : ∀ z, P z → yW S d m (nx, L, wv z :: rest, F z) Q) : yW S d m (pc, L, st, s) Q :=
  y_callS hc h9 hb h8 ha hr hT fun q hq => by obtain ⟨z, hz, rfl⟩ := hq; exact Or.inl ⟨_, rfl, k z hz⟩
theorem y_V0e {α : Type} {P : α → Prop} {F : α → xS} (hc : xc m pc = some (.invokevirtual i, nx, a, b, v)) (hb : b ≤ st.length) (h8 : xcat (st.drop b) ≤ 8) (ha : (st.take b).reverse = args) (hr : st.drop b = rest) (hrc : xrcv (xmc a) s (args.headD .null) = true) (hT : yT S d a args s (fun r => ∃ z, P z ∧ r = (.inl none, F z))) (k : ∀ z, P z → yW S d m (nx, L, rest, F z) Q) : yW S d m (pc, L, st, s) Q :=
  y_callV hc hb h8 ha hr hrc hT fun q hq => by obtain ⟨z, hz, rfl⟩ := hq; exact Or.inr (Or.inl ⟨rfl, k z hz⟩)
theorem y_V1e {α : Type} {P : α → Prop} {wv : α → Value} {F : α → xS} (hc : xc m pc = some (.invokevirtual i, nx, a, b, v)) (hb : b ≤ st.length) (h8 : xcat (st.drop b) ≤ 8) (ha : (st.take b).reverse = args) (hr : st.drop b = rest) (hrc : xrcv (xmc a) s (args.headD .null) = true) (hT : yT S d a args s (fun r => ∃ z, P z ∧ r = (.inl (some (wv z)), F z))) (k : ∀ z, P z → yW S d m (nx, L, wv z :: rest, F z) Q) : yW S d m (pc, L, st, s) Q :=
  y_callV hc hb h8 ha hr hrc hT fun q hq => by obtain ⟨z, hz, rfl⟩ := hq; exact Or.inl ⟨_, rfl, k z hz⟩
/-- a method that answers exactly so -/
theorem yT_eq {o : Option Value} (h1 : (xargs st).length ≤ (xm m).2.2.1) (h : yW S d m (0, xentry st (xm m).2.2.1, [], s) (· = (.inl o, s'))) : yT S (d + 1) m st s (· = (.inl o, s')) := yT_of h1 h fun r hr hx => by subst hr; cases hx
theorem yT_e {α : Type} {P : α → Prop} {wv : α → Option Value} {F : α → xS} (h1 : (xargs st).length ≤ (xm m).2.2.1) (h : yW S d m (0, xentry st (xm m).2.2.1, [], s) (fun r => ∃ z, P z ∧ r = (.inl (wv z), F z))) : yT S (d + 1) m st s (fun r => ∃ z, P z ∧ r = (.inl (wv z), F z)) := yT_of h1 h fun r hr hx => by obtain ⟨z, -, rfl⟩ := hr; cases hx
theorem yT_x (hm : xmt m = true) (h1 : (xargs st).length ≤ (xm m).2.2.1) (h : yW S d m (0, xentry st (xm m).2.2.1, [], s) Q) : yT S (d + 1) m st s Q := yT_of h1 h fun _ _ _ => hm
end YX
/-! THE KILN: its object and its five rows, from p on. f: its numbers by the fields' places; chambers' states, bricks, temperatures; fuels' pieces, prices. -/
abbrev kK : Type := (Nat → Int32) × (List Int32 × (List Int32 × (List Int32 × (List Int32 × List Int32))))
def kO (p : Nat) (f : Nat → Int32) : xC := .inl (6, [.int (f 0), .int (f 1), .int (f 2), .int (f 3), .ref (p + 1), .ref (p + 2), .ref (p + 3), .ref (p + 4), .ref (p + 5), .int (f 9), .int (f 10), .int (f 11), .int (f 12), .int (f 13), .int (f 14), .int (f 15), .int (f 16)])
def kC (p : Nat) (K : kK) : List xC := [kO p K.1, .inr (.inl (1, K.2.1)), .inr (.inl (0, K.2.2.1)), .inr (.inl (0, K.2.2.2.1)), .inr (.inl (0, K.2.2.2.2.1)), .inr (.inl (0, K.2.2.2.2.2))]
/-- its rows' lengths -/
def kl (K : kK) : Prop := K.2.1.length = 8 ∧ K.2.2.1.length = 8 ∧ K.2.2.2.1.length = 8 ∧ K.2.2.2.2.1.length = 3 ∧ K.2.2.2.2.2.length = 3
/-- a throw's own cell -/
abbrev xth (s : xS) : xS := (s.1, s.2.1 + 1, s.2.2 + 6)
section YX2
variable {S : List Int32} {d m pc nx a b i j k : Nat} {v w : Value} {L st args rest : List Value} {s s' : xS} {Q : xR → Prop} {E : String}
/-- calls that throw: handed on, or caught -/
theorem y_Sx (hc : xc m pc = some (.invokestatic i, nx, a, b, v)) (h9 : (a == 9000 || (a == 9001 || a == 9002)) = false) (hb : b ≤ st.length) (h8 : xcat (st.drop b) ≤ 8) (ha : (st.take b).reverse = args) (hT : yT S d a args s (· = (.inr E, s'))) (hh : xh m pc E = none) (k : Q (.inr E, s')) : yW S d m (pc, L, st, s) Q :=
  y_callS hc h9 hb h8 ha rfl hT fun q hq => by subst hq; exact Or.inr (Or.inr ⟨E, rfl, Or.inr ⟨hh, k⟩⟩)
theorem y_Vx (hc : xc m pc = some (.invokevirtual i, nx, a, b, v)) (hb : b ≤ st.length) (h8 : xcat (st.drop b) ≤ 8) (ha : (st.take b).reverse = args) (hrc : xrcv (xmc a) s (args.headD .null) = true) (hT : yT S d a args s (· = (.inr E, s'))) (hh : xh m pc E = none) (k : Q (.inr E, s')) : yW S d m (pc, L, st, s) Q :=
  y_callV hc hb h8 ha rfl hrc hT fun q hq => by subst hq; exact Or.inr (Or.inr ⟨E, rfl, Or.inr ⟨hh, k⟩⟩)
theorem y_Vh (hc : xc m pc = some (.invokevirtual i, nx, a, b, v)) (hb : b ≤ st.length) (h8 : xcat (st.drop b) ≤ 8) (ha : (st.take b).reverse = args) (hrc : xrcv (xmc a) s (args.headD .null) = true) (hT : yT S d a args s (· = (.inr E, s'))) (hh : xh m pc E = some (j, k)) (hk : k < L.length) {L' : List Value} (hL : xput L k xno = L') (kk : yW S d m (j, L', [], s') Q) : yW S d m (pc, L, st, s) Q :=
  y_callV hc hb h8 ha rfl hrc hT fun q hq => by subst hq; subst hL; exact Or.inr (Or.inr ⟨E, rfl, Or.inl ⟨j, k, hh, hk, kk⟩⟩)
end YX2
/-- what answerOf makes of an outcome -/
def xcode (o : Int32) : Option String := if o = -1 then some "java/lang/IndexOutOfBoundsException" else if o = -2 then some "java/lang/IllegalArgumentException" else if o = -3 then some "java/lang/IllegalStateException" else if o = -4 then some "java/lang/UnsupportedOperationException" else if o = -5 then some "java/util/NoSuchElementException" else none
def xans (o : Int32) (s : xS) : xR := match xcode o with
  | some E => (.inr E, xth s)
  | none => (.inl (some (.int o)), s)
theorem xcode_pos {o : Int32} (h : ¬ o < 0) : xcode o = none := by
  obtain ⟨j, hj, rfl⟩ := nI_of h
  have ne : ∀ z : Int32, z.toInt < 0 → ¬ nI j = z := fun z hz e => by rw [← e, nI_toInt hj] at hz; omega
  unfold xcode
  rw [if_neg (ne _ (by decide)), if_neg (ne _ (by decide)), if_neg (ne _ (by decide)), if_neg (ne _ (by decide)), if_neg (ne _ (by decide))]
section YC
variable {S : List Int32} {d m pc nx a b i : Nat} {v : Value} {L st : List Value} {h : xH} {p : Nat} {cs cs' : List xC} {k0 : Nat × Nat} {Q : xR → Prop}
/-- a whole row copied onto one of the region -/
theorem y_copyR {t n q qs k : Nat} {f g : List Int32} {x : Int32} (hc : xc m pc = some (.invokestatic i, nx, 9000, b, v)) (h8 : xcat st ≤ 8) (hl : p + cs.length ≤ h.length) (hq : p + n = q) (hp : cs[n]? = some (.inr (.inl (t, g)))) (hs : (put h p cs)[qs]? = some (.inr (.inl (t, f)))) (hx : xidx x k) (hf : f.length = k) (hg : g.length = k) (he : cs.set n (.inr (.inl (t, f))) = cs')
    (kk : yW S d m (nx, L, st, (put h p cs', k0)) Q) : yW S d m (pc, L, .int x :: .int 0 :: .ref q :: .int 0 :: .ref qs :: st, (put h p cs, k0)) Q := by
  subst hq; subst he
  refine y_copy hc h8 hs (put_in hl hp) hx (k := 0) (j := 0) (by decide) (by decide) (by omega) (by omega) ?_
  have hn := (List.getElem?_eq_some_iff.mp hp).1
  have e1 : g.take 0 ++ ((f.drop 0).take k ++ g.drop (0 + k)) = f := by
    rw [List.take_zero, List.nil_append, List.drop_zero, List.take_of_length_le (by omega), List.drop_eq_nil_of_le (by omega), List.append_nil]
  rw [e1]
  show yW S d m (nx, L, st, ((put h p cs).set (p + n) _, k0)) Q
  rw [put_set hl hn]
  exact kk
end YC
theorem kC_len (p : Nat) (K : kK) : (kC p K).length = 6 := rfl
theorem xi_a {P : Prop} [Decidable P] (h : (if P then (1 : Int32) else 0) = 0) : ¬ P := fun q => by rw [if_pos q] at h; revert h; decide
theorem xi_b {P : Prop} [Decidable P] (h : ¬ (if P then (1 : Int32) else 0) = 0) : P := Classical.byContradiction fun q => h (if_neg q)
theorem xi_c {P : Prop} [Decidable P] (h : (if P then (0 : Int32) else 1) = 0) : P := Classical.byContradiction fun q => by rw [if_neg q] at h; revert h; decide
theorem xi_d {P : Prop} [Decidable P] (h : ¬ (if P then (0 : Int32) else 1) = 0) : ¬ P := fun q => h (if_pos q)
theorem xcv {v : Int32} (h : ¬ (v < 0 ∨ 7 < v)) : xidx v v.toNatClampNeg := ⟨fun q => h (Or.inl q), rfl⟩
theorem xcb {v : Int32} (h : ¬ (v < 0 ∨ 7 < v)) : v.toNatClampNeg < 8 := by
  obtain ⟨j, hj, rfl⟩ := nI_of (fun q => h (Or.inl q))
  rw [nI_clamp hj]
  rcases Nat.lt_or_ge j 8 with q | q
  · exact q
  · exact absurd (nI_lt (a := 7) (b := j) (by omega) hj) (fun z => h (Or.inr z))
theorem nI_mul (a b : Nat) : nI a * nI b = nI (a * b) := (Int32.ofNat_mul a b).symm
theorem nI_sub {a b : Nat} (h : b ≤ a) : nI a - nI b = nI (a - b) := by
  have : nI (a - b) + nI b = nI a := by rw [nI_add]; congr 1; omega
  rw [← this, Int32.add_sub_cancel]
theorem nI_sub0 {a b : Nat} (ha : a < 2 ^ 31) (hb : b < 2 ^ 31) : imax (nI a - nI b) 0 = nI (a - b) := by
  unfold imax
  rcases Nat.le_total b a with h | h
  · rw [nI_sub h, if_neg (nI_pos (by omega))]
  · rw [show a - b = 0 by omega]
    split
    · rfl
    · rename_i hn
      rcases Nat.eq_or_lt_of_le h with rfl | h
      · rw [Int32.sub_self]; rfl
      · exfalso
        apply hn
        have e : nI a - nI b = - nI (b - a) := by
          have : nI (b - a) + nI a = nI b := by rw [nI_add]; congr 1; omega
          rw [← this, Int32.add_comm, ← Int32.sub_sub, Int32.sub_self, Int32.zero_sub]
        rw [e]
        apply Int32.lt_iff_toInt_lt.mpr
        have h1 : (nI (b - a)).toInt = ((b - a : Nat) : Int) := nI_toInt (by omega)
        have h2 : (-nI (b - a)).toInt = -((b - a : Nat) : Int) := by
          rw [Int32.toInt_neg, h1]
          exact Int.bmod_eq_of_le (by omega) (by omega)
        rw [h2]
        simp
        omega
theorem imin_nI {a b : Nat} (ha : a < 2 ^ 31) (hb : b < 2 ^ 31) : imin (nI a) (nI b) = nI (min a b) := by
  unfold imin
  by_cases h : b < a
  · rw [if_pos ((nI_ltI hb ha).mpr h), Nat.min_eq_right (by omega)]
  · rw [if_neg (fun q => h ((nI_ltI hb ha).mp q)), Nat.min_eq_left (by omega)]
theorem nI_div {a b : Nat} (ha : a < 2 ^ 31) (hb : b < 2 ^ 31) : nI a / nI b = nI (a / b) := by
  apply Int32.toInt_inj.mp
  have h1 := nI_toInt ha
  have h2 := nI_toInt hb
  have h3 : (nI (a / b)).toInt = ((a / b : Nat) : Int) := nI_toInt (Nat.lt_of_le_of_lt (Nat.div_le_self a b) ha)
  rw [Int32.toInt_div, h1, h2, h3]
  rw [← Int.ofNat_tdiv]
  have hq := Nat.div_le_self a b
  generalize a / b = q at hq ⊢
  exact Int.bmod_eq_of_le (by omega) (by omega)
theorem nI_dec (n : Nat) : nI (n + 1) + (-1) = nI n := by
  rw [← nI_1, Int32.add_assoc, show (1 : Int32) + (-1) = 0 by decide, Int32.add_zero]
