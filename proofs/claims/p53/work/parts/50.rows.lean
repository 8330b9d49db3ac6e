/-! REGIONS BY A FUNCTION: n cells G 0, G 1 .. from p on. -/
def rg (n : Nat) (G : Nat → xC) : List xC := (List.range n).map G
theorem rg_len (n : Nat) (G : Nat → xC) : (rg n G).length = n := by unfold rg; rw [List.length_map, List.length_range]
theorem rg_get {n i : Nat} {G : Nat → xC} (h : i < n) : (rg n G)[i]? = some (G i) := by unfold rg; rw [List.getElem?_map, List.getElem?_range h]; rfl
theorem rg_set {n i : Nat} {G : Nat → xC} {c : xC} (h : i < n) : (rg n G).set i c = rg n (up G i c) := by
  refine List.ext_getElem? fun j => ?_
  by_cases hj : j < n
  · rw [rg_get hj]
    by_cases e : i = j
    · subst e
      rw [List.getElem?_set_self (by rw [rg_len]; exact hj)]
      unfold up; rw [if_pos rfl]
    · rw [List.getElem?_set_ne e, rg_get hj]
      unfold up; rw [if_neg (fun q => e q.symm)]
  · rw [List.getElem?_eq_none (by rw [List.length_set, rg_len]; omega), List.getElem?_eq_none (by rw [rg_len]; omega)]
theorem rgl {n p : Nat} {h : xH} {G : Nat → xC} (hl : p + n ≤ h.length) : p + (rg n G).length ≤ h.length := by rw [rg_len]; exact hl
theorem up_eq {α : Type} {G : Nat → α} {i : Nat} {c : α} : up G i c i = c := if_pos rfl
theorem up_ne {α : Type} {G : Nat → α} {i j : Nat} {c d : α} (h : j ≠ i) (hd : G j = d) : up G i c j = d := (if_neg h).trans hd
theorem up_up {α : Type} {G : Nat → α} {i : Nat} {c d : α} : up (up G i c) i d = up G i d := funext fun j => by
  unfold up
  by_cases e : j = i
  · rw [if_pos e, if_pos e]
  · rw [if_neg e, if_neg e, if_neg e]
abbrev intC (l : List Int32) : xC := .inr (.inl (0, l))
abbrev chrC (l : List Int32) : xC := .inr (.inl (1, l))
abbrev lngC (l : List Int64) : xC := .inr (.inr (.inl (3, l)))
section YG
variable {S : List Int32} {d m pc nx a b c i n p q j : Nat} {ins : Instr} {v w : Value} {L st : List Value} {h : xH} {G : Nat → xC} {k0 : Nat × Nat} {Q : xR → Prop}
theorem y_getG {fs : List Value} (hc : xc m pc = some (.getfield i, nx, c, b, v)) (hl : p + n ≤ h.length) (hj : j < n) (hq : p + j = q) (hG : G j = .inl (c, fs)) (h1 : (c == 1000) = false) (hw : fs[b]? = some w) (k : yW S d m (nx, L, w :: st, (put h p (rg n G), k0)) Q) : yW S d m (pc, L, .ref q :: st, (put h p (rg n G), k0)) Q := y_getR hc (rgl hl) hq ((rg_get hj).trans (congrArg some hG)) h1 hw k
theorem y_putG {fs : List Value} {c' : xC} (hc : xc m pc = some (.putfield i, nx, c, b, v)) (hl : p + n ≤ h.length) (hj : j < n) (hq : p + j = q) (hG : G j = .inl (c, fs)) (hb : b < fs.length) (hf : xfits c b w = true) (he : .inl (c, fs.set b w) = c') (k : yW S d m (nx, L, st, (put h p (rg n (up G j c')), k0)) Q) : yW S d m (pc, L, w :: .ref q :: st, (put h p (rg n G), k0)) Q := by
  subst he
  exact y_putR hc (rgl hl) hq ((rg_get hj).trans (congrArg some hG)) hb hf (rg_set hj) k
theorem y_aldG {t z : Nat} {l : List Int32} {k x : Int32} (hc : xc m pc = some (ins, nx, a, b, v)) (hi : (ins = .iaload ∧ t = 0) ∨ (ins = .caload ∧ t = 1) ∨ (ins = .baload ∧ t = 2)) (hl : p + n ≤ h.length) (hj : j < n) (hq : p + j = q) (hG : G j = .inr (.inl (t, l))) (hk : xidx k z) (hx : l[z]? = some x) (kk : yW S d m (nx, L, .int x :: st, (put h p (rg n G), k0)) Q) : yW S d m (pc, L, .int k :: .ref q :: st, (put h p (rg n G), k0)) Q := y_aldR hc hi (rgl hl) hq ((rg_get hj).trans (congrArg some hG)) hk hx kk
theorem y_astG {t z : Nat} {l : List Int32} {k x y : Int32} (hc : xc m pc = some (ins, nx, a, b, v)) (hi : (ins = .iastore ∧ t = 0) ∨ (ins = .castore ∧ t = 1) ∨ (ins = .bastore ∧ t = 2)) (hl : p + n ≤ h.length) (hj : j < n) (hq : p + j = q) (hG : G j = .inr (.inl (t, l))) (hk : xidx k z) (hz : z < l.length) (hy : xnar t x = y) (kk : yW S d m (nx, L, st, (put h p (rg n (up G j (.inr (.inl (t, l.set z y))))), k0)) Q) : yW S d m (pc, L, .int x :: .int k :: .ref q :: st, (put h p (rg n G), k0)) Q := y_astR hc hi (rgl hl) hq ((rg_get hj).trans (congrArg some hG)) hk hz hy (rg_set hj) kk
theorem y_laldG {t z : Nat} {l : List Int64} {k : Int32} {x : Int64} (hc : xc m pc = some (.laload, nx, a, b, v)) (hl : p + n ≤ h.length) (hj : j < n) (hq : p + j = q) (hG : G j = .inr (.inr (.inl (t, l)))) (hk : xidx k z) (hx : l[z]? = some x) (kk : yW S d m (nx, L, .long x :: st, (put h p (rg n G), k0)) Q) : yW S d m (pc, L, .int k :: .ref q :: st, (put h p (rg n G), k0)) Q := by
  subst hq
  exact y_lald hc (put_in (rgl hl) ((rg_get hj).trans (congrArg some hG))) hk hx kk
theorem y_lastG {t z : Nat} {l : List Int64} {k : Int32} {x : Int64} (hc : xc m pc = some (.lastore, nx, a, b, v)) (hl : p + n ≤ h.length) (hj : j < n) (hq : p + j = q) (hG : G j = .inr (.inr (.inl (t, l)))) (hk : xidx k z) (hz : z < l.length) (kk : yW S d m (nx, L, st, (put h p (rg n (up G j (.inr (.inr (.inl (t, l.set z x)))))), k0)) Q) : yW S d m (pc, L, .long x :: .int k :: .ref q :: st, (put h p (rg n G), k0)) Q := by
  subst hq
  refine y_last hc (put_in (rgl hl) ((rg_get hj).trans (congrArg some hG))) hk hz ?_
  show yW S d m (nx, L, st, ((put h p (rg n G)).set (p + j) _, k0)) Q
  rw [put_set (rgl hl) (by rw [rg_len]; exact hj), rg_set hj]
  exact kk
theorem y_aaldG {t z r : Nat} {l : List (Option Nat)} {k : Int32} (hc : xc m pc = some (.aaload, nx, a, b, v)) (hl : p + n ≤ h.length) (hj : j < n) (hq : p + j = q) (hG : G j = .inr (.inr (.inr (t, l)))) (hk : xidx k z) (hx : l[z]? = some (some r)) (kk : yW S d m (nx, L, .ref r :: st, (put h p (rg n G), k0)) Q) : yW S d m (pc, L, .int k :: .ref q :: st, (put h p (rg n G), k0)) Q := by
  subst hq
  exact y_aald hc (put_in (rgl hl) ((rg_get hj).trans (congrArg some hG))) hk hx kk
theorem xrcvG {k : Nat} {fs : List Value} (hl : p + n ≤ h.length) (hj : j < n) (hq : p + j = q) (hG : G j = .inl (k, fs)) : xrcv k (put h p (rg n G), k0) (.ref q) = true := xrcvR (rgl hl) hq ((rg_get hj).trans (congrArg some hG))
end YG
/-! COURSES: its object, rows of joints, counts, ways, fewest, memory. -/
/-- rows p + 2 on -/
def rowsC (t p n : Nat) : xC := .inr (.inr (.inr (t, (List.range n).map (fun z => some (p + z)))))
theorem rows_at {p n z : Nat} (h : z < n) : ((List.range n).map (fun z => some (p + z)))[z]? = some (some (p + z)) := by rw [List.getElem?_map, List.getElem?_range h]; rfl
def cO (p a1 a2 b1 b2 : Nat) : xC := .inl (4, [.ref (p + 1), .ref (p + 21), .ref (p + a1), .ref (p + a2), .ref (p + b1), .ref (p + b2), .ref (p + 26)])
/-- the courses' cells: J the joints, ct the counts, X the ways, U the fewest -/
def cgX (p : Nat) (J : Nat → List Int32) (ct : List Int32) (X : List Int64) (U : List Int32) (G : Nat → xC) : Prop :=
  ∃ (a1 a2 b1 b2 : Nat) (Y : List Int64) (V : List Int32) (M : Nat → List Int64), ((a1 = 22 ∧ a2 = 23) ∨ (a1 = 23 ∧ a2 = 22)) ∧ ((b1 = 24 ∧ b2 = 25) ∨ (b1 = 25 ∧ b2 = 24)) ∧ G 0 = cO p a1 a2 b1 b2 ∧ G 1 = rowsC 6 (p + 2) 19 ∧ (∀ w, w < 19 → G (2 + w) = intC (J w)) ∧ G 21 = intC ct ∧
    G a1 = lngC X ∧ G a2 = lngC Y ∧ X.length = 65 ∧ Y.length = 65 ∧ G b1 = intC U ∧ G b2 = intC V ∧ U.length = 65 ∧ V.length = 65 ∧ G 26 = rowsC 7 (p + 27) 8 ∧ ∀ r, r < 8 → G (27 + r) = lngC (M r) ∧ (M r).length = 65
def cg (p : Nat) (J : Nat → List Int32) (ct : List Int32) (G : Nat → xC) : Prop := ∃ X U, cgX p J ct X U G
