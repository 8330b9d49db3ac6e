/-! A LOGIC FOR THE INTERPRETER: a method comes to an end of which Q holds; a run from a place comes to one. -/
def yT (S : List Int32) (d m : Nat) (args : List Value) (s : xS) (Q : xR → Prop) : Prop := ∃ r, yE S d m args s r ∧ Q r
def yW (S : List Int32) (d m : Nat) (g : xGo) (Q : xR → Prop) : Prop := ∃ r, (∃ n, yrun S (yE S d) m n g r) ∧ Q r
theorem ystep_mono {C C' : Nat → List Value → xS → xR → Prop} (hC : ∀ a vs s q, C a vs s q → C' a vs s q) {m pc : Nat} {K K' : xGo → Prop} (hK : ∀ g, K g → K' g) {r : xR} {act : Option xA} (h : xstep C m pc K r act) : xstep C' m pc K' r act := by
  match act, h with
  | some (.inl g), h => exact hK g h
  | some (.inr (.inl (a, args, nx, L, rest, s))), ⟨q, h1, h2⟩ => exact ⟨q, hC _ _ _ _ h1, xcont_mono hK h2⟩
  | some (.inr (.inr r0)), h => exact h
theorem yrun_mono {S : List Int32} {C C' : Nat → List Value → xS → xR → Prop} (hC : ∀ a vs s q, C a vs s q → C' a vs s q) {m : Nat} : ∀ (n : Nat) (g : xGo) (r : xR), yrun S C m n g r → yrun S C' m n g r
  | 0, _, _, h => h
  | n + 1, g, r, h => ystep_mono hC (fun g' => yrun_mono hC n g' r) h
theorem yrun_more {S : List Int32} {C : Nat → List Value → xS → xR → Prop} {m : Nat} : ∀ (n : Nat) (g : xGo) (r : xR), yrun S C m n g r → yrun S C m (n + 1) g r
  | 0, _, _, h => h.elim
  | n + 1, g, r, h => by
    show xstep C m g.1 _ r (yat S m g)
    exact ystep_mono (fun _ _ _ _ q => q) (fun g' => yrun_more n g' r) h
theorem yE_succ {S : List Int32} : ∀ (d a : Nat) (vs : List Value) (s : xS) (q : xR), yE S d a vs s q → yE S (d + 1) a vs s q
  | 0, _, _, _, _, h => h.elim
  | d + 1, _, _, _, _, ⟨h1, h2, n, h3⟩ => ⟨h1, h2, n, yrun_mono (yE_succ d) n _ _ h3⟩
theorem yE_le {S : List Int32} {d d' : Nat} (h : d ≤ d') {a : Nat} {vs : List Value} {s : xS} {q : xR} (hq : yE S d a vs s q) : yE S d' a vs s q := by
  induction h with
  | refl => exact hq
  | step _ ih => exact yE_succ _ _ _ _ _ ih
theorem yT_le {S : List Int32} {d d' : Nat} (h : d ≤ d') {m : Nat} {args : List Value} {s : xS} {Q : xR → Prop} (hT : yT S d m args s Q) : yT S d' m args s Q := by
  obtain ⟨r, h1, h2⟩ := hT
  exact ⟨r, yE_le h h1, h2⟩
theorem yT_mono {S : List Int32} {d m : Nat} {args : List Value} {s : xS} {Q Q' : xR → Prop} (hT : yT S d m args s Q) (h : ∀ r, Q r → Q' r) : yT S d m args s Q' := by
  obtain ⟨r, h1, h2⟩ := hT
  exact ⟨r, h1, h _ h2⟩
section YL
variable {S : List Int32} {d m pc nx a b c p i : Nat} {ins : Instr} {v w : Value} {L st : List Value} {s : xS} {Q : xR → Prop}
/-- a method that throws nothing here, or may throw -/
theorem yT_of (h1 : (xargs st).length ≤ (xm m).2.2.1) (h : yW S d m (0, xentry st (xm m).2.2.1, [], s) Q) (hq : ∀ r, Q r → r.1.isRight = true → xmt m = true) : yT S (d + 1) m st s Q := by
  obtain ⟨r, hr, hQ⟩ := h
  refine ⟨r, ⟨h1, fun E hE => hq r hQ (by rw [hE]; rfl), hr⟩, hQ⟩
theorem yW_mono {g : xGo} {Q' : xR → Prop} (h : yW S d m g Q) (hq : ∀ r, Q r → Q' r) : yW S d m g Q' := by
  obtain ⟨r, hr, hQ⟩ := h
  exact ⟨r, hr, hq r hQ⟩
theorem yW_go {g g' : xGo} (h : yat S m g = some (.inl g')) (k : yW S d m g' Q) : yW S d m g Q := by
  obtain ⟨r, ⟨n, hn⟩, hq⟩ := k
  refine ⟨r, ⟨n + 1, ?_⟩, hq⟩
  show xstep _ m g.1 _ r (yat S m g)
  rw [h]
  exact hn
theorem yW_end {g : xGo} {r : xR} (h : yat S m g = some (.inr (.inr r))) (k : Q r) : yW S d m g Q := by
  refine ⟨r, ⟨1, ?_⟩, k⟩
  show xstep _ m g.1 _ r (yat S m g)
  rw [h]
  rfl
theorem yW_call {g : xGo} {args rest : List Value} {q : xR} (h : yat S m g = some (.inr (.inl (a, args, nx, L, rest, s)))) (hc : yE S d a args s q)
    (k1 : ∀ w, q.1 = .inl (some w) → yW S d m (nx, L, w :: rest, q.2) Q) (k2 : q.1 = .inl none → yW S d m (nx, L, rest, q.2) Q)
    (k3 : ∀ E, q.1 = .inr E → (∃ nx' k, xh m g.1 E = some (nx', k) ∧ k < L.length ∧ yW S d m (nx', xput L k xno, [], q.2) Q) ∨ (xh m g.1 E = none ∧ Q q)) : yW S d m g Q := by
  have lift : ∀ g' : xGo, yW S d m g' Q → (∀ r n, yrun S (yE S d) m n g' r → xcont m g.1 (fun g'' => yrun S (yE S d) m n g'' r) r nx L rest q) → yW S d m g Q := by
    intro g' hk hcn
    obtain ⟨r, ⟨n, hn⟩, hq⟩ := hk
    refine ⟨r, ⟨n + 1, ?_⟩, hq⟩
    show xstep _ m g.1 _ r (yat S m g)
    rw [h]
    exact ⟨q, hc, hcn r n hn⟩
  obtain ⟨o, s'⟩ := q
  cases o with
  | inl ow =>
    cases ow with
    | none => exact lift _ (k2 rfl) fun r n hn => hn
    | some w => exact lift _ (k1 w rfl) fun r n hn => hn
  | inr E =>
    rcases k3 E rfl with ⟨nx', k, hx, hk, hW⟩ | ⟨hx, hQ⟩
    · refine lift _ hW fun r n hn => ?_
      simp only [xcont, hx]
      exact ⟨hk, hn⟩
    · refine ⟨(.inr E, s'), ⟨1, ?_⟩, hQ⟩
      show xstep _ m g.1 _ _ (yat S m g)
      rw [h]
      refine ⟨_, hc, ?_⟩
      simp only [xcont, hx]
theorem yat_of {g : xGo} {act : xA} (h : xat m g = some act) : yat S m g = some act := by
  unfold yat
  rw [h]
theorem xat_of {act : Option xA} (hc : xc m pc = some (ins, nx, a, b, v)) (hx : xnext m ins nx a b v L st s = act) : xat m (pc, L, st, s) = act := by
  unfold xat
  dsimp only
  rw [hc]
  exact hx
/-- an instruction without the heap -/
theorem y_go {g' : xGo} (hc : xc m pc = some (ins, nx, a, b, v)) (hx : xnext m ins nx a b v L st s = some (.inl g')) (k : yW S d m g' Q) : yW S d m (pc, L, st, s) Q := yW_go (yat_of (xat_of hc hx)) k
/-- fields -/
theorem y_getf {fs : List Value} (hc : xc m pc = some (.getfield i, nx, c, b, v)) (h1 : (c == 1000) = false) (hp : s.1[p]? = some (.inl (c, fs))) (hw : fs[b]? = some w) (k : yW S d m (nx, L, w :: st, s) Q) : yW S d m (pc, L, .ref p :: st, s) Q := by
  refine y_go hc ?_ k
  simp only [xnext]
  rw [if_neg (by simpa using h1), hp]
  simp [hw, xgo]
theorem y_getc (hc : xc m pc = some (.getfield i, nx, 1000, b, v)) (hw : xcf p b = some w) (k : yW S d m (nx, L, w :: st, s) Q) : yW S d m (pc, L, .ref p :: st, s) Q := by
  refine y_go hc ?_ k
  simp only [xnext]
  rw [if_pos trivial, hw]
  rfl
theorem y_putf {fs : List Value} (hc : xc m pc = some (.putfield i, nx, c, b, v)) (hp : s.1[p]? = some (.inl (c, fs))) (hb : b < fs.length) (hf : xfits c b w = true) (k : yW S d m (nx, L, st, (s.1.set p (.inl (c, fs.set b w)), s.2)) Q) : yW S d m (pc, L, w :: .ref p :: st, s) Q := by
  refine y_go hc ?_ k
  simp only [xnext]
  rw [hp]
  simp [hb, hf, xgo, xset]
abbrev xidx (k : Int32) (j : Nat) : Prop := ¬ k < 0 ∧ k.toNatClampNeg = j
theorem xidx_nI {j : Nat} (h : j < 2 ^ 31) : xidx (nI j) j := ⟨nI_pos h, nI_clamp h⟩
/-- arrays of ints, chars, bytes -/
theorem y_ald {t j : Nat} {l : List Int32} {k x : Int32} (hc : xc m pc = some (ins, nx, a, b, v)) (hi : (ins = .iaload ∧ t = 0) ∨ (ins = .caload ∧ t = 1) ∨ (ins = .baload ∧ t = 2)) (hp : s.1[p]? = some (.inr (.inl (t, l)))) (hk : xidx k j) (hx : l[j]? = some x) (kk : yW S d m (nx, L, .int x :: st, s) Q) : yW S d m (pc, L, .int k :: .ref p :: st, s) Q := by
  refine y_go hc ?_ kk
  obtain ⟨h0, rfl⟩ := hk
  rcases hi with ⟨rfl, rfl⟩ | ⟨rfl, rfl⟩ | ⟨rfl, rfl⟩ <;> simp only [xnext, xald] <;> rw [if_neg h0, hp] <;> simp [hx, xgo]
theorem y_aldc {t j : Nat} {l : List Value} {k : Int32} (hc : xc m pc = some (ins, nx, a, b, v)) (hi : (ins = .iaload ∧ t = 0) ∨ (ins = .caload ∧ t = 1) ∨ (ins = .baload ∧ t = 2)) (hp : s.1[p]? = none) (ht : xct p = some (t, l)) (hk : xidx k j) (hx : l[j]? = some w) (kk : yW S d m (nx, L, w :: st, s) Q) : yW S d m (pc, L, .int k :: .ref p :: st, s) Q := by
  refine y_go hc ?_ kk
  obtain ⟨h0, rfl⟩ := hk
  rcases hi with ⟨rfl, rfl⟩ | ⟨rfl, rfl⟩ | ⟨rfl, rfl⟩ <;> simp only [xnext, xald] <;> rw [if_neg h0, hp, ht] <;> simp [hx, xgo]
theorem y_ast {t j : Nat} {l : List Int32} {k x y : Int32} (hc : xc m pc = some (ins, nx, a, b, v)) (hi : (ins = .iastore ∧ t = 0) ∨ (ins = .castore ∧ t = 1) ∨ (ins = .bastore ∧ t = 2)) (hp : s.1[p]? = some (.inr (.inl (t, l)))) (hk : xidx k j) (hj : j < l.length) (hy : xnar t x = y) (kk : yW S d m (nx, L, st, (s.1.set p (.inr (.inl (t, l.set j y))), s.2)) Q) : yW S d m (pc, L, .int x :: .int k :: .ref p :: st, s) Q := by
  refine y_go hc ?_ kk
  obtain ⟨h0, rfl⟩ := hk
  subst hy
  rcases hi with ⟨rfl, rfl⟩ | ⟨rfl, rfl⟩ | ⟨rfl, rfl⟩ <;> simp only [xnext, xast] <;> rw [if_neg h0, hp] <;> simp [hj, xgo, xset]
theorem y_lald {t j : Nat} {l : List Int64} {k : Int32} {x : Int64} (hc : xc m pc = some (.laload, nx, a, b, v)) (hp : s.1[p]? = some (.inr (.inr (.inl (t, l))))) (hk : xidx k j) (hx : l[j]? = some x) (kk : yW S d m (nx, L, .long x :: st, s) Q) : yW S d m (pc, L, .int k :: .ref p :: st, s) Q := by
  refine y_go hc ?_ kk
  obtain ⟨h0, rfl⟩ := hk
  simp only [xnext]
  rw [if_neg h0, hp]
  simp [hx, xgo]
theorem y_last {t j : Nat} {l : List Int64} {k : Int32} {x : Int64} (hc : xc m pc = some (.lastore, nx, a, b, v)) (hp : s.1[p]? = some (.inr (.inr (.inl (t, l))))) (hk : xidx k j) (hj : j < l.length) (kk : yW S d m (nx, L, st, (s.1.set p (.inr (.inr (.inl (t, l.set j x)))), s.2)) Q) : yW S d m (pc, L, .long x :: .int k :: .ref p :: st, s) Q := by
  refine y_go hc ?_ kk
  obtain ⟨h0, rfl⟩ := hk
  simp only [xnext]
  rw [if_neg h0, hp]
  simp [hj, xgo, xset]
/-- arrays of references -/
theorem y_aald {t j q : Nat} {l : List (Option Nat)} {k : Int32} (hc : xc m pc = some (.aaload, nx, a, b, v)) (hp : s.1[p]? = some (.inr (.inr (.inr (t, l))))) (hk : xidx k j) (hx : l[j]? = some (some q)) (kk : yW S d m (nx, L, .ref q :: st, s) Q) : yW S d m (pc, L, .int k :: .ref p :: st, s) Q := by
  refine y_go hc ?_ kk
  obtain ⟨h0, rfl⟩ := hk
  simp only [xnext]
  rw [if_neg h0, hp]
  simp [hx, xgo, va_rf]
theorem y_aaldc {t j : Nat} {l : List Value} {k : Int32} (hc : xc m pc = some (.aaload, nx, a, b, v)) (hp : s.1[p]? = none) (ht : xct p = some (t, l)) (h4 : 4 ≤ t) (hk : xidx k j) (hx : l[j]? = some w) (kk : yW S d m (nx, L, w :: st, s) Q) : yW S d m (pc, L, .int k :: .ref p :: st, s) Q := by
  refine y_go hc ?_ kk
  obtain ⟨h0, rfl⟩ := hk
  simp only [xnext]
  rw [if_neg h0, hp, ht]
  simp [h4, hx, xgo]
theorem y_aast {t j q : Nat} {l : List (Option Nat)} {k : Int32} (hc : xc m pc = some (.aastore, nx, a, b, v)) (hp : s.1[p]? = some (.inr (.inr (.inr (t, l))))) (ht : t < 6) (hk : xidx k j) (hj : j < l.length) (hr : xrcv (xkc t) s (.ref q) = true) (kk : yW S d m (nx, L, st, (s.1.set p (.inr (.inr (.inr (t, l.set j (some q))))), s.2)) Q) : yW S d m (pc, L, .ref q :: .int k :: .ref p :: st, s) Q := by
  refine y_go hc ?_ kk
  obtain ⟨h0, rfl⟩ := hk
  simp only [xnext]
  rw [if_neg h0, hp]
  simp [hj, xgo, xset, ht, hr]
theorem y_alen {cl : xC} {n : Nat} (hc : xc m pc = some (.arraylength, nx, a, b, v)) (hp : s.1[p]? = some cl) (hn : xlen cl = some n) (kk : yW S d m (nx, L, .int (nI n) :: st, s) Q) : yW S d m (pc, L, .ref p :: st, s) Q := by
  refine y_go hc ?_ kk
  simp only [xnext]
  rw [hp]
  simp [hn, xgo]
theorem y_alenc {t n : Nat} {l : List Value} (hc : xc m pc = some (.arraylength, nx, a, b, v)) (hp : s.1[p]? = none) (ht : xct p = some (t, l)) (hn : l.length = n) (kk : yW S d m (nx, L, .int (nI n) :: st, s) Q) : yW S d m (pc, L, .ref p :: st, s) Q := by
  refine y_go hc ?_ kk
  simp only [xnext]
  rw [hp, ht]
  simp [hn, xgo]
/-- the script -/
theorem y_slen (hc : xc m pc = some (.arraylength, nx, a, b, v)) (hm : (m == xCI) = false) (hp : s.1[xSp]? = none) (ht : xct xSp = none) (kk : yW S d m (nx, L, .int (nI S.length) :: st, s) Q) : yW S d m (pc, L, .ref xSp :: st, s) Q := by
  refine yW_go ?_ kk
  unfold yat
  have h1 : xat m (pc, L, .ref xSp :: st, s) = none := xat_of hc (by simp only [xnext]; rw [hp, ht])
  rw [h1]
  simp only [yscr]
  rw [if_neg (fun h => by rw [h.1] at hm; simp at hm), hc]
  simp [xgo]
theorem y_sld {j : Nat} {k x : Int32} (hc : xc m pc = some (.iaload, nx, a, b, v)) (hm : (m == xCI) = false) (hp : s.1[xSp]? = none) (ht : xct xSp = none) (hk : xidx k j) (hx : S[j]? = some x) (kk : yW S d m (nx, L, .int x :: st, s) Q) : yW S d m (pc, L, .int k :: .ref xSp :: st, s) Q := by
  refine yW_go ?_ kk
  obtain ⟨h0, rfl⟩ := hk
  unfold yat
  have h1 : xat m (pc, L, .int k :: .ref xSp :: st, s) = none := xat_of hc (by simp only [xnext, xald]; rw [if_neg h0, hp, ht])
  rw [h1]
  simp only [yscr]
  rw [if_neg (fun h => by rw [h.1] at hm; simp at hm), hc]
  simp [xgo, h0, hx]
/-- String.checkIndex's inner call -/
theorem y_chk {k n : Int32} (hx : xat xCI (2, L, [.int n, .int k], s) = none) (h0 : ¬ k < 0) (h1 : k < n) (kk : yW S d xCI (8, L, [.int k], s) Q) : yW S d xCI (2, L, [.int n, .int k], s) Q := by
  refine yW_go ?_ kk
  unfold yat
  rw [hx]
  simp only [yscr]
  simp [xgo, h0, h1]
/-- new cells -/
theorem y_new (hc : xc m pc = some (.new i, nx, a, b, v)) (h1 : decide (2000 ≤ a) = false) (hb : s.1.length < xB) {n : Nat} (hn : s.1.length = n) {fs : List Value} (hf : xdef a = fs) {k : Nat} (hk : fs.length = k) (kk : yW S d m (nx, L, .ref n :: st, (s.1 ++ [.inl (a, fs)], s.2.1 + 1, s.2.2 + k)) Q) : yW S d m (pc, L, st, s) Q := by
  refine y_go hc ?_ kk
  simp only [xnext]
  rw [if_neg (by simpa using h1), if_pos hb]
  subst hn; subst hf; subst hk
  rfl
theorem y_newa {n : Int32} {j q : Nat} (hc : xc m pc = some (ins, nx, a, b, v)) (hi : (∃ t, ins = .newarray t) ∨ ∃ t, ins = .anewarray t) (hk : xidx n j) (h5 : j ≤ 100000) (hb : s.1.length < xB) (hn : s.1.length = q) (kk : yW S d m (nx, L, .ref q :: st, (s.1 ++ [xzero a j], s.2.1 + 1, s.2.2 + j)) Q) : yW S d m (pc, L, .int n :: st, s) Q := by
  obtain ⟨h0, rfl⟩ := hk
  have h6 : ¬ (n < 0 ∨ (100000 : Int32) < n ∨ xB ≤ s.1.length) := by
    rintro (h | h | h)
    · exact h0 h
    · obtain ⟨j, hj, rfl⟩ := nI_of h0
      rw [nI_clamp hj] at h5
      exact (nI_nlt (a := 100000) (b := j) h5 (by decide)) h
    · omega
  refine y_go hc ?_ kk
  subst hn
  rcases hi with ⟨t, rfl⟩ | ⟨t, rfl⟩ <;> simp only [xnext, x1i] <;> rw [if_neg h6] <;> rfl
theorem y_multi {n n2 : Int32} {j j2 q : Nat} {x9 : Nat} (hc : xc m pc = some (.multianewarray i x9, nx, a, b, v)) (hk : xidx n j) (h5 : j ≤ 100000) (hk2 : xidx n2 j2) (h52 : j2 ≤ 100000) (hb : s.1.length + j < xB) (hn : s.1.length = q) (kk : yW S d m (nx, L, .ref q :: st, (s.1 ++ (.inr (.inr (.inr (b, (List.range j).map (fun z => some (q + 1 + z))))) :: List.replicate j (xzero a j2)), s.2.1 + 1 + j, s.2.2 + j + j * j2)) Q) : yW S d m (pc, L, .int n2 :: .int n :: st, s) Q := by
  obtain ⟨h0, rfl⟩ := hk
  obtain ⟨h02, rfl⟩ := hk2
  have big : ∀ x : Int32, ¬ x < 0 → x.toNatClampNeg ≤ 100000 → ¬ (100000 : Int32) < x := by
    intro x hx h9 h
    obtain ⟨j, hj, rfl⟩ := nI_of hx
    rw [nI_clamp hj] at h9
    exact (nI_nlt (a := 100000) (b := j) h9 (by decide)) h
  refine y_go hc ?_ kk
  simp only [xnext, x2i]
  subst hn
  rw [if_neg]
  · rfl
  · rintro (h | h | h | h | h)
    · exact h0 h
    · exact big n h0 h5 h
    · exact h02 h
    · exact big n2 h02 h52 h
    · omega
/-- branches -/
theorem y_if_eq {x : Int32} {off : Int} (hc : xc m pc = some (.ifCond .eq off, nx, a, b, v)) (kt : x = 0 → yW S d m (a, L, st, s) Q) (kf : ¬ x = 0 → yW S d m (nx, L, st, s) Q) : yW S d m (pc, L, .int x :: st, s) Q := by
  by_cases h : x = 0
  · exact y_go hc (by simp only [xnext, x1i, xif]; rw [if_pos h]; rfl) (kt h)
  · exact y_go hc (by simp only [xnext, x1i, xif]; rw [if_neg h]; rfl) (kf h)
theorem y_if_ne {x : Int32} {off : Int} (hc : xc m pc = some (.ifCond .ne off, nx, a, b, v)) (kt : ¬ x = 0 → yW S d m (a, L, st, s) Q) (kf : x = 0 → yW S d m (nx, L, st, s) Q) : yW S d m (pc, L, .int x :: st, s) Q := by
  by_cases h : x = 0
  · exact y_go hc (by simp only [xnext, x1i, xif]; rw [if_pos h]; rfl) (kf h)
  · exact y_go hc (by simp only [xnext, x1i, xif]; rw [if_neg h]; rfl) (kt h)
theorem y_if_lt {x : Int32} {off : Int} (hc : xc m pc = some (.ifCond .lt off, nx, a, b, v)) (kt : x < 0 → yW S d m (a, L, st, s) Q) (kf : ¬ x < 0 → yW S d m (nx, L, st, s) Q) : yW S d m (pc, L, .int x :: st, s) Q := by
  by_cases h : x < 0
  · exact y_go hc (by simp only [xnext, x1i, xif]; rw [if_pos h]; rfl) (kt h)
  · exact y_go hc (by simp only [xnext, x1i, xif]; rw [if_neg h]; rfl) (kf h)
theorem y_if_ge {x : Int32} {off : Int} (hc : xc m pc = some (.ifCond .ge off, nx, a, b, v)) (kt : ¬ x < 0 → yW S d m (a, L, st, s) Q) (kf : x < 0 → yW S d m (nx, L, st, s) Q) : yW S d m (pc, L, .int x :: st, s) Q := by
  by_cases h : x < 0
  · exact y_go hc (by simp only [xnext, x1i, xif]; rw [if_pos h]; rfl) (kf h)
  · exact y_go hc (by simp only [xnext, x1i, xif]; rw [if_neg h]; rfl) (kt h)
theorem y_if_gt {x : Int32} {off : Int} (hc : xc m pc = some (.ifCond .gt off, nx, a, b, v)) (kt : 0 < x → yW S d m (a, L, st, s) Q) (kf : ¬ 0 < x → yW S d m (nx, L, st, s) Q) : yW S d m (pc, L, .int x :: st, s) Q := by
  by_cases h : 0 < x
  · exact y_go hc (by simp only [xnext, x1i, xif]; rw [if_pos h]; rfl) (kt h)
  · exact y_go hc (by simp only [xnext, x1i, xif]; rw [if_neg h]; rfl) (kf h)
theorem y_if_le {x : Int32} {off : Int} (hc : xc m pc = some (.ifCond .le off, nx, a, b, v)) (kt : ¬ 0 < x → yW S d m (a, L, st, s) Q) (kf : 0 < x → yW S d m (nx, L, st, s) Q) : yW S d m (pc, L, .int x :: st, s) Q := by
  by_cases h : 0 < x
  · exact y_go hc (by simp only [xnext, x1i, xif]; rw [if_pos h]; rfl) (kf h)
  · exact y_go hc (by simp only [xnext, x1i, xif]; rw [if_neg h]; rfl) (kt h)
theorem y_ic_eq {x y : Int32} {off : Int} (hc : xc m pc = some (.if_icmp .eq off, nx, a, b, v)) (kt : x = y → yW S d m (a, L, st, s) Q) (kf : ¬ x = y → yW S d m (nx, L, st, s) Q) : yW S d m (pc, L, .int y :: .int x :: st, s) Q := by
  by_cases h : x = y
  · exact y_go hc (by simp only [xnext, x2i, xif]; rw [if_pos h]; rfl) (kt h)
  · exact y_go hc (by simp only [xnext, x2i, xif]; rw [if_neg h]; rfl) (kf h)
theorem y_ic_ne {x y : Int32} {off : Int} (hc : xc m pc = some (.if_icmp .ne off, nx, a, b, v)) (kt : ¬ x = y → yW S d m (a, L, st, s) Q) (kf : x = y → yW S d m (nx, L, st, s) Q) : yW S d m (pc, L, .int y :: .int x :: st, s) Q := by
  by_cases h : x = y
  · exact y_go hc (by simp only [xnext, x2i, xif]; rw [if_pos h]; rfl) (kf h)
  · exact y_go hc (by simp only [xnext, x2i, xif]; rw [if_neg h]; rfl) (kt h)
theorem y_ic_lt {x y : Int32} {off : Int} (hc : xc m pc = some (.if_icmp .lt off, nx, a, b, v)) (kt : x < y → yW S d m (a, L, st, s) Q) (kf : ¬ x < y → yW S d m (nx, L, st, s) Q) : yW S d m (pc, L, .int y :: .int x :: st, s) Q := by
  by_cases h : x < y
  · exact y_go hc (by simp only [xnext, x2i, xif]; rw [if_pos h]; rfl) (kt h)
  · exact y_go hc (by simp only [xnext, x2i, xif]; rw [if_neg h]; rfl) (kf h)
theorem y_ic_ge {x y : Int32} {off : Int} (hc : xc m pc = some (.if_icmp .ge off, nx, a, b, v)) (kt : ¬ x < y → yW S d m (a, L, st, s) Q) (kf : x < y → yW S d m (nx, L, st, s) Q) : yW S d m (pc, L, .int y :: .int x :: st, s) Q := by
  by_cases h : x < y
  · exact y_go hc (by simp only [xnext, x2i, xif]; rw [if_pos h]; rfl) (kf h)
  · exact y_go hc (by simp only [xnext, x2i, xif]; rw [if_neg h]; rfl) (kt h)
theorem y_ic_gt {x y : Int32} {off : Int} (hc : xc m pc = some (.if_icmp .gt off, nx, a, b, v)) (kt : y < x → yW S d m (a, L, st, s) Q) (kf : ¬ y < x → yW S d m (nx, L, st, s) Q) : yW S d m (pc, L, .int y :: .int x :: st, s) Q := by
  by_cases h : y < x
  · exact y_go hc (by simp only [xnext, x2i, xif]; rw [if_pos h]; rfl) (kt h)
  · exact y_go hc (by simp only [xnext, x2i, xif]; rw [if_neg h]; rfl) (kf h)
theorem y_ic_le {x y : Int32} {off : Int} (hc : xc m pc = some (.if_icmp .le off, nx, a, b, v)) (kt : ¬ y < x → yW S d m (a, L, st, s) Q) (kf : y < x → yW S d m (nx, L, st, s) Q) : yW S d m (pc, L, .int y :: .int x :: st, s) Q := by
  by_cases h : y < x
  · exact y_go hc (by simp only [xnext, x2i, xif]; rw [if_pos h]; rfl) (kf h)
  · exact y_go hc (by simp only [xnext, x2i, xif]; rw [if_neg h]; rfl) (kt h)
/-- division by a number that isn't 0 -/
theorem y_div {x y z : Int32} (hc : xc m pc = some (ins, nx, a, b, v)) (hy : (y == 0) = false) (hz : (ins = .idiv ∧ x / y = z) ∨ (ins = .irem ∧ x - x / y * y = z)) (kk : yW S d m (nx, L, .int z :: st, s) Q) : yW S d m (pc, L, .int y :: .int x :: st, s) Q := by
  have hy0 : ¬ y = 0 := by simpa using hy
  refine y_go hc ?_ kk
  rcases hz with ⟨rfl, rfl⟩ | ⟨rfl, rfl⟩ <;> simp only [xnext, x2i] <;> rw [if_neg hy0] <;> rfl
def imin (x y : Int32) : Int32 := if y < x then y else x
def imax (x y : Int32) : Int32 := if x < y then y else x
/-- Math.min, Math.max -/
theorem y_min {x y z : Int32} (hc : xc m pc = some (.invokestatic i, nx, 9001, b, v)) (h8 : xcat st ≤ 8) (hz : imin x y = z) (kk : yW S d m (nx, L, .int z :: st, s) Q) : yW S d m (pc, L, .int y :: .int x :: st, s) Q := by
  refine y_go hc ?_ kk
  subst hz
  simp only [xnext, x2i]
  rw [if_neg (by omega), if_pos trivial, if_neg (by omega)]
  rfl
theorem y_max {x y z : Int32} (hc : xc m pc = some (.invokestatic i, nx, 9002, b, v)) (h8 : xcat st ≤ 8) (hz : imax x y = z) (kk : yW S d m (nx, L, .int z :: st, s) Q) : yW S d m (pc, L, .int y :: .int x :: st, s) Q := by
  refine y_go hc ?_ kk
  subst hz
  simp only [xnext, x2i]
  rw [if_neg (by omega), if_neg (by omega), if_pos trivial, if_neg (by omega)]
  rfl
theorem y_objinit (hc : xc m pc = some (.invokespecial i, nx, 9003, b, v)) (h8 : xcat st ≤ 8) (kk : yW S d m (nx, L, st, s) Q) : yW S d m (pc, L, .ref p :: st, s) Q := by
  refine y_go hc ?_ kk
  simp only [xnext]
  rw [if_pos trivial, if_neg (by omega)]
  rfl
/-- System.arraycopy of ints, chars, bytes -/
theorem y_copy {t q n k j : Nat} {f g : List Int32} {x y z : Int32} (hc : xc m pc = some (.invokestatic i, nx, 9000, b, v)) (h8 : xcat st ≤ 8) (hp : s.1[p]? = some (.inr (.inl (t, f)))) (hq : s.1[q]? = some (.inr (.inl (t, g)))) (hx : xidx x n) (hy : xidx y k) (hz : xidx z j) (h1 : j + n ≤ f.length) (h2 : k + n ≤ g.length)
    (kk : yW S d m (nx, L, st, (s.1.set q (.inr (.inl (t, g.take k ++ ((f.drop j).take n ++ g.drop (k + n))))), s.2)) Q) : yW S d m (pc, L, .int x :: .int y :: .ref q :: .int z :: .ref p :: st, s) Q := by
  refine y_go hc ?_ kk
  obtain ⟨x0, rfl⟩ := hx
  obtain ⟨y0, rfl⟩ := hy
  obtain ⟨z0, rfl⟩ := hz
  simp only [xnext]
  rw [if_pos trivial]
  simp only [xcopy]
  rw [if_neg (by rintro (h | h | h | h) <;> first | contradiction | omega), hp, hq]
  simp [h1, h2, xgo, xset]
/-- ends -/
theorem y_ireturn {x : Int32} {ty : FieldType} (hc : xc m pc = some (.ireturn, nx, a, b, v)) (ht : (xm m).2.2.2.1 = some ty) (hn : narrow ty (.int x) = .int x) (k : Q (.inl (some (.int x)), s)) : yW S d m (pc, L, [.int x], s) Q := by
  refine yW_end (yat_of (xat_of hc ?_)) k
  simp only [xnext]
  rw [ht]
  simp [hn]
theorem y_end {r : xR} (hc : xc m pc = some (ins, nx, a, b, v)) (hx : xnext m ins nx a b v L st s = some (.inr (.inr r))) (k : Q r) : yW S d m (pc, L, st, s) Q := yW_end (yat_of (xat_of hc hx)) k
theorem y_throw (hc : xc m pc = some (.new i, nx, a, b, v)) (h1 : decide (2000 ≤ a) = true) {E : String} (hE : xen (a - 2000) = E) (k : Q (.inr E, s.1, s.2.1 + 1, s.2.2 + 6)) : yW S d m (pc, L, [], s) Q := by
  refine y_end hc ?_ k
  subst hE
  simp only [xnext]
  rw [if_pos (by simpa using h1), if_pos trivial]
/-- calls -/
theorem y_callS {args rest : List Value} (hc : xc m pc = some (.invokestatic i, nx, a, b, v)) (h9 : (a == 9000 || (a == 9001 || a == 9002)) = false) (hb : b ≤ st.length) (h8 : xcat (st.drop b) ≤ 8) (ha : (st.take b).reverse = args) (hr : st.drop b = rest) {Q1 : xR → Prop} (hT : yT S d a args s Q1)
    (k : ∀ q, Q1 q → (∃ w, q.1 = .inl (some w) ∧ yW S d m (nx, L, w :: rest, q.2) Q) ∨ (q.1 = .inl none ∧ yW S d m (nx, L, rest, q.2) Q) ∨ ∃ E, q.1 = .inr E ∧ ((∃ nx' j, xh m pc E = some (nx', j) ∧ j < L.length ∧ yW S d m (nx', xput L j xno, [], q.2) Q) ∨ (xh m pc E = none ∧ Q q))) : yW S d m (pc, L, st, s) Q := by
  obtain ⟨q, hq, hQ⟩ := hT
  subst ha; subst hr
  simp only [Bool.or_eq_false_iff, beq_eq_false_iff_ne] at h9
  refine yW_call (a := a) (nx := nx) (L := L) (s := s) (yat_of (xat_of hc (act := some (.inr (.inl (a, (st.take b).reverse, nx, L, st.drop b, s)))) ?_)) hq (fun w hw => ?_) (fun hw => ?_) (fun E hE => ?_)
  · simp only [xnext]
    rw [if_neg h9.1, if_neg h9.2.1, if_neg h9.2.2]
    unfold xcall
    rw [if_pos ⟨hb, h8, rfl⟩]
  all_goals
    rcases k q hQ with ⟨w', e, h⟩ | ⟨e, h⟩ | ⟨E', e, h⟩
  · rw [hw] at e; cases e; exact h
  · rw [hw] at e; cases e
  · rw [hw] at e; cases e
  · rw [hw] at e; cases e
  · exact h
  · rw [hw] at e; cases e
  · rw [hE] at e; cases e
  · rw [hE] at e; cases e
  · rw [hE] at e; cases e; exact h
theorem y_callV {args rest : List Value} (hc : xc m pc = some (.invokevirtual i, nx, a, b, v)) (hb : b ≤ st.length) (h8 : xcat (st.drop b) ≤ 8) (ha : (st.take b).reverse = args) (hr : st.drop b = rest) (hrc : xrcv (xmc a) s (args.headD .null) = true) {Q1 : xR → Prop} (hT : yT S d a args s Q1)
    (k : ∀ q, Q1 q → (∃ w, q.1 = .inl (some w) ∧ yW S d m (nx, L, w :: rest, q.2) Q) ∨ (q.1 = .inl none ∧ yW S d m (nx, L, rest, q.2) Q) ∨ ∃ E, q.1 = .inr E ∧ ((∃ nx' j, xh m pc E = some (nx', j) ∧ j < L.length ∧ yW S d m (nx', xput L j xno, [], q.2) Q) ∨ (xh m pc E = none ∧ Q q))) : yW S d m (pc, L, st, s) Q := by
  obtain ⟨q, hq, hQ⟩ := hT
  subst ha; subst hr
  refine yW_call (a := a) (nx := nx) (L := L) (s := s) (yat_of (xat_of hc (act := some (.inr (.inl (a, (st.take b).reverse, nx, L, st.drop b, s)))) ?_)) hq (fun w hw => ?_) (fun hw => ?_) (fun E hE => ?_)
  · simp only [xnext]
    unfold xcall
    rw [if_pos ⟨hb, h8, hrc⟩]
  all_goals
    rcases k q hQ with ⟨w', e, h⟩ | ⟨e, h⟩ | ⟨E', e, h⟩
  · rw [hw] at e; cases e; exact h
  · rw [hw] at e; cases e
  · rw [hw] at e; cases e
  · rw [hw] at e; cases e
  · exact h
  · rw [hw] at e; cases e
  · rw [hE] at e; cases e
  · rw [hE] at e; cases e
  · rw [hE] at e; cases e; exact h
theorem y_callI {args rest : List Value} (hc : xc m pc = some (.invokespecial i, nx, a, b, v)) (h9 : (a == 9003) = false) (hb : b ≤ st.length) (h8 : xcat (st.drop b) ≤ 8) (ha : (st.take b).reverse = args) (hr : st.drop b = rest) (hrc : xrq (if xmc a = 5000 then 2 else 1) a s (args.headD .null) = true) {Q1 : xR → Prop} (hT : yT S d a args s Q1)
    (k : ∀ q, Q1 q → (∃ w, q.1 = .inl (some w) ∧ yW S d m (nx, L, w :: rest, q.2) Q) ∨ (q.1 = .inl none ∧ yW S d m (nx, L, rest, q.2) Q) ∨ ∃ E, q.1 = .inr E ∧ ((∃ nx' j, xh m pc E = some (nx', j) ∧ j < L.length ∧ yW S d m (nx', xput L j xno, [], q.2) Q) ∨ (xh m pc E = none ∧ Q q))) : yW S d m (pc, L, st, s) Q := by
  obtain ⟨q, hq, hQ⟩ := hT
  subst ha; subst hr
  refine yW_call (a := a) (nx := nx) (L := L) (s := s) (yat_of (xat_of hc (act := some (.inr (.inl (a, (st.take b).reverse, nx, L, st.drop b, s)))) ?_)) hq (fun w hw => ?_) (fun hw => ?_) (fun E hE => ?_)
  · simp only [xnext]
    rw [if_neg (by simpa using h9)]
    unfold xcall
    rw [if_pos ⟨hb, h8, hrc⟩]
  all_goals
    rcases k q hQ with ⟨w', e, h⟩ | ⟨e, h⟩ | ⟨E', e, h⟩
  · rw [hw] at e; cases e; exact h
  · rw [hw] at e; cases e
  · rw [hw] at e; cases e
  · rw [hw] at e; cases e
  · exact h
  · rw [hw] at e; cases e
  · rw [hE] at e; cases e
  · rw [hE] at e; cases e
  · rw [hE] at e; cases e; exact h
end YL
