/-! A RUN OVER THE SCRIPT TOO: two instructions more, the script's length and its ints. -/
def yscr (S : List Int32) (m : Nat) (g : xGo) : Option xA := if m = xCI ∧ g.1 = 2 then (match g.2.2.1 with
  | [.int n, .int i] => if ¬ i < 0 ∧ i < n then xgo 8 g.2.1 [.int i] g.2.2.2 else none
  | _ => none) else match xc m g.1 with
  | some (i, nx, _, _, _) => (match i with
    | .arraylength => (match g.2.2.1 with
      | .ref p :: r => if p = xSp then xgo nx g.2.1 (.int (nI S.length) :: r) g.2.2.2 else none
      | _ => none)
    | .iaload => (match g.2.2.1 with
      | .int k :: .ref p :: r => if p = xSp ∧ ¬ k < 0 then (match S[k.toNatClampNeg]? with
        | some x => xgo nx g.2.1 (.int x :: r) g.2.2.2
        | none => none) else none
      | _ => none)
    | _ => none)
  | none => none
def yat (S : List Int32) (m : Nat) (g : xGo) : Option xA := match xat m g with
  | some act => some act
  | none => yscr S m g
def yrun (S : List Int32) (C : Nat → List Value → xS → xR → Prop) (m : Nat) : Nat → xGo → xR → Prop
  | 0, _, _ => False
  | n + 1, g, r => xstep C m g.1 (fun g' => yrun S C m n g' r) r (yat S m g)
/-- the method m, called with args at s, comes to r, over the script S; at most d calls are open at once -/
def yE (S : List Int32) : Nat → Nat → List Value → xS → xR → Prop
  | 0 => fun _ _ _ _ => False
  | d + 1 => fun m args s r => (xargs args).length ≤ (xm m).2.2.1 ∧ (∀ E, r.1 = .inr E → xmt m = true) ∧ ∃ n, yrun S (yE S d) m n (0, xentry args (xm m).2.2.1, [], s) r
theorem yscr_ok {S : List Int32} {m : Nat} {g : xGo} {act : xA} (hg : xgok g) (h : yscr S m g = some act) : ∃ g', act = .inl g' ∧ g'.2.2.2 = g.2.2.2 ∧ xgok g' := by
  obtain ⟨pc, L, st, σ⟩ := g
  unfold yscr at h
  split at h
  · split at h
    · rename_i n i e
      dsimp only at e
      subst e
      split at h
      · cases h
        exact ⟨_, rfl, rfl, hg.1, hg.2.1, hg.2.2.tl⟩
      · cases h
    · cases h
  split at h
  · rename_i i nx a b v hc
    split at h
    · split at h
      · rename_i p r e
        split at h
        · cases h
          dsimp only at e
          subst e
          exact ⟨_, rfl, rfl, hg.1, hg.2.1, xlok.cons (xvok.int _ _) hg.2.2.tl⟩
        · cases h
      · cases h
    · split at h
      · rename_i k p r e
        dsimp only at e
        subst e
        split at h
        · split at h
          · cases h
            exact ⟨_, rfl, rfl, hg.1, hg.2.1, xlok.cons (xvok.int _ _) hg.2.2.tl.tl⟩
          · cases h
        · cases h
      · cases h
    · cases h
  · cases h
theorem yat_ok (hT : xtabs) {S : List Int32} {m : Nat} {g : xGo} {act : xA} (hg : xgok g) (h : yat S m g = some act) : xaok g.2.2.2 act := by
  unfold yat at h
  split at h
  · rename_i act' ha
    cases h
    exact xat_ok hT hg ha
  · obtain ⟨g', rfl, e, k⟩ := yscr_ok hg h
    exact ⟨k, by rw [e]; exact xle.rf _⟩
theorem yrun_ok (hT : xtabs) {S : List Int32} {C : Nat → List Value → xS → xR → Prop} (hC : xEok C) {m : Nat} : ∀ (n : Nat) (g : xGo) (r : xR), xgok g → yrun S C m n g r → xrok g.2.2.2 r
  | 0, _, _, _, h => h.elim
  | n + 1, g, r, hg, h => by
    simp only [yrun] at h
    cases hact : yat S m g with
    | none => rw [hact] at h; exact h.elim
    | some act =>
      rw [hact] at h
      have ha := yat_ok hT hg hact
      match act, h, ha with
      | .inl g', h, ha => exact (yrun_ok hT hC n g' r ha.1 h).tr ha.2
      | .inr (.inl (a, args, nx, L, rest, s')), ⟨q, h1, h2⟩, ⟨e, k1, k2, k3⟩ =>
        subst e
        have hq := hC _ _ _ _ hg.1 k1 h1
        obtain ⟨o, s2⟩ := q
        have hle : g.2.2.2.1.length ≤ s2.1.length := hq.2.1.1
        cases o with
        | inl w => cases w with
          | none => exact (yrun_ok hT hC n _ r ⟨hq.1, k2.mono hle, k3.mono hle⟩ h2).tr hq.2.1
          | some w => exact (yrun_ok hT hC n _ r ⟨hq.1, k2.mono hle, xlok.cons (hq.2.2 w rfl) (k3.mono hle)⟩ h2).tr hq.2.1
        | inr E =>
          simp only [xcont] at h2
          cases hx : xh m g.1 E with
          | none =>
            rw [hx] at h2
            rw [h2]
            exact ⟨hq.1, hq.2.1, fun _ z => by cases z⟩
          | some z =>
            rw [hx] at h2
            exact (yrun_ok hT hC n _ r ⟨hq.1, (k2.mono hle).put (xvok.no _) _, xlok.nil _⟩ h2.2).tr hq.2.1
      | .inr (.inr r0), h, ha =>
        have e : r = r0 := h
        rw [e]; exact ha
theorem yE_ok (hT : xtabs) {S : List Int32} : ∀ d, xEok (yE S d)
  | 0 => fun _ _ _ _ _ _ h => h.elim
  | d + 1 => fun m args s r hs ha ⟨_, _, n, h⟩ => yrun_ok hT (yE_ok hT d) n _ r ⟨hs, ha.entry, xlok.nil _⟩ h
/-! which instruction calls, which ends -/
theorem x_inv_call {M : Nat} {i : Instr} {nx a b : Nat} {v : Value} {L st : List Value} {σ : xS} {ca : xCa} (h : xnext M i nx a b v L st σ = some (.inr (.inl ca))) :
    (∃ k, i = .invokevirtual k ∧ xcall 1 nx a b L st σ = some (.inr (.inl ca))) ∨ (∃ k, i = .invokestatic k ∧ a ≠ 9000 ∧ a ≠ 9001 ∧ a ≠ 9002 ∧ xcall 0 nx a b L st σ = some (.inr (.inl ca))) ∨ (∃ k, i = .invokespecial k ∧ a ≠ 9003 ∧ xcall (if xmc a = 5000 then 2 else 1) nx a b L st σ = some (.inr (.inl ca))) := by
  cases i
  case invokevirtual k => exact Or.inl ⟨k, rfl, h⟩
  case invokestatic k =>
    simp only [xnext] at h
    split at h
    · exfalso
      unfold xcopy xgo at h
      repeat' split at h
      all_goals cases h
    · split at h
      · exfalso
        unfold x2i at h
        split at h
        · dsimp only at h
          split at h
          · cases h
          · cases h
        · cases h
      · split at h
        · exfalso
          unfold x2i at h
          split at h
          · dsimp only at h
            split at h
            · cases h
            · cases h
          · cases h
        · exact Or.inr (Or.inl ⟨k, rfl, ‹_›, ‹_›, ‹_›, h⟩)
  case invokespecial k =>
    simp only [xnext] at h
    split at h
    · exfalso
      unfold xgo at h
      repeat' split at h
      all_goals cases h
    · exact Or.inr (Or.inr ⟨k, rfl, ‹_›, h⟩)
  all_goals
    exfalso
    simp only [xnext, xgo, x1i, x2i, x2l, x2d, xif, xload, xstore, xald, xast] at h
    repeat' split at h
    all_goals cases h
theorem x_inv_end {M : Nat} {i : Instr} {nx a b : Nat} {v : Value} {L st : List Value} {σ : xS} {r : xR} (h : xnext M i nx a b v L st σ = some (.inr (.inr r))) :
    (∃ k, i = .new k ∧ 2000 ≤ a ∧ st = [] ∧ r = (.inr (xen (a - 2000)), σ.1, σ.2.1 + 1, σ.2.2 + 6)) ∨
    (∃ x ty, i = .ireturn ∧ st = [.int x] ∧ (xm M).2.2.2.1 = some ty ∧ narrow ty (.int x) = .int x ∧ r = (.inl (some (.int x)), σ)) ∨
    (∃ x, i = .lreturn ∧ st = [.long x] ∧ r = (.inl (some (.long x)), σ)) ∨
    (∃ x, i = .dreturn ∧ st = [.double x] ∧ r = (.inl (some (.double x)), σ)) ∨
    (∃ x, i = .areturn ∧ st = [.ref x] ∧ r = (.inl (some (.ref x)), σ)) ∨
    (i = .return_ ∧ st = [] ∧ r = (.inl none, σ)) := by
  cases i
  case new k =>
    simp only [xnext] at h
    split at h
    · split at h
      · cases h
        exact Or.inl ⟨k, rfl, ‹_›, ‹_›, rfl⟩
      · cases h
    · exfalso
      unfold xgo at h
      repeat' split at h
      all_goals cases h
  case ireturn =>
    simp only [xnext] at h
    split at h
    · split at h
      · rename_i ty hty
        split at h
        · rename_i hn
          cases h
          exact Or.inr (Or.inl ⟨_, ty, rfl, rfl, hty, hn, rfl⟩)
        · cases h
      · cases h
    · cases h
  case lreturn =>
    simp only [xnext] at h
    split at h
    · cases h
      exact Or.inr (Or.inr (Or.inl ⟨_, rfl, rfl, rfl⟩))
    · cases h
  case dreturn =>
    simp only [xnext] at h
    split at h
    · cases h
      exact Or.inr (Or.inr (Or.inr (Or.inl ⟨_, rfl, rfl, rfl⟩)))
    · cases h
  case areturn =>
    simp only [xnext] at h
    split at h
    · cases h
      exact Or.inr (Or.inr (Or.inr (Or.inr (Or.inl ⟨_, rfl, rfl, rfl⟩))))
    · cases h
  case return_ =>
    simp only [xnext] at h
    split at h
    · cases h
      exact Or.inr (Or.inr (Or.inr (Or.inr (Or.inr ⟨rfl, rfl, rfl⟩))))
    · cases h
  case invokevirtual k => exact (xcall_end h).elim
  case invokestatic k =>
    exfalso
    simp only [xnext] at h
    split at h
    · unfold xcopy xgo at h
      repeat' split at h
      all_goals cases h
    · split at h
      · unfold x2i at h
        split at h
        · dsimp only at h
          split at h
          · cases h
          · cases h
        · cases h
      · split at h
        · unfold x2i at h
          split at h
          · dsimp only at h
            split at h
            · cases h
            · cases h
          · cases h
        · exact xcall_end h
  case invokespecial k =>
    exfalso
    simp only [xnext] at h
    split at h
    · unfold xgo at h
      repeat' split at h
      all_goals cases h
    · exact xcall_end h
  all_goals
    exfalso
    simp only [xnext, xgo, x1i, x2i, x2l, x2d, xif, xload, xstore, xald, xast] at h
    repeat' split at h
    all_goals cases h
