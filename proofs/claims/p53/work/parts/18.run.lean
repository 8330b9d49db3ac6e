/-! THE RUN: what the interpreter computes, the machine does. -/
def xgood : Prop := (∀ m pc i nx a b v, xc m pc = some (i, nx, a, b, v) → xok m pc i nx a b v) ∧ xtabs ∧ xct_ok ∧ xrc_ok ∧ xh_ok ∧ (∀ a, xmt a = true → (xm a).2.2.2.2 = []) ∧ ∀ m, plainName (xm m).1.cls = true
section RUN
variable {p : Program} {l : Launch} {e : Env} {R : Room} {s : State} {m : MethodId} {args : Array Value} {below : List Frame} {meth : Method} {c : Code} {Q : State → Prop}
variable {A : Nat → Prop} {D : va_G} {cA : Nat → ClassId} {sA ρ0 : Nat → Nat} {M : Nat} {σ0 : xS}
/-- what a run owes at its end: the law's, or a method's; an end by 'throw' -/
def x_ends (A : Nat → Prop) (D : va_G) (cA : Nat → ClassId) (sA ρ0 : Nat → Nat) (σ0 : xS) (r : xR) (p : Program) (l : Launch) (e : Env) (R : Room) (s : State) (m : MethodId) (args : Array Value) (below : List Frame) (meth : Method) (c : Code) (Q : State → Prop) : Prop :=
  (∀ (H : Heap) (locs : List Loc) (cells slots : Nat) (g : JFrame), (∀ q ∈ locs, A q.base) → cells + σ0.2.1 = r.2.2.1 → slots + σ0.2.2 = r.2.2.2 → (∀ (locs' : List Loc) (c' n' : Nat) (free : Addr → Prop), (∀ q ∈ locs', free q.base) → W p l e R s m args below meth c H locs' c' n' (MQ below (x_Q A D cA sA ρ0 σ0 r) args s c' n' free) g) → W p l e R s m args below meth c H locs cells slots Q g) ∧
  ∀ E, r.1 = .inr E → ∃ mc ms, mc + σ0.2.1 = r.2.2.1 ∧ ms + σ0.2.2 = r.2.2.2 ∧ Q = vx_MQ below (x_Q A D cA sA ρ0 σ0 r) (x_XC A D cA sA ρ0 σ0 r) args s mc ms A
theorem x_retQ {ρ : Nat → Nat} {H : Heap} {locs : List Loc} {ls : Array Slot} {L : List Value} {σ : xS} (hat : x_at A D cA sA ρ M s H locs ls L σ) (hag : x_ag σ0.1.length ρ0 ρ) {w : Option Value} {r : xR} (hr : r = (.inl w, σ)) {t : State} (ht : t.heap = H) : x_Q A D cA sA ρ0 σ0 r args s (.returned (w.map (x_v ρ))) t := by
  subst hr
  refine ⟨⟨w, ρ, rfl, rfl, hag, ?_⟩, hat.2.2.1.F ht⟩
  rw [ht]
  exact ⟨hat.1, hat.2.1, hat.2.2.2.2⟩
theorem x_throw {ρ : Nat → Nat} {H : Heap} {locs : List Loc} {cells slots : Nat} {ls : Array Slot} {L : List Value} {σ : xS} {pc k : Nat} {E : String} {r : xR} (hl : l.stackTraces = false) (F : x_F A D cA sA M p s m args meth c) (hat : x_at A D cA sA ρ M s H locs ls L σ) (hag : x_ag σ0.1.length ρ0 ρ) (ht : xthr M pc k E) (hr : r = (.inr E, σ.1, σ.2.1 + 1, σ.2.2 + 6))
    (hc : cells + σ0.2.1 = σ.2.1) (hs : slots + σ0.2.2 = σ.2.2) (hR1 : r.2.2.1 ≤ R.cells + σ0.2.1) (hR2 : r.2.2.2 ≤ R.slots + σ0.2.2) (hRf : 13 ≤ R.frames) (hRl : 200 ≤ R.locals) (hends : x_ends A D cA sA ρ0 σ0 r p l e R s m args below meth c Q) :
    W p l e R s m args below meth c H locs cells slots Q (F0 m pc ls []) := by
  subst hr
  dsimp only at hR1 hR2
  obtain ⟨mc, ms, h1, h2, rfl⟩ := hends.2 E rfl
  dsimp only at h1 h2
  have hWA := F.2.2.2.2.2.2.2.1
  have hCF := F.2.2.2.2.2.2.2.2.2.1
  have htab : (xm M).2.2.2.2 = [] := ht.elim (fun h => h.1) (fun h => h.1)
  have hx2 : c.exceptionTable.toList = [] := by rw [F.2.2.2.2.2.2.2.2.2.2, htab]; rfl
  have hsz : ls.size = c.maxLocals := by rw [F.2.2.1]; exact hat.2.2.2.1.2.1
  have hx : ∀ t : State, s.vm.Alike t.vm → H.size ≤ t.heap.size → (∀ q : Nat, q < H.size → t.heap[q]? = H[q]?) → x_XC A D cA sA ρ0 σ0 (.inr E, σ.1, σ.2.1 + 1, σ.2.2 + 6) E s t := fun t _ hz hk => by
    refine ⟨⟨ρ, rfl, hag, ?_, hat.2.1, hat.2.2.2.2⟩, Nat.le_trans hat.2.2.1.1 hz, fun q h3 h4 => ?_⟩
    · exact hat.1.kept fun i q hq => hk q.1 (vx_lt hat.1 hq)
    · rw [hk q (Nat.lt_of_lt_of_le h3 hat.2.2.1.1)]
      exact hat.2.2.1.2.1 q h3 h4
  have bw : ∀ w : Cond, (w ∈ xWA ∨ (∃ C T, w = .castable C T ∧ (C, T) ∈ xcas) ∨ ∃ y, w = .declares y ∧ y ∈ xdes) → w.before args s = true ∧ vx_ot w = true := fun w hw => by
    rcases hw with h | ⟨C, T, rfl, h⟩ | ⟨y, rfl, h⟩
    · exact ⟨hWA w h, by have := (List.mem_filter.mp h).2; simp [vx_ot, this]⟩
    · exact ⟨(hCF.2.2.2.2.2.2.2.2.2.2.2.2.1 _ h).use rfl, rfl⟩
    · exact ⟨(hCF.2.2.2.2.2.2.2.2.2.2.2.2.2.1 _ h).use rfl, rfl⟩
  rcases ht with ⟨-, is, ic, sa, text, names, hfit, hnames, hlink, hini, hsts, hat9, hnl, d0, d3, d4⟩ | ⟨-, rfl, is, ic, sa, text, hlink, hini, hsts, hat9, d0, d3, d4, d7, d10⟩
  · have hvs := hCF.2.2.2.2.1 _ hsts
    have hgood : ∀ w ∈ Cond.classLink (xm M).1.cls k E :: Cond.initialized E :: vx_atS (xm M).1.cls ic E names, vx_ot w = true := List.forall_mem_cons.mpr ⟨rfl, List.forall_mem_cons.mpr ⟨(bw _ (Or.inl hini)).2, fun w hw => (bw w (hat9 w hw)).2⟩⟩
    have hR3 : names.length + 3 < R.frames := by omega
    have hR4 : (([] : List Value).map fun v => v.category).sum + (13 * (names.length + 1) + 43) ≤ R.locals := by
      simp only [List.map_nil, List.sum_nil]
      omega
    rcases d4 with ⟨d4, d6, d9⟩ | ⟨d4, d7, d10⟩
    · exact vx_throwS F.1 F.2.1 hl (names := names) F.2.2.2.1 hfit hnames (hWA _ hlink) (hWA _ hini) hvs (fun w hw => (bw w (hat9 w hw)).1) hgood hCF.2.2.2.2.2.2.2.2.2.1 hCF.2.2.2.2.2.2.2.2.2.2.1 hat.2.2.1 hsz d0 d3 d4 d6 d9 (by rw [hx2]; exact fun _ h => nomatch h) hR3 hR4 (by omega) (by omega) F.2.2.2.2.2.2.1 hx hat.2.2.1.2.2 (by omega) (by omega)
    · exact vx_throwSW F.1 F.2.1 hl (names := names) F.2.2.2.1 hfit hnames (hWA _ hlink) (hWA _ hini) hvs (fun w hw => (bw w (hat9 w hw)).1) hgood hCF.2.2.2.2.2.2.2.2.2.1 hCF.2.2.2.2.2.2.2.2.2.2.1 hat.2.2.1 hsz d0 d3 d4 d7 d10 (by rw [hx2]; exact fun _ h => nomatch h) hR3 hR4 (by omega) (by omega) F.2.2.2.2.2.2.1 hx hat.2.2.1.2.2 (by omega) (by omega)
  · have hvs := hCF.2.2.2.2.1 _ hsts
    have hgood : ∀ w ∈ Cond.classLink (xm M).1.cls k xnX :: Cond.initialized xnX :: (xnA (xm M).1.cls ic).filter vx_no, vx_ot w = true := List.forall_mem_cons.mpr ⟨rfl, List.forall_mem_cons.mpr ⟨(bw _ (Or.inl hini)).2, fun w hw => (bw w (hat9 w hw)).2⟩⟩
    exact xn_throw F.1 F.2.1 hl F.2.2.2.1 (hWA _ hlink) (hWA _ hini) hvs (fun w hw => (bw w (hat9 w hw)).1) hgood hCF.2.2.2.2.2.2.2.2.2.1 hCF.2.2.2.2.2.2.2.2.2.2.1 hat.2.2.1 hsz d0 d3 d4 d7 d10 (by rw [hx2]; exact fun _ h => nomatch h) (by omega) (by simp only [List.map_nil, List.sum_nil]; omega) (by omega) (by omega) F.2.2.2.2.2.2.1 hx hat.2.2.1.2.2 (by omega) (by omega)
/-- an end by a return -/
theorem x_ret {ρ : Nat → Nat} {H : Heap} {locs : List Loc} {cells slots : Nat} {ls : Array Slot} {L st : List Value} {σ : xS} {pc nx a b : Nat} {i : Instr} {v : Value} {r : xR} (F : x_F A D cA sA M p s m args meth c) (hat : x_at A D cA sA ρ M s H locs ls L σ) (hag : x_ag σ0.1.length ρ0 ρ) (ho : xok M pc i nx a b v) (hnew : ∀ k, i ≠ .new k) (h : xnext M i nx a b v L st σ = some (.inr (.inr r)))
    (hc : cells + σ0.2.1 = σ.2.1) (hs : slots + σ0.2.2 = σ.2.2) (hends : x_ends A D cA sA ρ0 σ0 r p l e R s m args below meth c Q) :
    W p l e R s m args below meth c H locs cells slots Q (F0 m pc ls (st.map (x_v ρ))) := by
  have hlocks := F.2.2.2.2.2.2.1
  have hret := F.2.2.2.2.2.1
  rcases x_inv_end h with ⟨k, rfl, -⟩ | ⟨x, ty, rfl, rfl, hty, hn, hr⟩ | ⟨x, rfl, rfl, hr⟩ | ⟨x, rfl, rfl, hr⟩ | ⟨x, rfl, rfl, hr⟩ | ⟨rfl, rfl, hr⟩
  · exact absurd rfl (hnew k)
  · refine hends.1 H locs cells slots _ hat.2.2.1.2.2 (by rw [hr]; exact hc) (by rw [hr]; exact hs) (fun locs' c' n' free hf => ?_)
    exact W.zret F.1 F.2.1 (hret.trans hty) hn (fun t ht hW => x_retQ (w := some (.int x)) hat hag hr ht) hf ho.1 hlocks
  · refine hends.1 H locs cells slots _ hat.2.2.1.2.2 (by rw [hr]; exact hc) (by rw [hr]; exact hs) (fun locs' c' n' free hf => ?_)
    exact W.lret F.1 F.2.1 (hret.trans ho.2) (fun t ht hW => x_retQ (w := some (.long x)) hat hag hr ht) hf ho.1.1 hlocks
  · refine hends.1 H locs cells slots _ hat.2.2.1.2.2 (by rw [hr]; exact hc) (by rw [hr]; exact hs) (fun locs' c' n' free hf => ?_)
    exact W.dret F.1 F.2.1 (hret.trans ho.2) (fun t ht hW => x_retQ (w := some (.double x)) hat hag hr ht) hf ho.1.1 hlocks
  · refine hends.1 H locs cells slots _ hat.2.2.1.2.2 (by rw [hr]; exact hc) (by rw [hr]; exact hs) (fun locs' c' n' free hf => ?_)
    obtain ⟨h1, rt, h2, h3⟩ := ho
    exact W.aret F.1 F.2.1 (hret.trans h2) h3 (Or.inr ⟨_, rfl⟩) (fun t ht hW => x_retQ (w := some (.ref x)) hat hag hr ht) hf h1.1 hlocks
  · refine hends.1 H locs cells slots _ hat.2.2.1.2.2 (by rw [hr]; exact hc) (by rw [hr]; exact hs) (fun locs' c' n' free hf => ?_)
    exact W.vret F.1 F.2.1 (hret.trans ho.2) (fun t ht hW => x_retQ (w := none) hat hag hr ht) hf ho.1 hlocks
/-- a step over the script -/
theorem x_scr {ρ : Nat → Nat} {H : Heap} {locs : List Loc} {cells slots : Nat} {ls : Array Slot} {L st : List Value} {σ : xS} {pc : Nat} {g : xGo} (hgood : ∀ m pc i nx a b v, xc m pc = some (i, nx, a, b, v) → xok m pc i nx a b v) (F : x_F A D cA sA M p s m args meth c) (hat : x_at A D cA sA ρ M s H locs ls L σ) (h : yscr (xscr sA) M (pc, L, st, σ) = some (.inl g)) (hRf : 13 ≤ R.frames) (hRl : 260 ≤ R.locals) (hR1 : cells ≤ R.cells) (hR2 : slots ≤ R.slots) (hk : x_K A D cA sA ρ M p l e R s m args below meth c cells slots Q σ g) :
    W p l e R s m args below meth c H locs cells slots Q (F0 m pc ls (st.map (x_v ρ))) := by
  have hT := F.2.2.2.2.2.2.2.2.2.1.2.2.2.2.2.2.2.2.2.2.2.2.2.2.2.1
  have hq : x_v ρ (.ref xSp) = .ref (sA xSp) := congrArg Value.ref (hat.2.2.2.2 xSp (by decide))
  unfold yscr at h
  split at h
  · rename_i hm
    obtain ⟨rfl, rfl⟩ : M = xCI ∧ pc = 2 := hm
    split at h
    · rename_i n i e9
      dsimp only at e9
      subst e9
      split at h
      · rename_i hin
        cases h
        exact x_chk F hat hin.1 hin.2 hRf hRl ⟨hR1, hR2⟩ hk
      · cases h
    · cases h
  split at h
  · rename_i i nx a b v hc
    have ho := hgood _ _ _ _ _ _ _ hc
    split at h
    · split at h
      · rename_i q r e9
        split at h
        · rename_i hp
          subst hp
          cases h
          dsimp only at e9
          subst e9
          obtain ⟨hd, rfl⟩ := ho
          rw [List.map_cons, hq]
          exact va_tlen F.1 F.2.1 hT hat.2.2.1 (by rw [xscr, List.length_map, List.length_range]; rfl) hd (hk.same rfl hat)
        · cases h
      · cases h
    · split at h
      · rename_i k q r e9
        dsimp only at e9
        subst e9
        split at h
        · rename_i hp
          obtain ⟨rfl, hp⟩ := hp
          split at h
          · rename_i x hx
            cases h
            obtain ⟨hd, rfl⟩ := ho
            have hlt := (List.getElem?_eq_some_iff.mp hx).1
            rw [xscr, List.length_map, List.length_range] at hlt
            rw [List.map_cons, List.map_cons, hq]
            refine va_ti F.1 F.2.1 hT hat.2.2.1 (x_vin hp hlt) (v := .int x) ?_ hd (hk.same rfl hat)
            simp only [xscr, List.getElem?_map, List.getElem?_range hlt, Option.map_some, Option.some.injEq] at hx
            rw [← hx]
          · cases h
        · cases h
      · cases h
    · cases h
  · cases h
theorem x_run {S : List Int32} (hS : S = xscr sA) (G : xgood) (hl : l.stackTraces = false) {d : Nat} {C : Nat → List Value → xS → xR → Prop} (hCok : xEok C) (hC : ∀ (a : Nat) (vs : List Value) (σ : xS) (q : xR) (ρ : Nat → Nat), C a vs σ q → xsok σ → xlok σ.1.length vs → (q.1.isRight = true → xmt a = true) ∧ x_con l A D cA sA ρ d a vs σ q)
    (F : x_F A D cA sA M p s m args meth c) (hRf : d + 13 ≤ R.frames) (hRl : 60 * d + 260 ≤ R.locals) {r : xR} (hmt : r.1.isRight = true → xmt M = true) (hR1 : r.2.2.1 ≤ R.cells + σ0.2.1) (hR2 : r.2.2.2 ≤ R.slots + σ0.2.2) (hends : x_ends A D cA sA ρ0 σ0 r p l e R s m args below meth c Q) :
    ∀ (n : Nat) (g : xGo), xgok g → yrun S C M n g r → σ0.1.length ≤ g.2.2.2.1.length → ∀ (ρ : Nat → Nat) (ls : Array Slot) (H : Heap) (locs : List Loc) (cells slots : Nat), x_ag σ0.1.length ρ0 ρ → cells + σ0.2.1 = g.2.2.2.2.1 → slots + σ0.2.2 = g.2.2.2.2.2 → x_at A D cA sA ρ M s H locs ls g.2.1 g.2.2.2 →
      W p l e R s m args below meth c H locs cells slots Q (F0 m g.1 ls (g.2.2.1.map (x_v ρ))) := by
  obtain ⟨hgood, hT, hct, hrc, hxh, hm0, hpl⟩ := G
  subst hS
  intro n
  induction n with
  | zero => intro g _ h; exact h.elim
  | succ n ih =>
    intro g hg h hlen ρ ls H locs cells slots hag hcc hss hat
    have hrun := h
    have hle := (yrun_ok hT hCok (n + 1) g r hg h).2.1
    simp only [yrun] at h
    obtain ⟨pc, L, st, σ⟩ := g
    dsimp only at hlen hcc hss hat hle ⊢
    have goK : ∀ g' : xGo, xgok g' → xle σ g'.2.2.2 → yrun (xscr sA) C M n g' r → x_K A D cA sA ρ M p l e R s m args below meth c cells slots Q σ g' := by
      intro g' hg' hle' hn ρ' ls' H' locs' cells' slots' hag' hc' hs' hat'
      exact ih g' hg' hn (Nat.le_trans hlen hle'.1) ρ' ls' H' locs' cells' slots' (hag.tr hlen hag') (by omega) (by omega) hat'
    cases hact : yat (xscr sA) M (pc, L, st, σ) with
    | none => rw [hact] at h; exact h.elim
    | some act =>
      rw [hact] at h
      have ha := yat_ok hT hg hact
      have hxs : xat M (pc, L, st, σ) = some act ∨ ∃ g', act = .inl g' ∧ yscr (xscr sA) M (pc, L, st, σ) = some (.inl g') := by
        unfold yat at hact
        split at hact
        · rename_i act' ha'
          cases hact
          exact Or.inl ha'
        · obtain ⟨g', rfl, -, -⟩ := yscr_ok hg hact
          exact Or.inr ⟨g', rfl, hact⟩
      rcases hxs with hx | ⟨g', rfl, hx⟩
      · simp only [xat] at hx
        split at hx
        · rename_i i nx a b v hcx
          have ho := hgood _ _ _ _ _ _ _ hcx
          match act, h, ha with
          | .inl g', h, ha =>
            have hg'1 := (yrun_ok hT hCok n g' r ha.1 h).2.1
            have q1 := ha.2.2.1
            have q2 := ha.2.2.2
            have q3 := hg'1.2.1
            have q4 := hg'1.2.2
            dsimp only at q1 q2
            exact x_go F hat ho hx hT hct hrc hg (by omega) (by omega) (by omega) (by omega) (goK g' ha.1 ha.2 h)
          | .inr (.inl (a', vs, nx', L', rest, s')), ⟨q, h1, h2⟩, ⟨e, k1, k2, k3⟩ =>
            dsimp only at e
            subst e
            obtain ⟨hmq, hcon⟩ := hC _ _ _ _ ρ h1 hg.1 k1
            have hq := hCok _ _ _ _ hg.1 k1 h1
            have hqr : xle q.2 r.2 := by
              obtain ⟨o, s2⟩ := q
              have hle2 : s'.1.length ≤ s2.1.length := hq.2.1.1
              cases o with
              | inl w => cases w with
                | none => exact (yrun_ok hT hCok n _ r ⟨hq.1, k2.mono hle2, k3.mono hle2⟩ h2).2.1
                | some w => exact (yrun_ok hT hCok n _ r ⟨hq.1, k2.mono hle2, xlok.cons (hq.2.2 w rfl) (k3.mono hle2)⟩ h2).2.1
              | inr E =>
                simp only [xcont] at h2
                cases hx9 : xh M pc E with
                | none =>
                  rw [hx9] at h2
                  rw [h2]
                  exact xle.rf _
                | some z =>
                  rw [hx9] at h2
                  exact (yrun_ok hT hCok n _ r ⟨hq.1, (k2.mono hle2).put (xvok.no _) _, xlok.nil _⟩ h2.2).2.1
            have z1 := hqr.2.1
            have z2 := hqr.2.2
            have z3 := hq.2.1.2.1
            have z4 := hq.2.1.2.2
            dsimp only at z3 z4
            have hf : cells + (q.2.2.1 - s'.2.1) ≤ R.cells ∧ slots + (q.2.2.2 - s'.2.2) ≤ R.slots := ⟨by omega, by omega⟩
            have hrun9 : ∃ (av : Array Value), nx' = pc + 3 ∧ L' = L ∧ vx_Run p l e R s m args below meth c H locs cells slots (q.2.2.1 - s'.2.1) (q.2.2.2 - s'.2.2) (F0 m pc ls (st.map (x_v ρ))) (rest.map (x_v ρ)) (x_Q A D cA sA ρ s' q av) (x_XC A D cA sA ρ s' q) A := by
              rcases x_inv_call hx with ⟨k, rfl, hx2⟩ | ⟨k, rfl, n0, n1, n2, hx2⟩ | ⟨k, rfl, n3, hx2⟩
              · obtain ⟨w1, w2, w3, rfl, rfl, rfl, rfl, rfl, -⟩ := xcall_in hx2
                obtain ⟨hd, rfl, hcv⟩ := ho
                exact ⟨_, rfl, rfl, x_callV F hat hrc hg.1 hd hcv w3 w1 w2 hcon (by omega) (by omega) hf⟩
              · obtain ⟨w1, w2, w3, rfl, rfl, rfl, rfl, rfl, -⟩ := xcall_in hx2
                obtain ⟨hd, rfl, -, -, -, hcs⟩ := ho
                exact ⟨_, rfl, rfl, x_callS F hat (hm0 _) hd (hcs n0 n1 n2) w1 w2 hcon (by omega) (by omega) hf⟩
              · obtain ⟨w1, w2, w3, rfl, rfl, rfl, rfl, rfl, -⟩ := xcall_in hx2
                obtain ⟨hd, rfl, -, hci⟩ := ho
                exact ⟨_, rfl, rfl, x_callI F hat hrc hg.1 hd (hci n3) w3 w1 w2 hcon (by omega) (by omega) hf⟩
            obtain ⟨av, rfl, rfl, hvr⟩ := hrun9
            refine x_back hat hg.2.1 hvr (fun w ρ' H1 locs1 hw hag' hat' => ?_) (fun E ρ' H1 locs1 ce q9 hE hag' hat' hce hcv hcl => ?_)
            · obtain ⟨o, s2⟩ := q
              dsimp only at hw hat' hq ⊢
              subst hw
              have hle2 : s'.1.length ≤ s2.1.length := hq.2.1.1
              have hrest : rest.map (x_v ρ) = rest.map (x_v ρ') := (x_l_ag hag' k3).symm
              cases w with
              | none =>
                have h3 := ih (pc + 3, L', rest, s2) ⟨hq.1, k2.mono hle2, k3.mono hle2⟩ h2 (Nat.le_trans hlen hle2) ρ' ls H1 locs1 (cells + (s2.2.1 - s'.2.1)) (slots + (s2.2.2 - s'.2.2)) (hag.tr hlen hag') (by dsimp only at z3 ⊢; omega) (by dsimp only at z4 ⊢; omega) hat'
                rw [hrest]
                exact h3
              | some w =>
                have h3 := ih (pc + 3, L', w :: rest, s2) ⟨hq.1, k2.mono hle2, xlok.cons (hq.2.2 w rfl) (k3.mono hle2)⟩ h2 (Nat.le_trans hlen hle2) ρ' ls H1 locs1 (cells + (s2.2.1 - s'.2.1)) (slots + (s2.2.2 - s'.2.2)) (hag.tr hlen hag') (by dsimp only at z3 ⊢; omega) (by dsimp only at z4 ⊢; omega) hat'
                rw [hrest]
                exact h3
            · obtain ⟨o, s2⟩ := q
              dsimp only at hE hat' hq ⊢
              subst hE
              have hle2 : s'.1.length ≤ s2.1.length := hq.2.1.1
              simp only [xcont] at h2
              cases hx9 : xh M pc E with
              | none =>
                rw [hx9] at h2
                subst h2
                obtain ⟨mc, ms, e1, e2, rfl⟩ := hends.2 E rfl
                have htab : c.exceptionTable.toList = [] := by
                  rw [F.2.2.2.2.2.2.2.2.2.2, hm0 _ (hmt rfl)]; rfl
                refine vx_out (by rw [htab]; exact fun _ h => nomatch h) F.2.2.2.2.2.2.1 hce hcv hcl (fun t ht hal => ?_) hat'.2.2.1.2.2 (by dsimp only at z3 e1 ⊢; omega) (by dsimp only at z4 e2 ⊢; omega)
                refine ⟨⟨ρ', rfl, hag.tr hlen hag', ?_⟩, hat'.2.2.1.F ht⟩
                rw [ht]
                exact ⟨hat'.1, hat'.2.1, hat'.2.2.2.2⟩
              | some z =>
                obtain ⟨nx9, k9⟩ := z
                rw [hx9] at h2
                obtain ⟨hk9, h2⟩ := h2
                refine x_caught F hat' (hxh _ _ _ _ _ hx9) hk9 hce hcv hcl (fun ls' hat9 => ?_)
                exact ih (nx9, xput L' k9 xno, [], s2) ⟨hq.1, (k2.mono hle2).put (xvok.no _) _, xlok.nil _⟩ h2 (Nat.le_trans hlen hle2) ρ' ls' H1 locs1 _ _ (hag.tr hlen hag') (by dsimp only at z3 ⊢; omega) (by dsimp only at z4 ⊢; omega) hat9
          | .inr (.inr r0), h, ha =>
            have e0 : r = r0 := h
            subst e0
            by_cases hnew : ∃ k, i = .new k
            · obtain ⟨k, rfl⟩ := hnew
              rcases x_inv_end hx with ⟨k', e1, e2, rfl, e4⟩ | ⟨x, ty, e1, -⟩ | ⟨x, e1, -⟩ | ⟨x, e1, -⟩ | ⟨x, e1, -⟩ | ⟨e1, -⟩
              · exact x_throw hl F hat hag (ho.1 e2) e4 hcc hss hR1 hR2 (by omega) (by omega) hends
              all_goals cases e1
            · exact x_ret F hat hag ho (fun k hk => hnew ⟨k, hk⟩) hx hcc hss hends
        · cases hx
      · have q3 := (yrun_ok hT hCok n g' r ha.1 h).2.1
        have q4 := q3.2.1
        have q5 := q3.2.2
        have q1 := ha.2.2.1
        have q2 := ha.2.2.2
        dsimp only at q1 q2
        exact x_scr hgood F hat hx (by omega) (by omega) (by omega) (by omega) (goK g' ha.1 ha.2 h)
end RUN
