/-! CALLS: what a callee's end says, each kind of call. -/
def x_wd (A : Nat → Prop) (D : va_G) (cA : Nat → ClassId) (sA ρ : Nat → Nat) (σ : xS) (H : Heap) : Prop := va_P D vwCl (x_ws cA ρ σ.1) H ∧ va_D A (x_ws cA ρ σ.1) ∧ ∀ a, xB ≤ a → ρ a = sA a
def x_B (A : Nat → Prop) (D : va_G) (cA : Nat → ClassId) (sA ρ : Nat → Nat) (σ : xS) : State → Prop := fun U => va_K D vwCl (xtys cA) U ∧ x_CF A sA U ∧ x_wd A D cA sA ρ σ U.heap
def x_Q (A : Nat → Prop) (D : va_G) (cA : Nat → ClassId) (sA ρ : Nat → Nat) (σ : xS) (r : xR) : Array Value → State → Outcome → State → Prop := fun _ st o t =>
  (∃ (w : Option Value) (ρ' : Nat → Nat), o = .returned (w.map (x_v ρ')) ∧ r.1 = .inl w ∧ x_ag σ.1.length ρ ρ' ∧ x_wd A D cA sA ρ' r.2 t.heap) ∧ va_F A st t
def x_XC (A : Nat → Prop) (D : va_G) (cA : Nat → ClassId) (sA ρ : Nat → Nat) (σ : xS) (r : xR) : String → State → State → Prop := fun E st t =>
  (∃ ρ' : Nat → Nat, r.1 = .inr E ∧ x_ag σ.1.length ρ ρ' ∧ x_wd A D cA sA ρ' r.2 t.heap) ∧ va_F A st t
/-- the room at the depth d -/
def x_rm (d mc ms : Nat) : Room := { frames := d + 12, locals := 60 * d + 200, cells := mc, slots := ms }
/-- a method's contract at one call -/
def x_con (l : Launch) (A : Nat → Prop) (D : va_G) (cA : Nat → ClassId) (sA ρ : Nat → Nat) (d a : Nat) (vs : List Value) (σ : xS) (q : xR) : Prop :=
  (xmt a = true → vx_Met l (xm a).1 (x_hd a :: xWA) (x_rm d (q.2.2.1 - σ.2.1) (q.2.2.2 - σ.2.2)) (va_Pc (vs.map (x_v ρ)) (x_B A D cA sA ρ σ)) (x_Q A D cA sA ρ σ q) (x_XC A D cA sA ρ σ q) (q.2.2.1 - σ.2.1) (q.2.2.2 - σ.2.2) A) ∧
  (xmt a = false → Met l (xm a).1 (x_hd a :: xWA) (x_rm d (q.2.2.1 - σ.2.1) (q.2.2.2 - σ.2.2)) (va_Pc (vs.map (x_v ρ)) (x_B A D cA sA ρ σ)) (x_Q A D cA sA ρ σ q) (q.2.2.1 - σ.2.1) (q.2.2.2 - σ.2.2) A)
theorem x_blind {av : List Value} {A : Nat → Prop} {D : va_G} {cA : Nat → ClassId} {sA ρ : Nat → Nat} {σ : xS} : FrameBlind (va_Pc av (x_B A D cA sA ρ σ)) := fun _ _ _ _ h => h
section CALLS
variable {p : Program} {l : Launch} {e : Env} {R : Room} {s : State} {m : MethodId} {args : Array Value} {below : List Frame} {meth : Method} {c : Code} {H : Heap} {locs : List Loc} {cells slots : Nat} {Q : State → Prop}
variable {A : Nat → Prop} {D : va_G} {cA : Nat → ClassId} {sA ρ : Nat → Nat} {M : Nat} {ls : Array Slot} {L st : List Value} {σ : xS} {pc nx a b : Nat} {v : Value} {g : xGo}
theorem x_runX {mc ms : Nat} {g : JFrame} {rest : List Value} {Qa : State → Outcome → State → Prop} {XC : String → State → State → Prop} {free : Addr → Prop} (h : va_Run p l e R s m args below meth c H locs cells slots mc ms g rest Qa free) : vx_Run p l e R s m args below meth c H locs cells slots mc ms g rest Qa XC free := fun T hT X => Or.inl (h T hT X)
/-- the callee's start holds -/
theorem x_pre (F : x_F A D cA sA M p s m args meth c) (hat : x_at A D cA sA ρ M s H locs ls L σ) {vs : List Value} {U : State} (hU : U.heap = H) (hW : s.WarmedH U.vm) : va_Pc (vs.map (x_v ρ)) (x_B A D cA sA ρ σ) (vs.map (x_v ρ)).toArray U := by
  refine ⟨rfl, F.2.2.2.2.2.2.2.2.1.moved hW.alike, F.2.2.2.2.2.2.2.2.2.1.moved hW (by rw [hU]; exact hat.2.2.1.1) (fun q h1 h2 => by rw [hU]; exact hat.2.2.1.2.1 q h1 h2), ?_⟩
  rw [hU]
  exact ⟨hat.1, hat.2.1, hat.2.2.2.2⟩
theorem x_good (F : x_F A D cA sA M p s m args meth c) {l9 : List Cond} (h : ∀ w ∈ l9, w ∈ xWA) (hh : x_hd a ∈ xWA) : GoodIn xWA (l9 ++ (x_hd a :: xWA)) := xWA_good fun w hw => by
  rcases List.mem_append.mp hw with q | q
  · exact h w q
  · rcases List.mem_cons.mp q with rfl | q
    · exact hh
    · exact q
theorem x_wsC (F : x_F A D cA sA M p s m args meth c) (hh : x_hd a ∈ xWA) : GoodIn xWA (x_hd a :: xWA) := x_good (l9 := []) F (fun _ h => nomatch h) hh
theorem x_len2 {vs r : List Value} {b : Nat} (h : b ≤ st.length) (h1 : vs = (st.take b).reverse) (h2 : r = st.drop b) : st.map (x_v ρ) = (vs.map (x_v ρ)).reverse ++ r.map (x_v ρ) ∧ vs.length = b := by
  subst h1; subst h2
  refine ⟨?_, by rw [List.length_reverse, List.length_take]; omega⟩
  rw [← List.map_reverse, List.reverse_reverse, ← List.map_append, List.take_append_drop]
theorem x_callS {k : Nat} (F : x_F A D cA sA M p s m args meth c) (hat : x_at A D cA sA ρ M s H locs ls L σ) (hm0 : xmt a = true → (xm a).2.2.2.2 = []) (hd : decode (xm M).2.1 pc = .ok (.invokestatic k, 3)) (hc : xcaS M k a b) (hb : b ≤ st.length) (h8 : xcat (st.drop b) ≤ 8) {d : Nat} {q : xR} (hC : x_con l A D cA sA ρ d a (st.take b).reverse σ q) (hRf : d + 13 ≤ R.frames) (hRl : 60 * d + 260 ≤ R.locals) (hf : cells + (q.2.2.1 - σ.2.1) ≤ R.cells ∧ slots + (q.2.2.2 - σ.2.2) ≤ R.slots) : vx_Run p l e R s m args below meth c H locs cells slots (q.2.2.1 - σ.2.1) (q.2.2.2 - σ.2.2) (F0 m pc ls (st.map (x_v ρ))) ((st.drop b).map (x_v ρ)) (x_Q A D cA sA ρ σ q (((st.take b).reverse.map (x_v ρ)).toArray)) (x_XC A D cA sA ρ σ q) A := by
  obtain ⟨hmx, hhd, hgen, hst, hini, hk⟩ := hc
  have hWA := F.2.2.2.2.2.2.2.1
  obtain ⟨e1, e2⟩ := x_len2 (ρ := ρ) hb rfl rfl
  have S : CallFix p m c (xm M).2.1 (xm M).2.2.1 s args xWA (xm M).1.cls := ⟨F.1, F.2.1, F.2.2.1, F.2.2.2.1, hWA⟩
  have hsz : (F0 m pc ls (st.map (x_v ρ))).locals.size = (xm M).2.2.1 := hat.2.2.2.1.2.1
  have hW8 : 2 * (F0 m pc ls (st.map (x_v ρ))).monitorRoom + (((st.drop b).map (x_v ρ)).map fun v => v.category).sum ≤ 8 := by
    rw [x_cats]
    show 2 * 0 + _ ≤ 8
    omega
  have hR : (x_rm d (q.2.2.1 - σ.2.1) (q.2.2.2 - σ.2.2)).frames + 1 ≤ R.frames ∧ 8 + ((xm a).2.2.1 + 11) + (x_rm d (q.2.2.1 - σ.2.1) (q.2.2.2 - σ.2.2)).locals ≤ R.locals := by
    refine ⟨?_, ?_⟩
    · show d + 12 + 1 ≤ _
      omega
    · show _ + (60 * d + 200) ≤ _
      omega
  have hp : PreS s H (va_Pc ((st.take b).reverse.map (x_v ρ)) (x_B A D cA sA ρ σ)) ((st.take b).reverse.map (x_v ρ)) := ⟨x_blind, fun U hU hW => x_pre F hat hU hW⟩
  have hn : ((st.take b).reverse.map (x_v ρ)).length = b := by rw [List.length_map]; exact e2
  by_cases ht : (xm a).2.2.2.2 = []
  · have ehd : x_hd a = .code (xm a).1 (xm a).2.1 (xm a).2.2.1 (xm a).2.2.2.1 := if_pos ht
    rcases hk with hk | ⟨-, hmt, host, hk⟩
    · have hG := x_good (a := a) F (l9 := [.methodLink (xm M).1.cls k (xm a).1, .static (xm a).1, .initialized (xm a).1.cls]) (by simp only [List.mem_cons, List.not_mem_nil, or_false]; rintro w (rfl | rfl | rfl) <;> assumption) hhd
      cases hm : xmt a with
      | false => exact x_runX (va_runS S (hC.2 hm) (va_cwS b hWA hG (by rw [ehd]) rfl rfl hgen hR) hp rfl hn hsz e1 hW8 hd hf)
      | true => exact vx_runS S (hC.1 hm) (va_cwS b hWA hG (by rw [ehd]) rfl rfl hgen hR) hp rfl hn hsz e1 hW8 hd hf
    · exact x_runX (va_runSN S (hC.2 hmt) ⟨va_cnB b hWA (x_wsC F hhd) (by rw [ehd]) rfl rfl (F.2.2.2.2.2.2.2.2.2.1.2.2.2.2.2.2.1 _ hk) (hWA _ hini) hgen hR, hWA _ hst, trivial⟩ hp rfl hn hsz e1 hW8 hd hf)
  · have ehd : x_hd a = .codeWith (xm a).1 (xm a).2.1 (xm a).2.2.1 (xm a).2.2.2.1 (xm a).2.2.2.2 := if_neg ht
    have hmt : xmt a = false := by
      cases hm : xmt a with
      | false => rfl
      | true => exact absurd (hm0 hm) ht
    rcases hk with hk | ⟨h0, -⟩
    · have hG := x_good (a := a) F (l9 := [.methodLink (xm M).1.cls k (xm a).1, .static (xm a).1, .initialized (xm a).1.cls]) (by simp only [List.mem_cons, List.not_mem_nil, or_false]; rintro w (rfl | rfl | rfl) <;> assumption) hhd
      exact x_runX (vx_runSW S (hC.2 hmt) (vx_cwSW b hWA hG (by rw [ehd]) rfl rfl hgen hR) hp rfl hn hsz e1 hW8 hd hf)
    · exact absurd h0 ht
theorem x_callV {k : Nat} (F : x_F A D cA sA M p s m args meth c) (hat : x_at A D cA sA ρ M s H locs ls L σ) (hrc : xrc_ok) (hs : xsok σ) (hd : decode (xm M).2.1 pc = .ok (.invokevirtual k, 3)) (hc : xcaV M k a b) (hr : xrcv (xmc a) σ ((st.take b).reverse.headD .null) = true) (hb : b ≤ st.length) (h8 : xcat (st.drop b) ≤ 8) {d : Nat} {q : xR} (hC : x_con l A D cA sA ρ d a (st.take b).reverse σ q) (hRf : d + 13 ≤ R.frames) (hRl : 60 * d + 260 ≤ R.locals) (hf : cells + (q.2.2.1 - σ.2.1) ≤ R.cells ∧ slots + (q.2.2.2 - σ.2.2) ≤ R.slots) : vx_Run p l e R s m args below meth c H locs cells slots (q.2.2.1 - σ.2.1) (q.2.2.2 - σ.2.2) (F0 m pc ls (st.map (x_v ρ))) ((st.drop b).map (x_v ρ)) (x_Q A D cA sA ρ σ q (((st.take b).reverse.map (x_v ρ)).toArray)) (x_XC A D cA sA ρ σ q) A := by
  obtain ⟨hmx, hhd, ht, n, C, hbn, hcl, hk⟩ := hc
  have hWA := F.2.2.2.2.2.2.2.1
  obtain ⟨e1, e2⟩ := x_len2 (ρ := ρ) hb rfl rfl
  have S : CallFix p m c (xm M).2.1 (xm M).2.2.1 s args xWA (xm M).1.cls := ⟨F.1, F.2.1, F.2.2.1, F.2.2.2.1, hWA⟩
  have hsz : (F0 m pc ls (st.map (x_v ρ))).locals.size = (xm M).2.2.1 := hat.2.2.2.1.2.1
  have hW8 : 2 * (F0 m pc ls (st.map (x_v ρ))).monitorRoom + (((st.drop b).map (x_v ρ)).map fun v => v.category).sum ≤ 8 := by
    rw [x_cats]
    show 2 * 0 + _ ≤ 8
    omega
  have hR : (x_rm d (q.2.2.1 - σ.2.1) (q.2.2.2 - σ.2.2)).frames + 1 ≤ R.frames ∧ 8 + ((xm a).2.2.1 + 11) + (x_rm d (q.2.2.1 - σ.2.1) (q.2.2.2 - σ.2.2)).locals ≤ R.locals := by
    refine ⟨?_, ?_⟩
    · show d + 12 + 1 ≤ _
      omega
    · show _ + (60 * d + 200) ≤ _
      omega
  obtain ⟨z, As, hvs, hrv⟩ : ∃ z As, (st.take b).reverse = .ref z :: As ∧ xrcv (xmc a) σ (.ref z) = true := by
    cases hl : (st.take b).reverse with
    | nil => rw [hl] at hr; exact absurd hr (by simp [xrcv])
    | cons v9 As =>
      rw [hl] at hr
      cases v9 with
      | ref z => exact ⟨z, As, rfl, hr⟩
      | _ => exact absurd hr (by simp [xrcv])
  have hn : (As.map (x_v ρ)).length = n := by
    rw [hvs, List.length_cons] at e2
    rw [List.length_map]
    omega
  have ehd : x_hd a = .code (xm a).1 (xm a).2.1 (xm a).2.2.1 (xm a).2.2.2.1 := if_pos ht
  have hpV : ∀ C : String, xrcl (xmc a) C → PreV s H C (ρ z) (va_Pc ((st.take b).reverse.map (x_v ρ)) (x_B A D cA sA ρ σ)) (As.map (x_v ρ)) := fun C hC9 => ⟨x_blind, x_rcv F hat hrc hrv hC9 (fun r9 cl fs h9 => (hs.at h9).1), fun U hU hW => by
    have h9 := x_pre (vs := (st.take b).reverse) F hat hU hW
    rw [hvs] at h9 ⊢
    exact h9⟩
  have hstk : (F0 m pc ls (st.map (x_v ρ))).stack = (As.map (x_v ρ)).reverse ++ .ref (ρ z) :: (st.drop b).map (x_v ρ) := by
    show st.map (x_v ρ) = _
    rw [e1, hvs, List.map_cons, List.reverse_cons, List.append_assoc]
    rfl
  rw [hvs]
  rcases hk with ⟨hgen, hC1, hw⟩ | ⟨hgen, hmt, hini, hin, hse, host, hk⟩ | ⟨hmt, owner, x, hyx, ho1, ho2, hpar, hw⟩
  · have hG := x_good (a := a) F hw hhd
    have hd9 : (xm a).1.cls = C ∧ (xm a).1.cls ≠ "java/lang/invoke/MethodHandle" ∧ (xm a).1.cls ≠ "java/lang/invoke/VarHandle" ∧ (parseMethodDescriptor (xm a).1.desc).map (fun d => d.parameters.length) = some n := ⟨hC1, hgen⟩
    cases hm : xmt a with
    | false => exact x_runX (va_runV S (hC.2 hm) (cwV n hWA hG (by rw [ehd]) rfl rfl hd9 hR) (hpV C hcl) rfl hn hsz hstk hW8 hd hf)
    | true => exact vx_runV S (hC.1 hm) (cwV n hWA hG (by rw [ehd]) rfl rfl hd9 hR) (hpV C hcl) rfl hn hsz hstk hW8 hd hf
  · exact x_runX (va_runVN S (hC.2 hmt) ⟨va_cnB n hWA (x_wsC F hhd) (by rw [ehd]) rfl rfl (F.2.2.2.2.2.2.2.2.2.1.2.2.2.2.2.2.1 _ hk) (hWA _ hini) hgen hR, hWA _ hin, hWA _ hse⟩ (hpV C hcl) rfl hn hsz hstk hW8 hd hf)
  · exact x_runX (va_runU S (hC.2 hmt) (va_cwU n hWA (x_good (a := a) F hw hhd) (by rw [ehd]) rfl rfl hyx ⟨ho1, ho2, hpar⟩ hR) (hpV C hcl) rfl hn hsz hstk hW8 hd hf)
theorem x_callI {k : Nat} (F : x_F A D cA sA M p s m args meth c) (hat : x_at A D cA sA ρ M s H locs ls L σ) (hrc : xrc_ok) (hs : xsok σ) (hd : decode (xm M).2.1 pc = .ok (.invokespecial k, 3)) (hc : xcaI M k a b) (hr : xrq (if xmc a = 5000 then 2 else 1) a σ ((st.take b).reverse.headD .null) = true) (hb : b ≤ st.length) (h8 : xcat (st.drop b) ≤ 8) {d : Nat} {q : xR} (hC : x_con l A D cA sA ρ d a (st.take b).reverse σ q) (hRf : d + 13 ≤ R.frames) (hRl : 60 * d + 260 ≤ R.locals) (hf : cells + (q.2.2.1 - σ.2.1) ≤ R.cells ∧ slots + (q.2.2.2 - σ.2.2) ≤ R.slots) : vx_Run p l e R s m args below meth c H locs cells slots (q.2.2.1 - σ.2.1) (q.2.2.2 - σ.2.2) (F0 m pc ls (st.map (x_v ρ))) ((st.drop b).map (x_v ρ)) (x_Q A D cA sA ρ σ q (((st.take b).reverse.map (x_v ρ)).toArray)) (x_XC A D cA sA ρ σ q) A := by
  obtain ⟨hmx, hhd, ht, hmt, n, hbn, hk⟩ := hc
  have hWA := F.2.2.2.2.2.2.2.1
  obtain ⟨e1, e2⟩ := x_len2 (ρ := ρ) hb rfl rfl
  have S : CallFix p m c (xm M).2.1 (xm M).2.2.1 s args xWA (xm M).1.cls := ⟨F.1, F.2.1, F.2.2.1, F.2.2.2.1, hWA⟩
  have hsz : (F0 m pc ls (st.map (x_v ρ))).locals.size = (xm M).2.2.1 := hat.2.2.2.1.2.1
  have hW8 : 2 * (F0 m pc ls (st.map (x_v ρ))).monitorRoom + (((st.drop b).map (x_v ρ)).map fun v => v.category).sum ≤ 8 := by
    rw [x_cats]
    show 2 * 0 + _ ≤ 8
    omega
  have hR : (x_rm d (q.2.2.1 - σ.2.1) (q.2.2.2 - σ.2.2)).frames + 1 ≤ R.frames ∧ 8 + ((xm a).2.2.1 + 11) + (x_rm d (q.2.2.1 - σ.2.1) (q.2.2.2 - σ.2.2)).locals ≤ R.locals := by
    refine ⟨?_, ?_⟩
    · show d + 12 + 1 ≤ _
      omega
    · show _ + (60 * d + 200) ≤ _
      omega
  have ehd : x_hd a = .code (xm a).1 (xm a).2.1 (xm a).2.2.1 (xm a).2.2.2.1 := if_pos ht
  rcases hk with ⟨hnm, hret, hmc, hgen, hw1, hw2, hw3⟩ | ⟨hmc, hnm, hpar, C, N, hcl, hw0, hw⟩
  · rw [if_pos hmc] at hr
    obtain ⟨z, As, hvs⟩ : ∃ z As, (st.take b).reverse = .ref z :: As := by
      cases hl : (st.take b).reverse with
      | nil => rw [hl] at hr; exact absurd hr (by simp [xrq])
      | cons v9 As =>
        rw [hl] at hr
        cases v9 with
        | ref z => exact ⟨z, As, rfl⟩
        | _ => exact absurd hr (by simp [xrq])
    have hn : (As.map (x_v ρ)).length = n := by
      rw [hvs, List.length_cons] at e2
      rw [List.length_map]
      omega
    have hstk : (F0 m pc ls (st.map (x_v ρ))).stack = (As.map (x_v ρ)).reverse ++ .ref (ρ z) :: (st.drop b).map (x_v ρ) := by
      show st.map (x_v ρ) = _
      rw [e1, hvs, List.map_cons, List.reverse_cons, List.append_assoc]
      rfl
    have hp : PreS s H (va_Pc ((st.take b).reverse.map (x_v ρ)) (x_B A D cA sA ρ σ)) (.ref (ρ z) :: As.map (x_v ρ)) := ⟨x_blind, fun U hU hW => by
      have h9 := x_pre (vs := (st.take b).reverse) F hat hU hW
      rw [hvs] at h9 ⊢
      exact h9⟩
    rw [hvs]
    exact x_runX (va_runI S (hC.2 hmt) (cwI n hWA (x_wsC F hhd) (by rw [ehd, hret]) rfl rfl (hWA _ hw3) (hWA _ hw1) (hWA _ hw2) hnm hgen hR) hp rfl hn hsz hstk hW8 hd hf)
  · rw [if_neg hmc] at hr
    have hr : xrcv (xmc a) σ ((st.take b).reverse.headD .null) = true := hr
    obtain ⟨z, As, hvs, hrv⟩ : ∃ z As, (st.take b).reverse = .ref z :: As ∧ xrcv (xmc a) σ (.ref z) = true := by
      cases hl : (st.take b).reverse with
      | nil => rw [hl] at hr; exact absurd hr (by simp [xrcv])
      | cons v9 As =>
        rw [hl] at hr
        cases v9 with
        | ref z => exact ⟨z, As, rfl, hr⟩
        | _ => exact absurd hr (by simp [xrcv])
    have hn : (As.map (x_v ρ)).length = n := by
      rw [hvs, List.length_cons] at e2
      rw [List.length_map]
      omega
    have ehd : x_hd a = .code (xm a).1 (xm a).2.1 (xm a).2.2.1 (xm a).2.2.2.1 := if_pos ht
    have hpV : ∀ C : String, xrcl (xmc a) C → PreV s H C (ρ z) (va_Pc ((st.take b).reverse.map (x_v ρ)) (x_B A D cA sA ρ σ)) (As.map (x_v ρ)) := fun C hC9 => ⟨x_blind, x_rcv F hat hrc hrv hC9 (fun r9 cl fs h9 => (hs.at h9).1), fun U hU hW => by
      have h9 := x_pre (vs := (st.take b).reverse) F hat hU hW
      rw [hvs] at h9 ⊢
      exact h9⟩
    have hstk : (F0 m pc ls (st.map (x_v ρ))).stack = (As.map (x_v ρ)).reverse ++ .ref (ρ z) :: (st.drop b).map (x_v ρ) := by
      show st.map (x_v ρ) = _
      rw [e1, hvs, List.map_cons, List.reverse_cons, List.append_assoc]
      rfl
    rw [hvs]
    obtain ⟨cC, hcC⟩ := classAt_of (hWA _ hw0)
    exact x_runX (va_runSU hcC S (hC.2 hmt) (va_cwSU n hWA (x_good (a := a) F hw hhd) (by rw [ehd]) rfl rfl ⟨hnm, hpar⟩ hR) (hpV C hcl) rfl hn hsz hstk hW8 hd hf)
end CALLS
