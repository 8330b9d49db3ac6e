/-! EVERY METHOD'S CONTRACT: where the interpreter comes to q, the machine does. -/
section EMET
variable {l : Launch} {A : Nat → Prop} {D : va_G} {cA : Nat → ClassId} {sA : Nat → Nat}
theorem x_start {p : Program} {e : Env} {s : State} {m : MethodId} {args : Array Value} {below : List Frame} {meth : Method} {c : Code} {Q : State → Prop} {R : Room} (G : xgood) (hl : l.stackTraces = false) {d a : Nat} {vs : List Value} {σ : xS} {q : xR} {ρ : Nat → Nat}
    (hC : ∀ (a : Nat) (vs : List Value) (σ : xS) (q : xR) (ρ : Nat → Nat), yE (xscr sA) d a vs σ q → xsok σ → xlok σ.1.length vs → (q.1.isRight = true → xmt a = true) ∧ x_con l A D cA sA ρ d a vs σ q)
    (h : yE (xscr sA) (d + 1) a vs σ q) (hs : xsok σ) (hv : xlok σ.1.length vs) (F : x_F A D cA sA a p s m args meth c) (hwd : x_wd A D cA sA ρ σ s.heap) (hRf : d + 13 ≤ R.frames) (hRl : 60 * d + 260 ≤ R.locals) (hR1 : q.2.2.1 ≤ R.cells + σ.2.1) (hR2 : q.2.2.2 ≤ R.slots + σ.2.2)
    (hends : x_ends A D cA sA ρ σ q p l e R s m args below meth c Q) :
    W p l e R s m args below meth c s.heap [] 0 0 Q (entryFrame m (vs.map (x_v ρ)).toArray (xm a).2.2.1) := by
  obtain ⟨h1, h2, n, h3⟩ := h
  rw [lg_entry_eq]
  have hlen : (xargs (vs.map (x_v ρ))).length ≤ (xm a).2.2.1 := by rw [xargs_map, List.length_map]; exact h1
  have hL := x_L.entry hlen
  rw [xentry_map] at hL
  have hmt : q.1.isRight = true → xmt a = true := fun hq => by
    cases hq1 : q.1 with
    | inl w => rw [hq1] at hq; cases hq
    | inr E => exact h2 E hq1
  exact x_run rfl G hl (yE_ok G.2.1 d) hC F hRf hRl hmt hR1 hR2 hends n (0, xentry vs (xm a).2.2.1, [], σ) ⟨hs, hv.entry, xlok.nil _⟩ h3 (Nat.le_refl _) ρ _ s.heap [] 0 0 x_ag.rf (Nat.zero_add _) (Nat.zero_add _) ⟨hwd.1, hwd.2.1, va_S.rf, hL, hwd.2.2⟩
theorem x_E (G : xgood) (hl : l.stackTraces = false) : ∀ (d a : Nat) (vs : List Value) (σ : xS) (q : xR) (ρ : Nat → Nat), yE (xscr sA) d a vs σ q → xsok σ → xlok σ.1.length vs → (q.1.isRight = true → xmt a = true) ∧ x_con l A D cA sA ρ d a vs σ q
  | 0, _, _, _, _, _, h, _, _ => h.elim
  | d + 1, a, vs, σ, q, ρ, h, hs, hv => by
    have ih := x_E G hl d
    have hmt : ∀ E, q.1 = .inr E → xmt a = true := h.2.1
    have hok := yE_ok G.2.1 (d + 1) _ _ _ _ hs hv h
    have z1 := hok.2.1.2.1
    have z2 := hok.2.1.2.2
    refine ⟨fun hq => ?_, fun hm => ?_, fun hm => ?_⟩
    · cases hq1 : q.1 with
      | inl w => rw [hq1] at hq; cases hq
      | inr E => exact hmt E hq1
    · have ht := G.2.2.2.2.2.1 a hm
      have ehd : x_hd a = .code (xm a).1 (xm a).2.1 (xm a).2.2.1 (xm a).2.2.2.1 := if_pos ht
      refine vx_ofW (G.2.2.2.2.2.2 a) (by rw [ehd]) ?_
      intro p e s m args below meth c s₁ B hml hex hP
      obtain ⟨rfl, hK, hCF, hwd⟩ := hP
      have F : x_F A D cA sA a p s m (vs.map (x_v ρ)).toArray meth c := ⟨B.exec, B.bytes, hml, findClass_of_methodNamed B.named, (name_of_methodNamed B.named B.method).1, B.returns, B.notSynchronized, fun w hw => atoms_spec B.pre w (List.mem_cons_of_mem _ hw), hK, hCF, by rw [ht]; exact List.eq_nil_iff_forall_not_mem.mpr hex⟩
      refine x_start G hl ih h hs hv F hwd ?_ ?_ ?_ ?_ ⟨fun H locs cells slots g hloc hc hs9 k => ?_, fun E hE => ?_⟩
      · show d + 13 ≤ d + 1 + 12
        omega
      · show 60 * d + 260 ≤ 60 * (d + 1) + 200
        omega
      · show _ ≤ (q.2.2.1 - σ.2.1) + _
        omega
      · show _ ≤ (q.2.2.2 - σ.2.2) + _
        omega
      · have e1 : q.2.2.1 - σ.2.1 = cells := by omega
        have e2 : q.2.2.2 - σ.2.2 = slots := by omega
        rw [e1, e2] at k ⊢
        exact vx_ret (k locs cells slots A hloc)
      · exact ⟨q.2.2.1 - σ.2.1, q.2.2.2 - σ.2.2, by omega, by omega, rfl⟩
    · have body : ∀ (p : Program) (e : Env) (s : State) (m : MethodId) (args : Array Value) (below : List Frame) (meth : Method) (c : Code) (s₁ : State), BodyLoose p l (xm a).1 (headSpec (x_hd a :: xWA) (x_rm (d + 1) (q.2.2.1 - σ.2.1) (q.2.2.2 - σ.2.2))) (xm a).2.1 (xm a).2.2.1 (xm a).2.2.2.1 e s m args below meth c s₁ → c.maxLocals = (xm a).2.2.1 → c.exceptionTable.toList = tableOf (xm a).2.2.2.2 → va_Pc (vs.map (x_v ρ)) (x_B A D cA sA ρ σ) args s →
          W p l e (headSpec (x_hd a :: xWA) (x_rm (d + 1) (q.2.2.1 - σ.2.1) (q.2.2.2 - σ.2.2))).room s m args below meth c s.heap [] 0 0 (MQ below (x_Q A D cA sA ρ σ q) args s (q.2.2.1 - σ.2.1) (q.2.2.2 - σ.2.2) A) (entryFrame m args (xm a).2.2.1) := by
        intro p e s m args below meth c s₁ B hml hex hP
        obtain ⟨rfl, hK, hCF, hwd⟩ := hP
        have F : x_F A D cA sA a p s m (vs.map (x_v ρ)).toArray meth c := ⟨B.exec, B.bytes, hml, findClass_of_methodNamed B.named, (name_of_methodNamed B.named B.method).1, B.returns, B.notSynchronized, fun w hw => atoms_spec B.pre w (List.mem_cons_of_mem _ hw), hK, hCF, hex⟩
        refine x_start G hl ih h hs hv F hwd ?_ ?_ ?_ ?_ ⟨fun H locs cells slots g hloc hc hs9 k => ?_, fun E hE => ?_⟩
        · show d + 13 ≤ d + 1 + 12
          omega
        · show 60 * d + 260 ≤ 60 * (d + 1) + 200
          omega
        · show _ ≤ (q.2.2.1 - σ.2.1) + _
          omega
        · show _ ≤ (q.2.2.2 - σ.2.2) + _
          omega
        · have e1 : q.2.2.1 - σ.2.1 = cells := by omega
          have e2 : q.2.2.2 - σ.2.2 = slots := by omega
          rw [e1, e2] at k ⊢
          exact k locs cells slots A hloc
        · exact absurd (hmt E hE) (by rw [hm]; exact Bool.false_ne_true)
      by_cases ht : (xm a).2.2.2.2 = []
      · have ehd : x_hd a = .code (xm a).1 (xm a).2.1 (xm a).2.2.1 (xm a).2.2.2.1 := if_pos ht
        refine Met.ofW (G.2.2.2.2.2.2 a) (by rw [ehd]) ?_
        intro p e s m args below meth c s₁ B hml hP
        refine body p e s m args below meth c s₁ B hml ?_ hP
        obtain ⟨meth9, c9, h1, h2, -, -, -, -, h7, -⟩ := Cond.code_spec B.named (ehd ▸ atoms_spec B.pre (x_hd a) List.mem_cons_self)
        cases Option.some.inj (h1.symm.trans B.method)
        cases Option.some.inj (h2.symm.trans (Stand.of_body B).code)
        rw [ht]
        show c.exceptionTable.toList = []
        rw [Array.isEmpty_iff.mp h7]
      · have ehd : x_hd a = .codeWith (xm a).1 (xm a).2.1 (xm a).2.2.1 (xm a).2.2.2.1 (xm a).2.2.2.2 := if_neg ht
        refine va_MetW (G.2.2.2.2.2.2 a) (by rw [ehd]) ?_
        intro p e s m args below meth c s₁ B hml hP
        exact body p e s m args below meth c s₁ B hml (vx_table (x := (xm a).1) B (ehd ▸ atoms_spec B.pre (x_hd a) List.mem_cons_self)) hP
end EMET
