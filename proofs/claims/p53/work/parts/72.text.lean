/-! THE PROGRAM: the text is read. -/
theorem rcm_ok {N : List Nat} {p0 : Nat} (hN : N.length ≤ 60) (hB : ∀ i, i < N.length → gn N i < 128) (hp : p0 ≤ 60) : ∀ (n c r : Nat) (s : Nat × (Nat × Nat)), r ≤ 60 → (s.1 ≤ 2 ∧ s.2.1 ≤ 1000 ∧ s.2.2 ≤ 1000) → sOK (rcm N p0 n c r s).2
  | 0, _, _, _, hr, hs => ⟨hr, hs⟩
  | n + 1, c, r, s, hr, hs => by
    have hok := foT_ok hN hB (patN c) (p0, 0, s.2) ⟨hp, Nat.zero_le _, hs.2⟩
    simp only [rcm]
    split
    · exact hok
    · exact rcm_ok hN hB hp n (c + 1) _ _ (Nat.max_le.mpr ⟨hr, hok.1⟩) hok.2
/-- the commands of a text: whether it is a program, the position, the values, the commands -/
def rtx (N : List Nat) : Nat → pV → List (Nat × (Nat × Nat)) → Bool × (pV × List (Nat × (Nat × Nat)))
  | 0, s, l => (false, s, l)
  | n + 1, s, l => if (rcm N s.1 10 0 s.1 s.2).1 = 10 then (false, (rcm N s.1 10 0 s.1 s.2).2, l) else
      if N.length ≤ (rcm N s.1 10 0 s.1 s.2).2.1 then (true, (rcm N s.1 10 0 s.1 s.2).2, l ++ [((rcm N s.1 10 0 s.1 s.2).1, (rcm N s.1 10 0 s.1 s.2).2.2.2)]) else
      if gn N (rcm N s.1 10 0 s.1 s.2).2.1 = 59 then rtx N n ((rcm N s.1 10 0 s.1 s.2).2.1 + 1, (rcm N s.1 10 0 s.1 s.2).2.2) (l ++ [((rcm N s.1 10 0 s.1 s.2).1, (rcm N s.1 10 0 s.1 s.2).2.2.2)])
      else (false, (rcm N s.1 10 0 s.1 s.2).2, l ++ [((rcm N s.1 10 0 s.1 s.2).1, (rcm N s.1 10 0 s.1 s.2).2.2.2)])
/-- the rows hold these commands -/
def cmR (l : List (Nat × (Nat × Nat))) (cm : List (Option Nat)) (fi se : List Int32) : Prop := cm.length = 16 ∧ fi.length = 16 ∧ se.length = 16 ∧ ∀ k c a b, l[k]? = some (c, a, b) → cm[k]? = some (some (1000000 + c)) ∧ gd fi k = nI a ∧ gd se k = nI b
theorem cmR_nil {cm : List (Option Nat)} {fi se : List Int32} (h1 : cm.length = 16) (h2 : fi.length = 16) (h3 : se.length = 16) : cmR [] cm fi se := ⟨h1, h2, h3, fun k c a b h => by simp at h⟩
theorem cmR_add {l : List (Nat × (Nat × Nat))} {cm : List (Option Nat)} {fi se : List Int32} (h : cmR l cm fi se) (hl : l.length < 16) (c a b : Nat) : cmR (l ++ [(c, a, b)]) (cm.set l.length (some (1000000 + c))) (fi.set l.length (nI a)) (se.set l.length (nI b)) := by
  obtain ⟨h1, h2, h3, h4⟩ := h
  refine ⟨by rw [List.length_set]; exact h1, by rw [List.length_set]; exact h2, by rw [List.length_set]; exact h3, fun k c2 a2 b2 hk => ?_⟩
  by_cases q : k = l.length
  · subst q
    rw [List.getElem?_append_right (Nat.le_refl _), Nat.sub_self] at hk
    simp only [List.getElem?_cons_zero, Option.some.injEq, Prod.mk.injEq] at hk
    obtain ⟨rfl, rfl, rfl⟩ := hk
    rw [gd_set (by omega), gd_set (by omega), if_pos rfl, if_pos rfl]
    exact ⟨List.getElem?_set_self (by omega), rfl, rfl⟩
  · have hk2 : k < l.length := by
      have : k < (l ++ [(c, a, b)]).length := (List.getElem?_eq_some_iff.mp hk).1
      rw [List.length_append, List.length_singleton] at this; omega
    rw [List.getElem?_append_left hk2] at hk
    rw [gd_set (by omega), gd_set (by omega), if_neg (fun e => q e.symm), if_neg (fun e => q e.symm), List.getElem?_set_ne (fun e => q e.symm)]
    exact h4 k c2 a2 b2 hk
theorem l_text {S : List Int32} {d : Nat} (hd : 6 ≤ d) {h : xH} (hl : 113 + 6 ≤ h.length) (hl6 : h.length ≤ 1000000) (k0 : Nat × Nat) (N : List Nat) (hN : N.length ≤ 60) (tx : List Int32) (ht : tx.length = 60) (hT : ∀ i, i < N.length → gd tx i = nI (gn N i)) (hB : ∀ i, i < N.length → gn N i < 128) (R : Bool × (pV × List (Nat × (Nat × Nat)))) : ∀ (n i : Nat), i + n = 16 → ∀ (s : pV) (l : List (Nat × (Nat × Nat))) (cm : List (Option Nat)) (fi se : List Int32), l.length = i → cmR l cm fi se → sOK s → rtx N n s l = R → yW S d 52 (12, [.ref 113, .int (nI i)], [], (put h 113 (prC (nI N.length) (nI s.1) (nI l.length) (nI s.2.1) tx cm fi se [nI s.2.2.1, nI s.2.2.2]), k0)) (fun r => ∃ z : List (Option Nat) × (List Int32 × List Int32), cmR R.2.2 z.1 z.2.1 z.2.2 ∧ r = (.inl (some (.int (if R.1 = true then 1 else 0))), (put h 113 (prC (nI N.length) (nI R.2.1.1) (nI R.2.2.length) (nI R.2.1.2.1) tx z.1 z.2.1 z.2.2 [nI R.2.1.2.2.1, nI R.2.1.2.2.2]), k0))) := by
  intro n
  induction n with
  | zero =>
    intro i hi s l cm fi se hli hc hs e
    obtain rfl : i = 16 := by omega
    have e2 : R = (false, s, l) := e.symm
    subst e2
    refine y_go rfl rfl ?_
    refine y_go rfl rfl ?_
    refine y_ic_ge rfl (fun _ => ?_) (fun c => absurd c (nI_nlt (a := 16) (b := 16) (by omega) (by decide)))
    refine y_go rfl rfl ?_
    exact y_ireturn rfl rfl (by first | rfl | (split <;> rfl)) ⟨(cm, fi, se), hc, rfl⟩
  | succ n ih =>
    intro i hi s l cm fi se hli hc hs e
    have hlt : i < 16 := by omega
    have hok : sOK (rcm N s.1 10 0 s.1 s.2).2 := rcm_ok hN hB hs.1 10 0 s.1 s.2 hs.1 hs.2
    refine y_go rfl rfl ?_
    refine y_go rfl rfl ?_
    refine y_ic_ge rfl (fun c => absurd (nI_lt (a := i) (b := 16) hlt (by decide)) c) (fun _ => ?_)
    refine y_go rfl rfl ?_
    refine y_callV rfl (Nat.le_of_ble_eq_true rfl) (Nat.le_of_ble_eq_true rfl) rfl rfl (xrcvR (n := 0) hl rfl rfl) (s_readCommand (by omega) hl k0 N hN tx ht hT hB cm fi se l.length hl6 hc.1 hc.2.1 hc.2.2.1 (by omega) s.1 s.2.1 s.2.2.1 s.2.2.2 hs) (fun q hq => Or.inl ?_)
    rcases hq with ⟨hR, rfl⟩ | ⟨hR, rfl⟩
    · refine ⟨_, rfl, ?_⟩
      show yW S d 52 (22, [.ref 113, .int (nI i)], [.int 1], ((put h 113 (prC (nI N.length) (nI (rcm N s.1 10 0 s.1 s.2).2.1) (nI (l.length + 1)) (nI (rcm N s.1 10 0 s.1 s.2).2.2.1) tx (cm.set l.length (some (1000000 + (rcm N s.1 10 0 s.1 s.2).1))) (fi.set l.length (nI (rcm N s.1 10 0 s.1 s.2).2.2.2.1)) (se.set l.length (nI (rcm N s.1 10 0 s.1 s.2).2.2.2.2)) ([nI (rcm N s.1 10 0 s.1 s.2).2.2.2.1, nI (rcm N s.1 10 0 s.1 s.2).2.2.2.2]))), k0)) _
      have hca := cmR_add hc (by omega) (rcm N s.1 10 0 s.1 s.2).1 (rcm N s.1 10 0 s.1 s.2).2.2.2.1 (rcm N s.1 10 0 s.1 s.2).2.2.2.2
      have hll : (l ++ [((rcm N s.1 10 0 s.1 s.2).1, (rcm N s.1 10 0 s.1 s.2).2.2.2)]).length = l.length + 1 := by rw [List.length_append]; rfl
      have e0 := e
      rw [show rtx N (n + 1) s l = _ from (if_neg (fun q => absurd (show (rcm N s.1 10 0 s.1 s.2).1 < 10 from hR) (by omega)))] at e0
      by_cases hp : (rcm N s.1 10 0 s.1 s.2).2.1 < N.length
      · rw [if_neg (show ¬ N.length ≤ (rcm N s.1 10 0 s.1 s.2).2.1 by omega)] at e0
        by_cases h59 : gn N (rcm N s.1 10 0 s.1 s.2).2.1 = 59
        · rw [if_pos h59] at e0
          refine y_if_ne rfl (fun _ => ?_) (fun c => absurd c (by decide))
          refine y_go rfl rfl ?_
          refine y_getR (w := .int (nI (rcm N s.1 10 0 s.1 s.2).2.1)) (j := 0) rfl hl rfl rfl rfl rfl ?_
          refine y_go rfl rfl ?_
          refine y_getR (w := .int (nI N.length)) (j := 0) rfl hl rfl rfl rfl rfl ?_
          refine y_ic_lt rfl (fun _ => ?_) (fun c => absurd (nI_lt (a := (rcm N s.1 10 0 s.1 s.2).2.1) (b := N.length) hp (by omega)) c)
          refine y_go rfl rfl ?_
          refine y_getR (w := .ref 114) (j := 0) rfl hl rfl rfl rfl rfl ?_
          refine y_go rfl rfl ?_
          refine y_getR (w := .int (nI (rcm N s.1 10 0 s.1 s.2).2.1)) (j := 0) rfl hl rfl rfl rfl rfl ?_
          refine y_aldR (t := 1) (n := 1) (j := ((rcm N s.1 10 0 s.1 s.2).2.1)) (l := tx) (x := nI (gn N ((rcm N s.1 10 0 s.1 s.2).2.1))) rfl (Or.inr (Or.inl ⟨rfl, rfl⟩)) hl rfl rfl (xidx_nI (by omega)) ((xgd (by omega)).trans (congrArg some (hT _ hp))) ?_
          refine y_go rfl rfl ?_
          refine y_ic_eq rfl (fun _ => ?_) (fun c => absurd ((nI_eq (a := gn N (rcm N s.1 10 0 s.1 s.2).2.1) (b := 59) (by have := hB _ hp; omega) (by decide)).mpr h59) c)
          refine y_go rfl rfl ?_
          refine y_go rfl rfl ?_
          refine y_getR (w := .int (nI (rcm N s.1 10 0 s.1 s.2).2.1)) (j := 0) rfl hl rfl rfl rfl rfl ?_
          refine y_go rfl rfl ?_
          refine y_go rfl rfl ?_
          rw [show nI (rcm N s.1 10 0 s.1 s.2).2.1 + 1 = nI ((rcm N s.1 10 0 s.1 s.2).2.1 + 1) from nI_1 _]
          refine y_putR (j := 0) (cs' := (prC (nI N.length) (nI ((rcm N s.1 10 0 s.1 s.2).2.1 + 1)) (nI (l.length + 1)) (nI (rcm N s.1 10 0 s.1 s.2).2.2.1) tx (cm.set l.length (some (1000000 + (rcm N s.1 10 0 s.1 s.2).1))) (fi.set l.length (nI (rcm N s.1 10 0 s.1 s.2).2.2.2.1)) (se.set l.length (nI (rcm N s.1 10 0 s.1 s.2).2.2.2.2)) ([nI (rcm N s.1 10 0 s.1 s.2).2.2.2.1, nI (rcm N s.1 10 0 s.1 s.2).2.2.2.2]))) rfl hl rfl rfl (Nat.le_of_ble_eq_true rfl) (xf_int rfl) rfl ?_
          refine y_go (g' := (69, [.ref 113, .int (nI (i + 1))], _, _)) rfl (by rw [← nI_1 i]; rfl) ?_
          refine y_go rfl rfl ?_
          rw [← hll]
          exact ih (i + 1) (by omega) ((rcm N s.1 10 0 s.1 s.2).2.1 + 1, (rcm N s.1 10 0 s.1 s.2).2.2) _ _ _ _ (by rw [hll, hli]) hca ⟨by show (rcm N s.1 10 0 s.1 s.2).2.1 + 1 ≤ 60; omega, hok.2⟩ e0
        · rw [if_neg h59] at e0
          subst e0
          refine y_if_ne rfl (fun _ => ?_) (fun c => absurd c (by decide))
          refine y_go rfl rfl ?_
          refine y_getR (w := .int (nI (rcm N s.1 10 0 s.1 s.2).2.1)) (j := 0) rfl hl rfl rfl rfl rfl ?_
          refine y_go rfl rfl ?_
          refine y_getR (w := .int (nI N.length)) (j := 0) rfl hl rfl rfl rfl rfl ?_
          refine y_ic_lt rfl (fun _ => ?_) (fun c => absurd (nI_lt (a := (rcm N s.1 10 0 s.1 s.2).2.1) (b := N.length) hp (by omega)) c)
          refine y_go rfl rfl ?_
          refine y_getR (w := .ref 114) (j := 0) rfl hl rfl rfl rfl rfl ?_
          refine y_go rfl rfl ?_
          refine y_getR (w := .int (nI (rcm N s.1 10 0 s.1 s.2).2.1)) (j := 0) rfl hl rfl rfl rfl rfl ?_
          refine y_aldR (t := 1) (n := 1) (j := ((rcm N s.1 10 0 s.1 s.2).2.1)) (l := tx) (x := nI (gn N ((rcm N s.1 10 0 s.1 s.2).2.1))) rfl (Or.inr (Or.inl ⟨rfl, rfl⟩)) hl rfl rfl (xidx_nI (by omega)) ((xgd (by omega)).trans (congrArg some (hT _ hp))) ?_
          refine y_go rfl rfl ?_
          refine y_ic_eq rfl (fun c => absurd c (fun q => h59 ((nI_eq (a := gn N (rcm N s.1 10 0 s.1 s.2).2.1) (b := 59) (by have := hB _ hp; omega) (by decide)).mp q))) (fun _ => ?_)
          refine y_go rfl rfl ?_
          exact y_ireturn rfl rfl (by first | rfl | (split <;> rfl)) ⟨(_, _, _), hca, by rw [hll]; rfl⟩
      · rw [if_pos (show N.length ≤ (rcm N s.1 10 0 s.1 s.2).2.1 by omega)] at e0
        subst e0
        refine y_if_ne rfl (fun _ => ?_) (fun c => absurd c (by decide))
        refine y_go rfl rfl ?_
        refine y_getR (w := .int (nI (rcm N s.1 10 0 s.1 s.2).2.1)) (j := 0) rfl hl rfl rfl rfl rfl ?_
        refine y_go rfl rfl ?_
        refine y_getR (w := .int (nI N.length)) (j := 0) rfl hl rfl rfl rfl rfl ?_
        refine y_ic_lt rfl (fun c => absurd c (nI_nlt (a := (rcm N s.1 10 0 s.1 s.2).2.1) (b := N.length) (by omega) (by have := hok.1; omega))) (fun _ => ?_)
        refine y_go rfl rfl ?_
        exact y_ireturn rfl rfl (by first | rfl | (split <;> rfl)) ⟨(_, _, _), hca, by rw [hll]; rfl⟩
    · refine ⟨_, rfl, ?_⟩
      show yW S d 52 (22, [.ref 113, .int (nI i)], [.int 0], ((put h 113 (prC (nI N.length) (nI (rcm N s.1 10 0 s.1 s.2).2.1) (nI l.length) (nI (rcm N s.1 10 0 s.1 s.2).2.2.1) tx cm fi se ([nI (rcm N s.1 10 0 s.1 s.2).2.2.2.1, nI (rcm N s.1 10 0 s.1 s.2).2.2.2.2]))), k0)) _
      have e2 : R = (false, (rcm N s.1 10 0 s.1 s.2).2, l) := e.symm.trans (if_pos hR)
      subst e2
      refine y_if_ne rfl (fun c => absurd (by decide) c) (fun _ => ?_)
      refine y_go rfl rfl ?_
      exact y_ireturn rfl rfl (by first | rfl | (split <;> rfl)) ⟨(cm, fi, se), hc, rfl⟩
theorem s_readText {S : List Int32} {d : Nat} (hd : 7 ≤ d) {h : xH} (hl : 113 + 6 ≤ h.length) (hl6 : h.length ≤ 1000000) (k0 : Nat × Nat) (N : List Nat) (hN : N.length ≤ 60) (tx : List Int32) (ht : tx.length = 60) (hT : ∀ i, i < N.length → gd tx i = nI (gn N i)) (hB : ∀ i, i < N.length → gn N i < 128) (cm : List (Option Nat)) (fi se : List Int32) (h1 : cm.length = 16) (h2 : fi.length = 16) (h3 : se.length = 16) (ps cnt : Int32) (vc v0 v1 : Nat) (hs : sOK (0, vc, v0, v1)) : yT S d 52 [.ref 113] (put h 113 (prC (nI N.length) ps cnt (nI vc) tx cm fi se [nI v0, nI v1]), k0) (fun r => ∃ z : List (Option Nat) × (List Int32 × List Int32), cmR (rtx N 16 (0, vc, v0, v1) []).2.2 z.1 z.2.1 z.2.2 ∧ r = (.inl (some (.int (if (rtx N 16 (0, vc, v0, v1) []).1 = true then 1 else 0))), (put h 113 (prC (nI N.length) (nI (rtx N 16 (0, vc, v0, v1) []).2.1.1) (nI ((rtx N 16 (0, vc, v0, v1) []).2.2.length)) (nI (rtx N 16 (0, vc, v0, v1) []).2.1.2.1) tx z.1 z.2.1 z.2.2 [nI (rtx N 16 (0, vc, v0, v1) []).2.1.2.2.1, nI (rtx N 16 (0, vc, v0, v1) []).2.1.2.2.2]), k0))) := by
  obtain ⟨d, rfl⟩ : ∃ e, d = e + 1 := ⟨d - 1, by omega⟩
  refine yT_e (Nat.le_of_ble_eq_true rfl) ?_
  show yW S d 52 (0, [.ref 113, xno], [], (put h 113 (prC (nI N.length) ps cnt (nI vc) tx cm fi se [nI v0, nI v1]), k0)) _
  refine y_go rfl rfl ?_
  refine y_go rfl rfl ?_
  refine y_putR (j := 0) (cs' := (prC (nI N.length) ps 0 (nI vc) tx cm fi se ([nI v0, nI v1]))) rfl hl rfl rfl (Nat.le_of_ble_eq_true rfl) (xf_int rfl) rfl ?_
  refine y_go rfl rfl ?_
  refine y_go rfl rfl ?_
  refine y_putR (j := 0) (cs' := (prC (nI N.length) 0 0 (nI vc) tx cm fi se ([nI v0, nI v1]))) rfl hl rfl rfl (Nat.le_of_ble_eq_true rfl) (xf_int rfl) rfl ?_
  refine y_go rfl rfl ?_
  refine y_go (g' := (12, [.ref 113, .int 0], _, _)) rfl rfl ?_
  exact l_text (by omega) hl hl6 k0 N hN tx ht hT hB _ 16 0 (by omega) (0, vc, v0, v1) [] cm fi se rfl (cmR_nil h1 h2 h3) hs rfl
