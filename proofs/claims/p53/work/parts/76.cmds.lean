/-! THE PROGRAM: its commands are carried out. -/
theorem rtx_vc (N : List Nat) (vc v0 v1 : Nat) : rtx N 16 (0, vc, v0, v1) [] = rtx N 16 (0, 0, v0, v1) [] := rfl
/-- commands one after another, up to the first refusal: how many, what becomes of the kiln -/
def runK : List (Nat × (Nat × Nat)) → Nat → kK → Nat × kK
  | [], n, K => (n, K)
  | (c, a, b) :: cs, n, K => if (cmdX c a b K).1 < 0 then (n, (cmdX c a b K).2) else runK cs (n + 1) (cmdX c a b K).2
theorem drop_at {α : Type} {l : List α} {i : Nat} (h : i < l.length) : ∃ x, l[i]? = some x ∧ x ∈ l ∧ l.drop i = x :: l.drop (i + 1) := ⟨l[i], List.getElem?_eq_getElem h, List.getElem_mem h, List.drop_eq_getElem_cons h⟩
theorem l_cmds {S : List Int32} {d : Nat} (hd : 8 ≤ d) {e f sv : Int32} {B F V : kK} {ol sz : Nat} {R : Nat → kK} {vp : Nat} {ml ln : Int32} {D : List Int32} (k0 : Nat × Nat) (len ps vc : Int32) (tx : List Int32) (cm : List (Option Nat)) (fi se va : List Int32) (l : List (Nat × (Nat × Nat))) (hc : cmR l cm fi se) (hl16 : l.length ≤ 16) (hlb : ∀ c a b, (c, a, b) ∈ l → c < 10 ∧ a ≤ 1000 ∧ b ≤ 1000) (J : Nat → kK → Prop) (hJ1 : ∀ i K, J i K → kvp K) (hJ3 : ∀ i j K, i ≤ j → J i K → J j K) (hJ2 : ∀ i c a b, c < 10 → a ≤ 1000 → b ≤ 1000 → ∀ K, J i K → J (i + 1) (cmdX c a b K).2) (Z : Nat × kK) : ∀ (n i : Nat), i + n = l.length → ∀ (x2 : Value) (h : xH) (K : kK), J i K → W1 e f sv K B F V ol sz R (prC len ps (nI l.length) vc tx cm fi se va) vp ml ln D h → runK (l.drop i) i K = Z → yW S d 117 (2, [.ref 0, .int (nI i), x2], [], (h, k0)) (fun r => ∃ h2, J l.length Z.2 ∧ W1 e f sv Z.2 B F V ol sz R (prC len ps (nI l.length) vc tx cm fi se va) vp ml ln D h2 ∧ r = (.inl (some (.int (nI Z.1))), (h2, k0))) := by
  intro n
  induction n with
  | zero =>
    intro i hi x2 h K hJ hW1 e9
    obtain rfl : i = l.length := by omega
    rw [List.drop_length] at e9
    have e2 : Z = (l.length, K) := e9.symm
    subst e2
    obtain ⟨M, G, hM, hG, hW⟩ := id hW1
    obtain ⟨wl, wl2, wlM, wlP, wvp, w0, wK, wB, wF, wV, wH, wM, wG, wP, wL, wD, wR⟩ := id hW
    refine y_go rfl rfl ?_
    refine y_go rfl rfl ?_
    refine y_getf (w := .ref 113) rfl rfl (has_at w0 (i := 0) rfl) rfl ?_
    refine y_getf (w := .int (nI l.length)) rfl rfl (has_at wP (i := 0) rfl) rfl ?_
    refine y_ic_ge rfl (fun _ => ?_) (fun c => absurd c (nI_nlt (a := l.length) (b := l.length) (Nat.le_refl _) (by omega)))
    refine y_go rfl rfl ?_
    refine y_getf (w := .ref 113) rfl rfl (has_at w0 (i := 0) rfl) rfl ?_
    refine y_getf (w := .int (nI l.length)) rfl rfl (has_at wP (i := 0) rfl) rfl ?_
    exact y_ireturn rfl rfl rfl ⟨h, hJ, hW1, rfl⟩
  | succ n ih =>
    intro i hi x2 h K hJ hW1 e9
    have hlt : i < l.length := by omega
    obtain ⟨⟨c, a, b⟩, q1, q2, q3⟩ := drop_at hlt
    rw [q3] at e9
    obtain ⟨r1, r2, r3⟩ := hlb c a b q2
    obtain ⟨t1, t2, t3⟩ := hc.2.2.2 i c a b q1
    obtain ⟨M, G, hM, hG, hW⟩ := id hW1
    obtain ⟨wl, wl2, wlM, wlP, wvp, w0, wK, wB, wF, wV, wH, wM, wG, wP, wL, wD, wR⟩ := id hW
    have hkv := hJ1 i K hJ
    refine y_go rfl rfl ?_
    refine y_go rfl rfl ?_
    refine y_getf (w := .ref 113) rfl rfl (has_at w0 (i := 0) rfl) rfl ?_
    refine y_getf (w := .int (nI l.length)) rfl rfl (has_at wP (i := 0) rfl) rfl ?_
    refine y_ic_ge rfl (fun c => absurd (nI_lt (a := i) (b := l.length) hlt (by omega)) c) (fun _ => ?_)
    refine y_go rfl rfl ?_
    refine y_go rfl rfl ?_
    refine y_getf (w := .ref 113) rfl rfl (has_at w0 (i := 0) rfl) rfl ?_
    refine y_getf (w := .ref 115) rfl rfl (has_at wP (i := 0) rfl) rfl ?_
    refine y_go rfl rfl ?_
    refine y_aald (j := i) rfl (has_at wP (i := 2) rfl) (xidx_nI (by omega)) t1 ?_
    refine y_go rfl rfl ?_
    refine y_getf (w := .ref 113) rfl rfl (has_at w0 (i := 0) rfl) rfl ?_
    refine y_getf (w := .ref 116) rfl rfl (has_at wP (i := 0) rfl) rfl ?_
    refine y_go rfl rfl ?_
    refine y_ald (t := 0) (j := i) (x := nI a) rfl (Or.inl ⟨rfl, rfl⟩) (has_at wP (i := 3) rfl) (xidx_nI (by omega)) ((xgd (by have := hc.2.1; have := hc.2.2.1; omega)).trans (congrArg some t2)) ?_
    refine y_go rfl rfl ?_
    refine y_getf (w := .ref 113) rfl rfl (has_at w0 (i := 0) rfl) rfl ?_
    refine y_getf (w := .ref 117) rfl rfl (has_at wP (i := 0) rfl) rfl ?_
    refine y_go rfl rfl ?_
    refine y_ald (t := 0) (j := i) (x := nI b) rfl (Or.inl ⟨rfl, rfl⟩) (has_at wP (i := 4) rfl) (xidx_nI (by omega)) ((xgd (by have := hc.2.1; have := hc.2.2.1; omega)).trans (congrArg some t3)) ?_
    refine y_V1e rfl (Nat.le_of_ble_eq_true rfl) (Nat.le_of_ble_eq_true rfl) rfl rfl (xrcv_of (has_at w0 (i := 0) rfl)) (w_carry (by omega) hW hM hG hkv.1 hkv.2 k0 a b r2 r3 c r1) (fun h4 hz4 => ?_)
    have hJn := hJ2 i c a b r1 r2 r3 K hJ
    by_cases hneg : (cmdX c a b K).1 < 0
    · have e2 : Z = (i, (cmdX c a b K).2) := e9.symm.trans (if_pos hneg)
      subst e2
      refine y_go (g' := (45, [.ref 0, .int (nI i), .int ((cmdX c a b K).1)], _, _)) rfl rfl ?_
      refine y_go rfl rfl ?_
      refine y_if_ge rfl (fun c => absurd (hneg) c) (fun _ => ?_)
      refine y_go rfl rfl ?_
      exact y_ireturn rfl rfl rfl ⟨h4, hJ3 _ _ _ (by omega) hJn, hz4, rfl⟩
    · refine y_go (g' := (45, [.ref 0, .int (nI i), .int ((cmdX c a b K).1)], _, _)) rfl rfl ?_
      refine y_go rfl rfl ?_
      refine y_if_ge rfl (fun _ => ?_) (fun c => absurd c (hneg))
      refine y_go (g' := (54, [.ref 0, .int (nI (i + 1)), .int ((cmdX c a b K).1)], _, _)) rfl (by rw [← nI_1 i]; rfl) ?_
      refine y_go rfl rfl ?_
      exact ih (i + 1) (by omega) _ h4 _ hJn hz4 ((if_neg hneg).symm.trans e9)
theorem w_cmds {S : List Int32} {d : Nat} (hd : 9 ≤ d) {e f sv : Int32} {B F V : kK} {ol sz : Nat} {R : Nat → kK} {vp : Nat} {ml ln : Int32} {D : List Int32} (k0 : Nat × Nat) (len ps vc : Int32) (tx : List Int32) (cm : List (Option Nat)) (fi se va : List Int32) (l : List (Nat × (Nat × Nat))) (hc : cmR l cm fi se) (hl16 : l.length ≤ 16) (hlb : ∀ c a b, (c, a, b) ∈ l → c < 10 ∧ a ≤ 1000 ∧ b ≤ 1000) (J : Nat → kK → Prop) (hJ1 : ∀ i K, J i K → kvp K) (hJ3 : ∀ i j K, i ≤ j → J i K → J j K) (hJ2 : ∀ i c a b, c < 10 → a ≤ 1000 → b ≤ 1000 → ∀ K, J i K → J (i + 1) (cmdX c a b K).2) (h : xH) (K : kK) (hJ : J 0 K) (hW1 : W1 e f sv K B F V ol sz R (prC len ps (nI l.length) vc tx cm fi se va) vp ml ln D h) : yT S d 117 [.ref 0] (h, k0) (fun r => ∃ h2, J l.length (runK l 0 K).2 ∧ W1 e f sv (runK l 0 K).2 B F V ol sz R (prC len ps (nI l.length) vc tx cm fi se va) vp ml ln D h2 ∧ r = (.inl (some (.int (nI (runK l 0 K).1))), (h2, k0))) := by
  obtain ⟨d, rfl⟩ : ∃ e, d = e + 1 := ⟨d - 1, by omega⟩
  refine yT_of (Nat.le_of_ble_eq_true rfl) ?_ (fun r hr hx => by obtain ⟨h2, -, -, rfl⟩ := hr; cases hx)
  show yW S d 117 (0, [.ref 0, xno, xno], [], (h, k0)) _
  refine y_go rfl rfl ?_
  refine y_go (g' := (2, [.ref 0, .int 0, xno], _, _)) rfl rfl ?_
  exact l_cmds (by omega) k0 len ps vc tx cm fi se va l hc hl16 hlb J hJ1 hJ3 hJ2 _ l.length 0 (by omega) _ h K hJ hW1 rfl
