/-! THE PROGRAM: patterns. -/
def sOK (s : pV) : Prop := s.1 ≤ 60 ∧ s.2.1 ≤ 2 ∧ s.2.2.1 ≤ 1000 ∧ s.2.2.2 ≤ 1000
theorem addV_ok {v p : Nat} {s : Nat × (Nat × Nat)} (hv : v ≤ 1000) (hp : p ≤ 60) (h : s.1 ≤ 2 ∧ s.2.1 ≤ 1000 ∧ s.2.2 ≤ 1000) : sOK (p, addV v s) := by
  obtain ⟨h1, h2, h3⟩ := h
  unfold sOK addV
  dsimp only
  split
  · exact ⟨hp, by show 1 ≤ 2; decide, hv, h3⟩
  · split
    · exact ⟨hp, Nat.le_refl _, h2, hv⟩
    · exact ⟨hp, h1, h2, h3⟩
theorem rdC_ok {N : List Nat} {w : Nat} {s : pV} (hN : N.length ≤ 60) (hB : ∀ i, i < N.length → gn N i < 128) (h : sOK s) : sOK (rdC N w s).2 := by
  have h0 := h
  obtain ⟨h1, h2⟩ := h
  unfold rdC
  split
  · rename_i hp
    have hb := hB _ hp
    split
    · split
      · exact addV_ok (by omega) (by omega) h2
      · exact h0
    · split
      · split
        · exact addV_ok (by omega) (by omega) h2
        · exact h0
      · split
        · exact ⟨by show s.1 + 1 ≤ 60; omega, h2⟩
        · exact h0
  · exact h0
theorem rdN_ok {N : List Nat} {s : pV} (hN : N.length ≤ 60) (h : sOK s) : sOK (rdN N s).2 := by
  obtain ⟨h1, h2⟩ := h
  have hb := rdNl_b N 3 0 0 s.1 (by decide) h1 hN (by decide)
  exact addV_ok (by omega) hb.2.1 h2
def fo1 (N : List Nat) (c : Nat) (s : pV) : Bool × pV := if c = 37 then rdN N s else rdC N c s
theorem fo1_ok {N : List Nat} {c : Nat} {s : pV} (hN : N.length ≤ 60) (hB : ∀ i, i < N.length → gn N i < 128) (h : sOK s) : sOK (fo1 N c s).2 := by
  unfold fo1; split
  · exact rdN_ok hN h
  · exact rdC_ok hN hB h
/-- a pattern is followed -/
def foT (N : List Nat) : List Nat → pV → Bool × pV
  | [], s => (true, s)
  | c :: cs, s => if (fo1 N c s).1 = true then foT N cs (fo1 N c s).2 else (false, (fo1 N c s).2)
theorem foT_ok {N : List Nat} (hN : N.length ≤ 60) (hB : ∀ i, i < N.length → gn N i < 128) : ∀ (cs : List Nat) (s : pV), sOK s → sOK (foT N cs s).2
  | [], _, h => h
  | c :: cs, s, h => by
    simp only [foT]; split
    · exact foT_ok hN hB cs _ (fo1_ok hN hB h)
    · exact fo1_ok hN hB h
theorem gd_mapI {l : List Nat} {i : Nat} (h : i < l.length) : gd (l.map nI) i = nI (gn l i) := by
  unfold gd gn
  rw [List.getD_eq_getElem?_getD, List.getD_eq_getElem?_getD, List.getElem?_map, List.getElem?_eq_getElem h]; rfl
theorem drop_gn {l : List Nat} {i : Nat} (h : i < l.length) : l.drop i = gn l i :: l.drop (i + 1) := by
  rw [List.drop_eq_getElem_cons h]
  unfold gn
  rw [List.getD_eq_getElem?_getD, List.getElem?_eq_getElem h]; rfl
theorem l_follow {S : List Int32} {d : Nat} (hd : 3 ≤ d) {h : xH} (hl : 113 + 6 ≤ h.length) (k0 : Nat × Nat) (N : List Nat) (hN : N.length ≤ 60) (tx : List Int32) (ht : tx.length = 60) (hT : ∀ i, i < N.length → gd tx i = nI (gn N i)) (hB : ∀ i, i < N.length → gn N i < 128) (cm : List (Option Nat)) (fi se : List Int32) (cnt : Nat) (hl6 : h.length ≤ 1000000) {q : Nat} {pat : List Nat} (hq : xstr q (pat.map nI)) (hpl : pat.length < 100) (hpc : ∀ i, i < pat.length → gn pat i < 128) (R : Bool × pV) : ∀ (n i : Nat), i + n = pat.length → ∀ (x3 x4 : Value) (s : pV), sOK s → foT N (pat.drop i) s = R → yW S d 55 (7, [.ref 113, .ref q, .int (nI i), x3, x4], [], (put h 113 (prC (nI N.length) (nI s.1) (nI cnt) (nI s.2.1) tx cm fi se [nI s.2.2.1, nI s.2.2.2]), k0)) (· = (.inl (some (.int (if R.1 = true then 1 else 0))), (put h 113 (prC (nI N.length) (nI R.2.1) (nI cnt) (nI R.2.2.1) tx cm fi se [nI R.2.2.2.1, nI R.2.2.2.2]), k0))) := by
  intro n
  induction n with
  | zero =>
    intro i hi x3 x4 s hs e
    obtain rfl : i = pat.length := by omega
    rw [List.drop_length] at e
    have e2 : R = (true, s) := e.symm
    subst e2
    refine y_go rfl rfl ?_
    refine y_go rfl rfl ?_
    refine y_V1 rfl (Nat.le_of_ble_eq_true rfl) (Nat.le_of_ble_eq_true rfl) rfl rfl (xrcv_k (xnoh (by rw [put_len (cs := prC _ _ _ _ _ _ _ _ _) hl]; exact hl6) hq.2.1) hq.1) (s_strlen (by omega) (by rw [put_len (cs := prC _ _ _ _ _ _ _ _ _) hl]; exact hl6) hq) ?_
    rw [List.length_map]
    refine y_ic_ge rfl (fun _ => ?_) (fun c => absurd c (nI_nlt (a := pat.length) (b := pat.length) (Nat.le_refl _) (by omega)))
    refine y_go rfl rfl ?_
    exact y_ireturn rfl rfl (by first | rfl | (split <;> rfl)) rfl
  | succ n ih =>
    intro i hi x3 x4 s hs e
    have hlt : i < pat.length := by omega
    rw [drop_gn hlt] at e
    have hcc := hpc i hlt
    have hok := fo1_ok (c := gn pat i) hN hB hs
    by_cases h37 : gn pat i = 37
    · refine y_go rfl rfl ?_
      refine y_go rfl rfl ?_
      refine y_V1 rfl (Nat.le_of_ble_eq_true rfl) (Nat.le_of_ble_eq_true rfl) rfl rfl (xrcv_k (xnoh (by rw [put_len (cs := prC _ _ _ _ _ _ _ _ _) hl]; exact hl6) hq.2.1) hq.1) (s_strlen (by omega) (by rw [put_len (cs := prC _ _ _ _ _ _ _ _ _) hl]; exact hl6) hq) ?_
      rw [List.length_map]
      refine y_ic_ge rfl (fun c => absurd (nI_lt (a := i) (b := pat.length) hlt (by omega)) c) (fun _ => ?_)
      refine y_go rfl rfl ?_
      refine y_go rfl rfl ?_
      refine y_V1 rfl (Nat.le_of_ble_eq_true rfl) (Nat.le_of_ble_eq_true rfl) rfl rfl (xrcv_k (xnoh (by rw [put_len (cs := prC _ _ _ _ _ _ _ _ _) hl]; exact hl6) hq.2.1) hq.1) (s_charAt (by omega) (by rw [put_len (cs := prC _ _ _ _ _ _ _ _ _) hl]; exact hl6) hq i (by rw [List.length_map]; omega)) ?_
      rw [gd_mapI hlt]
      refine y_go (g' := (21, [.ref 113, .ref q, .int (nI i), .int (nI (gn pat i)), x4], _, _)) rfl rfl ?_
      refine y_go rfl rfl ?_
      refine y_go rfl rfl ?_
      refine y_ic_ne rfl (fun c => absurd ((nI_eq (a := gn pat i) (b := 37) (by omega) (by decide)).mpr h37) c) (fun _ => ?_)
      refine y_go rfl rfl ?_
      refine y_V1 rfl (Nat.le_of_ble_eq_true rfl) (Nat.le_of_ble_eq_true rfl) rfl rfl (xrcvR (n := 0) hl rfl rfl) (s_readNum (by omega) hl k0 N hN tx ht hT hB cm fi se cnt s.1 s.2.1 s.2.2.1 s.2.2.2 hs.1 hs.2.1) ?_
      rw [show rdN N (s.1, s.2.1, s.2.2.1, s.2.2.2) = (fo1 N (gn pat i) s) from (if_pos h37).symm]
      refine y_go rfl rfl ?_
      refine y_go (g' := (41, [.ref 113, .ref q, .int (nI i), .int (nI (gn pat i)), .int (if (fo1 N (gn pat i) s).1 = true then 1 else 0)], _, _)) rfl rfl ?_
      refine y_go rfl rfl ?_
      cases hf : (fo1 N (gn pat i) s).1 with
      | true =>
        show yW S d 55 (43, [.ref 113, .ref q, .int (nI i), .int (nI (gn pat i)), .int 1], [.int 1], ((put h 113 (prC (nI N.length) (nI (fo1 N (gn pat i) s).2.1) (nI cnt) (nI (fo1 N (gn pat i) s).2.2.1) tx cm fi se ([nI (fo1 N (gn pat i) s).2.2.2.1, nI (fo1 N (gn pat i) s).2.2.2.2]))), k0)) _
        refine y_if_ne rfl (fun _ => ?_) (fun c => absurd c (by decide))
        refine y_go (g' := (51, [.ref 113, .ref q, .int (nI (i + 1)), .int (nI (gn pat i)), .int 1], _, _)) rfl (by rw [← nI_1 i]; rfl) ?_
        refine y_go rfl rfl ?_
        exact ih (i + 1) (by omega) _ _ (fo1 N (gn pat i) s).2 hok (by rw [← e]; exact (if_pos hf).symm)
      | false =>
        show yW S d 55 (43, [.ref 113, .ref q, .int (nI i), .int (nI (gn pat i)), .int 0], [.int 0], ((put h 113 (prC (nI N.length) (nI (fo1 N (gn pat i) s).2.1) (nI cnt) (nI (fo1 N (gn pat i) s).2.2.1) tx cm fi se ([nI (fo1 N (gn pat i) s).2.2.2.1, nI (fo1 N (gn pat i) s).2.2.2.2]))), k0)) _
        refine y_if_ne rfl (fun c => absurd (by decide) c) (fun _ => ?_)
        refine y_go rfl rfl ?_
        exact y_ireturn rfl rfl (by first | rfl | (split <;> rfl)) (by rw [show R = (false, (fo1 N (gn pat i) s).2) from e.symm.trans (if_neg (fun q => by rw [hf] at q; cases q))]; rfl)
    · refine y_go rfl rfl ?_
      refine y_go rfl rfl ?_
      refine y_V1 rfl (Nat.le_of_ble_eq_true rfl) (Nat.le_of_ble_eq_true rfl) rfl rfl (xrcv_k (xnoh (by rw [put_len (cs := prC _ _ _ _ _ _ _ _ _) hl]; exact hl6) hq.2.1) hq.1) (s_strlen (by omega) (by rw [put_len (cs := prC _ _ _ _ _ _ _ _ _) hl]; exact hl6) hq) ?_
      rw [List.length_map]
      refine y_ic_ge rfl (fun c => absurd (nI_lt (a := i) (b := pat.length) hlt (by omega)) c) (fun _ => ?_)
      refine y_go rfl rfl ?_
      refine y_go rfl rfl ?_
      refine y_V1 rfl (Nat.le_of_ble_eq_true rfl) (Nat.le_of_ble_eq_true rfl) rfl rfl (xrcv_k (xnoh (by rw [put_len (cs := prC _ _ _ _ _ _ _ _ _) hl]; exact hl6) hq.2.1) hq.1) (s_charAt (by omega) (by rw [put_len (cs := prC _ _ _ _ _ _ _ _ _) hl]; exact hl6) hq i (by rw [List.length_map]; omega)) ?_
      rw [gd_mapI hlt]
      refine y_go (g' := (21, [.ref 113, .ref q, .int (nI i), .int (nI (gn pat i)), x4], _, _)) rfl rfl ?_
      refine y_go rfl rfl ?_
      refine y_go rfl rfl ?_
      refine y_ic_ne rfl (fun _ => ?_) (fun c => absurd c (fun q => h37 ((nI_eq (a := gn pat i) (b := 37) (by omega) (by decide)).mp q)))
      refine y_go rfl rfl ?_
      refine y_go rfl rfl ?_
      refine y_V1 rfl (Nat.le_of_ble_eq_true rfl) (Nat.le_of_ble_eq_true rfl) rfl rfl (xrcvR (n := 0) hl rfl rfl) (s_readChar (by omega) hl k0 N hN tx ht hT hB cm fi se cnt s.1 s.2.1 s.2.2.1 s.2.2.2 hs.1 hs.2.1 (gn pat i) hcc) ?_
      rw [show rdC N (gn pat i) (s.1, s.2.1, s.2.2.1, s.2.2.2) = (fo1 N (gn pat i) s) from (if_neg h37).symm]
      refine y_go (g' := (41, [.ref 113, .ref q, .int (nI i), .int (nI (gn pat i)), .int (if (fo1 N (gn pat i) s).1 = true then 1 else 0)], _, _)) rfl rfl ?_
      refine y_go rfl rfl ?_
      cases hf : (fo1 N (gn pat i) s).1 with
      | true =>
        show yW S d 55 (43, [.ref 113, .ref q, .int (nI i), .int (nI (gn pat i)), .int 1], [.int 1], ((put h 113 (prC (nI N.length) (nI (fo1 N (gn pat i) s).2.1) (nI cnt) (nI (fo1 N (gn pat i) s).2.2.1) tx cm fi se ([nI (fo1 N (gn pat i) s).2.2.2.1, nI (fo1 N (gn pat i) s).2.2.2.2]))), k0)) _
        refine y_if_ne rfl (fun _ => ?_) (fun c => absurd c (by decide))
        refine y_go (g' := (51, [.ref 113, .ref q, .int (nI (i + 1)), .int (nI (gn pat i)), .int 1], _, _)) rfl (by rw [← nI_1 i]; rfl) ?_
        refine y_go rfl rfl ?_
        exact ih (i + 1) (by omega) _ _ (fo1 N (gn pat i) s).2 hok (by rw [← e]; exact (if_pos hf).symm)
      | false =>
        show yW S d 55 (43, [.ref 113, .ref q, .int (nI i), .int (nI (gn pat i)), .int 0], [.int 0], ((put h 113 (prC (nI N.length) (nI (fo1 N (gn pat i) s).2.1) (nI cnt) (nI (fo1 N (gn pat i) s).2.2.1) tx cm fi se ([nI (fo1 N (gn pat i) s).2.2.2.1, nI (fo1 N (gn pat i) s).2.2.2.2]))), k0)) _
        refine y_if_ne rfl (fun c => absurd (by decide) c) (fun _ => ?_)
        refine y_go rfl rfl ?_
        exact y_ireturn rfl rfl (by first | rfl | (split <;> rfl)) (by rw [show R = (false, (fo1 N (gn pat i) s).2) from e.symm.trans (if_neg (fun q => by rw [hf] at q; cases q))]; rfl)
theorem s_follow {S : List Int32} {d : Nat} (hd : 4 ≤ d) {h : xH} (hl : 113 + 6 ≤ h.length) (k0 : Nat × Nat) (N : List Nat) (hN : N.length ≤ 60) (tx : List Int32) (ht : tx.length = 60) (hT : ∀ i, i < N.length → gd tx i = nI (gn N i)) (hB : ∀ i, i < N.length → gn N i < 128) (cm : List (Option Nat)) (fi se : List Int32) (cnt : Nat) (hl6 : h.length ≤ 1000000) {q : Nat} {pat : List Nat} (hq : xstr q (pat.map nI)) (hpl : pat.length < 100) (hpc : ∀ i, i < pat.length → gn pat i < 128) (pos vc v0 v1 : Nat) (hs : sOK (pos, 0, v0, v1)) : yT S d 55 [.ref 113, .ref q] (put h 113 (prC (nI N.length) (nI pos) (nI cnt) (nI vc) tx cm fi se [nI v0, nI v1]), k0) (· = (.inl (some (.int (if (foT N pat (pos, 0, v0, v1)).1 = true then 1 else 0))), (put h 113 (prC (nI N.length) (nI (foT N pat (pos, 0, v0, v1)).2.1) (nI cnt) (nI (foT N pat (pos, 0, v0, v1)).2.2.1) tx cm fi se [nI (foT N pat (pos, 0, v0, v1)).2.2.2.1, nI (foT N pat (pos, 0, v0, v1)).2.2.2.2]), k0))) := by
  obtain ⟨d, rfl⟩ : ∃ e, d = e + 1 := ⟨d - 1, by omega⟩
  refine yT_eq (Nat.le_of_ble_eq_true rfl) ?_
  show yW S d 55 (0, [.ref 113, .ref q, xno, xno, xno], [], (put h 113 (prC (nI N.length) (nI pos) (nI cnt) (nI vc) tx cm fi se [nI v0, nI v1]), k0)) _
  refine y_go rfl rfl ?_
  refine y_go rfl rfl ?_
  refine y_putR (j := 0) (cs' := (prC (nI N.length) (nI pos) (nI cnt) 0 tx cm fi se ([nI v0, nI v1]))) rfl hl rfl rfl (Nat.le_of_ble_eq_true rfl) (xf_int rfl) rfl ?_
  refine y_go rfl rfl ?_
  refine y_go (g' := (7, [.ref 113, .ref q, .int 0, xno, xno], _, _)) rfl rfl ?_
  exact l_follow (by omega) hl k0 N hN tx ht hT hB cm fi se cnt hl6 hq hpl hpc (foT N pat (pos, 0, v0, v1)) pat.length 0 (by omega) _ _ (pos, 0, v0, v1) hs rfl
