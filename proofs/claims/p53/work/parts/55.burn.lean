/-! THE KILN: a mixture is burnt; a wall is laid. -/
theorem put_comm {h : xH} {p q : Nat} {cs ds : List xC} (h1 : p + cs.length ≤ h.length) (h2 : q + ds.length ≤ h.length) (hd : q + ds.length ≤ p ∨ p + cs.length ≤ q) : put (put h p cs) q ds = put (put h q ds) p cs := by
  have l1 : q + ds.length ≤ (put h p cs).length := by rw [put_len h1]; exact h2
  have l2 : p + cs.length ≤ (put h q ds).length := by rw [put_len h2]; exact h1
  refine List.ext_getElem? fun i => ?_
  by_cases a : q ≤ i ∧ i < q + ds.length
  · obtain ⟨j, rfl⟩ : ∃ j, i = q + j := ⟨i - q, by omega⟩
    have hj : ds[j]? = some ds[j] := List.getElem?_eq_getElem (by omega)
    rw [put_in l1 hj, put_out l2 (by omega), put_in h2 hj]
  · rw [put_out l1 (by omega)]
    by_cases b : p ≤ i ∧ i < p + cs.length
    · obtain ⟨j, rfl⟩ : ∃ j, i = p + j := ⟨i - p, by omega⟩
      have hj : cs[j]? = some cs[j] := List.getElem?_eq_getElem (by omega)
      rw [put_in h1 hj, put_in l2 hj]
    · rw [put_out h1 (by omega), put_out l2 (by omega), put_out h2 (by omega)]
theorem xout {u l m : Nat} (hu : u < 2 ^ 31) (hl : l < 2 ^ 31) (hm : m < 2 ^ 31) : (nI u < nI l ∨ nI m < nI u) → ¬ (l ≤ u ∧ u ≤ m) := by
  intro h q
  rcases h with h | h
  · exact nI_nlt q.1 hu h
  · exact nI_nlt q.2 hm h
theorem xin {u l m : Nat} (hu : u < 2 ^ 31) (hl : l < 2 ^ 31) (hm : m < 2 ^ 31) (h : ¬ (l ≤ u ∧ u ≤ m)) : nI u < nI l ∨ nI m < nI u := by
  by_cases q : u < l
  · exact Or.inl (nI_lt q hl)
  · exact Or.inr (nI_lt (by omega) hu)
def burnX (f : Nat → Int32) (ss bs ts : List Int32) (x1 x2 x3 : Int32) (rs : List Int32) (w c o M H : Int32) : Int32 × kK :=
  if 999 < f 2 + H then (-3, (f, ss, bs, ts, [x1, x2, x3], rs)) else (M, (up (up (up f 2 (f 2 + H)) 15 (f 15 + H)) 14 (f 14 + M), ss, bs, ts, [x1 - w, x2 - c, x3 - o], rs))
theorem l_burn {S : List Int32} {d : Nat} {h : xH} {p q : Nat} (hl : p + 6 ≤ h.length) (hq : q + 3 ≤ p ∨ p + 6 ≤ q) (k0 : Nat × Nat) (f : Nat → Int32) (ss bs ts : List Int32) (x1 x2 x3 : Int32) (rs lo : List Int32) (w c o M H fo : Int32) (hs : has h q (mC q lo [w, c, o] M H fo)) (u : Value) : yW S d 32 (33, [.ref p, u, .ref q, xno], [], ((put h p (kC p (f, ss, bs, ts, [x1, x2, x3], rs))), k0)) (· = (.inl (some (.int (burnX f ss bs ts x1 x2 x3 rs w c o M H).1)), (put h p (kC p (burnX f ss bs ts x1 x2 x3 rs w c o M H).2), k0))) := by
  refine y_go rfl rfl ?_
  refine y_getR (w := .int (f 2)) (j := 0) rfl hl rfl rfl rfl rfl ?_
  refine y_go rfl rfl ?_
  refine y_getf (w := .int H) rfl rfl (xsrc hl hs hq (i := 0) rfl) rfl ?_
  refine y_go rfl rfl ?_
  refine y_go rfl rfl ?_
  refine y_ic_le rfl (fun c45 => ?_) (fun c45 => ?_)
  · refine y_go rfl rfl ?_
    refine y_go (g' := (53, [.ref p, u, .ref q, .int 0], _, _)) rfl rfl ?_
    refine y_go rfl rfl ?_
    refine y_go rfl rfl ?_
    refine y_ic_ge rfl (fun c => absurd (by decide) c) (fun _ => ?_)
    refine y_go rfl rfl ?_
    refine y_getR (w := .ref (p + 4)) (j := 0) rfl hl rfl rfl rfl rfl ?_
    refine y_go rfl rfl ?_
    refine y_go rfl rfl ?_
    refine y_aldR (t := 0) (n := 4) (j := 0) (l := [x1, x2, x3]) rfl (Or.inl ⟨rfl, rfl⟩) hl rfl rfl (by decide) rfl ?_
    refine y_go rfl rfl ?_
    refine y_getf (w := .ref (q + 2)) rfl rfl (xsrc hl hs hq (i := 0) rfl) rfl ?_
    refine y_go rfl rfl ?_
    refine y_ald (t := 0) (j := 0) (l := [w, c, o]) (x := w) rfl (Or.inl ⟨rfl, rfl⟩) (xsrc hl hs hq (i := 2) rfl) (by decide) rfl ?_
    refine y_go rfl rfl ?_
    refine y_astR (t := 0) (n := 4) (j := 0) (y := (x1 - w)) (cs' := (kC p (f, ss, bs, ts, [x1 - w, x2, x3], rs))) rfl (Or.inl ⟨rfl, rfl⟩) hl rfl rfl (by decide) (Nat.le_of_ble_eq_true rfl) rfl rfl ?_
    refine y_go (g' := (76, [.ref p, u, .ref q, .int 1], _, _)) rfl rfl ?_
    refine y_go rfl rfl ?_
    refine y_go rfl rfl ?_
    refine y_go rfl rfl ?_
    refine y_ic_ge rfl (fun c => absurd (by decide) c) (fun _ => ?_)
    refine y_go rfl rfl ?_
    refine y_getR (w := .ref (p + 4)) (j := 0) rfl hl rfl rfl rfl rfl ?_
    refine y_go rfl rfl ?_
    refine y_go rfl rfl ?_
    refine y_aldR (t := 0) (n := 4) (j := 1) (l := [x1 - w, x2, x3]) rfl (Or.inl ⟨rfl, rfl⟩) hl rfl rfl (by decide) rfl ?_
    refine y_go rfl rfl ?_
    refine y_getf (w := .ref (q + 2)) rfl rfl (xsrc hl hs hq (i := 0) rfl) rfl ?_
    refine y_go rfl rfl ?_
    refine y_ald (t := 0) (j := 1) (l := [w, c, o]) (x := c) rfl (Or.inl ⟨rfl, rfl⟩) (xsrc hl hs hq (i := 2) rfl) (by decide) rfl ?_
    refine y_go rfl rfl ?_
    refine y_astR (t := 0) (n := 4) (j := 1) (y := (x2 - c)) (cs' := (kC p (f, ss, bs, ts, [x1 - w, x2 - c, x3], rs))) rfl (Or.inl ⟨rfl, rfl⟩) hl rfl rfl (by decide) (Nat.le_of_ble_eq_true rfl) rfl rfl ?_
    refine y_go (g' := (76, [.ref p, u, .ref q, .int 2], _, _)) rfl rfl ?_
    refine y_go rfl rfl ?_
    refine y_go rfl rfl ?_
    refine y_go rfl rfl ?_
    refine y_ic_ge rfl (fun c => absurd (by decide) c) (fun _ => ?_)
    refine y_go rfl rfl ?_
    refine y_getR (w := .ref (p + 4)) (j := 0) rfl hl rfl rfl rfl rfl ?_
    refine y_go rfl rfl ?_
    refine y_go rfl rfl ?_
    refine y_aldR (t := 0) (n := 4) (j := 2) (l := [x1 - w, x2 - c, x3]) rfl (Or.inl ⟨rfl, rfl⟩) hl rfl rfl (by decide) rfl ?_
    refine y_go rfl rfl ?_
    refine y_getf (w := .ref (q + 2)) rfl rfl (xsrc hl hs hq (i := 0) rfl) rfl ?_
    refine y_go rfl rfl ?_
    refine y_ald (t := 0) (j := 2) (l := [w, c, o]) (x := o) rfl (Or.inl ⟨rfl, rfl⟩) (xsrc hl hs hq (i := 2) rfl) (by decide) rfl ?_
    refine y_go rfl rfl ?_
    refine y_astR (t := 0) (n := 4) (j := 2) (y := (x3 - o)) (cs' := (kC p (f, ss, bs, ts, [x1 - w, x2 - c, x3 - o], rs))) rfl (Or.inl ⟨rfl, rfl⟩) hl rfl rfl (by decide) (Nat.le_of_ble_eq_true rfl) rfl rfl ?_
    refine y_go (g' := (76, [.ref p, u, .ref q, .int 3], _, _)) rfl rfl ?_
    refine y_go rfl rfl ?_
    refine y_go rfl rfl ?_
    refine y_go rfl rfl ?_
    refine y_ic_ge rfl (fun _ => ?_) (fun c => absurd c (by decide))
    refine y_go rfl rfl ?_
    refine y_go rfl rfl ?_
    refine y_getR (w := .int (f 2)) (j := 0) rfl hl rfl rfl rfl rfl ?_
    refine y_go rfl rfl ?_
    refine y_getf (w := .int H) rfl rfl (xsrc hl hs hq (i := 0) rfl) rfl ?_
    refine y_go rfl rfl ?_
    refine y_putR (j := 0) (cs' := (kC p ((up f 2 ((f 2) + H)), ss, bs, ts, [x1 - w, x2 - c, x3 - o], rs))) rfl hl rfl rfl (Nat.le_of_ble_eq_true rfl) (xf_int rfl) rfl ?_
    refine y_go rfl rfl ?_
    refine y_go rfl rfl ?_
    refine y_getR (w := .int (f 15)) (j := 0) rfl hl rfl rfl rfl rfl ?_
    refine y_go rfl rfl ?_
    refine y_getf (w := .int H) rfl rfl (xsrc hl hs hq (i := 0) rfl) rfl ?_
    refine y_go rfl rfl ?_
    refine y_putR (j := 0) (cs' := (kC p ((up (up f 2 ((f 2) + H)) 15 ((f 15) + H)), ss, bs, ts, [x1 - w, x2 - c, x3 - o], rs))) rfl hl rfl rfl (Nat.le_of_ble_eq_true rfl) (xf_int rfl) rfl ?_
    refine y_go rfl rfl ?_
    refine y_go rfl rfl ?_
    refine y_getR (w := .int (f 14)) (j := 0) rfl hl rfl rfl rfl rfl ?_
    refine y_go rfl rfl ?_
    refine y_getf (w := .int M) rfl rfl (xsrc hl hs hq (i := 0) rfl) rfl ?_
    refine y_go rfl rfl ?_
    refine y_putR (j := 0) (cs' := (kC p ((up (up (up f 2 ((f 2) + H)) 15 ((f 15) + H)) 14 ((f 14) + M)), ss, bs, ts, [x1 - w, x2 - c, x3 - o], rs))) rfl hl rfl rfl (Nat.le_of_ble_eq_true rfl) (xf_int rfl) rfl ?_
    refine y_go rfl rfl ?_
    refine y_getf (w := .int M) rfl rfl (xsrc hl hs hq (i := 0) rfl) rfl ?_
    exact y_ireturn rfl rfl rfl (by simp only [burnX, if_neg c45])
  · refine y_go rfl rfl ?_
    exact y_ireturn rfl rfl rfl (by simp only [burnX, if_pos c45])
/-- the mixture for u units is burnt -/
def feedX (u : Nat) (f : Nat → Int32) (ss bs ts : List Int32) (W C O a b e : Nat) : Int32 × kK :=
  if 1 ≤ u ∧ u ≤ 200 then (match bestM W C O a b e u with
    | none => (-4, (f, ss, bs, ts, [nI W, nI C, nI O], [nI a, nI b, nI e]))
    | some (w, c, o) => burnX f ss bs ts (nI W) (nI C) (nI O) [nI a, nI b, nI e] (nI w) (nI c) (nI o) (nI (mcost a b e w c o)) (nI (mheat w c o)))
  else (-2, (f, ss, bs, ts, [nI W, nI C, nI O], [nI a, nI b, nI e]))
theorem feedX_some {u : Nat} {f : Nat → Int32} {ss bs ts : List Int32} {W C O a b e : Nat} {w c o : Nat} (hr : 1 ≤ u ∧ u ≤ 200) (hb : bestM W C O a b e u = some (w, c, o)) : feedX u f ss bs ts W C O a b e = burnX f ss bs ts (nI W) (nI C) (nI O) [nI a, nI b, nI e] (nI w) (nI c) (nI o) (nI (mcost a b e w c o)) (nI (mheat w c o)) := by unfold feedX; rw [if_pos hr, hb]
theorem feedX_none {u : Nat} {f : Nat → Int32} {ss bs ts : List Int32} {W C O a b e : Nat} (hr : 1 ≤ u ∧ u ≤ 200) (hb : bestM W C O a b e u = none) : feedX u f ss bs ts W C O a b e = (-4, (f, ss, bs, ts, [nI W, nI C, nI O], [nI a, nI b, nI e])) := by unfold feedX; rw [if_pos hr, hb]
theorem s_burn {S : List Int32} {d : Nat} (hd : 4 ≤ d) {h : xH} {p q : Nat} (hl : p + 6 ≤ h.length) (hlq : q + 3 ≤ h.length) (hB : h.length ≤ 1000000) (hq : q + 3 ≤ p ∨ p + 6 ≤ q) (k0 : Nat × Nat) (f : Nat → Int32) (ss bs ts : List Int32) (lo : List Int32) (W C O a b e u : Nat) (hW : W ≤ 99) (hC : C ≤ 99) (hO : O ≤ 99) (hu : u ≤ 1000) (x y z cc t fo : Int32) : yT S d 32 [.ref p, .int (nI u), .ref q] ((put (put h q (mC q lo [x, y, z] cc t fo)) p (kC p (f, ss, bs, ts, [nI W, nI C, nI O], [nI a, nI b, nI e]))), k0) (fun r => ∃ cs, (∃ x y z cc t fo, cs = mC q lo [x, y, z] cc t fo) ∧ r = (.inl (some (.int (feedX u f ss bs ts W C O a b e).1)), (put (put h q cs) p (kC p (feedX u f ss bs ts W C O a b e).2), k0))) := by
  obtain ⟨d, rfl⟩ : ∃ e, d = e + 1 := ⟨d - 1, by omega⟩
  have hl1 : p + 6 ≤ (put h q (mC q lo [x, y, z] cc t fo)).length := by rw [put_len (cs := mC q lo [x, y, z] cc t fo) hlq]; exact hl
  have hlm : q + 3 ≤ (put h p (kC p (f, ss, bs, ts, [nI W, nI C, nI O], [nI a, nI b, nI e]))).length := by rw [put_len (cs := kC p (f, ss, bs, ts, [nI W, nI C, nI O], [nI a, nI b, nI e])) hl]; exact hlq
  have hBm : (put h p (kC p (f, ss, bs, ts, [nI W, nI C, nI O], [nI a, nI b, nI e]))).length ≤ 1000000 := by rw [put_len (cs := kC p (f, ss, bs, ts, [nI W, nI C, nI O], [nI a, nI b, nI e])) hl]; exact hB
  refine yT_e (Nat.le_of_ble_eq_true rfl) ?_
  show yW S d 32 (0, [.ref p, .int (nI u), .ref q, xno], [], ((put (put h q (mC q lo [x, y, z] cc t fo)) p (kC p (f, ss, bs, ts, [nI W, nI C, nI O], [nI a, nI b, nI e]))), k0)) _
  by_cases hr : 1 ≤ u ∧ u ≤ 200
  · refine y_go rfl rfl ?_
    refine y_go rfl rfl ?_
    refine y_go rfl rfl ?_
    refine y_S1 rfl rfl (Nat.le_of_ble_eq_true rfl) (Nat.le_of_ble_eq_true rfl) rfl rfl (s_isOutside (by omega) _ _ _ _) ?_
    refine y_if_eq rfl (fun _ => ?_) (fun c => absurd (if_neg (fun q => xout (u := u) (l := 1) (m := 200) (by omega) (by decide) (by decide) q hr)) c)
    refine y_go rfl rfl ?_
    refine y_go rfl rfl ?_
    refine y_getR (w := .ref (p + 4)) (j := 0) rfl hl1 rfl rfl rfl rfl ?_
    refine y_go rfl rfl ?_
    refine y_getR (w := .ref (p + 5)) (j := 0) rfl hl1 rfl rfl rfl rfl ?_
    refine y_go rfl rfl ?_
    rw [put_comm (cs := mC q lo [x, y, z] cc t fo) (ds := kC p (f, ss, bs, ts, [nI W, nI C, nI O], [nI a, nI b, nI e])) hlq hl (by show p + 6 ≤ q ∨ q + 3 ≤ p; omega)]
    refine y_V1e rfl (Nat.le_of_ble_eq_true rfl) (Nat.le_of_ble_eq_true rfl) rfl rfl (xrcvR (n := 0) hlm rfl rfl) (s_findBest (by omega) hlm hBm k0 lo W C O a b e u (put_in (i := 4) hl rfl) (put_in (i := 5) hl rfl) (by omega) (by omega) hW hC hO hr.2 x y z cc t fo) (fun cs hcs => ?_)
    have hcl := mixR_len hcs
    rw [put_comm (cs := kC p (f, ss, bs, ts, [nI W, nI C, nI O], [nI a, nI b, nI e])) (ds := cs) hl (by rw [hcl]; exact hlq) (by rw [hcl]; show q + 3 ≤ p ∨ p + 6 ≤ q; omega)]
    obtain hex := mixR_ex hcs
    have hl2 : p + 6 ≤ (put h q cs).length := by rw [put_len (by rw [hcl]; exact hlq)]; exact hl
    cases hb : bestM W C O a b e u with
    | none =>
      rw [hb] at hcs
      show yW S d 32 (27, [.ref p, .int (nI u), .ref q, xno], [.int 0], ((put (put h q cs) p (kC p (f, ss, bs, ts, [nI W, nI C, nI O], [nI a, nI b, nI e]))), k0)) _
      refine y_if_ne rfl (fun c => absurd (by decide) c) (fun _ => ?_)
      refine y_go rfl rfl ?_
      exact y_ireturn rfl rfl rfl ⟨cs, hex, by rw [feedX_none hr hb]⟩
    | some m =>
      obtain ⟨w, c, o⟩ := m
      rw [hb] at hcs
      show yW S d 32 (27, [.ref p, .int (nI u), .ref q, xno], [.int 1], ((put (put h q cs) p (kC p (f, ss, bs, ts, [nI W, nI C, nI O], [nI a, nI b, nI e]))), k0)) _
      refine y_if_ne rfl (fun _ => ?_) (fun c => absurd c (by decide))
      refine yW_mono (l_burn hl2 hq k0 f ss bs ts (nI W) (nI C) (nI O) [nI a, nI b, nI e] lo _ _ _ _ _ 1 (by rw [hcs]; exact has_put (cs := mC q lo [nI w, nI c, nI o] (nI (mcost a b e w c o)) (nI (mheat w c o)) 1) hlq) _) fun r hr2 => ⟨cs, hex, ?_⟩
      rw [feedX_some hr hb]; exact hr2
  · refine y_go rfl rfl ?_
    refine y_go rfl rfl ?_
    refine y_go rfl rfl ?_
    refine y_S1 rfl rfl (Nat.le_of_ble_eq_true rfl) (Nat.le_of_ble_eq_true rfl) rfl rfl (s_isOutside (by omega) _ _ _ _) ?_
    refine y_if_eq rfl (fun c => absurd c (by rw [if_pos (show nI u < 1 ∨ 200 < nI u from xin (u := u) (l := 1) (m := 200) (by omega) (by decide) (by decide) hr)]; decide)) (fun _ => ?_)
    refine y_go rfl rfl ?_
    exact y_ireturn rfl rfl rfl ⟨_, ⟨x, y, z, cc, t, fo, rfl⟩, by unfold feedX; rw [if_neg hr]⟩
/-- the numbers of the courses of a width, and the facts of the courses' tables -/
def ctOK (J : Nat → List Int32) (ct : List Int32) (cn : Nat → Nat) : Prop := ct.length = 19 ∧ ∀ w, w < 19 → (J w).length = 65 ∧ gd ct w = nI (cn w) ∧ cn w ≤ 65
/-- a wall of the width w with k courses is laid -/
def wallX (J : Nat → List Int32) (cn : Nat → Nat) (w k : Nat) (K : kK) : Int32 × kK :=
  if 2 ≤ w ∧ w ≤ 18 then (if 1 ≤ k ∧ k ≤ 8 then (if lbk (J w) (cn w) (k - 1) = -5 then (-5, K) else if K.1 9 < lbk (J w) (cn w) (k - 1) then (-3, K) else (lbk (J w) (cn w) (k - 1), (up (up (up K.1 9 (K.1 9 - lbk (J w) (cn w) (k - 1))) 13 (K.1 13 + lbk (J w) (cn w) (k - 1))) 10 (K.1 10 + 1), K.2))) else (-2, K)) else (-2, K)
theorem s_layWallF {S : List Int32} {d : Nat} (hd : 6 ≤ d) {h : xH} {p q : Nat} (hl : p + 6 ≤ h.length) (hlq : q + 35 ≤ h.length) (hq : q + 35 ≤ p ∨ p + 6 ≤ q) (k0 : Nat × Nat) (J : Nat → List Int32) (ct : List Int32) (cn : Nat → Nat) (hct : ctOK J ct cn) (G : Nat → xC) (hG : cg q J ct G) (w kc : Nat) (hw : w ≤ 1000) (hk : kc ≤ 1000) (f : Nat → Int32) (ss bs ts ps rs : List Int32) : yT S d 33 [.ref p, .int (nI w), .int (nI kc), .ref q] ((put (put h q (rg 35 G)) p (kC p (f, ss, bs, ts, ps, rs))), k0) (fun r => ∃ z, cg q J ct z ∧ r = (.inl (some (.int (wallX J cn w kc (f, ss, bs, ts, ps, rs)).1)), (put (put h q (rg 35 z)) p (kC p (wallX J cn w kc (f, ss, bs, ts, ps, rs)).2), k0))) := by
  obtain ⟨d, rfl⟩ : ∃ e, d = e + 1 := ⟨d - 1, by omega⟩
  have hl1 : p + 6 ≤ (put h q (rg 35 G)).length := by rw [put_len (rgl hlq)]; exact hl
  have hlm : q + 35 ≤ (put h p (kC p (f, ss, bs, ts, ps, rs))).length := by rw [put_len (cs := kC p (f, ss, bs, ts, ps, rs)) hl]; exact hlq
  refine yT_e (Nat.le_of_ble_eq_true rfl) ?_
  show yW S d 33 (0, [.ref p, .int (nI w), .int (nI kc), .ref q, xno], [], ((put (put h q (rg 35 G)) p (kC p (f, ss, bs, ts, ps, rs))), k0)) _
  by_cases hr : 2 ≤ w ∧ w ≤ 18
  · by_cases hs : 1 ≤ kc ∧ kc ≤ 8
    · refine y_go rfl rfl ?_
      refine y_go rfl rfl ?_
      refine y_go rfl rfl ?_
      refine y_S1 rfl rfl (Nat.le_of_ble_eq_true rfl) (Nat.le_of_ble_eq_true rfl) rfl rfl (s_isOutside (by omega) _ _ _ _) ?_
      refine y_if_ne rfl (fun c => absurd (if_neg (fun q => xout (u := w) (l := 2) (m := 18) (by omega) (by decide) (by decide) q hr)) c) (fun _ => ?_)
      refine y_go rfl rfl ?_
      refine y_go rfl rfl ?_
      refine y_go rfl rfl ?_
      refine y_S1 rfl rfl (Nat.le_of_ble_eq_true rfl) (Nat.le_of_ble_eq_true rfl) rfl rfl (s_isOutside (by omega) _ _ _ _) ?_
      refine y_if_eq rfl (fun _ => ?_) (fun c => absurd (if_neg (fun q => xout (u := kc) (l := 1) (m := 8) (by omega) (by decide) (by decide) q hs)) c)
      refine y_go rfl rfl ?_
      refine y_go rfl rfl ?_
      refine y_go rfl rfl ?_
      rw [put_comm (cs := rg 35 G) (ds := kC p (f, ss, bs, ts, ps, rs)) (by rw [rg_len]; exact hlq) hl (by rw [rg_len]; show p + 6 ≤ q ∨ q + 35 ≤ p; omega)]
      have hcg := hG
      obtain ⟨X, U, a1, a2, b1, b2, Y, V, M, ha, hb, g0, -⟩ := hcg
      have hJw := hct.2 w (by omega)
      refine y_V1e rfl (Nat.le_of_ble_eq_true rfl) (Nat.le_of_ble_eq_true rfl) rfl rfl (xrcvG (j := 0) hlm (by omega) rfl g0) (s_leastBricks (by omega) hlm k0 J ct G hG w (cn w) (by omega) hJw.2.2 hJw.1 kc (by omega) (by omega) hct.1 hJw.2.1) (fun z hz => ?_)
      rw [put_comm (cs := kC p (f, ss, bs, ts, ps, rs)) (ds := rg 35 z) hl (by rw [rg_len]; exact hlq) (by rw [rg_len]; show q + 35 ≤ p ∨ p + 6 ≤ q; omega)]
      have hl2 : p + 6 ≤ (put h q (rg 35 z)).length := by rw [put_len (rgl hlq)]; exact hl
      refine y_go (g' := (31, [.ref p, .int (nI w), .int (nI kc), .ref q, .int (lbk (J w) (cn w) (kc - 1))], _, _)) rfl rfl ?_
      refine y_go rfl rfl ?_
      refine y_go rfl rfl ?_
      refine y_ic_ne rfl (fun c35 => ?_) (fun c35 => ?_)
      · refine y_go rfl rfl ?_
        refine y_go rfl rfl ?_
        refine y_getR (w := .int (f 9)) (j := 0) rfl hl2 rfl rfl rfl rfl ?_
        refine y_ic_le rfl (fun c47 => ?_) (fun c47 => ?_)
        · refine y_go rfl rfl ?_
          refine y_go rfl rfl ?_
          refine y_getR (w := .int (f 9)) (j := 0) rfl hl2 rfl rfl rfl rfl ?_
          refine y_go rfl rfl ?_
          refine y_go rfl rfl ?_
          refine y_putR (j := 0) (cs' := (kC p ((up f 9 ((f 9) - (lbk (J w) (cn w) (kc - 1)))), ss, bs, ts, ps, rs))) rfl hl2 rfl rfl (Nat.le_of_ble_eq_true rfl) (xf_int rfl) rfl ?_
          refine y_go rfl rfl ?_
          refine y_go rfl rfl ?_
          refine y_getR (w := .int (f 13)) (j := 0) rfl hl2 rfl rfl rfl rfl ?_
          refine y_go rfl rfl ?_
          refine y_go rfl rfl ?_
          refine y_putR (j := 0) (cs' := (kC p ((up (up f 9 ((f 9) - (lbk (J w) (cn w) (kc - 1)))) 13 ((f 13) + (lbk (J w) (cn w) (kc - 1)))), ss, bs, ts, ps, rs))) rfl hl2 rfl rfl (Nat.le_of_ble_eq_true rfl) (xf_int rfl) rfl ?_
          refine y_go rfl rfl ?_
          refine y_go rfl rfl ?_
          refine y_getR (w := .int (f 10)) (j := 0) rfl hl2 rfl rfl rfl rfl ?_
          refine y_go rfl rfl ?_
          refine y_go rfl rfl ?_
          refine y_putR (j := 0) (cs' := (kC p ((up (up (up f 9 ((f 9) - (lbk (J w) (cn w) (kc - 1)))) 13 ((f 13) + (lbk (J w) (cn w) (kc - 1)))) 10 ((f 10) + 1)), ss, bs, ts, ps, rs))) rfl hl2 rfl rfl (Nat.le_of_ble_eq_true rfl) (xf_int rfl) rfl ?_
          refine y_go rfl rfl ?_
          exact y_ireturn rfl rfl rfl ⟨z, hz, by unfold wallX; rw [if_pos hr, if_pos hs, if_neg c35, if_neg c47]⟩
        · refine y_go rfl rfl ?_
          exact y_ireturn rfl rfl rfl ⟨z, hz, by unfold wallX; rw [if_pos hr, if_pos hs, if_neg c35, if_pos c47]⟩
      · refine y_go rfl rfl ?_
        exact y_ireturn rfl rfl rfl ⟨z, hz, by unfold wallX; rw [if_pos hr, if_pos hs, if_pos c35]⟩
    · refine y_go rfl rfl ?_
      refine y_go rfl rfl ?_
      refine y_go rfl rfl ?_
      refine y_S1 rfl rfl (Nat.le_of_ble_eq_true rfl) (Nat.le_of_ble_eq_true rfl) rfl rfl (s_isOutside (by omega) _ _ _ _) ?_
      refine y_if_ne rfl (fun c => absurd (if_neg (fun q => xout (u := w) (l := 2) (m := 18) (by omega) (by decide) (by decide) q hr)) c) (fun _ => ?_)
      refine y_go rfl rfl ?_
      refine y_go rfl rfl ?_
      refine y_go rfl rfl ?_
      refine y_S1 rfl rfl (Nat.le_of_ble_eq_true rfl) (Nat.le_of_ble_eq_true rfl) rfl rfl (s_isOutside (by omega) _ _ _ _) ?_
      refine y_if_eq rfl (fun c => absurd c (by rw [if_pos (show nI kc < 1 ∨ 8 < nI kc from xin (u := kc) (l := 1) (m := 8) (by omega) (by decide) (by decide) hs)]; decide)) (fun _ => ?_)
      refine y_go rfl rfl ?_
      exact y_ireturn rfl rfl rfl ⟨G, hG, by unfold wallX; rw [if_pos hr, if_neg hs]⟩
  · refine y_go rfl rfl ?_
    refine y_go rfl rfl ?_
    refine y_go rfl rfl ?_
    refine y_S1 rfl rfl (Nat.le_of_ble_eq_true rfl) (Nat.le_of_ble_eq_true rfl) rfl rfl (s_isOutside (by omega) _ _ _ _) ?_
    refine y_if_ne rfl (fun _ => ?_) (fun c => absurd c (by rw [if_pos (show nI w < 2 ∨ 18 < nI w from xin (u := w) (l := 2) (m := 18) (by omega) (by decide) (by decide) hr)]; decide))
    refine y_go rfl rfl ?_
    exact y_ireturn rfl rfl rfl ⟨G, hG, by unfold wallX; rw [if_neg hr]⟩
