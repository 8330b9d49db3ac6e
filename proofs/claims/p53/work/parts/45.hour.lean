/-! THE KILN: one hour. -/
/-- the chamber behind -/
def xnx (j : Nat) : Nat := if j = 7 then 0 else j + 1
theorem xnx_lt {j : Nat} (h : j < 8) : xnx j < 8 := by unfold xnx; split <;> omega
theorem xaf_idx {j : Nat} (h : j < 8) : xidx (xaf (nI j)) (xnx j) := by
  rcases (show j = 0 ∨ j = 1 ∨ j = 2 ∨ j = 3 ∨ j = 4 ∨ j = 5 ∨ j = 6 ∨ j = 7 by omega) with rfl | rfl | rfl | rfl | rfl | rfl | rfl | rfl <;> decide
theorem xaf_nI {j : Nat} (h : j < 8) : xaf (nI j) = nI (xnx j) := by
  rcases (show j = 0 ∨ j = 1 ∨ j = 2 ∨ j = 3 ∨ j = 4 ∨ j = 5 ∨ j = 6 ∨ j = 7 by omega) with rfl | rfl | rfl | rfl | rfl | rfl | rfl | rfl <;> rfl
/-- the temperatures where the fire burns at j -/
def heatT (j : Nat) (ts : List Int32) : List Int32 := if gd (ts.set j (imin (gd ts j + 150) 1100)) (xnx j) < 500 then (ts.set j (imin (gd ts j + 150) 1100)).set (xnx j) (imin (gd (ts.set j (imin (gd ts j + 150) 1100)) (xnx j) + 40) 500) else ts.set j (imin (gd ts j + 150) 1100)
/-- is the chamber c heated -/
def hot (f : Nat → Int32) (c : Int32) : Bool := decide (¬ f 1 = -1) && (decide (c = f 1) || decide (c = xaf (f 1)))
/-- the first i chambers have cooled -/
def coolTo (f : Nat → Int32) (ts : List Int32) : Nat → List Int32
  | 0 => ts
  | i + 1 => if hot f (nI i) = true then coolTo f ts i else (coolTo f ts i).set i (gd (coolTo f ts i) i - (gd (coolTo f ts i) i - 20) * (f 3 + 1) / 20)
theorem coolTo_len (f : Nat → Int32) (ts : List Int32) : ∀ i, (coolTo f ts i).length = ts.length
  | 0 => rfl
  | i + 1 => by
    simp only [coolTo]
    split
    · exact coolTo_len f ts i
    · rw [List.length_set, coolTo_len f ts i]
theorem s_heatChambers {S : List Int32} {d : Nat} (hd : 2 ≤ d) {h : xH} {p : Nat} (hl : p + 6 ≤ h.length) (f : Nat → Int32) (ss bs ts ps rs : List Int32) (k0 : Nat × Nat) (h1 : ss.length = 8) (h2 : bs.length = 8) (h3 : ts.length = 8) (h4 : ps.length = 3) (h5 : rs.length = 3) (j : Nat) (hj : j < 8) (hf : f 1 = nI j) : yT S d 38 [.ref p] ((put h p (kC p (f, ss, bs, ts, ps, rs))), k0) (· = (.inl none, (put h p (kC p (up (up f 2 (f 2 - 10)) 16 (f 16 + 10), ss, bs, heatT j ts, ps, rs)), k0))) := by
  obtain ⟨d, rfl⟩ : ∃ e, d = e + 1 := ⟨d - 1, by omega⟩
  refine yT_eq (Nat.le_of_ble_eq_true rfl) ?_
  show yW S d 38 (0, [.ref p, xno], [], ((put h p (kC p (f, ss, bs, ts, ps, rs))), k0)) _
  refine y_go rfl rfl ?_
  refine y_go rfl rfl ?_
  refine y_getR (w := .int (f 2)) (j := 0) rfl hl rfl rfl rfl rfl ?_
  refine y_go rfl rfl ?_
  refine y_go rfl rfl ?_
  refine y_putR (j := 0) (cs' := (kC p ((up f 2 ((f 2) - 10)), ss, bs, ts, ps, rs))) rfl hl rfl rfl (Nat.le_of_ble_eq_true rfl) (xf_int rfl) rfl ?_
  refine y_go rfl rfl ?_
  refine y_go rfl rfl ?_
  refine y_getR (w := .int (f 16)) (j := 0) rfl hl rfl rfl rfl rfl ?_
  refine y_go rfl rfl ?_
  refine y_go rfl rfl ?_
  refine y_putR (j := 0) (cs' := (kC p ((up (up f 2 ((f 2) - 10)) 16 ((f 16) + 10)), ss, bs, ts, ps, rs))) rfl hl rfl rfl (Nat.le_of_ble_eq_true rfl) (xf_int rfl) rfl ?_
  refine y_go rfl rfl ?_
  refine y_getR (w := .ref (p + 3)) (j := 0) rfl hl rfl rfl rfl rfl ?_
  refine y_go rfl rfl ?_
  refine y_getR (w := .int (f 1)) (j := 0) rfl hl rfl rfl rfl rfl ?_
  refine y_go rfl rfl ?_
  refine y_getR (w := .ref (p + 3)) (j := 0) rfl hl rfl rfl rfl rfl ?_
  refine y_go rfl rfl ?_
  refine y_getR (w := .int (f 1)) (j := 0) rfl hl rfl rfl rfl rfl ?_
  refine y_aldR (t := 0) (n := 3) (j := j) (l := ts) rfl (Or.inl ⟨rfl, rfl⟩) hl rfl rfl (by rw [hf]; exact xidx_nI (by omega)) (xgd (by have := xnx_lt hj; first | omega | (simp only [List.length_set, coolTo_len]; omega))) ?_
  refine y_go rfl rfl ?_
  refine y_go rfl rfl ?_
  refine y_go rfl rfl ?_
  refine y_min rfl (Nat.le_of_ble_eq_true rfl) rfl ?_
  refine y_astR (t := 0) (n := 3) (j := j) (y := (imin ((gd ts j) + 150) 1100)) (cs' := (kC p ((up (up f 2 ((f 2) - 10)) 16 ((f 16) + 10)), ss, bs, (ts.set j (imin ((gd ts j) + 150) 1100)), ps, rs))) rfl (Or.inl ⟨rfl, rfl⟩) hl rfl rfl (by rw [hf]; exact xidx_nI (by omega)) (by have := xnx_lt hj; first | omega | (simp only [List.length_set, coolTo_len]; omega)) rfl rfl ?_
  refine y_go rfl rfl ?_
  refine y_getR (w := .int (f 1)) (j := 0) rfl hl rfl rfl rfl rfl ?_
  refine y_S1 rfl rfl (Nat.le_of_ble_eq_true rfl) (Nat.le_of_ble_eq_true rfl) rfl rfl (s_chamberAfter (by omega) _ _) ?_
  refine y_go (g' := (58, [.ref p, .int (xaf (f 1))], _, _)) rfl rfl ?_
  refine y_go rfl rfl ?_
  refine y_getR (w := .ref (p + 3)) (j := 0) rfl hl rfl rfl rfl rfl ?_
  refine y_go rfl rfl ?_
  refine y_aldR (t := 0) (n := 3) (j := (xnx j)) (l := (ts.set j (imin ((gd ts j) + 150) 1100))) rfl (Or.inl ⟨rfl, rfl⟩) hl rfl rfl (by rw [hf]; exact xaf_idx hj) (xgd (by have := xnx_lt hj; first | omega | (simp only [List.length_set, coolTo_len]; omega))) ?_
  refine y_go rfl rfl ?_
  refine y_ic_ge rfl (fun c67 => ?_) (fun c67 => ?_)
  · exact y_end rfl rfl (by simp only [heatT, if_neg c67])
  · refine y_go rfl rfl ?_
    refine y_getR (w := .ref (p + 3)) (j := 0) rfl hl rfl rfl rfl rfl ?_
    refine y_go rfl rfl ?_
    refine y_go rfl rfl ?_
    refine y_getR (w := .ref (p + 3)) (j := 0) rfl hl rfl rfl rfl rfl ?_
    refine y_go rfl rfl ?_
    refine y_aldR (t := 0) (n := 3) (j := (xnx j)) (l := (ts.set j (imin ((gd ts j) + 150) 1100))) rfl (Or.inl ⟨rfl, rfl⟩) hl rfl rfl (by rw [hf]; exact xaf_idx hj) (xgd (by have := xnx_lt hj; first | omega | (simp only [List.length_set, coolTo_len]; omega))) ?_
    refine y_go rfl rfl ?_
    refine y_go rfl rfl ?_
    refine y_go rfl rfl ?_
    refine y_min rfl (Nat.le_of_ble_eq_true rfl) rfl ?_
    refine y_astR (t := 0) (n := 3) (j := (xnx j)) (y := (imin ((gd (ts.set j (imin ((gd ts j) + 150) 1100)) (xnx j)) + 40) 500)) (cs' := (kC p ((up (up f 2 ((f 2) - 10)) 16 ((f 16) + 10)), ss, bs, ((ts.set j (imin ((gd ts j) + 150) 1100)).set (xnx j) (imin ((gd (ts.set j (imin ((gd ts j) + 150) 1100)) (xnx j)) + 40) 500)), ps, rs))) rfl (Or.inl ⟨rfl, rfl⟩) hl rfl rfl (by rw [hf]; exact xaf_idx hj) (by have := xnx_lt hj; first | omega | (simp only [List.length_set, coolTo_len]; omega)) rfl rfl ?_
    exact y_end rfl rfl (by simp only [heatT, if_pos c67])
theorem l_cool {S : List Int32} {d : Nat} (hd : 1 ≤ d) {h : xH} {p : Nat} (hl : p + 6 ≤ h.length) (f : Nat → Int32) (ss bs ts ps rs : List Int32) (k0 : Nat × Nat) (h1 : ss.length = 8) (h2 : bs.length = 8) (h3 : ts.length = 8) (h4 : ps.length = 3) (h5 : rs.length = 3) {Q : xR → Prop} (k : ∀ (x2 : Value) (x3 : Value) (l : List Int32), l = coolTo f ts 8 → yW S d 39 (80, [.ref p, .int (nI 8), x2, x3], [], ((put h p (kC p (f, ss, bs, l, ps, rs))), k0)) Q) : ∀ (n i : Nat), i + n = 8 → ∀ (x2 : Value) (x3 : Value) (l : List Int32), l = coolTo f ts i → yW S d 39 (2, [.ref p, .int (nI i), x2, x3], [], ((put h p (kC p (f, ss, bs, l, ps, rs))), k0)) Q := by
  intro n
  induction n with
  | zero =>
    intro i hi x2 x3 l e_l
    obtain rfl : i = 8 := by omega
    refine y_go rfl rfl ?_
    refine y_go rfl rfl ?_
    refine y_ic_ge rfl (fun _ => ?_) (fun c => absurd c (nI_nlt (a := 8) (b := 8) (Nat.le_refl _) (by first | decide | omega)))
    exact k _ _ _ e_l
  | succ n ih =>
    intro i hi x2 x3 l e_l
    have hlt : i < 8 := by omega
    refine y_go rfl rfl ?_
    refine y_go rfl rfl ?_
    refine y_ic_ge rfl (fun c => absurd (nI_lt (a := i) (b := 8) hlt (by first | decide | omega)) c) (fun _ => ?_)
    refine y_go rfl rfl ?_
    refine y_V1 rfl (Nat.le_of_ble_eq_true rfl) (Nat.le_of_ble_eq_true rfl) rfl rfl (xrcvR (n := 0) hl rfl rfl) (s_fireIsLit (by omega) hl f ss bs l ps rs _) ?_
    refine y_if_eq rfl (fun c12 => ?_) (fun c12 => ?_)
    · replace c12 : (f 1) = -1 := xi_c c12
      refine y_go rfl rfl ?_
      refine y_go (g' := (40, [.ref p, .int (nI i), .int 0, x3], _, _)) rfl rfl ?_
      refine y_go rfl rfl ?_
      refine y_if_ne rfl (fun c => absurd (by decide) c) (fun _ => ?_)
      refine y_go rfl rfl ?_
      refine y_getR (w := .ref (p + 3)) (j := 0) rfl hl rfl rfl rfl rfl ?_
      refine y_go rfl rfl ?_
      refine y_aldR (t := 0) (n := 3) (j := i) (l := l) rfl (Or.inl ⟨rfl, rfl⟩) hl rfl rfl (xidx_nI (by omega)) (xgd (by rw [e_l, coolTo_len]; omega)) ?_
      refine y_go rfl rfl ?_
      refine y_go rfl rfl ?_
      refine y_go (g' := (54, [.ref p, .int (nI i), .int 0, .int ((gd l i) - 20)], _, _)) rfl rfl ?_
      refine y_go rfl rfl ?_
      refine y_getR (w := .ref (p + 3)) (j := 0) rfl hl rfl rfl rfl rfl ?_
      refine y_go rfl rfl ?_
      refine y_go rfl rfl ?_
      refine y_aldR (t := 0) (n := 3) (j := i) (l := l) rfl (Or.inl ⟨rfl, rfl⟩) hl rfl rfl (xidx_nI (by omega)) (xgd (by rw [e_l, coolTo_len]; omega)) ?_
      refine y_go rfl rfl ?_
      refine y_go rfl rfl ?_
      refine y_getR (w := .int (f 3)) (j := 0) rfl hl rfl rfl rfl rfl ?_
      refine y_go rfl rfl ?_
      refine y_go rfl rfl ?_
      refine y_go rfl rfl ?_
      refine y_go rfl rfl ?_
      refine y_div rfl (by decide) (Or.inl ⟨rfl, rfl⟩) ?_
      refine y_go rfl rfl ?_
      refine y_astR (t := 0) (n := 3) (j := i) (y := ((gd l i) - ((((gd l i) - 20) * ((f 3) + 1)) / 20))) (cs' := (kC p (f, ss, bs, (l.set i ((gd l i) - ((((gd l i) - 20) * ((f 3) + 1)) / 20))), ps, rs))) rfl (Or.inl ⟨rfl, rfl⟩) hl rfl rfl (xidx_nI (by omega)) (by rw [e_l, coolTo_len]; omega) rfl rfl ?_
      refine y_go (g' := (77, [.ref p, .int (nI (i + 1)), .int 0, .int ((gd l i) - 20)], _, _)) rfl (by rw [← nI_1 i]; rfl) ?_
      refine y_go rfl rfl ?_
      exact ih (i + 1) (by omega) _ _ _ (by simp [coolTo, hot, e_l, c12])
    · replace c12 : ¬ ((f 1) = -1) := xi_d c12
      refine y_go rfl rfl ?_
      refine y_go rfl rfl ?_
      refine y_getR (w := .int (f 1)) (j := 0) rfl hl rfl rfl rfl rfl ?_
      refine y_ic_eq rfl (fun c20 => ?_) (fun c20 => ?_)
      · refine y_go rfl rfl ?_
        refine y_go rfl rfl ?_
        refine y_go (g' := (40, [.ref p, .int (nI i), .int 1, x3], _, _)) rfl rfl ?_
        refine y_go rfl rfl ?_
        refine y_if_ne rfl (fun _ => ?_) (fun c => absurd c (by decide))
        refine y_go (g' := (77, [.ref p, .int (nI (i + 1)), .int 1, x3], _, _)) rfl (by rw [← nI_1 i]; rfl) ?_
        refine y_go rfl rfl ?_
        exact ih (i + 1) (by omega) _ _ _ (by simp [coolTo, hot, e_l, c12, c20])
      · refine y_go rfl rfl ?_
        refine y_go rfl rfl ?_
        refine y_getR (w := .int (f 1)) (j := 0) rfl hl rfl rfl rfl rfl ?_
        refine y_S1 rfl rfl (Nat.le_of_ble_eq_true rfl) (Nat.le_of_ble_eq_true rfl) rfl rfl (s_chamberAfter (by omega) _ _) ?_
        refine y_ic_ne rfl (fun c31 => ?_) (fun c31 => ?_)
        · refine y_go rfl rfl ?_
          refine y_go (g' := (40, [.ref p, .int (nI i), .int 0, x3], _, _)) rfl rfl ?_
          refine y_go rfl rfl ?_
          refine y_if_ne rfl (fun c => absurd (by decide) c) (fun _ => ?_)
          refine y_go rfl rfl ?_
          refine y_getR (w := .ref (p + 3)) (j := 0) rfl hl rfl rfl rfl rfl ?_
          refine y_go rfl rfl ?_
          refine y_aldR (t := 0) (n := 3) (j := i) (l := l) rfl (Or.inl ⟨rfl, rfl⟩) hl rfl rfl (xidx_nI (by omega)) (xgd (by rw [e_l, coolTo_len]; omega)) ?_
          refine y_go rfl rfl ?_
          refine y_go rfl rfl ?_
          refine y_go (g' := (54, [.ref p, .int (nI i), .int 0, .int ((gd l i) - 20)], _, _)) rfl rfl ?_
          refine y_go rfl rfl ?_
          refine y_getR (w := .ref (p + 3)) (j := 0) rfl hl rfl rfl rfl rfl ?_
          refine y_go rfl rfl ?_
          refine y_go rfl rfl ?_
          refine y_aldR (t := 0) (n := 3) (j := i) (l := l) rfl (Or.inl ⟨rfl, rfl⟩) hl rfl rfl (xidx_nI (by omega)) (xgd (by rw [e_l, coolTo_len]; omega)) ?_
          refine y_go rfl rfl ?_
          refine y_go rfl rfl ?_
          refine y_getR (w := .int (f 3)) (j := 0) rfl hl rfl rfl rfl rfl ?_
          refine y_go rfl rfl ?_
          refine y_go rfl rfl ?_
          refine y_go rfl rfl ?_
          refine y_go rfl rfl ?_
          refine y_div rfl (by decide) (Or.inl ⟨rfl, rfl⟩) ?_
          refine y_go rfl rfl ?_
          refine y_astR (t := 0) (n := 3) (j := i) (y := ((gd l i) - ((((gd l i) - 20) * ((f 3) + 1)) / 20))) (cs' := (kC p (f, ss, bs, (l.set i ((gd l i) - ((((gd l i) - 20) * ((f 3) + 1)) / 20))), ps, rs))) rfl (Or.inl ⟨rfl, rfl⟩) hl rfl rfl (xidx_nI (by omega)) (by rw [e_l, coolTo_len]; omega) rfl rfl ?_
          refine y_go (g' := (77, [.ref p, .int (nI (i + 1)), .int 0, .int ((gd l i) - 20)], _, _)) rfl (by rw [← nI_1 i]; rfl) ?_
          refine y_go rfl rfl ?_
          exact ih (i + 1) (by omega) _ _ _ (by simp [coolTo, hot, e_l, c12, c20, c31])
        · refine y_go rfl rfl ?_
          refine y_go rfl rfl ?_
          refine y_go (g' := (40, [.ref p, .int (nI i), .int 1, x3], _, _)) rfl rfl ?_
          refine y_go rfl rfl ?_
          refine y_if_ne rfl (fun _ => ?_) (fun c => absurd c (by decide))
          refine y_go (g' := (77, [.ref p, .int (nI (i + 1)), .int 1, x3], _, _)) rfl (by rw [← nI_1 i]; rfl) ?_
          refine y_go rfl rfl ?_
          exact ih (i + 1) (by omega) _ _ _ (by simp [coolTo, hot, e_l, c12, c20, c31])
theorem s_coolChambers {S : List Int32} {d : Nat} (hd : 2 ≤ d) {h : xH} {p : Nat} (hl : p + 6 ≤ h.length) (f : Nat → Int32) (ss bs ts ps rs : List Int32) (k0 : Nat × Nat) (h1 : ss.length = 8) (h2 : bs.length = 8) (h3 : ts.length = 8) (h4 : ps.length = 3) (h5 : rs.length = 3) : yT S d 39 [.ref p] ((put h p (kC p (f, ss, bs, ts, ps, rs))), k0) (· = (.inl none, (put h p (kC p (f, ss, bs, coolTo f ts 8, ps, rs)), k0))) := by
  obtain ⟨d, rfl⟩ : ∃ e, d = e + 1 := ⟨d - 1, by omega⟩
  refine yT_eq (Nat.le_of_ble_eq_true rfl) ?_
  show yW S d 39 (0, [.ref p, xno, xno, xno], [], ((put h p (kC p (f, ss, bs, ts, ps, rs))), k0)) _
  refine y_go rfl rfl ?_
  refine y_go (g' := (2, [.ref p, .int 0, xno, xno], _, _)) rfl rfl ?_
  refine l_cool (by omega) hl f ss bs ts ps rs k0 h1 h2 h3 h4 h5 (fun x2 x3 l e_l => ?_) 8 0 (by omega) _ _ _ rfl
  subst e_l
  exact y_end rfl rfl rfl
/-- the fire's chamber is done, the fire goes on or out -/
def finF (j : Nat) (f : Nat → Int32) (ss bs : List Int32) : Nat → Int32 := if gd ss j = 103 then (if gd (ss.set j 102) (xnx j) = 103 then up (up f 12 (f 12 + gd bs j)) 1 (xaf (f 1)) else up (up f 12 (f 12 + gd bs j)) 1 (-1)) else (if gd ss (xnx j) = 103 then up f 1 (xaf (f 1)) else up f 1 (-1))
def finS (j : Nat) (ss : List Int32) : List Int32 := if gd ss j = 103 then ss.set j 102 else ss
theorem s_finishChamber {S : List Int32} {d : Nat} (hd : 2 ≤ d) {h : xH} {p : Nat} (hl : p + 6 ≤ h.length) (f : Nat → Int32) (ss bs ts ps rs : List Int32) (k0 : Nat × Nat) (h1 : ss.length = 8) (h2 : bs.length = 8) (h3 : ts.length = 8) (h4 : ps.length = 3) (h5 : rs.length = 3) (j : Nat) (hj : j < 8) (hf : f 1 = nI j) : yT S d 40 [.ref p] ((put h p (kC p (f, ss, bs, ts, ps, rs))), k0) (· = (.inl none, (put h p (kC p (finF j f ss bs, finS j ss, bs, ts, ps, rs)), k0))) := by
  obtain ⟨d, rfl⟩ : ∃ e, d = e + 1 := ⟨d - 1, by omega⟩
  refine yT_eq (Nat.le_of_ble_eq_true rfl) ?_
  show yW S d 40 (0, [.ref p, xno], [], ((put h p (kC p (f, ss, bs, ts, ps, rs))), k0)) _
  refine y_go rfl rfl ?_
  refine y_getR (w := .ref (p + 1)) (j := 0) rfl hl rfl rfl rfl rfl ?_
  refine y_go rfl rfl ?_
  refine y_getR (w := .int (f 1)) (j := 0) rfl hl rfl rfl rfl rfl ?_
  refine y_aldR (t := 1) (n := 1) (j := j) (l := ss) rfl (Or.inr (Or.inl ⟨rfl, rfl⟩)) hl rfl rfl (by rw [hf]; exact xidx_nI (by omega)) (xgd (by have := xnx_lt hj; first | omega | (simp only [List.length_set, coolTo_len]; omega))) ?_
  refine y_go rfl rfl ?_
  refine y_ic_ne rfl (fun c11 => ?_) (fun c11 => ?_)
  · refine y_go rfl rfl ?_
    refine y_getR (w := .int (f 1)) (j := 0) rfl hl rfl rfl rfl rfl ?_
    refine y_S1 rfl rfl (Nat.le_of_ble_eq_true rfl) (Nat.le_of_ble_eq_true rfl) rfl rfl (s_chamberAfter (by omega) _ _) ?_
    refine y_go (g' := (51, [.ref p, .int (xaf (f 1))], _, _)) rfl rfl ?_
    refine y_go rfl rfl ?_
    refine y_go rfl rfl ?_
    refine y_getR (w := .ref (p + 1)) (j := 0) rfl hl rfl rfl rfl rfl ?_
    refine y_go rfl rfl ?_
    refine y_aldR (t := 1) (n := 1) (j := (xnx j)) (l := ss) rfl (Or.inr (Or.inl ⟨rfl, rfl⟩)) hl rfl rfl (by rw [hf]; exact xaf_idx hj) (xgd (by have := xnx_lt hj; first | omega | (simp only [List.length_set, coolTo_len]; omega))) ?_
    refine y_go rfl rfl ?_
    refine y_ic_ne rfl (fun c60 => ?_) (fun c60 => ?_)
    · refine y_go rfl rfl ?_
      refine y_putR (j := 0) (cs' := (kC p ((up f 1 (-1)), ss, bs, ts, ps, rs))) rfl hl rfl rfl (Nat.le_of_ble_eq_true rfl) (xf_int rfl) rfl ?_
      exact y_end rfl rfl (by simp only [finF, finS, if_neg c11, if_neg c60])
    · refine y_go rfl rfl ?_
      refine y_go rfl rfl ?_
      refine y_putR (j := 0) (cs' := (kC p ((up f 1 (xaf (f 1))), ss, bs, ts, ps, rs))) rfl hl rfl rfl (Nat.le_of_ble_eq_true rfl) (xf_int rfl) rfl ?_
      exact y_end rfl rfl (by simp only [finF, finS, if_neg c11, if_pos c60])
  · refine y_go rfl rfl ?_
    refine y_getR (w := .ref (p + 1)) (j := 0) rfl hl rfl rfl rfl rfl ?_
    refine y_go rfl rfl ?_
    refine y_getR (w := .int (f 1)) (j := 0) rfl hl rfl rfl rfl rfl ?_
    refine y_go rfl rfl ?_
    refine y_astR (t := 1) (n := 1) (j := j) (y := 102) (cs' := (kC p (f, (ss.set j 102), bs, ts, ps, rs))) rfl (Or.inr (Or.inl ⟨rfl, rfl⟩)) hl rfl rfl (by rw [hf]; exact xidx_nI (by omega)) (by have := xnx_lt hj; first | omega | (simp only [List.length_set, coolTo_len]; omega)) (by decide) rfl ?_
    refine y_go rfl rfl ?_
    refine y_go rfl rfl ?_
    refine y_getR (w := .int (f 12)) (j := 0) rfl hl rfl rfl rfl rfl ?_
    refine y_go rfl rfl ?_
    refine y_getR (w := .ref (p + 2)) (j := 0) rfl hl rfl rfl rfl rfl ?_
    refine y_go rfl rfl ?_
    refine y_getR (w := .int (f 1)) (j := 0) rfl hl rfl rfl rfl rfl ?_
    refine y_aldR (t := 0) (n := 2) (j := j) (l := bs) rfl (Or.inl ⟨rfl, rfl⟩) hl rfl rfl (by rw [hf]; exact xidx_nI (by omega)) (xgd (by have := xnx_lt hj; first | omega | (simp only [List.length_set, coolTo_len]; omega))) ?_
    refine y_go rfl rfl ?_
    refine y_putR (j := 0) (cs' := (kC p ((up f 12 ((f 12) + (gd bs j))), (ss.set j 102), bs, ts, ps, rs))) rfl hl rfl rfl (Nat.le_of_ble_eq_true rfl) (xf_int rfl) rfl ?_
    refine y_go rfl rfl ?_
    refine y_getR (w := .int (f 1)) (j := 0) rfl hl rfl rfl rfl rfl ?_
    refine y_S1 rfl rfl (Nat.le_of_ble_eq_true rfl) (Nat.le_of_ble_eq_true rfl) rfl rfl (s_chamberAfter (by omega) _ _) ?_
    refine y_go (g' := (51, [.ref p, .int (xaf (f 1))], _, _)) rfl rfl ?_
    refine y_go rfl rfl ?_
    refine y_go rfl rfl ?_
    refine y_getR (w := .ref (p + 1)) (j := 0) rfl hl rfl rfl rfl rfl ?_
    refine y_go rfl rfl ?_
    refine y_aldR (t := 1) (n := 1) (j := (xnx j)) (l := (ss.set j 102)) rfl (Or.inr (Or.inl ⟨rfl, rfl⟩)) hl rfl rfl (by rw [hf]; exact xaf_idx hj) (xgd (by have := xnx_lt hj; first | omega | (simp only [List.length_set, coolTo_len]; omega))) ?_
    refine y_go rfl rfl ?_
    refine y_ic_ne rfl (fun c60 => ?_) (fun c60 => ?_)
    · refine y_go rfl rfl ?_
      refine y_putR (j := 0) (cs' := (kC p ((up (up f 12 ((f 12) + (gd bs j))) 1 (-1)), (ss.set j 102), bs, ts, ps, rs))) rfl hl rfl rfl (Nat.le_of_ble_eq_true rfl) (xf_int rfl) rfl ?_
      exact y_end rfl rfl (by simp only [finF, finS, if_pos c11, if_neg c60])
    · refine y_go rfl rfl ?_
      refine y_go rfl rfl ?_
      refine y_putR (j := 0) (cs' := (kC p ((up (up f 12 ((f 12) + (gd bs j))) 1 (xaf (f 1))), (ss.set j 102), bs, ts, ps, rs))) rfl hl rfl rfl (Nat.le_of_ble_eq_true rfl) (xf_int rfl) rfl ?_
      exact y_end rfl rfl (by simp only [finF, finS, if_pos c11, if_pos c60])
/-- cooling and firing, behind the heating -/
def hour2 (f : Nat → Int32) (ss bs ts ps rs : List Int32) : kK := if f 1 = -1 then (f, ss, bs, coolTo f ts 8, ps, rs) else if gd (coolTo f ts 8) (f 1).toNatClampNeg < 900 then (f, ss, bs, coolTo f ts 8, ps, rs) else (finF (f 1).toNatClampNeg f ss bs, finS (f 1).toNatClampNeg ss, bs, coolTo f ts 8, ps, rs)
def hour1 (f : Nat → Int32) (ss bs ts ps rs : List Int32) : kK := if f 1 = -1 then hour2 f ss bs ts ps rs else hour2 (up (up f 2 (f 2 - 10)) 16 (f 16 + 10)) ss bs (heatT (f 1).toNatClampNeg ts) ps rs
def hour0 (f : Nat → Int32) : Nat → Int32 := if f 1 = -1 then up f 0 (f 0 + 1) else if f 2 < 10 then up (up f 0 (f 0 + 1)) 1 (-1) else up f 0 (f 0 + 1)
def hourK (K : kK) : kK := hour1 (hour0 K.1) K.2.1 K.2.2.1 K.2.2.2.1 K.2.2.2.2.1 K.2.2.2.2.2
theorem heatT_len (j : Nat) (ts : List Int32) : (heatT j ts).length = ts.length := by
  unfold heatT
  split <;> simp only [List.length_set]
theorem nI_no (j : Nat) (hj : j < 8) : nI j ≠ -1 := fun e => by
  have := congrArg Int32.toInt e
  rw [nI_toInt (by omega), show (-1 : Int32).toInt = -1 by decide] at this
  omega
theorem w_hour2 {S : List Int32} {d : Nat} (hd : 3 ≤ d) {h : xH} {p : Nat} (hl : p + 6 ≤ h.length) (f : Nat → Int32) (ss bs ts ps rs : List Int32) (k0 : Nat × Nat) (h1 : ss.length = 8) (h2 : bs.length = 8) (h3 : ts.length = 8) (h4 : ps.length = 3) (h5 : rs.length = 3) (hg : f 1 = -1 ∨ ∃ j, j < 8 ∧ f 1 = nI j) : yW S d 37 (42, [.ref p], [], ((put h p (kC p (f, ss, bs, ts, ps, rs))), k0)) (· = (.inl none, (put h p (kC p (hour2 f ss bs ts ps rs)), k0))) := by
  rcases hg with hf | ⟨j, hj, hf⟩
  · refine y_go rfl rfl ?_
    refine y_V0 rfl (Nat.le_of_ble_eq_true rfl) (Nat.le_of_ble_eq_true rfl) rfl rfl (xrcvR (n := 0) hl rfl rfl) (s_coolChambers (by omega) hl f ss bs ts ps rs _ h1 h2 (by first | assumption | (rw [heatT_len]; assumption)) h4 h5) ?_
    refine y_go rfl rfl ?_
    refine y_V1 rfl (Nat.le_of_ble_eq_true rfl) (Nat.le_of_ble_eq_true rfl) rfl rfl (xrcvR (n := 0) hl rfl rfl) (s_fireIsLit (by omega) hl f ss bs (coolTo f ts 8) ps rs _) ?_
    refine y_if_eq rfl (fun _ => ?_) (fun c => absurd (by rw [if_pos hf]) c)
    exact y_end rfl rfl (by simp only [hour2, if_pos hf])
  · refine y_go rfl rfl ?_
    refine y_V0 rfl (Nat.le_of_ble_eq_true rfl) (Nat.le_of_ble_eq_true rfl) rfl rfl (xrcvR (n := 0) hl rfl rfl) (s_coolChambers (by omega) hl f ss bs ts ps rs _ h1 h2 (by first | assumption | (rw [heatT_len]; assumption)) h4 h5) ?_
    refine y_go rfl rfl ?_
    refine y_V1 rfl (Nat.le_of_ble_eq_true rfl) (Nat.le_of_ble_eq_true rfl) rfl rfl (xrcvR (n := 0) hl rfl rfl) (s_fireIsLit (by omega) hl f ss bs (coolTo f ts 8) ps rs _) ?_
    refine y_if_eq rfl (fun c => absurd c (by rw [if_neg (by rw [hf]; exact nI_no j hj)]; decide)) (fun _ => ?_)
    refine y_go rfl rfl ?_
    refine y_getR (w := .ref (p + 3)) (j := 0) rfl hl rfl rfl rfl rfl ?_
    refine y_go rfl rfl ?_
    refine y_getR (w := .int (f 1)) (j := 0) rfl hl rfl rfl rfl rfl ?_
    refine y_aldR (t := 0) (n := 3) (j := j) (l := (coolTo f ts 8)) rfl (Or.inl ⟨rfl, rfl⟩) hl rfl rfl (by rw [hf]; exact xidx_nI (by omega)) (xgd (by have := xnx_lt hj; first | omega | (simp only [List.length_set, coolTo_len]; omega))) ?_
    refine y_go rfl rfl ?_
    refine y_ic_lt rfl (fun c65 => ?_) (fun c65 => ?_)
    · exact y_end rfl rfl (by have h8 : ¬ f 1 = -1 := (by rw [hf]; exact nI_no j hj); have h7 : (f 1).toNatClampNeg = j := (by rw [hf]; exact nI_clamp (by omega)); simp only [hour2, if_neg h8, h7, if_pos c65])
    · refine y_go rfl rfl ?_
      refine y_V0 rfl (Nat.le_of_ble_eq_true rfl) (Nat.le_of_ble_eq_true rfl) rfl rfl (xrcvR (n := 0) hl rfl rfl) (s_finishChamber (by omega) hl f ss bs (coolTo f ts 8) ps rs _ h1 h2 (by rw [coolTo_len]; assumption) h4 h5 j hj hf) ?_
      exact y_end rfl rfl (by have h8 : ¬ f 1 = -1 := (by rw [hf]; exact nI_no j hj); have h7 : (f 1).toNatClampNeg = j := (by rw [hf]; exact nI_clamp (by omega)); simp only [hour2, if_neg h8, h7, if_neg c65])
theorem w_hour1 {S : List Int32} {d : Nat} (hd : 3 ≤ d) {h : xH} {p : Nat} (hl : p + 6 ≤ h.length) (f : Nat → Int32) (ss bs ts ps rs : List Int32) (k0 : Nat × Nat) (h1 : ss.length = 8) (h2 : bs.length = 8) (h3 : ts.length = 8) (h4 : ps.length = 3) (h5 : rs.length = 3) (hg : f 1 = -1 ∨ ∃ j, j < 8 ∧ f 1 = nI j) : yW S d 37 (31, [.ref p], [], ((put h p (kC p (f, ss, bs, ts, ps, rs))), k0)) (· = (.inl none, (put h p (kC p (hour1 f ss bs ts ps rs)), k0))) := by
  rcases id hg with hf | ⟨j, hj, hf⟩
  · refine y_go rfl rfl ?_
    refine y_V1 rfl (Nat.le_of_ble_eq_true rfl) (Nat.le_of_ble_eq_true rfl) rfl rfl (xrcvR (n := 0) hl rfl rfl) (s_fireIsLit (by omega) hl f ss bs ts ps rs _) ?_
    refine y_if_eq rfl (fun _ => ?_) (fun c => absurd (by rw [if_pos hf]) c)
    have e : hour1 f ss bs ts ps rs = hour2 f ss bs ts ps rs := if_pos hf
    rw [e]
    exact w_hour2 hd hl f ss bs ts ps rs k0 h1 h2 h3 h4 h5 hg
  · refine y_go rfl rfl ?_
    refine y_V1 rfl (Nat.le_of_ble_eq_true rfl) (Nat.le_of_ble_eq_true rfl) rfl rfl (xrcvR (n := 0) hl rfl rfl) (s_fireIsLit (by omega) hl f ss bs ts ps rs _) ?_
    refine y_if_eq rfl (fun c => absurd c (by rw [if_neg (by rw [hf]; exact nI_no j hj)]; decide)) (fun _ => ?_)
    refine y_go rfl rfl ?_
    refine y_V0 rfl (Nat.le_of_ble_eq_true rfl) (Nat.le_of_ble_eq_true rfl) rfl rfl (xrcvR (n := 0) hl rfl rfl) (s_heatChambers (by omega) hl f ss bs ts ps rs _ h1 h2 h3 h4 h5 j hj hf) ?_
    have e : hour1 f ss bs ts ps rs = hour2 (up (up f 2 (f 2 - 10)) 16 (f 16 + 10)) ss bs (heatT j ts) ps rs := by
        have h7 : (f 1).toNatClampNeg = j := by rw [hf]; exact nI_clamp (by omega)
        unfold hour1
        rw [if_neg (by rw [hf]; exact nI_no j hj), h7]
    rw [e]
    exact w_hour2 hd hl _ ss bs _ ps rs k0 h1 h2 (by rw [heatT_len]; exact h3) h4 h5 (Or.inr ⟨j, hj, hf⟩)
theorem s_passOneHour {S : List Int32} {d : Nat} (hd : 4 ≤ d) {h : xH} {p : Nat} (hl : p + 6 ≤ h.length) (f : Nat → Int32) (ss bs ts ps rs : List Int32) (k0 : Nat × Nat) (h1 : ss.length = 8) (h2 : bs.length = 8) (h3 : ts.length = 8) (h4 : ps.length = 3) (h5 : rs.length = 3) (hg : f 1 = -1 ∨ ∃ j, j < 8 ∧ f 1 = nI j) : yT S d 37 [.ref p] ((put h p (kC p (f, ss, bs, ts, ps, rs))), k0) (· = (.inl none, (put h p (kC p (hourK (f, ss, bs, ts, ps, rs))), k0))) := by
  obtain ⟨d, rfl⟩ : ∃ e, d = e + 1 := ⟨d - 1, by omega⟩
  refine yT_eq (Nat.le_of_ble_eq_true rfl) ?_
  show yW S d 37 (0, [.ref p], [], ((put h p (kC p (f, ss, bs, ts, ps, rs))), k0)) _
  refine y_go rfl rfl ?_
  refine y_go rfl rfl ?_
  refine y_getR (w := .int (f 0)) (j := 0) rfl hl rfl rfl rfl rfl ?_
  refine y_go rfl rfl ?_
  refine y_go rfl rfl ?_
  refine y_putR (j := 0) (cs' := (kC p ((up f 0 ((f 0) + 1)), ss, bs, ts, ps, rs))) rfl hl rfl rfl (Nat.le_of_ble_eq_true rfl) (xf_int rfl) rfl ?_
  refine y_go rfl rfl ?_
  refine y_V1 rfl (Nat.le_of_ble_eq_true rfl) (Nat.le_of_ble_eq_true rfl) rfl rfl (xrcvR (n := 0) hl rfl rfl) (s_fireIsLit (by omega) hl (up f 0 ((f 0) + 1)) ss bs ts ps rs _) ?_
  refine y_if_eq rfl (fun c14 => ?_) (fun c14 => ?_)
  · replace c14 : (f 1) = -1 := xi_c c14
    have e : hour0 f = (up f 0 ((f 0) + 1)) := by simp only [hour0, if_pos c14]
    have e2 : hourK (f, ss, bs, ts, ps, rs) = hour1 (up f 0 ((f 0) + 1)) ss bs ts ps rs := by show hour1 (hour0 f) ss bs ts ps rs = _; rw [e]
    rw [e2]
    exact w_hour1 (by omega) hl _ ss bs ts ps rs k0 h1 h2 h3 h4 h5 hg
  · replace c14 : ¬ ((f 1) = -1) := xi_d c14
    refine y_go rfl rfl ?_
    refine y_getR (w := .int (f 2)) (j := 0) rfl hl rfl rfl rfl rfl ?_
    refine y_go rfl rfl ?_
    refine y_ic_ge rfl (fun c23 => ?_) (fun c23 => ?_)
    · have e : hour0 f = (up f 0 ((f 0) + 1)) := by simp only [hour0, if_neg c14, if_neg c23]
      have e2 : hourK (f, ss, bs, ts, ps, rs) = hour1 (up f 0 ((f 0) + 1)) ss bs ts ps rs := by show hour1 (hour0 f) ss bs ts ps rs = _; rw [e]
      rw [e2]
      exact w_hour1 (by omega) hl _ ss bs ts ps rs k0 h1 h2 h3 h4 h5 hg
    · refine y_go rfl rfl ?_
      refine y_go rfl rfl ?_
      refine y_putR (j := 0) (cs' := (kC p ((up (up f 0 ((f 0) + 1)) 1 (-1)), ss, bs, ts, ps, rs))) rfl hl rfl rfl (Nat.le_of_ble_eq_true rfl) (xf_int rfl) rfl ?_
      have e : hour0 f = (up (up f 0 ((f 0) + 1)) 1 (-1)) := by simp only [hour0, if_neg c14, if_pos c23]
      have e2 : hourK (f, ss, bs, ts, ps, rs) = hour1 (up (up f 0 ((f 0) + 1)) 1 (-1)) ss bs ts ps rs := by show hour1 (hour0 f) ss bs ts ps rs = _; rw [e]
      rw [e2]
      exact w_hour1 (by omega) hl _ ss bs ts ps rs k0 h1 h2 h3 h4 h5 (Or.inl rfl)
/-- a kiln that can be: its rows' lengths, its fire's place -/
def kv (K : kK) : Prop := K.2.1.length = 8 ∧ K.2.2.1.length = 8 ∧ K.2.2.2.1.length = 8 ∧ K.2.2.2.2.1.length = 3 ∧ K.2.2.2.2.2.length = 3 ∧ (K.1 1 = -1 ∨ ∃ j, j < 8 ∧ K.1 1 = nI j)
theorem finS_len (j : Nat) (ss : List Int32) : (finS j ss).length = ss.length := by
  unfold finS
  split <;> simp only [List.length_set]
theorem finF_fire {j : Nat} (hj : j < 8) (f : Nat → Int32) (hf : f 1 = nI j) (ss bs : List Int32) : finF j f ss bs 1 = -1 ∨ ∃ k, k < 8 ∧ finF j f ss bs 1 = nI k := by
  have h1 : xaf (f 1) = nI (xnx j) := by rw [hf]; exact xaf_nI hj
  unfold finF
  split
  · split
    · exact Or.inr ⟨xnx j, xnx_lt hj, h1⟩
    · exact Or.inl rfl
  · split
    · exact Or.inr ⟨xnx j, xnx_lt hj, h1⟩
    · exact Or.inl rfl
theorem kv_hour2 {f : Nat → Int32} {ss bs ts ps rs : List Int32} (h : kv (f, ss, bs, ts, ps, rs)) : kv (hour2 f ss bs ts ps rs) := by
  obtain ⟨h1, h2, h3, h4, h5, h6⟩ := h
  dsimp only at h1 h2 h3 h4 h5 h6
  unfold hour2
  split
  · exact ⟨h1, h2, (coolTo_len f ts 8).trans h3, h4, h5, h6⟩
  · rename_i hn
    split
    · exact ⟨h1, h2, (coolTo_len f ts 8).trans h3, h4, h5, h6⟩
    · rcases h6 with h6 | ⟨j, hj, h6⟩
      · exact absurd h6 hn
      · have h7 : (f 1).toNatClampNeg = j := by rw [h6]; exact nI_clamp (by omega)
        rw [h7]
        refine ⟨(finS_len j ss).trans h1, h2, (coolTo_len f ts 8).trans h3, h4, h5, ?_⟩
        have := finF_fire hj f h6 ss bs
        rcases this with q | ⟨k, hk, q⟩
        · exact Or.inl q
        · exact Or.inr ⟨k, hk, q⟩
theorem kv_hour1 {f : Nat → Int32} {ss bs ts ps rs : List Int32} (h : kv (f, ss, bs, ts, ps, rs)) : kv (hour1 f ss bs ts ps rs) := by
  unfold hour1
  split
  · exact kv_hour2 h
  · obtain ⟨h1, h2, h3, h4, h5, h6⟩ := h
    exact kv_hour2 ⟨h1, h2, (heatT_len _ ts).trans h3, h4, h5, h6⟩
theorem kv_hour {K : kK} (h : kv K) : kv (hourK K) := by
  obtain ⟨f, ss, bs, ts, ps, rs⟩ := K
  obtain ⟨h1, h2, h3, h4, h5, h6⟩ := h
  refine kv_hour1 ⟨h1, h2, h3, h4, h5, ?_⟩
  show hour0 f 1 = -1 ∨ ∃ j, j < 8 ∧ hour0 f 1 = nI j
  unfold hour0
  split
  · exact h6
  · split
    · exact Or.inl rfl
    · exact h6
theorem s_hour {S : List Int32} {d : Nat} (hd : 4 ≤ d) {h : xH} {p : Nat} (hl : p + 6 ≤ h.length) (K : kK) (hK : kv K) (k0 : Nat × Nat) : yT S d 37 [.ref p] (put h p (kC p K), k0) (· = (.inl none, (put h p (kC p (hourK K)), k0))) := by
  obtain ⟨f, ss, bs, ts, ps, rs⟩ := K
  obtain ⟨h1, h2, h3, h4, h5, h6⟩ := hK
  exact s_passOneHour hd hl f ss bs ts ps rs k0 h1 h2 h3 h4 h5 h6
/-- many hours -/
def hoursK (K : kK) : Nat → kK
  | 0 => K
  | n + 1 => hourK (hoursK K n)
theorem kv_hours {K : kK} (h : kv K) : ∀ n, kv (hoursK K n)
  | 0 => h
  | n + 1 => kv_hour (kv_hours h n)
theorem l_hours {S : List Int32} {d : Nat} (hd : 4 ≤ d) {h : xH} {p : Nat} (hl : p + 6 ≤ h.length) (K : kK) (hK : kv K) (k0 : Nat × Nat) (m : Nat) (hm : m < 2 ^ 31) (x2 : Int32) {Q : xR → Prop} (k : ∀ (K1 : kK), K1 = hoursK K m → yW S d 36 (22, [.ref p, .int (nI m), .int x2, .int (nI m)], [], ((put h p (kC p K1)), k0)) Q) : ∀ (n i : Nat), i + n = m → ∀ (K1 : kK), K1 = hoursK K i → yW S d 36 (7, [.ref p, .int (nI m), .int x2, .int (nI i)], [], ((put h p (kC p K1)), k0)) Q := by
  intro n
  induction n with
  | zero =>
    intro i hi K1 e_K1
    obtain rfl : i = m := by omega
    refine y_go rfl rfl ?_
    refine y_go rfl rfl ?_
    refine y_ic_ge rfl (fun _ => ?_) (fun c => absurd c (nI_nlt (a := i) (b := i) (Nat.le_refl _) (by first | decide | omega)))
    exact k _ e_K1
  | succ n ih =>
    intro i hi K1 e_K1
    have hlt : i < m := by omega
    refine y_go rfl rfl ?_
    refine y_go rfl rfl ?_
    refine y_ic_ge rfl (fun c => absurd (nI_lt (a := i) (b := m) hlt (by first | decide | omega)) c) (fun _ => ?_)
    refine y_go rfl rfl ?_
    refine y_V0 rfl (Nat.le_of_ble_eq_true rfl) (Nat.le_of_ble_eq_true rfl) rfl rfl (xrcvR (n := 0) hl rfl rfl) (s_hour (by omega) hl K1 (by rw [e_K1]; exact kv_hours hK i) _) ?_
    refine y_go (g' := (19, [.ref p, .int (nI m), .int x2, .int (nI (i + 1))], _, _)) rfl (by rw [← nI_1 i]; rfl) ?_
    refine y_go rfl rfl ?_
    exact ih (i + 1) (by omega) _ (by rw [e_K1]; rfl)
theorem s_letHoursPass {S : List Int32} {d : Nat} (hd : 5 ≤ d) {h : xH} {p : Nat} (hl : p + 6 ≤ h.length) (K : kK) (hK : kv K) (k0 : Nat × Nat) (m : Nat) (hm : m < 2 ^ 31) : yT S d 36 [.ref p, .int (nI m)] ((put h p (kC p K)), k0) (· = (.inl (some (.int ((hoursK K m).1 12 - K.1 12))), (put h p (kC p (hoursK K m)), k0))) := by
  obtain ⟨d, rfl⟩ : ∃ e, d = e + 1 := ⟨d - 1, by omega⟩
  refine yT_eq (Nat.le_of_ble_eq_true rfl) ?_
  show yW S d 36 (0, [.ref p, .int (nI m), xno, xno], [], ((put h p (kC p K)), k0)) _
  refine y_go rfl rfl ?_
  refine y_getR (w := .int (K.1 12)) (j := 0) rfl hl rfl rfl rfl rfl ?_
  refine y_go (g' := (5, [.ref p, .int (nI m), .int (K.1 12), xno], _, _)) rfl rfl ?_
  refine y_go rfl rfl ?_
  refine y_go (g' := (7, [.ref p, .int (nI m), .int (K.1 12), .int 0], _, _)) rfl rfl ?_
  refine l_hours (by omega) hl K hK k0 m hm _ (fun K1 e1 => ?_) m 0 (by omega) _ rfl
  subst e1
  refine y_go rfl rfl ?_
  refine y_getR (w := .int ((hoursK K m).1 12)) (j := 0) rfl hl rfl rfl rfl rfl ?_
  refine y_go rfl rfl ?_
  refine y_go rfl rfl ?_
  exact y_ireturn rfl rfl rfl rfl
/-- after how many hours from i on (n are left) the fire is out; the kiln then -/
def tillOut : Nat → Nat → kK → Int32 × kK
  | 0, _, K => (-5, K)
  | n + 1, i, K => if K.1 1 = -1 then (nI i, K) else tillOut n (i + 1) (hourK K)
def tillCool (j : Nat) : Nat → Nat → kK → Int32 × kK
  | 0, _, K => (-5, K)
  | n + 1, i, K => if 60 < gd K.2.2.2.1 j then tillCool j n (i + 1) (hourK K) else (nI i, K)
theorem l_out {S : List Int32} {d : Nat} (hd : 4 ≤ d) {h : xH} {p : Nat} (hl : p + 6 ≤ h.length) (k0 : Nat × Nat) : ∀ (n i : Nat) (K : kK), kv K → i + n = 101 → yW S d 34 (2, [.ref p, .int (nI i)], [], (put h p (kC p K), k0)) (· = (.inl (some (.int (tillOut n i K).1)), (put h p (kC p (tillOut n i K).2), k0))) := by
  intro n
  induction n with
  | zero =>
    intro i K hK hi
    obtain rfl : i = 101 := by omega
    refine y_go rfl rfl ?_
    refine y_go rfl rfl ?_
    refine y_ic_gt rfl (fun _ => ?_) (fun c => absurd (by decide) c)
    refine y_go rfl rfl ?_
    exact y_ireturn rfl rfl rfl rfl
  | succ n ih =>
    intro i K hK hi
    obtain ⟨f, ss, bs, ts, ps, rs⟩ := K
    obtain ⟨h1, h2, h3, h4, h5, h6⟩ := id hK
    dsimp only at h1 h2 h3 h4 h5
    refine y_go rfl rfl ?_
    refine y_go rfl rfl ?_
    refine y_ic_gt rfl (fun c => absurd c (nI_nlt (a := 100) (b := i) (by omega) (by decide))) (fun _ => ?_)
    refine y_go rfl rfl ?_
    refine y_V1 rfl (Nat.le_of_ble_eq_true rfl) (Nat.le_of_ble_eq_true rfl) rfl rfl (xrcvR (n := 0) hl rfl rfl) (s_fireIsLit (by omega) hl f ss bs ts ps rs _) ?_
    refine y_if_ne rfl (fun c12 => ?_) (fun c12 => ?_)
    · replace c12 : ¬ ((f 1) = -1) := xi_d c12
      refine y_go rfl rfl ?_
      refine y_V0 rfl (Nat.le_of_ble_eq_true rfl) (Nat.le_of_ble_eq_true rfl) rfl rfl (xrcvR (n := 0) hl rfl rfl) (s_hour (by omega) hl (f, ss, bs, ts, ps, rs) hK _) ?_
      refine y_go (g' := (24, [.ref p, .int (nI (i + 1))], _, _)) rfl (by rw [← nI_1 i]; rfl) ?_
      refine y_go rfl rfl ?_
      have e : tillOut (n + 1) i (f, ss, bs, ts, ps, rs) = tillOut n (i + 1) (hourK (f, ss, bs, ts, ps, rs)) := by simp only [tillOut, if_neg c12]
      rw [e]
      exact ih (i + 1) _ (kv_hour hK) (by omega)
    · replace c12 : (f 1) = -1 := xi_c c12
      refine y_go rfl rfl ?_
      exact y_ireturn rfl rfl rfl (by simp only [tillOut, if_pos c12])
theorem s_hoursTillFireIsOut {S : List Int32} {d : Nat} (hd : 5 ≤ d) {h : xH} {p : Nat} (hl : p + 6 ≤ h.length) (K : kK) (hK : kv K) (k0 : Nat × Nat) : yT S d 34 [.ref p] ((put h p (kC p K)), k0) (· = (.inl (some (.int (tillOut 101 0 K).1)), (put h p (kC p (tillOut 101 0 K).2), k0))) := by
  obtain ⟨d, rfl⟩ : ∃ e, d = e + 1 := ⟨d - 1, by omega⟩
  refine yT_eq (Nat.le_of_ble_eq_true rfl) ?_
  show yW S d 34 (0, [.ref p, xno], [], ((put h p (kC p K)), k0)) _
  refine y_go rfl rfl ?_
  refine y_go (g' := (2, [.ref p, .int 0], _, _)) rfl rfl ?_
  exact l_out (by omega) hl k0  101 0 K hK (by omega)
theorem l_till {S : List Int32} {d : Nat} (hd : 4 ≤ d) {h : xH} {p : Nat} (hl : p + 6 ≤ h.length) (k0 : Nat × Nat) (j : Nat) (hj : j < 8) : ∀ (n i : Nat) (K : kK), kv K → i + n = 101 → yW S d 35 (2, [.ref p, .int (nI j), .int (nI i)], [], (put h p (kC p K), k0)) (· = (.inl (some (.int (tillCool j n i K).1)), (put h p (kC p (tillCool j n i K).2), k0))) := by
  intro n
  induction n with
  | zero =>
    intro i K hK hi
    obtain rfl : i = 101 := by omega
    refine y_go rfl rfl ?_
    refine y_go rfl rfl ?_
    refine y_ic_gt rfl (fun _ => ?_) (fun c => absurd (by decide) c)
    refine y_go rfl rfl ?_
    exact y_ireturn rfl rfl rfl rfl
  | succ n ih =>
    intro i K hK hi
    obtain ⟨f, ss, bs, ts, ps, rs⟩ := K
    obtain ⟨h1, h2, h3, h4, h5, h6⟩ := id hK
    dsimp only at h1 h2 h3 h4 h5
    refine y_go rfl rfl ?_
    refine y_go rfl rfl ?_
    refine y_ic_gt rfl (fun c => absurd c (nI_nlt (a := 100) (b := i) (by omega) (by decide))) (fun _ => ?_)
    refine y_go rfl rfl ?_
    refine y_go rfl rfl ?_
    refine y_V1 rfl (Nat.le_of_ble_eq_true rfl) (Nat.le_of_ble_eq_true rfl) rfl rfl (xrcvR (n := 0) hl rfl rfl) (s_isCool (by omega) hl f ss bs ts ps rs _ _ (by first | omega | (simp only [List.length_set]; omega)) _ (xidx_nI (by omega))) ?_
    refine y_if_eq rfl (fun c13 => ?_) (fun c13 => ?_)
    · replace c13 : 60 < gd ts j := xi_c c13
      refine y_go rfl rfl ?_
      refine y_V0 rfl (Nat.le_of_ble_eq_true rfl) (Nat.le_of_ble_eq_true rfl) rfl rfl (xrcvR (n := 0) hl rfl rfl) (s_hour (by omega) hl (f, ss, bs, ts, ps, rs) hK _) ?_
      refine y_go (g' := (25, [.ref p, .int (nI j), .int (nI (i + 1))], _, _)) rfl (by rw [← nI_1 i]; rfl) ?_
      refine y_go rfl rfl ?_
      have e : tillCool j (n + 1) i (f, ss, bs, ts, ps, rs) = tillCool j n (i + 1) (hourK (f, ss, bs, ts, ps, rs)) := by simp only [tillCool, if_pos c13]
      rw [e]
      exact ih (i + 1) _ (kv_hour hK) (by omega)
    · replace c13 : ¬ (60 < gd ts j) := xi_d c13
      refine y_go rfl rfl ?_
      exact y_ireturn rfl rfl rfl (by simp only [tillCool, if_neg c13])
theorem s_hoursTillCool {S : List Int32} {d : Nat} (hd : 5 ≤ d) {h : xH} {p : Nat} (hl : p + 6 ≤ h.length) (K : kK) (hK : kv K) (k0 : Nat × Nat) (j : Nat) (hj : j < 8) : yT S d 35 [.ref p, .int (nI j)] ((put h p (kC p K)), k0) (· = (.inl (some (.int (tillCool j 101 0 K).1)), (put h p (kC p (tillCool j 101 0 K).2), k0))) := by
  obtain ⟨d, rfl⟩ : ∃ e, d = e + 1 := ⟨d - 1, by omega⟩
  refine yT_eq (Nat.le_of_ble_eq_true rfl) ?_
  show yW S d 35 (0, [.ref p, .int (nI j), xno], [], ((put h p (kC p K)), k0)) _
  refine y_go rfl rfl ?_
  refine y_go (g' := (2, [.ref p, .int (nI j), .int 0], _, _)) rfl rfl ?_
  exact l_till (by omega) hl k0 j hj 101 0 K hK (by omega)
