/-! THE KILN: what operations change. -/
def fillX (f : Nat → Int32) (ss bs ts ps rs : List Int32) (c n : Int32) : Int32 × kK := if c < 0 ∨ 7 < c then (-1, (f, ss, bs, ts, ps, rs)) else if n < 1 ∨ 60 < n then (-2, (f, ss, bs, ts, ps, rs)) else if gd ss c.toNatClampNeg = 101 then (if 60 < gd ts c.toNatClampNeg then (-4, (f, ss, bs, ts, ps, rs)) else (cntTo (ss.set c.toNatClampNeg 103) 103 8, (up f 11 (f 11 + n), ss.set c.toNatClampNeg 103, bs.set c.toNatClampNeg n, ts, ps, rs))) else (-3, (f, ss, bs, ts, ps, rs))
theorem s_fillChamber {S : List Int32} {d : Nat} (hd : 3 ≤ d) {h : xH} {p : Nat} (hl : p + 6 ≤ h.length) (f : Nat → Int32) (ss bs ts ps rs : List Int32) (k0 : Nat × Nat) (h1 : ss.length = 8) (h2 : bs.length = 8) (h3 : ts.length = 8) (h4 : ps.length = 3) (h5 : rs.length = 3) (c n : Int32) : yT S d 25 [.ref p, .int c, .int n] ((put h p (kC p (f, ss, bs, ts, ps, rs))), k0) (· = (.inl (some (.int (fillX f ss bs ts ps rs c n).1)), (put h p (kC p (fillX f ss bs ts ps rs c n).2), k0))) := by
  obtain ⟨d, rfl⟩ : ∃ e, d = e + 1 := ⟨d - 1, by omega⟩
  refine yT_eq (Nat.le_of_ble_eq_true rfl) ?_
  show yW S d 25 (0, [.ref p, .int c, .int n], [], ((put h p (kC p (f, ss, bs, ts, ps, rs))), k0)) _
  refine y_go rfl rfl ?_
  refine y_S1 rfl rfl (Nat.le_of_ble_eq_true rfl) (Nat.le_of_ble_eq_true rfl) rfl rfl (s_isChamber (by omega) _ _) ?_
  refine y_if_ne rfl (fun c4 => ?_) (fun c4 => ?_)
  · replace c4 : ¬ (c < 0 ∨ 7 < c) := xi_d c4
    refine y_go rfl rfl ?_
    refine y_go rfl rfl ?_
    refine y_go rfl rfl ?_
    refine y_S1 rfl rfl (Nat.le_of_ble_eq_true rfl) (Nat.le_of_ble_eq_true rfl) rfl rfl (s_isOutside (by omega) _ _ _ _) ?_
    refine y_if_eq rfl (fun c16 => ?_) (fun c16 => ?_)
    · replace c16 : ¬ (n < 1 ∨ 60 < n) := xi_a c16
      refine y_go rfl rfl ?_
      refine y_getR (w := .ref (p + 1)) (j := 0) rfl hl rfl rfl rfl rfl ?_
      refine y_go rfl rfl ?_
      refine y_aldR (t := 1) (n := 1) (j := c.toNatClampNeg) (l := ss) rfl (Or.inr (Or.inl ⟨rfl, rfl⟩)) hl rfl rfl (xcv c4) (xgd (by have := xcb c4; first | omega | (simp only [List.length_set]; omega))) ?_
      refine y_go rfl rfl ?_
      refine y_ic_eq rfl (fun c30 => ?_) (fun c30 => ?_)
      · refine y_go rfl rfl ?_
        refine y_go rfl rfl ?_
        refine y_V1 rfl (Nat.le_of_ble_eq_true rfl) (Nat.le_of_ble_eq_true rfl) rfl rfl (xrcvR (n := 0) hl rfl rfl) (s_isCool (by omega) hl f ss bs ts ps rs _ _ (by have := xcb c4; first | omega | (simp only [List.length_set]; omega)) _ (xcv c4)) ?_
        refine y_if_ne rfl (fun c41 => ?_) (fun c41 => ?_)
        · replace c41 : ¬ (60 < gd ts c.toNatClampNeg) := xi_d c41
          refine y_go rfl rfl ?_
          refine y_getR (w := .ref (p + 1)) (j := 0) rfl hl rfl rfl rfl rfl ?_
          refine y_go rfl rfl ?_
          refine y_go rfl rfl ?_
          refine y_astR (t := 1) (n := 1) (j := c.toNatClampNeg) (y := 103) (cs' := (kC p (f, (ss.set c.toNatClampNeg 103), bs, ts, ps, rs))) rfl (Or.inr (Or.inl ⟨rfl, rfl⟩)) hl rfl rfl (xcv c4) (by have := xcb c4; first | omega | (simp only [List.length_set]; omega)) (by decide) rfl ?_
          refine y_go rfl rfl ?_
          refine y_getR (w := .ref (p + 2)) (j := 0) rfl hl rfl rfl rfl rfl ?_
          refine y_go rfl rfl ?_
          refine y_go rfl rfl ?_
          refine y_astR (t := 0) (n := 2) (j := c.toNatClampNeg) (y := n) (cs' := (kC p (f, (ss.set c.toNatClampNeg 103), (bs.set c.toNatClampNeg n), ts, ps, rs))) rfl (Or.inl ⟨rfl, rfl⟩) hl rfl rfl (xcv c4) (by have := xcb c4; first | omega | (simp only [List.length_set]; omega)) rfl rfl ?_
          refine y_go rfl rfl ?_
          refine y_go rfl rfl ?_
          refine y_getR (w := .int (f 11)) (j := 0) rfl hl rfl rfl rfl rfl ?_
          refine y_go rfl rfl ?_
          refine y_go rfl rfl ?_
          refine y_putR (j := 0) (cs' := (kC p ((up f 11 ((f 11) + n)), (ss.set c.toNatClampNeg 103), (bs.set c.toNatClampNeg n), ts, ps, rs))) rfl hl rfl rfl (Nat.le_of_ble_eq_true rfl) (xf_int rfl) rfl ?_
          refine y_go rfl rfl ?_
          refine y_go rfl rfl ?_
          refine y_V1 rfl (Nat.le_of_ble_eq_true rfl) (Nat.le_of_ble_eq_true rfl) rfl rfl (xrcvR (n := 0) hl rfl rfl) (s_countIn (by omega) hl (up f 11 ((f 11) + n)) (ss.set c.toNatClampNeg 103) (bs.set c.toNatClampNeg n) ts ps rs _ (by first | assumption | (simp only [List.length_set]; assumption)) _) ?_
          exact y_ireturn rfl rfl rfl (by simp only [fillX, if_neg c4, if_neg c16, if_pos c30, if_neg c41])
        · replace c41 : 60 < gd ts c.toNatClampNeg := xi_c c41
          refine y_go rfl rfl ?_
          exact y_ireturn rfl rfl rfl (by simp only [fillX, if_neg c4, if_neg c16, if_pos c30, if_pos c41])
      · refine y_go rfl rfl ?_
        exact y_ireturn rfl rfl rfl (by simp only [fillX, if_neg c4, if_neg c16, if_neg c30])
    · replace c16 : n < 1 ∨ 60 < n := xi_b c16
      refine y_go rfl rfl ?_
      exact y_ireturn rfl rfl rfl (by simp only [fillX, if_neg c4, if_pos c16])
  · replace c4 : c < 0 ∨ 7 < c := xi_c c4
    refine y_go rfl rfl ?_
    exact y_ireturn rfl rfl rfl (by simp only [fillX, if_pos c4])
def emptyX (f : Nat → Int32) (ss bs ts ps rs : List Int32) (c : Int32) : Int32 × kK := if c < 0 ∨ 7 < c then (-1, (f, ss, bs, ts, ps, rs)) else if gd ss c.toNatClampNeg = 102 then (if 60 < gd ts c.toNatClampNeg then (-4, (f, ss, bs, ts, ps, rs)) else (f 9 + gd bs c.toNatClampNeg, (up f 9 (f 9 + gd bs c.toNatClampNeg), ss.set c.toNatClampNeg 101, bs.set c.toNatClampNeg 0, ts, ps, rs))) else (-3, (f, ss, bs, ts, ps, rs))
theorem s_emptyChamber {S : List Int32} {d : Nat} (hd : 3 ≤ d) {h : xH} {p : Nat} (hl : p + 6 ≤ h.length) (f : Nat → Int32) (ss bs ts ps rs : List Int32) (k0 : Nat × Nat) (h1 : ss.length = 8) (h2 : bs.length = 8) (h3 : ts.length = 8) (h4 : ps.length = 3) (h5 : rs.length = 3) (c : Int32) : yT S d 26 [.ref p, .int c] ((put h p (kC p (f, ss, bs, ts, ps, rs))), k0) (· = (.inl (some (.int (emptyX f ss bs ts ps rs c).1)), (put h p (kC p (emptyX f ss bs ts ps rs c).2), k0))) := by
  obtain ⟨d, rfl⟩ : ∃ e, d = e + 1 := ⟨d - 1, by omega⟩
  refine yT_eq (Nat.le_of_ble_eq_true rfl) ?_
  show yW S d 26 (0, [.ref p, .int c], [], ((put h p (kC p (f, ss, bs, ts, ps, rs))), k0)) _
  refine y_go rfl rfl ?_
  refine y_S1 rfl rfl (Nat.le_of_ble_eq_true rfl) (Nat.le_of_ble_eq_true rfl) rfl rfl (s_isChamber (by omega) _ _) ?_
  refine y_if_ne rfl (fun c4 => ?_) (fun c4 => ?_)
  · replace c4 : ¬ (c < 0 ∨ 7 < c) := xi_d c4
    refine y_go rfl rfl ?_
    refine y_getR (w := .ref (p + 1)) (j := 0) rfl hl rfl rfl rfl rfl ?_
    refine y_go rfl rfl ?_
    refine y_aldR (t := 1) (n := 1) (j := c.toNatClampNeg) (l := ss) rfl (Or.inr (Or.inl ⟨rfl, rfl⟩)) hl rfl rfl (xcv c4) (xgd (by have := xcb c4; first | omega | (simp only [List.length_set]; omega))) ?_
    refine y_go rfl rfl ?_
    refine y_ic_eq rfl (fun c17 => ?_) (fun c17 => ?_)
    · refine y_go rfl rfl ?_
      refine y_go rfl rfl ?_
      refine y_V1 rfl (Nat.le_of_ble_eq_true rfl) (Nat.le_of_ble_eq_true rfl) rfl rfl (xrcvR (n := 0) hl rfl rfl) (s_isCool (by omega) hl f ss bs ts ps rs _ _ (by have := xcb c4; first | omega | (simp only [List.length_set]; omega)) _ (xcv c4)) ?_
      refine y_if_ne rfl (fun c28 => ?_) (fun c28 => ?_)
      · replace c28 : ¬ (60 < gd ts c.toNatClampNeg) := xi_d c28
        refine y_go rfl rfl ?_
        refine y_go rfl rfl ?_
        refine y_getR (w := .int (f 9)) (j := 0) rfl hl rfl rfl rfl rfl ?_
        refine y_go rfl rfl ?_
        refine y_getR (w := .ref (p + 2)) (j := 0) rfl hl rfl rfl rfl rfl ?_
        refine y_go rfl rfl ?_
        refine y_aldR (t := 0) (n := 2) (j := c.toNatClampNeg) (l := bs) rfl (Or.inl ⟨rfl, rfl⟩) hl rfl rfl (xcv c4) (xgd (by have := xcb c4; first | omega | (simp only [List.length_set]; omega))) ?_
        refine y_go rfl rfl ?_
        refine y_putR (j := 0) (cs' := (kC p ((up f 9 ((f 9) + (gd bs c.toNatClampNeg))), ss, bs, ts, ps, rs))) rfl hl rfl rfl (Nat.le_of_ble_eq_true rfl) (xf_int rfl) rfl ?_
        refine y_go rfl rfl ?_
        refine y_getR (w := .ref (p + 2)) (j := 0) rfl hl rfl rfl rfl rfl ?_
        refine y_go rfl rfl ?_
        refine y_go rfl rfl ?_
        refine y_astR (t := 0) (n := 2) (j := c.toNatClampNeg) (y := 0) (cs' := (kC p ((up f 9 ((f 9) + (gd bs c.toNatClampNeg))), ss, (bs.set c.toNatClampNeg 0), ts, ps, rs))) rfl (Or.inl ⟨rfl, rfl⟩) hl rfl rfl (xcv c4) (by have := xcb c4; first | omega | (simp only [List.length_set]; omega)) rfl rfl ?_
        refine y_go rfl rfl ?_
        refine y_getR (w := .ref (p + 1)) (j := 0) rfl hl rfl rfl rfl rfl ?_
        refine y_go rfl rfl ?_
        refine y_go rfl rfl ?_
        refine y_astR (t := 1) (n := 1) (j := c.toNatClampNeg) (y := 101) (cs' := (kC p ((up f 9 ((f 9) + (gd bs c.toNatClampNeg))), (ss.set c.toNatClampNeg 101), (bs.set c.toNatClampNeg 0), ts, ps, rs))) rfl (Or.inr (Or.inl ⟨rfl, rfl⟩)) hl rfl rfl (xcv c4) (by have := xcb c4; first | omega | (simp only [List.length_set]; omega)) (by decide) rfl ?_
        refine y_go rfl rfl ?_
        refine y_getR (w := .int ((f 9) + (gd bs c.toNatClampNeg))) (j := 0) rfl hl rfl rfl rfl rfl ?_
        exact y_ireturn rfl rfl rfl (by simp only [emptyX, if_neg c4, if_pos c17, if_neg c28])
      · replace c28 : 60 < gd ts c.toNatClampNeg := xi_c c28
        refine y_go rfl rfl ?_
        exact y_ireturn rfl rfl rfl (by simp only [emptyX, if_neg c4, if_pos c17, if_pos c28])
    · refine y_go rfl rfl ?_
      exact y_ireturn rfl rfl rfl (by simp only [emptyX, if_neg c4, if_neg c17])
  · replace c4 : c < 0 ∨ 7 < c := xi_c c4
    refine y_go rfl rfl ?_
    exact y_ireturn rfl rfl rfl (by simp only [emptyX, if_pos c4])
def lightX (f : Nat → Int32) (ss bs ts ps rs : List Int32) (c : Int32) : Int32 × kK := if c < 0 ∨ 7 < c then (-1, (f, ss, bs, ts, ps, rs)) else if f 1 = -1 then (if gd ss c.toNatClampNeg = 103 then (f 2, (up f 1 c, ss, bs, ts, ps, rs)) else (-4, (f, ss, bs, ts, ps, rs))) else (-3, (f, ss, bs, ts, ps, rs))
theorem s_lightFire {S : List Int32} {d : Nat} (hd : 3 ≤ d) {h : xH} {p : Nat} (hl : p + 6 ≤ h.length) (f : Nat → Int32) (ss bs ts ps rs : List Int32) (k0 : Nat × Nat) (h1 : ss.length = 8) (h2 : bs.length = 8) (h3 : ts.length = 8) (h4 : ps.length = 3) (h5 : rs.length = 3) (c : Int32) : yT S d 27 [.ref p, .int c] ((put h p (kC p (f, ss, bs, ts, ps, rs))), k0) (· = (.inl (some (.int (lightX f ss bs ts ps rs c).1)), (put h p (kC p (lightX f ss bs ts ps rs c).2), k0))) := by
  obtain ⟨d, rfl⟩ : ∃ e, d = e + 1 := ⟨d - 1, by omega⟩
  refine yT_eq (Nat.le_of_ble_eq_true rfl) ?_
  show yW S d 27 (0, [.ref p, .int c], [], ((put h p (kC p (f, ss, bs, ts, ps, rs))), k0)) _
  refine y_go rfl rfl ?_
  refine y_S1 rfl rfl (Nat.le_of_ble_eq_true rfl) (Nat.le_of_ble_eq_true rfl) rfl rfl (s_isChamber (by omega) _ _) ?_
  refine y_if_ne rfl (fun c4 => ?_) (fun c4 => ?_)
  · replace c4 : ¬ (c < 0 ∨ 7 < c) := xi_d c4
    refine y_go rfl rfl ?_
    refine y_V1 rfl (Nat.le_of_ble_eq_true rfl) (Nat.le_of_ble_eq_true rfl) rfl rfl (xrcvR (n := 0) hl rfl rfl) (s_fireIsLit (by omega) hl f ss bs ts ps rs _) ?_
    refine y_if_eq rfl (fun c13 => ?_) (fun c13 => ?_)
    · replace c13 : (f 1) = -1 := xi_c c13
      refine y_go rfl rfl ?_
      refine y_getR (w := .ref (p + 1)) (j := 0) rfl hl rfl rfl rfl rfl ?_
      refine y_go rfl rfl ?_
      refine y_aldR (t := 1) (n := 1) (j := c.toNatClampNeg) (l := ss) rfl (Or.inr (Or.inl ⟨rfl, rfl⟩)) hl rfl rfl (xcv c4) (xgd (by have := xcb c4; first | omega | (simp only [List.length_set]; omega))) ?_
      refine y_go rfl rfl ?_
      refine y_ic_eq rfl (fun c27 => ?_) (fun c27 => ?_)
      · refine y_go rfl rfl ?_
        refine y_go rfl rfl ?_
        refine y_putR (j := 0) (cs' := (kC p ((up f 1 c), ss, bs, ts, ps, rs))) rfl hl rfl rfl (Nat.le_of_ble_eq_true rfl) (xf_int rfl) rfl ?_
        refine y_go rfl rfl ?_
        refine y_getR (w := .int (f 2)) (j := 0) rfl hl rfl rfl rfl rfl ?_
        exact y_ireturn rfl rfl rfl (by simp only [lightX, if_neg c4, if_pos c13, if_pos c27])
      · refine y_go rfl rfl ?_
        exact y_ireturn rfl rfl rfl (by simp only [lightX, if_neg c4, if_pos c13, if_neg c27])
    · replace c13 : ¬ ((f 1) = -1) := xi_d c13
      refine y_go rfl rfl ?_
      exact y_ireturn rfl rfl rfl (by simp only [lightX, if_neg c4, if_neg c13])
  · replace c4 : c < 0 ∨ 7 < c := xi_c c4
    refine y_go rfl rfl ?_
    exact y_ireturn rfl rfl rfl (by simp only [lightX, if_pos c4])
def outX (f : Nat → Int32) (ss bs ts ps rs : List Int32) : Int32 × kK := if f 1 = -1 then (-3, (f, ss, bs, ts, ps, rs)) else (f 1, (up f 1 (-1), ss, bs, ts, ps, rs))
theorem s_putFireOut {S : List Int32} {d : Nat} (hd : 2 ≤ d) {h : xH} {p : Nat} (hl : p + 6 ≤ h.length) (f : Nat → Int32) (ss bs ts ps rs : List Int32) (k0 : Nat × Nat) (h1 : ss.length = 8) (h2 : bs.length = 8) (h3 : ts.length = 8) (h4 : ps.length = 3) (h5 : rs.length = 3) : yT S d 28 [.ref p] ((put h p (kC p (f, ss, bs, ts, ps, rs))), k0) (· = (.inl (some (.int (outX f ss bs ts ps rs ).1)), (put h p (kC p (outX f ss bs ts ps rs ).2), k0))) := by
  obtain ⟨d, rfl⟩ : ∃ e, d = e + 1 := ⟨d - 1, by omega⟩
  refine yT_eq (Nat.le_of_ble_eq_true rfl) ?_
  show yW S d 28 (0, [.ref p, xno], [], ((put h p (kC p (f, ss, bs, ts, ps, rs))), k0)) _
  refine y_go rfl rfl ?_
  refine y_V1 rfl (Nat.le_of_ble_eq_true rfl) (Nat.le_of_ble_eq_true rfl) rfl rfl (xrcvR (n := 0) hl rfl rfl) (s_fireIsLit (by omega) hl f ss bs ts ps rs _) ?_
  refine y_if_ne rfl (fun c4 => ?_) (fun c4 => ?_)
  · replace c4 : ¬ ((f 1) = -1) := xi_d c4
    refine y_go rfl rfl ?_
    refine y_getR (w := .int (f 1)) (j := 0) rfl hl rfl rfl rfl rfl ?_
    refine y_go (g' := (15, [.ref p, .int (f 1)], _, _)) rfl rfl ?_
    refine y_go rfl rfl ?_
    refine y_go rfl rfl ?_
    refine y_putR (j := 0) (cs' := (kC p ((up f 1 (-1)), ss, bs, ts, ps, rs))) rfl hl rfl rfl (Nat.le_of_ble_eq_true rfl) (xf_int rfl) rfl ?_
    refine y_go rfl rfl ?_
    exact y_ireturn rfl rfl rfl (by simp only [outX, if_neg c4])
  · replace c4 : (f 1) = -1 := xi_c c4
    refine y_go rfl rfl ?_
    exact y_ireturn rfl rfl rfl (by simp only [outX, if_pos c4])
def drghtX (f : Nat → Int32) (ss bs ts ps rs : List Int32) (v : Int32) : Int32 × kK := if v < 0 ∨ 5 < v then (-2, (f, ss, bs, ts, ps, rs)) else (f 3, (up f 3 v, ss, bs, ts, ps, rs))
theorem s_changeDraught {S : List Int32} {d : Nat} (hd : 2 ≤ d) {h : xH} {p : Nat} (hl : p + 6 ≤ h.length) (f : Nat → Int32) (ss bs ts ps rs : List Int32) (k0 : Nat × Nat) (h1 : ss.length = 8) (h2 : bs.length = 8) (h3 : ts.length = 8) (h4 : ps.length = 3) (h5 : rs.length = 3) (v : Int32) : yT S d 29 [.ref p, .int v] ((put h p (kC p (f, ss, bs, ts, ps, rs))), k0) (· = (.inl (some (.int (drghtX f ss bs ts ps rs v).1)), (put h p (kC p (drghtX f ss bs ts ps rs v).2), k0))) := by
  obtain ⟨d, rfl⟩ : ∃ e, d = e + 1 := ⟨d - 1, by omega⟩
  refine yT_eq (Nat.le_of_ble_eq_true rfl) ?_
  show yW S d 29 (0, [.ref p, .int v, xno], [], ((put h p (kC p (f, ss, bs, ts, ps, rs))), k0)) _
  refine y_go rfl rfl ?_
  refine y_go rfl rfl ?_
  refine y_go rfl rfl ?_
  refine y_S1 rfl rfl (Nat.le_of_ble_eq_true rfl) (Nat.le_of_ble_eq_true rfl) rfl rfl (s_isOutside (by omega) _ _ _ _) ?_
  refine y_if_eq rfl (fun c6 => ?_) (fun c6 => ?_)
  · replace c6 : ¬ (v < 0 ∨ 5 < v) := xi_a c6
    refine y_go rfl rfl ?_
    refine y_getR (w := .int (f 3)) (j := 0) rfl hl rfl rfl rfl rfl ?_
    refine y_go (g' := (17, [.ref p, .int v, .int (f 3)], _, _)) rfl rfl ?_
    refine y_go rfl rfl ?_
    refine y_go rfl rfl ?_
    refine y_putR (j := 0) (cs' := (kC p ((up f 3 v), ss, bs, ts, ps, rs))) rfl hl rfl rfl (Nat.le_of_ble_eq_true rfl) (xf_int rfl) rfl ?_
    refine y_go rfl rfl ?_
    exact y_ireturn rfl rfl rfl (by simp only [drghtX, if_neg c6])
  · replace c6 : v < 0 ∨ 5 < v := xi_b c6
    refine y_go rfl rfl ?_
    exact y_ireturn rfl rfl rfl (by simp only [drghtX, if_pos c6])
def addX (f : Nat → Int32) (ss bs ts ps rs : List Int32) (v n : Int32) : Int32 × kK := if xkind v < 0 then (-2, (f, ss, bs, ts, ps, rs)) else if n < 1 ∨ 50 < n then (-2, (f, ss, bs, ts, ps, rs)) else if 99 < gd ps (xkind v).toNatClampNeg + n then (-3, (f, ss, bs, ts, ps, rs)) else (gd (ps.set (xkind v).toNatClampNeg (gd ps (xkind v).toNatClampNeg + n)) (xkind v).toNatClampNeg, (f, ss, bs, ts, ps.set (xkind v).toNatClampNeg (gd ps (xkind v).toNatClampNeg + n), rs))
theorem s_addPieces {S : List Int32} {d : Nat} (hd : 2 ≤ d) {h : xH} {p : Nat} (hl : p + 6 ≤ h.length) (f : Nat → Int32) (ss bs ts ps rs : List Int32) (k0 : Nat × Nat) (h1 : ss.length = 8) (h2 : bs.length = 8) (h3 : ts.length = 8) (h4 : ps.length = 3) (h5 : rs.length = 3) (v n : Int32) : yT S d 30 [.ref p, .int v, .int n] ((put h p (kC p (f, ss, bs, ts, ps, rs))), k0) (· = (.inl (some (.int (addX f ss bs ts ps rs v n).1)), (put h p (kC p (addX f ss bs ts ps rs v n).2), k0))) := by
  obtain ⟨d, rfl⟩ : ∃ e, d = e + 1 := ⟨d - 1, by omega⟩
  refine yT_eq (Nat.le_of_ble_eq_true rfl) ?_
  show yW S d 30 (0, [.ref p, .int v, .int n, xno], [], ((put h p (kC p (f, ss, bs, ts, ps, rs))), k0)) _
  refine y_go rfl rfl ?_
  refine y_S1 rfl rfl (Nat.le_of_ble_eq_true rfl) (Nat.le_of_ble_eq_true rfl) rfl rfl (s_kindIndex (by omega) _ _) ?_
  refine y_go (g' := (5, [.ref p, .int v, .int n, .int (xkind v)], _, _)) rfl rfl ?_
  refine y_go rfl rfl ?_
  refine y_if_lt rfl (fun c6 => ?_) (fun c6 => ?_)
  · refine y_go rfl rfl ?_
    exact y_ireturn rfl rfl rfl (by simp only [addX, if_pos c6])
  · refine y_go rfl rfl ?_
    refine y_go rfl rfl ?_
    refine y_go rfl rfl ?_
    refine y_S1 rfl rfl (Nat.le_of_ble_eq_true rfl) (Nat.le_of_ble_eq_true rfl) rfl rfl (s_isOutside (by omega) _ _ _ _) ?_
    refine y_if_eq rfl (fun c16 => ?_) (fun c16 => ?_)
    · replace c16 : ¬ (n < 1 ∨ 50 < n) := xi_a c16
      refine y_go rfl rfl ?_
      refine y_getR (w := .ref (p + 4)) (j := 0) rfl hl rfl rfl rfl rfl ?_
      refine y_go rfl rfl ?_
      refine y_aldR (t := 0) (n := 4) (j := ((xkind v).toNatClampNeg)) (l := ps) rfl (Or.inl ⟨rfl, rfl⟩) hl rfl rfl (xkv c6) (xgd (by have := xkb c6; first | omega | (simp only [List.length_set]; omega))) ?_
      refine y_go rfl rfl ?_
      refine y_go rfl rfl ?_
      refine y_go rfl rfl ?_
      refine y_ic_le rfl (fun c32 => ?_) (fun c32 => ?_)
      · refine y_go rfl rfl ?_
        refine y_getR (w := .ref (p + 4)) (j := 0) rfl hl rfl rfl rfl rfl ?_
        refine y_go rfl rfl ?_
        refine y_go rfl rfl ?_
        refine y_aldR (t := 0) (n := 4) (j := ((xkind v).toNatClampNeg)) (l := ps) rfl (Or.inl ⟨rfl, rfl⟩) hl rfl rfl (xkv c6) (xgd (by have := xkb c6; first | omega | (simp only [List.length_set]; omega))) ?_
        refine y_go rfl rfl ?_
        refine y_go rfl rfl ?_
        refine y_astR (t := 0) (n := 4) (j := ((xkind v).toNatClampNeg)) (y := ((gd ps ((xkind v).toNatClampNeg)) + n)) (cs' := (kC p (f, ss, bs, ts, (ps.set ((xkind v).toNatClampNeg) ((gd ps ((xkind v).toNatClampNeg)) + n)), rs))) rfl (Or.inl ⟨rfl, rfl⟩) hl rfl rfl (xkv c6) (by have := xkb c6; first | omega | (simp only [List.length_set]; omega)) rfl rfl ?_
        refine y_go rfl rfl ?_
        refine y_getR (w := .ref (p + 4)) (j := 0) rfl hl rfl rfl rfl rfl ?_
        refine y_go rfl rfl ?_
        refine y_aldR (t := 0) (n := 4) (j := ((xkind v).toNatClampNeg)) (l := (ps.set ((xkind v).toNatClampNeg) ((gd ps ((xkind v).toNatClampNeg)) + n))) rfl (Or.inl ⟨rfl, rfl⟩) hl rfl rfl (xkv c6) (xgd (by have := xkb c6; first | omega | (simp only [List.length_set]; omega))) ?_
        exact y_ireturn rfl rfl rfl (by simp only [addX, if_neg c6, if_neg c16, if_neg c32])
      · refine y_go rfl rfl ?_
        exact y_ireturn rfl rfl rfl (by simp only [addX, if_neg c6, if_neg c16, if_pos c32])
    · replace c16 : n < 1 ∨ 50 < n := xi_b c16
      refine y_go rfl rfl ?_
      exact y_ireturn rfl rfl rfl (by simp only [addX, if_neg c6, if_pos c16])
def priceX (f : Nat → Int32) (ss bs ts ps rs : List Int32) (v n : Int32) : Int32 × kK := if xkind v < 0 then (-2, (f, ss, bs, ts, ps, rs)) else if n < 1 ∨ 20 < n then (-2, (f, ss, bs, ts, ps, rs)) else (gd rs (xkind v).toNatClampNeg, (f, ss, bs, ts, ps, rs.set (xkind v).toNatClampNeg n))
theorem s_changePrice {S : List Int32} {d : Nat} (hd : 2 ≤ d) {h : xH} {p : Nat} (hl : p + 6 ≤ h.length) (f : Nat → Int32) (ss bs ts ps rs : List Int32) (k0 : Nat × Nat) (h1 : ss.length = 8) (h2 : bs.length = 8) (h3 : ts.length = 8) (h4 : ps.length = 3) (h5 : rs.length = 3) (v n : Int32) : yT S d 31 [.ref p, .int v, .int n] ((put h p (kC p (f, ss, bs, ts, ps, rs))), k0) (· = (.inl (some (.int (priceX f ss bs ts ps rs v n).1)), (put h p (kC p (priceX f ss bs ts ps rs v n).2), k0))) := by
  obtain ⟨d, rfl⟩ : ∃ e, d = e + 1 := ⟨d - 1, by omega⟩
  refine yT_eq (Nat.le_of_ble_eq_true rfl) ?_
  show yW S d 31 (0, [.ref p, .int v, .int n, xno, xno], [], ((put h p (kC p (f, ss, bs, ts, ps, rs))), k0)) _
  refine y_go rfl rfl ?_
  refine y_S1 rfl rfl (Nat.le_of_ble_eq_true rfl) (Nat.le_of_ble_eq_true rfl) rfl rfl (s_kindIndex (by omega) _ _) ?_
  refine y_go (g' := (5, [.ref p, .int v, .int n, .int (xkind v), xno], _, _)) rfl rfl ?_
  refine y_go rfl rfl ?_
  refine y_if_lt rfl (fun c6 => ?_) (fun c6 => ?_)
  · refine y_go rfl rfl ?_
    exact y_ireturn rfl rfl rfl (by simp only [priceX, if_pos c6])
  · refine y_go rfl rfl ?_
    refine y_go rfl rfl ?_
    refine y_go rfl rfl ?_
    refine y_S1 rfl rfl (Nat.le_of_ble_eq_true rfl) (Nat.le_of_ble_eq_true rfl) rfl rfl (s_isOutside (by omega) _ _ _ _) ?_
    refine y_if_eq rfl (fun c16 => ?_) (fun c16 => ?_)
    · replace c16 : ¬ (n < 1 ∨ 20 < n) := xi_a c16
      refine y_go rfl rfl ?_
      refine y_getR (w := .ref (p + 5)) (j := 0) rfl hl rfl rfl rfl rfl ?_
      refine y_go rfl rfl ?_
      refine y_aldR (t := 0) (n := 5) (j := ((xkind v).toNatClampNeg)) (l := rs) rfl (Or.inl ⟨rfl, rfl⟩) hl rfl rfl (xkv c6) (xgd (by have := xkb c6; first | omega | (simp only [List.length_set]; omega))) ?_
      refine y_go (g' := (30, [.ref p, .int v, .int n, .int (xkind v), .int (gd rs ((xkind v).toNatClampNeg))], _, _)) rfl rfl ?_
      refine y_go rfl rfl ?_
      refine y_getR (w := .ref (p + 5)) (j := 0) rfl hl rfl rfl rfl rfl ?_
      refine y_go rfl rfl ?_
      refine y_go rfl rfl ?_
      refine y_astR (t := 0) (n := 5) (j := ((xkind v).toNatClampNeg)) (y := n) (cs' := (kC p (f, ss, bs, ts, ps, (rs.set ((xkind v).toNatClampNeg) n)))) rfl (Or.inl ⟨rfl, rfl⟩) hl rfl rfl (xkv c6) (by have := xkb c6; first | omega | (simp only [List.length_set]; omega)) rfl rfl ?_
      refine y_go rfl rfl ?_
      exact y_ireturn rfl rfl rfl (by simp only [priceX, if_neg c6, if_neg c16])
    · replace c16 : n < 1 ∨ 20 < n := xi_b c16
      refine y_go rfl rfl ?_
      exact y_ireturn rfl rfl rfl (by simp only [priceX, if_neg c6, if_pos c16])
