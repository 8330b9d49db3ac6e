/-! COURSES: they are made. -/
def lj (r : Nat) : Int32 := if r = 0 then 0 else 1 <<< (nI r &&& 31)
/-- courses of the width w made of those of the width r and a brick -/
def addS (r w : Nat) (x : Int32) : Nat → Nat → (Nat → List Int32) → List Int32 → (Nat → List Int32) × List Int32
  | 0, _, J, ct => (J, ct)
  | n + 1, i, J, ct => if nI i < gd ct r then (if gd ct w < 65 then addS r w x n (i + 1) (up J w ((J w).set (gd ct w).toNatClampNeg (gd (J r) i ||| x))) (ct.set w (gd ct w + 1)) else (J, ct)) else (J, ct)
def gP (J : Nat → List Int32) (ct : List Int32) : Prop := ct.length = 19 ∧ ∀ x, x < 19 → (J x).length = 65 ∧ ∃ c : Nat, gd ct x = nI c ∧ c ≤ 65
theorem gP_step {J : Nat → List Int32} {ct : List Int32} (h : gP J ct) {w : Nat} (hw : w < 19) {cw : Nat} (hc : cw < 65) (row : List Int32) (hr : row.length = 65) : gP (up J w row) (ct.set w (nI cw + 1)) := by
  refine ⟨by rw [List.length_set]; exact h.1, fun x hx => ?_⟩
  obtain ⟨h1, c, h2, h3⟩ := h.2 x hx
  have hl := h.1
  rw [gd_set (by omega)]
  by_cases e : w = x
  · subst e
    rw [if_pos rfl, show up J w row w = row from if_pos rfl]
    exact ⟨hr, cw + 1, nI_1 _, by omega⟩
  · rw [if_neg e, show up J w row x = J x from if_neg (fun q => e q.symm)]
    exact ⟨h1, c, h2, h3⟩
theorem l_addC {S : List Int32} {d : Nat} {h : xH} {p : Nat} (hl : p + 35 ≤ h.length) (k0 : Nat × Nat) (b0 : Int32) (r w : Nat) (hr : r < 19) (hw : w < 19) (hrw : r ≠ w) (x : Int32) : ∀ (n i : Nat), i + n = 65 → ∀ (J : Nat → List Int32) (ct : List Int32) (G : Nat → xC), gP J ct → cg p J ct G → yW S d 1 (25, [.ref p, .int b0, .int (nI w), .int (nI r), .int x, .int (nI i)], [], (put h p (rg 35 G), k0)) (fun rr => ∃ z : Nat → xC, cg p (addS r w x n i J ct).1 (addS r w x n i J ct).2 z ∧ rr = (.inl none, (put h p (rg 35 z), k0))) := by
  intro n
  induction n with
  | zero =>
    intro i hi J ct G hP hG
    obtain ⟨cr, ecr, hcr⟩ := (hP.2 r hr).2
    obtain ⟨cw, ecw, hcw⟩ := (hP.2 w hw).2
    have lct := hP.1
    have lJw := (hP.2 w hw).1
    have lJr := (hP.2 r hr).1
    obtain ⟨X, U, a1, a2, b1, b2, Y, V, M, ha, hb, g0, g1, gJ, gct, gX, gY, lX, lY, gU, gV, lU, lV, g26, gM⟩ := id hG
    refine y_go rfl rfl ?_
    refine y_go rfl rfl ?_
    refine y_getG (w := .ref (p + 21)) (j := 0) rfl hl (by omega) (by first | rfl | omega) g0 rfl rfl ?_
    refine y_go rfl rfl ?_
    refine y_aldG (t := 0) (z := r) (j := 21) (l := ct) rfl (Or.inl ⟨rfl, rfl⟩) hl (by omega) (by first | rfl | omega) gct (xidx_nI (by omega)) (xgd (by first | omega | (simp only [List.length_set]; omega))) ?_
    rw [ecr]
    refine y_ic_ge rfl (fun _ => ?_) (fun c => absurd c (nI_nlt (a := i) (b := cr) (by omega) (by omega)))
    exact y_end rfl rfl ⟨G, hG, rfl⟩
  | succ n ih =>
    intro i hi J ct G hP hG
    obtain ⟨cr, ecr, hcr⟩ := (hP.2 r hr).2
    obtain ⟨cw, ecw, hcw⟩ := (hP.2 w hw).2
    have lct := hP.1
    have lJw := (hP.2 w hw).1
    have lJr := (hP.2 r hr).1
    obtain ⟨X, U, a1, a2, b1, b2, Y, V, M, ha, hb, g0, g1, gJ, gct, gX, gY, lX, lY, gU, gV, lU, lV, g26, gM⟩ := id hG
    refine y_go rfl rfl ?_
    refine y_go rfl rfl ?_
    refine y_getG (w := .ref (p + 21)) (j := 0) rfl hl (by omega) (by first | rfl | omega) g0 rfl rfl ?_
    refine y_go rfl rfl ?_
    refine y_aldG (t := 0) (z := r) (j := 21) (l := ct) rfl (Or.inl ⟨rfl, rfl⟩) hl (by omega) (by first | rfl | omega) gct (xidx_nI (by omega)) (xgd (by first | omega | (simp only [List.length_set]; omega))) ?_
    rw [ecr]
    by_cases q1 : i < cr
    · refine y_ic_ge rfl (fun c => absurd (nI_lt q1 (by omega)) c) (fun _ => ?_)
      refine y_go rfl rfl ?_
      refine y_getG (w := .ref (p + 21)) (j := 0) rfl hl (by omega) (by first | rfl | omega) g0 rfl rfl ?_
      refine y_go rfl rfl ?_
      refine y_aldG (t := 0) (z := w) (j := 21) (l := ct) rfl (Or.inl ⟨rfl, rfl⟩) hl (by omega) (by first | rfl | omega) gct (xidx_nI (by omega)) (xgd (by first | omega | (simp only [List.length_set]; omega))) ?_
      rw [ecw]
      refine y_go rfl rfl ?_
      by_cases q2 : cw < 65
      · refine y_ic_ge rfl (fun c => absurd (nI_lt (a := cw) (b := 65) q2 (by decide)) c) (fun _ => ?_)
        refine y_go rfl rfl ?_
        refine y_getG (w := .ref (p + 1)) (j := 0) rfl hl (by omega) (by first | rfl | omega) g0 rfl rfl ?_
        refine y_go rfl rfl ?_
        refine y_aaldG (z := w) (j := 1) rfl hl (by omega) (by first | rfl | omega) g1 (xidx_nI (by omega)) (rows_at (by first | omega | (simp only [List.length_set]; omega))) ?_
        refine y_go rfl rfl ?_
        refine y_getG (w := .ref (p + 21)) (j := 0) rfl hl (by omega) (by first | rfl | omega) g0 rfl rfl ?_
        refine y_go rfl rfl ?_
        refine y_aldG (t := 0) (z := w) (j := 21) (l := ct) rfl (Or.inl ⟨rfl, rfl⟩) hl (by omega) (by first | rfl | omega) gct (xidx_nI (by omega)) (xgd (by first | omega | (simp only [List.length_set]; omega))) ?_
        rw [ecw]
        refine y_go rfl rfl ?_
        refine y_getG (w := .ref (p + 1)) (j := 0) rfl hl (by omega) (by first | rfl | omega) g0 rfl rfl ?_
        refine y_go rfl rfl ?_
        refine y_aaldG (z := r) (j := 1) rfl hl (by omega) (by first | rfl | omega) g1 (xidx_nI (by omega)) (rows_at (by first | omega | (simp only [List.length_set]; omega))) ?_
        refine y_go rfl rfl ?_
        refine y_aldG (t := 0) (z := i) (j := (2 + r)) (l := (J r)) rfl (Or.inl ⟨rfl, rfl⟩) hl (by omega) (by first | rfl | omega) (gJ r hr) (xidx_nI (by omega)) (xgd (by first | omega | (simp only [List.length_set]; omega))) ?_
        refine y_go rfl rfl ?_
        refine y_go rfl rfl ?_
        refine y_astG (t := 0) (z := cw) (j := (2 + w)) (l := (J w)) (y := ((gd (J r) i) ||| x)) rfl (Or.inl ⟨rfl, rfl⟩) hl (by omega) (by first | rfl | omega) (gJ w hw) (xidx_nI (by omega)) (by first | omega | (simp only [List.length_set]; omega)) rfl ?_
        refine y_go rfl rfl ?_
        refine y_getG (w := .ref (p + 21)) (j := 0) rfl hl (by omega) (by first | rfl | omega) (up_ne (by omega) g0) rfl rfl ?_
        refine y_go rfl rfl ?_
        refine y_go rfl rfl ?_
        refine y_aldG (t := 0) (z := w) (j := 21) (l := ct) rfl (Or.inl ⟨rfl, rfl⟩) hl (by omega) (by first | rfl | omega) (up_ne (by omega) gct) (xidx_nI (by omega)) (xgd (by first | omega | (simp only [List.length_set]; omega))) ?_
        rw [ecw]
        refine y_go rfl rfl ?_
        refine y_go rfl rfl ?_
        refine y_astG (t := 0) (z := w) (j := 21) (l := ct) (y := ((nI cw) + 1)) rfl (Or.inl ⟨rfl, rfl⟩) hl (by omega) (by first | rfl | omega) (up_ne (by omega) gct) (xidx_nI (by omega)) (by first | omega | (simp only [List.length_set]; omega)) rfl ?_
        refine y_go (g' := (85, [.ref p, .int b0, .int (nI w), .int (nI r), .int x, .int (nI (i + 1))], _, _)) rfl (by rw [← nI_1 i]; rfl) ?_
        refine y_go rfl rfl ?_
        have e9 : addS r w x (n + 1) i J ct = addS r w x n (i + 1) (up J w ((J w).set cw (gd (J r) i ||| x))) (ct.set w (nI cw + 1)) := by simp only [addS]; rw [ecr, if_pos (nI_lt q1 (by omega)), ecw, if_pos (show nI cw < (65 : Int32) from nI_lt (a := cw) (b := 65) q2 (by decide)), nI_back (by omega)]
        rw [e9]
        refine ih (i + 1) (by omega) _ _ _ (gP_step hP hw q2 _ (by rw [List.length_set]; exact lJw)) ⟨X, U, a1, a2, b1, b2, Y, V, M, ha, hb, up_ne (by omega) (up_ne (by omega) g0), up_ne (by omega) (up_ne (by omega) g1), fun y hy => ?_, up_eq, up_ne (by omega) (up_ne (by omega) gX), up_ne (by omega) (up_ne (by omega) gY), lX, lY, up_ne (by omega) (up_ne (by omega) gU), up_ne (by omega) (up_ne (by omega) gV), lU, lV, up_ne (by omega) (up_ne (by omega) g26), fun y hy => ⟨up_ne (by omega) (up_ne (by omega) (gM y hy).1), (gM y hy).2⟩⟩
        refine up_ne (by omega) ?_
        by_cases e : y = w
        · subst e; exact up_eq.trans (by rw [show up J y ((J y).set cw (gd (J r) i ||| x)) y = (J y).set cw (gd (J r) i ||| x) from if_pos rfl])
        · rw [show up J w ((J w).set cw (gd (J r) i ||| x)) y = J y from if_neg e]; exact up_ne (by omega) (gJ y hy)
      · refine y_ic_ge rfl (fun _ => ?_) (fun c => absurd c (nI_nlt (a := cw) (b := 65) (by omega) (by omega)))
        exact y_end rfl rfl ⟨G, by simp only [addS]; rw [ecr, if_pos (nI_lt q1 (by omega)), ecw, if_neg (show ¬ nI cw < (65 : Int32) from nI_nlt (a := cw) (b := 65) (by omega) (by omega))]; exact hG, rfl⟩
    · refine y_ic_ge rfl (fun _ => ?_) (fun c => absurd c (nI_nlt (a := i) (b := cr) (by omega) (by omega)))
      exact y_end rfl rfl ⟨G, by simp only [addS]; rw [ecr, if_neg (nI_nlt (a := i) (b := cr) (by omega) (by omega))]; exact hG, rfl⟩
theorem s_addC {S : List Int32} {d : Nat} (hd : 1 ≤ d) {h : xH} {p : Nat} (hl : p + 35 ≤ h.length) (k0 : Nat × Nat) (b w : Nat) (hb : 1 ≤ b) (hbw : b ≤ w) (hw : w < 19) (J : Nat → List Int32) (ct : List Int32) (G : Nat → xC) (hP : gP J ct) (hG : cg p J ct G) : yT S d 1 [.ref p, .int (nI b), .int (nI w)] (put h p (rg 35 G), k0) (fun rr => ∃ z : Nat → xC, cg p (addS (w - b) w (lj (w - b)) 65 0 J ct).1 (addS (w - b) w (lj (w - b)) 65 0 J ct).2 z ∧ rr = (.inl none, (put h p (rg 35 z), k0))) := by
  obtain ⟨d, rfl⟩ : ∃ e, d = e + 1 := ⟨d - 1, by omega⟩
  refine yT_e (Nat.le_of_ble_eq_true rfl) ?_
  show yW S d 1 (0, [.ref p, .int (nI b), .int (nI w), xno, xno, xno], [], (put h p (rg 35 G), k0)) _
  refine y_go rfl rfl ?_
  refine y_go rfl rfl ?_
  refine y_go rfl rfl ?_
  rw [nI_sub hbw]
  refine y_go (g' := (4, [.ref p, .int (nI b), .int (nI w), .int (nI (w - b)), xno, xno], _, _)) rfl rfl ?_
  refine y_go rfl rfl ?_
  refine y_if_ge rfl (fun _ => ?_) (fun c => absurd c (nI_pos (by omega)))
  refine y_go rfl rfl ?_
  by_cases q0 : w - b = 0
  · refine y_if_ne rfl (fun c => absurd ((by rw [q0]; rfl)) c) (fun _ => ?_)
    refine y_go rfl rfl ?_
    refine y_go rfl rfl ?_
    have ez : (0 : Int32) = lj (w - b) := (if_pos q0).symm
    refine y_go (g' := (22, [.ref p, .int (nI b), .int (nI w), .int (nI (w - b)), .int 0, xno], _, _)) rfl rfl ?_
    refine y_go rfl rfl ?_
    refine y_go (g' := (25, [.ref p, .int (nI b), .int (nI w), .int (nI (w - b)), .int 0, .int 0], _, _)) rfl rfl ?_
    rw [← ez]
    exact l_addC hl k0 _ (w - b) w (by omega) hw (by omega) _ 65 0 rfl J ct G hP hG
  · refine y_if_ne rfl (fun _ => ?_) (fun c => absurd c (nI_ne0 (by omega) (by omega)))
    refine y_go rfl rfl ?_
    refine y_go rfl rfl ?_
    refine y_go rfl rfl ?_
    rw [show (1 <<< (nI (w - b) &&& 31) : Int32) = lj (w - b) from (if_neg q0).symm]
    refine y_go (g' := (22, [.ref p, .int (nI b), .int (nI w), .int (nI (w - b)), .int (lj (w - b)), xno], _, _)) rfl rfl ?_
    refine y_go rfl rfl ?_
    refine y_go (g' := (25, [.ref p, .int (nI b), .int (nI w), .int (nI (w - b)), .int (lj (w - b)), .int 0], _, _)) rfl rfl ?_
    exact l_addC hl k0 _ (w - b) w (by omega) hw (by omega) _ 65 0 rfl J ct G hP hG
theorem s_addC0 {S : List Int32} {d : Nat} (hd : 1 ≤ d) (p : Nat) (s : xS) : yT S d 1 [.ref p, .int (nI 3), .int (nI 2)] s (· = (.inl none, s)) := by
  obtain ⟨d, rfl⟩ : ∃ e, d = e + 1 := ⟨d - 1, by omega⟩
  refine yT_eq (Nat.le_of_ble_eq_true rfl) ?_
  show yW S d 1 (0, [.ref p, .int (nI 3), .int (nI 2), xno, xno, xno], [], s) _
  refine y_go rfl rfl ?_
  refine y_go rfl rfl ?_
  refine y_go rfl rfl ?_
  refine y_go (g' := (4, [.ref p, .int (nI 3), .int (nI 2), .int ((nI 2) - (nI 3)), xno, xno], _, _)) rfl rfl ?_
  refine y_go rfl rfl ?_
  refine y_if_ge rfl (fun c => absurd ((by decide)) c) (fun _ => ?_)
  exact y_end rfl rfl rfl
