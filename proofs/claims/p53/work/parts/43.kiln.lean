/-! THE KILN: reads. -/
def xaf (v : Int32) : Int32 := if v = 7 then 0 else v + 1
theorem s_chamberAfter {S : List Int32} {d : Nat} (hd : 1 ≤ d) (v : Int32) (s : xS) : yT S d 41 [.int v] s (· = (.inl (some (.int (xaf v))), s)) := by
  obtain ⟨d, rfl⟩ : ∃ e, d = e + 1 := ⟨d - 1, by omega⟩
  refine yT_eq (Nat.le_of_ble_eq_true rfl) ?_
  show yW S d 41 (0, [.int v], [], s) _
  refine y_go rfl rfl ?_
  refine y_go rfl rfl ?_
  refine y_ic_ne rfl (fun c3 => ?_) (fun c3 => ?_)
  · refine y_go rfl rfl ?_
    refine y_go rfl rfl ?_
    refine y_go rfl rfl ?_
    exact y_ireturn rfl rfl rfl (by simp [xaf, c3])
  · refine y_go rfl rfl ?_
    refine y_go rfl rfl ?_
    exact y_ireturn rfl rfl rfl (by simp [xaf, c3])
theorem s_fireIsLit {S : List Int32} {d : Nat} (hd : 1 ≤ d) {h : xH} {p : Nat} (hl : p + 6 ≤ h.length) (f : Nat → Int32) (ss bs ts ps rs : List Int32) (k0 : Nat × Nat) : yT S d 16 [.ref p] ((put h p (kC p (f, ss, bs, ts, ps, rs))), k0) (· = (.inl (some (.int (if f 1 = -1 then 0 else 1))), (put h p (kC p (f, ss, bs, ts, ps, rs)), k0))) := by
  obtain ⟨d, rfl⟩ : ∃ e, d = e + 1 := ⟨d - 1, by omega⟩
  refine yT_eq (Nat.le_of_ble_eq_true rfl) ?_
  show yW S d 16 (0, [.ref p], [], ((put h p (kC p (f, ss, bs, ts, ps, rs))), k0)) _
  refine y_go rfl rfl ?_
  refine y_getR (w := .int (f 1)) (j := 0) rfl hl rfl rfl rfl rfl ?_
  refine y_go rfl rfl ?_
  refine y_ic_eq rfl (fun c5 => ?_) (fun c5 => ?_)
  · refine y_go rfl rfl ?_
    exact y_ireturn rfl rfl rfl (by simp [c5])
  · refine y_go rfl rfl ?_
    refine y_go rfl rfl ?_
    exact y_ireturn rfl rfl rfl (by simp [c5])
theorem s_isCool {S : List Int32} {d : Nat} (hd : 1 ≤ d) {h : xH} {p : Nat} (hl : p + 6 ≤ h.length) (f : Nat → Int32) (ss bs ts ps rs : List Int32) (k0 : Nat × Nat) (j : Nat) (hj : j < ts.length) (v : Int32) (hv : xidx v j) : yT S d 17 [.ref p, .int v] ((put h p (kC p (f, ss, bs, ts, ps, rs))), k0) (· = (.inl (some (.int (if 60 < gd ts j then 0 else 1))), (put h p (kC p (f, ss, bs, ts, ps, rs)), k0))) := by
  obtain ⟨d, rfl⟩ : ∃ e, d = e + 1 := ⟨d - 1, by omega⟩
  refine yT_eq (Nat.le_of_ble_eq_true rfl) ?_
  show yW S d 17 (0, [.ref p, .int v], [], ((put h p (kC p (f, ss, bs, ts, ps, rs))), k0)) _
  refine y_go rfl rfl ?_
  refine y_getR (w := .ref (p + 3)) (j := 0) rfl hl rfl rfl rfl rfl ?_
  refine y_go rfl rfl ?_
  refine y_aldR (t := 0) (n := 3) (j := j) (l := ts) rfl (Or.inl ⟨rfl, rfl⟩) hl rfl rfl hv (xgd hj) ?_
  refine y_go rfl rfl ?_
  refine y_ic_gt rfl (fun c8 => ?_) (fun c8 => ?_)
  · refine y_go rfl rfl ?_
    exact y_ireturn rfl rfl rfl (by simp [c8])
  · refine y_go rfl rfl ?_
    refine y_go rfl rfl ?_
    exact y_ireturn rfl rfl rfl (by simp [c8])
/-- how many of the first i are w -/
def cntTo (l : List Int32) (w : Int32) : Nat → Int32
  | 0 => 0
  | i + 1 => if gd l i = w then cntTo l w i + 1 else cntTo l w i
theorem l_countIn {S : List Int32} {d : Nat} {h : xH} {p : Nat} (hl : p + 6 ≤ h.length) (f : Nat → Int32) (ss bs ts ps rs : List Int32) (k0 : Nat × Nat) (h1 : ss.length = 8) (w : Int32) {Q : xR → Prop} (k : ∀ (x6 : Value) (x2 : Int32), x2 = cntTo ss w 8 → yW S d 18 (42, [.ref p, .int w, .int x2, .ref (p + 1), .int (nI 8), .int (nI 8), x6], [], ((put h p (kC p (f, ss, bs, ts, ps, rs))), k0)) Q) : ∀ (n i : Nat), i + n = 8 → ∀ (x6 : Value) (x2 : Int32), x2 = cntTo ss w i → yW S d 18 (14, [.ref p, .int w, .int x2, .ref (p + 1), .int (nI 8), .int (nI i), x6], [], ((put h p (kC p (f, ss, bs, ts, ps, rs))), k0)) Q := by
  intro n
  induction n with
  | zero =>
    intro i hi x6 x2 e_x2
    obtain rfl : i = 8 := by omega
    refine y_go rfl rfl ?_
    refine y_go rfl rfl ?_
    refine y_ic_ge rfl (fun _ => ?_) (fun c => absurd c (nI_nlt (a := 8) (b := 8) (Nat.le_refl _) (by first | decide | omega)))
    exact k _ _ e_x2
  | succ n ih =>
    intro i hi x6 x2 e_x2
    have hlt : i < 8 := by omega
    refine y_go rfl rfl ?_
    refine y_go rfl rfl ?_
    refine y_ic_ge rfl (fun c => absurd (nI_lt (a := i) (b := 8) hlt (by first | decide | omega)) c) (fun _ => ?_)
    refine y_go rfl rfl ?_
    refine y_go rfl rfl ?_
    refine y_aldR (t := 1) (n := 1) (j := i) (l := ss) rfl (Or.inr (Or.inl ⟨rfl, rfl⟩)) hl rfl rfl (xidx_nI (by omega)) (xgd (by first | omega | (simp only [List.length_set]; omega))) ?_
    refine y_go (g' := (27, [.ref p, .int w, .int x2, .ref (p + 1), .int (nI 8), .int (nI i), .int (gd ss i)], _, _)) rfl rfl ?_
    refine y_go rfl rfl ?_
    refine y_go rfl rfl ?_
    refine y_ic_ne rfl (fun c30 => ?_) (fun c30 => ?_)
    · refine y_go (g' := (39, [.ref p, .int w, .int x2, .ref (p + 1), .int (nI 8), .int (nI (i + 1)), .int (gd ss i)], _, _)) rfl (by rw [← nI_1 i]; rfl) ?_
      refine y_go rfl rfl ?_
      exact ih (i + 1) (by omega) _ _ (by simp [cntTo, e_x2, c30])
    · refine y_go (g' := (36, [.ref p, .int w, .int (x2 + 1), .ref (p + 1), .int (nI 8), .int (nI i), .int (gd ss i)], _, _)) rfl rfl ?_
      refine y_go (g' := (39, [.ref p, .int w, .int (x2 + 1), .ref (p + 1), .int (nI 8), .int (nI (i + 1)), .int (gd ss i)], _, _)) rfl (by rw [← nI_1 i]; rfl) ?_
      refine y_go rfl rfl ?_
      exact ih (i + 1) (by omega) _ _ (by simp [cntTo, e_x2, c30])
theorem s_countIn {S : List Int32} {d : Nat} (hd : 1 ≤ d) {h : xH} {p : Nat} (hl : p + 6 ≤ h.length) (f : Nat → Int32) (ss bs ts ps rs : List Int32) (k0 : Nat × Nat) (h1 : ss.length = 8) (w : Int32) : yT S d 18 [.ref p, .int w] ((put h p (kC p (f, ss, bs, ts, ps, rs))), k0) (· = (.inl (some (.int (cntTo ss w 8))), (put h p (kC p (f, ss, bs, ts, ps, rs)), k0))) := by
  obtain ⟨d, rfl⟩ : ∃ e, d = e + 1 := ⟨d - 1, by omega⟩
  refine yT_eq (Nat.le_of_ble_eq_true rfl) ?_
  show yW S d 18 (0, [.ref p, .int w, xno, xno, xno, xno, xno], [], ((put h p (kC p (f, ss, bs, ts, ps, rs))), k0)) _
  refine y_go rfl rfl ?_
  refine y_go (g' := (2, [.ref p, .int w, .int 0, xno, xno, xno, xno], _, _)) rfl rfl ?_
  refine y_go rfl rfl ?_
  refine y_getR (w := .ref (p + 1)) (j := 0) rfl hl rfl rfl rfl rfl ?_
  refine y_go (g' := (7, [.ref p, .int w, .int 0, .ref (p + 1), xno, xno, xno], _, _)) rfl rfl ?_
  refine y_go rfl rfl ?_
  refine y_alenR (n := 1) (k := 8) rfl hl rfl rfl (by show some _ = some _; rw [h1]) ?_
  refine y_go (g' := (11, [.ref p, .int w, .int 0, .ref (p + 1), .int (nI 8), xno, xno], _, _)) rfl rfl ?_
  refine y_go rfl rfl ?_
  refine y_go (g' := (14, [.ref p, .int w, .int 0, .ref (p + 1), .int (nI 8), .int 0, xno], _, _)) rfl rfl ?_
  refine l_countIn hl f ss bs ts ps rs k0 h1 w (fun x6 x2 e2 => ?_) 8 0 (by omega) _ _ rfl
  refine y_go rfl rfl ?_
  exact y_ireturn rfl rfl rfl (by rw [e2])
/-- the sum of the first i, from x -/
def sumTo (x : Int32) (l : List Int32) : Nat → Int32
  | 0 => x
  | i + 1 => sumTo x l i + gd l i
theorem l_bricksInSight {S : List Int32} {d : Nat} {h : xH} {p : Nat} (hl : p + 6 ≤ h.length) (f : Nat → Int32) (ss bs ts ps rs : List Int32) (k0 : Nat × Nat) (h2 : bs.length = 8) {Q : xR → Prop} (k : ∀ (x5 : Value) (x1 : Int32), x1 = sumTo (f 9) bs 8 → yW S d 19 (39, [.ref p, .int x1, .ref (p + 2), .int (nI 8), .int (nI 8), x5], [], ((put h p (kC p (f, ss, bs, ts, ps, rs))), k0)) Q) : ∀ (n i : Nat), i + n = 8 → ∀ (x5 : Value) (x1 : Int32), x1 = sumTo (f 9) bs i → yW S d 19 (16, [.ref p, .int x1, .ref (p + 2), .int (nI 8), .int (nI i), x5], [], ((put h p (kC p (f, ss, bs, ts, ps, rs))), k0)) Q := by
  intro n
  induction n with
  | zero =>
    intro i hi x5 x1 e_x1
    obtain rfl : i = 8 := by omega
    refine y_go rfl rfl ?_
    refine y_go rfl rfl ?_
    refine y_ic_ge rfl (fun _ => ?_) (fun c => absurd c (nI_nlt (a := 8) (b := 8) (Nat.le_refl _) (by first | decide | omega)))
    exact k _ _ e_x1
  | succ n ih =>
    intro i hi x5 x1 e_x1
    have hlt : i < 8 := by omega
    refine y_go rfl rfl ?_
    refine y_go rfl rfl ?_
    refine y_ic_ge rfl (fun c => absurd (nI_lt (a := i) (b := 8) hlt (by first | decide | omega)) c) (fun _ => ?_)
    refine y_go rfl rfl ?_
    refine y_go rfl rfl ?_
    refine y_aldR (t := 0) (n := 2) (j := i) (l := bs) rfl (Or.inl ⟨rfl, rfl⟩) hl rfl rfl (xidx_nI (by omega)) (xgd (by first | omega | (simp only [List.length_set]; omega))) ?_
    refine y_go (g' := (28, [.ref p, .int x1, .ref (p + 2), .int (nI 8), .int (nI i), .int (gd bs i)], _, _)) rfl rfl ?_
    refine y_go rfl rfl ?_
    refine y_go rfl rfl ?_
    refine y_go rfl rfl ?_
    refine y_go (g' := (33, [.ref p, .int (x1 + (gd bs i)), .ref (p + 2), .int (nI 8), .int (nI i), .int (gd bs i)], _, _)) rfl rfl ?_
    refine y_go (g' := (36, [.ref p, .int (x1 + (gd bs i)), .ref (p + 2), .int (nI 8), .int (nI (i + 1)), .int (gd bs i)], _, _)) rfl (by rw [← nI_1 i]; rfl) ?_
    refine y_go rfl rfl ?_
    exact ih (i + 1) (by omega) _ _ (by simp [sumTo, e_x1])
theorem s_bricksInSight {S : List Int32} {d : Nat} (hd : 1 ≤ d) {h : xH} {p : Nat} (hl : p + 6 ≤ h.length) (f : Nat → Int32) (ss bs ts ps rs : List Int32) (k0 : Nat × Nat) (h2 : bs.length = 8) : yT S d 19 [.ref p] ((put h p (kC p (f, ss, bs, ts, ps, rs))), k0) (· = (.inl (some (.int (sumTo (f 9) bs 8))), (put h p (kC p (f, ss, bs, ts, ps, rs)), k0))) := by
  obtain ⟨d, rfl⟩ : ∃ e, d = e + 1 := ⟨d - 1, by omega⟩
  refine yT_eq (Nat.le_of_ble_eq_true rfl) ?_
  show yW S d 19 (0, [.ref p, xno, xno, xno, xno, xno], [], ((put h p (kC p (f, ss, bs, ts, ps, rs))), k0)) _
  refine y_go rfl rfl ?_
  refine y_getR (w := .int (f 9)) (j := 0) rfl hl rfl rfl rfl rfl ?_
  refine y_go (g' := (5, [.ref p, .int (f 9), xno, xno, xno, xno], _, _)) rfl rfl ?_
  refine y_go rfl rfl ?_
  refine y_getR (w := .ref (p + 2)) (j := 0) rfl hl rfl rfl rfl rfl ?_
  refine y_go (g' := (10, [.ref p, .int (f 9), .ref (p + 2), xno, xno, xno], _, _)) rfl rfl ?_
  refine y_go rfl rfl ?_
  refine y_alenR (n := 2) (k := 8) rfl hl rfl rfl (by show some _ = some _; rw [h2]) ?_
  refine y_go (g' := (13, [.ref p, .int (f 9), .ref (p + 2), .int (nI 8), xno, xno], _, _)) rfl rfl ?_
  refine y_go rfl rfl ?_
  refine y_go (g' := (16, [.ref p, .int (f 9), .ref (p + 2), .int (nI 8), .int 0, xno], _, _)) rfl rfl ?_
  refine l_bricksInSight hl f ss bs ts ps rs k0 h2 (fun x5 x1 e1 => ?_) 8 0 (by omega) _ _ rfl
  refine y_go rfl rfl ?_
  exact y_ireturn rfl rfl rfl (by rw [e1])
theorem l_sumOfTemperatures {S : List Int32} {d : Nat} {h : xH} {p : Nat} (hl : p + 6 ≤ h.length) (f : Nat → Int32) (ss bs ts ps rs : List Int32) (k0 : Nat × Nat) (h3 : ts.length = 8) {Q : xR → Prop} (k : ∀ (x5 : Value) (x1 : Int32), x1 = sumTo 0 ts 8 → yW S d 20 (36, [.ref p, .int x1, .ref (p + 3), .int (nI 8), .int (nI 8), x5], [], ((put h p (kC p (f, ss, bs, ts, ps, rs))), k0)) Q) : ∀ (n i : Nat), i + n = 8 → ∀ (x5 : Value) (x1 : Int32), x1 = sumTo 0 ts i → yW S d 20 (13, [.ref p, .int x1, .ref (p + 3), .int (nI 8), .int (nI i), x5], [], ((put h p (kC p (f, ss, bs, ts, ps, rs))), k0)) Q := by
  intro n
  induction n with
  | zero =>
    intro i hi x5 x1 e_x1
    obtain rfl : i = 8 := by omega
    refine y_go rfl rfl ?_
    refine y_go rfl rfl ?_
    refine y_ic_ge rfl (fun _ => ?_) (fun c => absurd c (nI_nlt (a := 8) (b := 8) (Nat.le_refl _) (by first | decide | omega)))
    exact k _ _ e_x1
  | succ n ih =>
    intro i hi x5 x1 e_x1
    have hlt : i < 8 := by omega
    refine y_go rfl rfl ?_
    refine y_go rfl rfl ?_
    refine y_ic_ge rfl (fun c => absurd (nI_lt (a := i) (b := 8) hlt (by first | decide | omega)) c) (fun _ => ?_)
    refine y_go rfl rfl ?_
    refine y_go rfl rfl ?_
    refine y_aldR (t := 0) (n := 3) (j := i) (l := ts) rfl (Or.inl ⟨rfl, rfl⟩) hl rfl rfl (xidx_nI (by omega)) (xgd (by first | omega | (simp only [List.length_set]; omega))) ?_
    refine y_go (g' := (25, [.ref p, .int x1, .ref (p + 3), .int (nI 8), .int (nI i), .int (gd ts i)], _, _)) rfl rfl ?_
    refine y_go rfl rfl ?_
    refine y_go rfl rfl ?_
    refine y_go rfl rfl ?_
    refine y_go (g' := (30, [.ref p, .int (x1 + (gd ts i)), .ref (p + 3), .int (nI 8), .int (nI i), .int (gd ts i)], _, _)) rfl rfl ?_
    refine y_go (g' := (33, [.ref p, .int (x1 + (gd ts i)), .ref (p + 3), .int (nI 8), .int (nI (i + 1)), .int (gd ts i)], _, _)) rfl (by rw [← nI_1 i]; rfl) ?_
    refine y_go rfl rfl ?_
    exact ih (i + 1) (by omega) _ _ (by simp [sumTo, e_x1])
theorem s_sumOfTemperatures {S : List Int32} {d : Nat} (hd : 1 ≤ d) {h : xH} {p : Nat} (hl : p + 6 ≤ h.length) (f : Nat → Int32) (ss bs ts ps rs : List Int32) (k0 : Nat × Nat) (h3 : ts.length = 8) : yT S d 20 [.ref p] ((put h p (kC p (f, ss, bs, ts, ps, rs))), k0) (· = (.inl (some (.int (sumTo 0 ts 8))), (put h p (kC p (f, ss, bs, ts, ps, rs)), k0))) := by
  obtain ⟨d, rfl⟩ : ∃ e, d = e + 1 := ⟨d - 1, by omega⟩
  refine yT_eq (Nat.le_of_ble_eq_true rfl) ?_
  show yW S d 20 (0, [.ref p, xno, xno, xno, xno, xno], [], ((put h p (kC p (f, ss, bs, ts, ps, rs))), k0)) _
  refine y_go rfl rfl ?_
  refine y_go (g' := (2, [.ref p, .int 0, xno, xno, xno, xno], _, _)) rfl rfl ?_
  refine y_go rfl rfl ?_
  refine y_getR (w := .ref (p + 3)) (j := 0) rfl hl rfl rfl rfl rfl ?_
  refine y_go (g' := (7, [.ref p, .int 0, .ref (p + 3), xno, xno, xno], _, _)) rfl rfl ?_
  refine y_go rfl rfl ?_
  refine y_alenR (n := 3) (k := 8) rfl hl rfl rfl (by show some _ = some _; rw [h3]) ?_
  refine y_go (g' := (10, [.ref p, .int 0, .ref (p + 3), .int (nI 8), xno, xno], _, _)) rfl rfl ?_
  refine y_go rfl rfl ?_
  refine y_go (g' := (13, [.ref p, .int 0, .ref (p + 3), .int (nI 8), .int 0, xno], _, _)) rfl rfl ?_
  refine l_sumOfTemperatures hl f ss bs ts ps rs k0 h3 (fun x5 x1 e1 => ?_) 8 0 (by omega) _ _ rfl
  refine y_go rfl rfl ?_
  exact y_ireturn rfl rfl rfl (by rw [e1])
/-- the chamber i comes before the chamber j -/
def bfr (ts bs : List Int32) (i j : Nat) : Bool := if gd ts i = gd ts j then (if gd bs i = gd bs j then decide (i < j) else decide (gd bs j < gd bs i)) else decide (gd ts j < gd ts i)
theorem s_comesBefore {S : List Int32} {d : Nat} (hd : 1 ≤ d) {h : xH} {p : Nat} (hl : p + 6 ≤ h.length) (f : Nat → Int32) (ss bs ts ps rs : List Int32) (k0 : Nat × Nat) (h2 : bs.length = 8) (h3 : ts.length = 8) (i j : Nat) (hi : i < 8) (hj : j < 8) : yT S d 23 [.ref p, .int (nI i), .int (nI j)] ((put h p (kC p (f, ss, bs, ts, ps, rs))), k0) (· = (.inl (some (.int (if bfr ts bs i j = true then 1 else 0))), (put h p (kC p (f, ss, bs, ts, ps, rs)), k0))) := by
  obtain ⟨d, rfl⟩ : ∃ e, d = e + 1 := ⟨d - 1, by omega⟩
  refine yT_eq (Nat.le_of_ble_eq_true rfl) ?_
  show yW S d 23 (0, [.ref p, .int (nI i), .int (nI j)], [], ((put h p (kC p (f, ss, bs, ts, ps, rs))), k0)) _
  refine y_go rfl rfl ?_
  refine y_getR (w := .ref (p + 3)) (j := 0) rfl hl rfl rfl rfl rfl ?_
  refine y_go rfl rfl ?_
  refine y_aldR (t := 0) (n := 3) (j := i) (l := ts) rfl (Or.inl ⟨rfl, rfl⟩) hl rfl rfl (xidx_nI (by omega)) (xgd (by first | omega | (simp only [List.length_set]; omega))) ?_
  refine y_go rfl rfl ?_
  refine y_getR (w := .ref (p + 3)) (j := 0) rfl hl rfl rfl rfl rfl ?_
  refine y_go rfl rfl ?_
  refine y_aldR (t := 0) (n := 3) (j := j) (l := ts) rfl (Or.inl ⟨rfl, rfl⟩) hl rfl rfl (xidx_nI (by omega)) (xgd (by first | omega | (simp only [List.length_set]; omega))) ?_
  refine y_ic_eq rfl (fun c12 => ?_) (fun c12 => ?_)
  · refine y_go rfl rfl ?_
    refine y_getR (w := .ref (p + 2)) (j := 0) rfl hl rfl rfl rfl rfl ?_
    refine y_go rfl rfl ?_
    refine y_aldR (t := 0) (n := 2) (j := i) (l := bs) rfl (Or.inl ⟨rfl, rfl⟩) hl rfl rfl (xidx_nI (by omega)) (xgd (by first | omega | (simp only [List.length_set]; omega))) ?_
    refine y_go rfl rfl ?_
    refine y_getR (w := .ref (p + 2)) (j := 0) rfl hl rfl rfl rfl rfl ?_
    refine y_go rfl rfl ?_
    refine y_aldR (t := 0) (n := 2) (j := j) (l := bs) rfl (Or.inl ⟨rfl, rfl⟩) hl rfl rfl (xidx_nI (by omega)) (xgd (by first | omega | (simp only [List.length_set]; omega))) ?_
    refine y_ic_eq rfl (fun c48 => ?_) (fun c48 => ?_)
    · refine y_go rfl rfl ?_
      refine y_go rfl rfl ?_
      refine y_ic_ge rfl (fun c74 => ?_) (fun c74 => ?_)
      · refine y_go rfl rfl ?_
        exact y_ireturn rfl rfl rfl (by have q := nI_ltI (a := i) (b := j) (by omega) (by omega); rw [q] at c74; simp [bfr, c12, c48, c74])
      · refine y_go rfl rfl ?_
        refine y_go rfl rfl ?_
        exact y_ireturn rfl rfl rfl (by have q := nI_ltI (a := i) (b := j) (by omega) (by omega); rw [q] at c74; simp [bfr, c12, c48, c74])
    · refine y_go rfl rfl ?_
      refine y_getR (w := .ref (p + 2)) (j := 0) rfl hl rfl rfl rfl rfl ?_
      refine y_go rfl rfl ?_
      refine y_aldR (t := 0) (n := 2) (j := i) (l := bs) rfl (Or.inl ⟨rfl, rfl⟩) hl rfl rfl (xidx_nI (by omega)) (xgd (by first | omega | (simp only [List.length_set]; omega))) ?_
      refine y_go rfl rfl ?_
      refine y_getR (w := .ref (p + 2)) (j := 0) rfl hl rfl rfl rfl rfl ?_
      refine y_go rfl rfl ?_
      refine y_aldR (t := 0) (n := 2) (j := j) (l := bs) rfl (Or.inl ⟨rfl, rfl⟩) hl rfl rfl (xidx_nI (by omega)) (xgd (by first | omega | (simp only [List.length_set]; omega))) ?_
      refine y_ic_le rfl (fun c63 => ?_) (fun c63 => ?_)
      · refine y_go rfl rfl ?_
        exact y_ireturn rfl rfl rfl (by simp [bfr, c12, c48, c63])
      · refine y_go rfl rfl ?_
        refine y_go rfl rfl ?_
        exact y_ireturn rfl rfl rfl (by simp [bfr, c12, c48, c63])
  · refine y_go rfl rfl ?_
    refine y_getR (w := .ref (p + 3)) (j := 0) rfl hl rfl rfl rfl rfl ?_
    refine y_go rfl rfl ?_
    refine y_aldR (t := 0) (n := 3) (j := i) (l := ts) rfl (Or.inl ⟨rfl, rfl⟩) hl rfl rfl (xidx_nI (by omega)) (xgd (by first | omega | (simp only [List.length_set]; omega))) ?_
    refine y_go rfl rfl ?_
    refine y_getR (w := .ref (p + 3)) (j := 0) rfl hl rfl rfl rfl rfl ?_
    refine y_go rfl rfl ?_
    refine y_aldR (t := 0) (n := 3) (j := j) (l := ts) rfl (Or.inl ⟨rfl, rfl⟩) hl rfl rfl (xidx_nI (by omega)) (xgd (by first | omega | (simp only [List.length_set]; omega))) ?_
    refine y_ic_le rfl (fun c27 => ?_) (fun c27 => ?_)
    · refine y_go rfl rfl ?_
      exact y_ireturn rfl rfl rfl (by simp [bfr, c12, c27])
    · refine y_go rfl rfl ?_
      refine y_go rfl rfl ?_
      exact y_ireturn rfl rfl rfl (by simp [bfr, c12, c27])
/-- how many of the first i come before j -/
def rnkTo (ts bs : List Int32) (j : Nat) : Nat → Int32
  | 0 => 0
  | i + 1 => if bfr ts bs i j = true then rnkTo ts bs j i + 1 else rnkTo ts bs j i
theorem l_rankOf {S : List Int32} {d : Nat} (hd : 1 ≤ d) {h : xH} {p : Nat} (hl : p + 6 ≤ h.length) (f : Nat → Int32) (ss bs ts ps rs : List Int32) (k0 : Nat × Nat) (h2 : bs.length = 8) (h3 : ts.length = 8) (j : Nat) (hj : j < 8) {Q : xR → Prop} (k : ∀ (x2 : Int32), x2 = rnkTo ts bs j 8 → yW S d 22 (28, [.ref p, .int (nI j), .int x2, .int (nI 8)], [], ((put h p (kC p (f, ss, bs, ts, ps, rs))), k0)) Q) : ∀ (n i : Nat), i + n = 8 → ∀ (x2 : Int32), x2 = rnkTo ts bs j i → yW S d 22 (4, [.ref p, .int (nI j), .int x2, .int (nI i)], [], ((put h p (kC p (f, ss, bs, ts, ps, rs))), k0)) Q := by
  intro n
  induction n with
  | zero =>
    intro i hi x2 e_x2
    obtain rfl : i = 8 := by omega
    refine y_go rfl rfl ?_
    refine y_go rfl rfl ?_
    refine y_ic_ge rfl (fun _ => ?_) (fun c => absurd c (nI_nlt (a := 8) (b := 8) (Nat.le_refl _) (by first | decide | omega)))
    exact k _ e_x2
  | succ n ih =>
    intro i hi x2 e_x2
    have hlt : i < 8 := by omega
    refine y_go rfl rfl ?_
    refine y_go rfl rfl ?_
    refine y_ic_ge rfl (fun c => absurd (nI_lt (a := i) (b := 8) hlt (by first | decide | omega)) c) (fun _ => ?_)
    refine y_go rfl rfl ?_
    refine y_go rfl rfl ?_
    refine y_go rfl rfl ?_
    refine y_V1 rfl (Nat.le_of_ble_eq_true rfl) (Nat.le_of_ble_eq_true rfl) rfl rfl (xrcvR (n := 0) hl rfl rfl) (s_comesBefore (by omega) hl f ss bs ts ps rs _ h2 h3 i j (by omega) (by omega)) ?_
    refine y_if_eq rfl (fun c16 => ?_) (fun c16 => ?_)
    · replace c16 : ¬ (bfr ts bs i j = true) := xi_a c16
      refine y_go (g' := (25, [.ref p, .int (nI j), .int x2, .int (nI (i + 1))], _, _)) rfl (by rw [← nI_1 i]; rfl) ?_
      refine y_go rfl rfl ?_
      exact ih (i + 1) (by omega) _ (by simp [rnkTo, e_x2, c16])
    · replace c16 : bfr ts bs i j = true := xi_b c16
      refine y_go (g' := (22, [.ref p, .int (nI j), .int (x2 + 1), .int (nI i)], _, _)) rfl rfl ?_
      refine y_go (g' := (25, [.ref p, .int (nI j), .int (x2 + 1), .int (nI (i + 1))], _, _)) rfl (by rw [← nI_1 i]; rfl) ?_
      refine y_go rfl rfl ?_
      exact ih (i + 1) (by omega) _ (by simp [rnkTo, e_x2, c16])
theorem s_rankOf {S : List Int32} {d : Nat} (hd : 2 ≤ d) {h : xH} {p : Nat} (hl : p + 6 ≤ h.length) (f : Nat → Int32) (ss bs ts ps rs : List Int32) (k0 : Nat × Nat) (h2 : bs.length = 8) (h3 : ts.length = 8) (j : Nat) (hj : j < 8) : yT S d 22 [.ref p, .int (nI j)] ((put h p (kC p (f, ss, bs, ts, ps, rs))), k0) (· = (.inl (some (.int (rnkTo ts bs j 8))), (put h p (kC p (f, ss, bs, ts, ps, rs)), k0))) := by
  obtain ⟨d, rfl⟩ : ∃ e, d = e + 1 := ⟨d - 1, by omega⟩
  refine yT_eq (Nat.le_of_ble_eq_true rfl) ?_
  show yW S d 22 (0, [.ref p, .int (nI j), xno, xno], [], ((put h p (kC p (f, ss, bs, ts, ps, rs))), k0)) _
  refine y_go rfl rfl ?_
  refine y_go (g' := (2, [.ref p, .int (nI j), .int 0, xno], _, _)) rfl rfl ?_
  refine y_go rfl rfl ?_
  refine y_go (g' := (4, [.ref p, .int (nI j), .int 0, .int 0], _, _)) rfl rfl ?_
  refine l_rankOf (by omega) hl f ss bs ts ps rs k0 h2 h3 j hj (fun x2 e2 => ?_) 8 0 (by omega) _ rfl
  refine y_go rfl rfl ?_
  exact y_ireturn rfl rfl rfl (by rw [e2])
/-- the first chamber from i on (n of them are left) of the rank r -/
def crk (ts bs : List Int32) (r : Int32) : Nat → Nat → Int32
  | 0, _ => -5
  | n + 1, i => if rnkTo ts bs i 8 = r then nI i else crk ts bs r n (i + 1)
theorem l_chamberRanked {S : List Int32} {d : Nat} (hd : 2 ≤ d) {h : xH} {p : Nat} (hl : p + 6 ≤ h.length) (f : Nat → Int32) (ss bs ts ps rs : List Int32) (k0 : Nat × Nat) (h2 : bs.length = 8) (h3 : ts.length = 8) (r : Int32) : ∀ (n i : Nat), i + n = 8 → yW S d 21 (2, [.ref p, .int r, .int (nI i)], [], ((put h p (kC p (f, ss, bs, ts, ps, rs))), k0)) (· = (.inl (some (.int (crk ts bs r n i))), (put h p (kC p (f, ss, bs, ts, ps, rs)), k0))) := by
  intro n
  induction n with
  | zero =>
    intro i hi
    obtain rfl : i = 8 := by omega
    refine y_go rfl rfl ?_
    refine y_go rfl rfl ?_
    refine y_ic_ge rfl (fun _ => ?_) (fun c => absurd c (nI_nlt (a := 8) (b := 8) (Nat.le_refl _) (by first | decide | omega)))
    refine y_go rfl rfl ?_
    exact y_ireturn rfl rfl rfl rfl
  | succ n ih =>
    intro i hi
    have hlt : i < 8 := by omega
    refine y_go rfl rfl ?_
    refine y_go rfl rfl ?_
    refine y_ic_ge rfl (fun c => absurd (nI_lt (a := i) (b := 8) hlt (by first | decide | omega)) c) (fun _ => ?_)
    refine y_go rfl rfl ?_
    refine y_go rfl rfl ?_
    refine y_V1 rfl (Nat.le_of_ble_eq_true rfl) (Nat.le_of_ble_eq_true rfl) rfl rfl (xrcvR (n := 0) hl rfl rfl) (s_rankOf (by omega) hl f ss bs ts ps rs _ h2 h3 i (by omega)) ?_
    refine y_go rfl rfl ?_
    refine y_ic_ne rfl (fun c14 => ?_) (fun c14 => ?_)
    · refine y_go (g' := (22, [.ref p, .int r, .int (nI (i + 1))], _, _)) rfl (by rw [← nI_1 i]; rfl) ?_
      refine y_go rfl rfl ?_
      have e : crk ts bs r (n + 1) i = crk ts bs r n (i + 1) := by simp [crk, c14]
      rw [e]
      exact ih (i + 1) (by omega)
    · refine y_go rfl rfl ?_
      exact y_ireturn rfl rfl rfl (by simp [crk, c14])
theorem s_chamberRanked {S : List Int32} {d : Nat} (hd : 3 ≤ d) {h : xH} {p : Nat} (hl : p + 6 ≤ h.length) (f : Nat → Int32) (ss bs ts ps rs : List Int32) (k0 : Nat × Nat) (h2 : bs.length = 8) (h3 : ts.length = 8) (r : Int32) : yT S d 21 [.ref p, .int r] ((put h p (kC p (f, ss, bs, ts, ps, rs))), k0) (· = (.inl (some (.int (crk ts bs r 8 0))), (put h p (kC p (f, ss, bs, ts, ps, rs)), k0))) := by
  obtain ⟨d, rfl⟩ : ∃ e, d = e + 1 := ⟨d - 1, by omega⟩
  refine yT_eq (Nat.le_of_ble_eq_true rfl) ?_
  show yW S d 21 (0, [.ref p, .int r, xno], [], ((put h p (kC p (f, ss, bs, ts, ps, rs))), k0)) _
  refine y_go rfl rfl ?_
  refine y_go (g' := (2, [.ref p, .int r, .int 0], _, _)) rfl rfl ?_
  exact l_chamberRanked (by omega) hl f ss bs ts ps rs k0 h2 h3 r 8 0 (by omega)
