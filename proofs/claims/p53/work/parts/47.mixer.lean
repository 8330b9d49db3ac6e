/-! THE MIXER: its object, its table, the best mixture, from p on. -/
def mC (p : Nat) (lo be : List Int32) (c t fo : Int32) : List xC := [.inl (7, [.ref (p + 1), .ref (p + 2), .int c, .int t, .int fo]), .inr (.inl (0, lo)), .inr (.inl (0, be))]
theorem xct_heats : xct 1000090 = some (0, [.int 3, .int 8, .int 12]) := by decide +kernel
theorem s_piecesFor {S : List Int32} {d : Nat} (hd : 1 ≤ d) (u w : Int32) (h0 : (w == 0) = false) (s : xS) : yT S d 46 [.int u, .int w] s (· = (.inl (some (.int ((u + w - 1) / w))), s)) := by
  obtain ⟨d, rfl⟩ : ∃ e, d = e + 1 := ⟨d - 1, by omega⟩
  refine yT_eq (Nat.le_of_ble_eq_true rfl) ?_
  show yW S d 46 (0, [.int u, .int w], [], s) _
  refine y_go rfl rfl ?_
  refine y_go rfl rfl ?_
  refine y_go rfl rfl ?_
  refine y_go rfl rfl ?_
  refine y_go rfl rfl ?_
  refine y_go rfl rfl ?_
  refine y_div rfl (h0) (Or.inl ⟨rfl, rfl⟩) ?_
  exact y_ireturn rfl rfl rfl rfl
/-- a mixture is better than the best so far -/
def btr (x y z c t : Int32) (cost heat wood coal : Int32) : Bool := if cost = c then (if heat = t then (if wood = x then decide (y < coal) else decide (x < wood)) else decide (heat < t)) else decide (cost < c)
theorem s_isBetter {S : List Int32} {d : Nat} (hd : 1 ≤ d) {h : xH} {p : Nat} (hl : p + 3 ≤ h.length) (hB : h.length ≤ 1000000) (k0 : Nat × Nat) (lo : List Int32) (x y z c t fo cost heat wood coal : Int32) : yT S d 48 [.ref p, .int cost, .int heat, .int wood, .int coal] ((put h p (mC p lo [x, y, z] c t fo)), k0) (· = (.inl (some (.int (if btr x y z c t cost heat wood coal = true then 1 else 0))), (put h p (mC p lo [x, y, z] c t fo), k0))) := by
  obtain ⟨d, rfl⟩ : ∃ e, d = e + 1 := ⟨d - 1, by omega⟩
  refine yT_eq (Nat.le_of_ble_eq_true rfl) ?_
  show yW S d 48 (0, [.ref p, .int cost, .int heat, .int wood, .int coal], [], ((put h p (mC p lo [x, y, z] c t fo)), k0)) _
  refine y_go rfl rfl ?_
  refine y_go rfl rfl ?_
  refine y_getR (w := .int c) (j := 0) rfl hl rfl rfl rfl rfl ?_
  refine y_ic_eq rfl (fun c5 => ?_) (fun c5 => ?_)
  · refine y_go rfl rfl ?_
    refine y_go rfl rfl ?_
    refine y_getR (w := .int t) (j := 0) rfl hl rfl rfl rfl rfl ?_
    refine y_ic_eq rfl (fun c27 => ?_) (fun c27 => ?_)
    · refine y_go rfl rfl ?_
      refine y_go rfl rfl ?_
      refine y_getR (w := .ref (p + 2)) (j := 0) rfl hl rfl rfl rfl rfl ?_
      refine y_go rfl rfl ?_
      refine y_aldR (t := 0) (n := 2) (j := 0) (l := [x, y, z]) rfl (Or.inl ⟨rfl, rfl⟩) hl rfl rfl (by decide) rfl ?_
      refine y_ic_eq rfl (fun c51 => ?_) (fun c51 => ?_)
      · refine y_go rfl rfl ?_
        refine y_go rfl rfl ?_
        refine y_getR (w := .ref (p + 2)) (j := 0) rfl hl rfl rfl rfl rfl ?_
        refine y_go rfl rfl ?_
        refine y_aldR (t := 0) (n := 2) (j := 1) (l := [x, y, z]) rfl (Or.inl ⟨rfl, rfl⟩) hl rfl rfl (by decide) rfl ?_
        refine y_ic_le rfl (fun c78 => ?_) (fun c78 => ?_)
        · refine y_go rfl rfl ?_
          exact y_ireturn rfl rfl rfl (by simp [btr, c5, c27, c51, c78])
        · refine y_go rfl rfl ?_
          refine y_go rfl rfl ?_
          exact y_ireturn rfl rfl rfl (by simp [btr, c5, c27, c51, c78])
      · refine y_go rfl rfl ?_
        refine y_go rfl rfl ?_
        refine y_getR (w := .ref (p + 2)) (j := 0) rfl hl rfl rfl rfl rfl ?_
        refine y_go rfl rfl ?_
        refine y_aldR (t := 0) (n := 2) (j := 0) (l := [x, y, z]) rfl (Or.inl ⟨rfl, rfl⟩) hl rfl rfl (by decide) rfl ?_
        refine y_ic_le rfl (fun c61 => ?_) (fun c61 => ?_)
        · refine y_go rfl rfl ?_
          exact y_ireturn rfl rfl rfl (by simp [btr, c5, c27, c51, c61])
        · refine y_go rfl rfl ?_
          refine y_go rfl rfl ?_
          exact y_ireturn rfl rfl rfl (by simp [btr, c5, c27, c51, c61])
    · refine y_go rfl rfl ?_
      refine y_go rfl rfl ?_
      refine y_getR (w := .int t) (j := 0) rfl hl rfl rfl rfl rfl ?_
      refine y_ic_ge rfl (fun c35 => ?_) (fun c35 => ?_)
      · refine y_go rfl rfl ?_
        exact y_ireturn rfl rfl rfl (by simp [btr, c5, c27, c35])
      · refine y_go rfl rfl ?_
        refine y_go rfl rfl ?_
        exact y_ireturn rfl rfl rfl (by simp [btr, c5, c27, c35])
  · refine y_go rfl rfl ?_
    refine y_go rfl rfl ?_
    refine y_getR (w := .int c) (j := 0) rfl hl rfl rfl rfl rfl ?_
    refine y_ic_ge rfl (fun c13 => ?_) (fun c13 => ?_)
    · refine y_go rfl rfl ?_
      exact y_ireturn rfl rfl rfl (by simp [btr, c5, c13])
    · refine y_go rfl rfl ?_
      refine y_go rfl rfl ?_
      exact y_ireturn rfl rfl rfl (by simp [btr, c5, c13])
/-- cost and heat of a mixture -/
abbrev mcost (a b e w c o : Nat) : Nat := w * a + c * b + o * e
abbrev mheat (w c o : Nat) : Nat := w * 3 + c * 8 + o * 12
theorem s_considerN {S : List Int32} {d : Nat} (hd : 2 ≤ d) {h : xH} {p : Nat} (hl : p + 3 ≤ h.length) (hB : h.length ≤ 1000000) (k0 : Nat × Nat) (lo : List Int32) {q : Nat} (a b e : Nat) (hs : h[q]? = some (.inr (.inl (0, [nI a, nI b, nI e])))) (hq : q < p ∨ p + 3 ≤ q) (w c o : Nat) (x y z cc t : Int32) : yT S d 47 [.ref p, .int (nI w), .int (nI c), .int (nI o), .ref q] ((put h p (mC p lo [x, y, z] cc t 0)), k0) (· = (.inl none, (put h p (mC p lo [nI w, nI c, nI o] (nI (mcost a b e w c o)) (nI (mheat w c o)) 1), k0))) := by
  obtain ⟨d, rfl⟩ : ∃ e, d = e + 1 := ⟨d - 1, by omega⟩
  refine yT_eq (Nat.le_of_ble_eq_true rfl) ?_
  show yW S d 47 (0, [.ref p, .int (nI w), .int (nI c), .int (nI o), .ref q, xno, xno], [], ((put h p (mC p lo [x, y, z] cc t 0)), k0)) _
  refine y_go rfl rfl ?_
  refine y_go rfl rfl ?_
  refine y_go rfl rfl ?_
  refine y_ald (t := 0) (j := 0) (l := [nI a, nI b, nI e]) (x := (nI a)) rfl (Or.inl ⟨rfl, rfl⟩) (xso hl hs hq) (by decide) rfl ?_
  refine y_go rfl rfl ?_
  refine y_go rfl rfl ?_
  refine y_go rfl rfl ?_
  refine y_go rfl rfl ?_
  refine y_ald (t := 0) (j := 1) (l := [nI a, nI b, nI e]) (x := (nI b)) rfl (Or.inl ⟨rfl, rfl⟩) (xso hl hs hq) (by decide) rfl ?_
  refine y_go rfl rfl ?_
  refine y_go rfl rfl ?_
  refine y_go rfl rfl ?_
  refine y_go rfl rfl ?_
  refine y_go rfl rfl ?_
  refine y_ald (t := 0) (j := 2) (l := [nI a, nI b, nI e]) (x := (nI e)) rfl (Or.inl ⟨rfl, rfl⟩) (xso hl hs hq) (by decide) rfl ?_
  refine y_go rfl rfl ?_
  refine y_go rfl rfl ?_
  rw [show (((nI w) * (nI a)) + ((nI c) * (nI b))) + ((nI o) * (nI e)) = nI (mcost a b e w c o) by simp only [nI_mul, nI_add]]
  refine y_go (g' := (22, [.ref p, .int (nI w), .int (nI c), .int (nI o), .ref q, .int (nI (mcost a b e w c o)), xno], _, _)) rfl rfl ?_
  refine y_go rfl rfl ?_
  refine y_go rfl rfl ?_
  refine y_go rfl rfl ?_
  refine y_aldc (t := 0) (j := 0) (w := .int 3) rfl (Or.inl ⟨rfl, rfl⟩) (xnone hl hB (by decide)) xct_heats (by decide) rfl ?_
  refine y_go rfl rfl ?_
  refine y_go rfl rfl ?_
  refine y_go rfl rfl ?_
  refine y_go rfl rfl ?_
  refine y_aldc (t := 0) (j := 1) (w := .int 8) rfl (Or.inl ⟨rfl, rfl⟩) (xnone hl hB (by decide)) xct_heats (by decide) rfl ?_
  refine y_go rfl rfl ?_
  refine y_go rfl rfl ?_
  refine y_go rfl rfl ?_
  refine y_go rfl rfl ?_
  refine y_go rfl rfl ?_
  refine y_aldc (t := 0) (j := 2) (w := .int 12) rfl (Or.inl ⟨rfl, rfl⟩) (xnone hl hB (by decide)) xct_heats (by decide) rfl ?_
  refine y_go rfl rfl ?_
  refine y_go rfl rfl ?_
  rw [show (((nI w) * 3) + ((nI c) * 8)) + ((nI o) * 12) = nI (mheat w c o) by rw [show (3 : Int32) = nI 3 by decide, show (8 : Int32) = nI 8 by decide, show (12 : Int32) = nI 12 by decide]; simp only [nI_mul, nI_add]]
  refine y_go (g' := (47, [.ref p, .int (nI w), .int (nI c), .int (nI o), .ref q, .int (nI (mcost a b e w c o)), .int (nI (mheat w c o))], _, _)) rfl rfl ?_
  refine y_go rfl rfl ?_
  refine y_getR (w := .int 0) (j := 0) rfl hl rfl rfl rfl rfl ?_
  refine y_if_eq rfl (fun _ => ?_) (fun c => absurd (by decide) c)
  refine y_go rfl rfl ?_
  refine y_go rfl rfl ?_
  refine y_putR (j := 0) (cs' := (mC p lo [x, y, z] cc t 1)) rfl hl rfl rfl (Nat.le_of_ble_eq_true rfl) rfl rfl ?_
  refine y_go rfl rfl ?_
  refine y_getR (w := .ref (p + 2)) (j := 0) rfl hl rfl rfl rfl rfl ?_
  refine y_go rfl rfl ?_
  refine y_go rfl rfl ?_
  refine y_astR (t := 0) (n := 2) (j := 0) (y := (nI w)) (cs' := (mC p lo [nI w, y, z] cc t 1)) rfl (Or.inl ⟨rfl, rfl⟩) hl rfl rfl (by decide) (Nat.le_of_ble_eq_true rfl) rfl rfl ?_
  refine y_go rfl rfl ?_
  refine y_getR (w := .ref (p + 2)) (j := 0) rfl hl rfl rfl rfl rfl ?_
  refine y_go rfl rfl ?_
  refine y_go rfl rfl ?_
  refine y_astR (t := 0) (n := 2) (j := 1) (y := (nI c)) (cs' := (mC p lo [nI w, nI c, z] cc t 1)) rfl (Or.inl ⟨rfl, rfl⟩) hl rfl rfl (by decide) (Nat.le_of_ble_eq_true rfl) rfl rfl ?_
  refine y_go rfl rfl ?_
  refine y_getR (w := .ref (p + 2)) (j := 0) rfl hl rfl rfl rfl rfl ?_
  refine y_go rfl rfl ?_
  refine y_go rfl rfl ?_
  refine y_astR (t := 0) (n := 2) (j := 2) (y := (nI o)) (cs' := (mC p lo [nI w, nI c, nI o] cc t 1)) rfl (Or.inl ⟨rfl, rfl⟩) hl rfl rfl (by decide) (Nat.le_of_ble_eq_true rfl) rfl rfl ?_
  refine y_go rfl rfl ?_
  refine y_go rfl rfl ?_
  refine y_putR (j := 0) (cs' := (mC p lo [nI w, nI c, nI o] (nI (mcost a b e w c o)) t 1)) rfl hl rfl rfl (Nat.le_of_ble_eq_true rfl) (xf_int rfl) rfl ?_
  refine y_go rfl rfl ?_
  refine y_go rfl rfl ?_
  refine y_putR (j := 0) (cs' := (mC p lo [nI w, nI c, nI o] (nI (mcost a b e w c o)) (nI (mheat w c o)) 1)) rfl hl rfl rfl (Nat.le_of_ble_eq_true rfl) (xf_int rfl) rfl ?_
  exact y_end rfl rfl rfl
theorem s_considerS {S : List Int32} {d : Nat} (hd : 2 ≤ d) {h : xH} {p : Nat} (hl : p + 3 ≤ h.length) (hB : h.length ≤ 1000000) (k0 : Nat × Nat) (lo : List Int32) {q : Nat} (a b e : Nat) (hs : h[q]? = some (.inr (.inl (0, [nI a, nI b, nI e])))) (hq : q < p ∨ p + 3 ≤ q) (w c o : Nat) (x y z cc t : Int32) : yT S d 47 [.ref p, .int (nI w), .int (nI c), .int (nI o), .ref q] ((put h p (mC p lo [x, y, z] cc t 1)), k0) (· = (.inl none, (put h p (if btr x y z cc t (nI (mcost a b e w c o)) (nI (mheat w c o)) (nI w) (nI c) = true then (mC p lo [nI w, nI c, nI o] (nI (mcost a b e w c o)) (nI (mheat w c o)) 1) else mC p lo [x, y, z] cc t 1), k0))) := by
  obtain ⟨d, rfl⟩ : ∃ e, d = e + 1 := ⟨d - 1, by omega⟩
  refine yT_eq (Nat.le_of_ble_eq_true rfl) ?_
  show yW S d 47 (0, [.ref p, .int (nI w), .int (nI c), .int (nI o), .ref q, xno, xno], [], ((put h p (mC p lo [x, y, z] cc t 1)), k0)) _
  refine y_go rfl rfl ?_
  refine y_go rfl rfl ?_
  refine y_go rfl rfl ?_
  refine y_ald (t := 0) (j := 0) (l := [nI a, nI b, nI e]) (x := (nI a)) rfl (Or.inl ⟨rfl, rfl⟩) (xso hl hs hq) (by decide) rfl ?_
  refine y_go rfl rfl ?_
  refine y_go rfl rfl ?_
  refine y_go rfl rfl ?_
  refine y_go rfl rfl ?_
  refine y_ald (t := 0) (j := 1) (l := [nI a, nI b, nI e]) (x := (nI b)) rfl (Or.inl ⟨rfl, rfl⟩) (xso hl hs hq) (by decide) rfl ?_
  refine y_go rfl rfl ?_
  refine y_go rfl rfl ?_
  refine y_go rfl rfl ?_
  refine y_go rfl rfl ?_
  refine y_go rfl rfl ?_
  refine y_ald (t := 0) (j := 2) (l := [nI a, nI b, nI e]) (x := (nI e)) rfl (Or.inl ⟨rfl, rfl⟩) (xso hl hs hq) (by decide) rfl ?_
  refine y_go rfl rfl ?_
  refine y_go rfl rfl ?_
  rw [show (((nI w) * (nI a)) + ((nI c) * (nI b))) + ((nI o) * (nI e)) = nI (mcost a b e w c o) by simp only [nI_mul, nI_add]]
  refine y_go (g' := (22, [.ref p, .int (nI w), .int (nI c), .int (nI o), .ref q, .int (nI (mcost a b e w c o)), xno], _, _)) rfl rfl ?_
  refine y_go rfl rfl ?_
  refine y_go rfl rfl ?_
  refine y_go rfl rfl ?_
  refine y_aldc (t := 0) (j := 0) (w := .int 3) rfl (Or.inl ⟨rfl, rfl⟩) (xnone hl hB (by decide)) xct_heats (by decide) rfl ?_
  refine y_go rfl rfl ?_
  refine y_go rfl rfl ?_
  refine y_go rfl rfl ?_
  refine y_go rfl rfl ?_
  refine y_aldc (t := 0) (j := 1) (w := .int 8) rfl (Or.inl ⟨rfl, rfl⟩) (xnone hl hB (by decide)) xct_heats (by decide) rfl ?_
  refine y_go rfl rfl ?_
  refine y_go rfl rfl ?_
  refine y_go rfl rfl ?_
  refine y_go rfl rfl ?_
  refine y_go rfl rfl ?_
  refine y_aldc (t := 0) (j := 2) (w := .int 12) rfl (Or.inl ⟨rfl, rfl⟩) (xnone hl hB (by decide)) xct_heats (by decide) rfl ?_
  refine y_go rfl rfl ?_
  refine y_go rfl rfl ?_
  rw [show (((nI w) * 3) + ((nI c) * 8)) + ((nI o) * 12) = nI (mheat w c o) by rw [show (3 : Int32) = nI 3 by decide, show (8 : Int32) = nI 8 by decide, show (12 : Int32) = nI 12 by decide]; simp only [nI_mul, nI_add]]
  refine y_go (g' := (47, [.ref p, .int (nI w), .int (nI c), .int (nI o), .ref q, .int (nI (mcost a b e w c o)), .int (nI (mheat w c o))], _, _)) rfl rfl ?_
  refine y_go rfl rfl ?_
  refine y_getR (w := .int 1) (j := 0) rfl hl rfl rfl rfl rfl ?_
  refine y_if_eq rfl (fun c => absurd c (by decide)) (fun _ => ?_)
  refine y_go rfl rfl ?_
  refine y_go rfl rfl ?_
  refine y_go rfl rfl ?_
  refine y_go rfl rfl ?_
  refine y_go rfl rfl ?_
  refine y_V1 rfl (Nat.le_of_ble_eq_true rfl) (Nat.le_of_ble_eq_true rfl) rfl rfl (xrcvR (n := 0) hl rfl rfl) (s_isBetter (by omega) hl hB _ lo x y z cc t 1 _ _ _ _) ?_
  refine y_if_eq rfl (fun c64 => ?_) (fun c64 => ?_)
  · replace c64 : ¬ (btr x y z cc t (nI (mcost a b e w c o)) (nI (mheat w c o)) (nI w) (nI c) = true) := xi_a c64
    exact y_end rfl rfl (by rw [if_neg c64])
  · replace c64 : btr x y z cc t (nI (mcost a b e w c o)) (nI (mheat w c o)) (nI w) (nI c) = true := xi_b c64
    refine y_go rfl rfl ?_
    refine y_go rfl rfl ?_
    refine y_putR (j := 0) (cs' := (mC p lo [x, y, z] cc t 1)) rfl hl rfl rfl (Nat.le_of_ble_eq_true rfl) rfl rfl ?_
    refine y_go rfl rfl ?_
    refine y_getR (w := .ref (p + 2)) (j := 0) rfl hl rfl rfl rfl rfl ?_
    refine y_go rfl rfl ?_
    refine y_go rfl rfl ?_
    refine y_astR (t := 0) (n := 2) (j := 0) (y := (nI w)) (cs' := (mC p lo [nI w, y, z] cc t 1)) rfl (Or.inl ⟨rfl, rfl⟩) hl rfl rfl (by decide) (Nat.le_of_ble_eq_true rfl) rfl rfl ?_
    refine y_go rfl rfl ?_
    refine y_getR (w := .ref (p + 2)) (j := 0) rfl hl rfl rfl rfl rfl ?_
    refine y_go rfl rfl ?_
    refine y_go rfl rfl ?_
    refine y_astR (t := 0) (n := 2) (j := 1) (y := (nI c)) (cs' := (mC p lo [nI w, nI c, z] cc t 1)) rfl (Or.inl ⟨rfl, rfl⟩) hl rfl rfl (by decide) (Nat.le_of_ble_eq_true rfl) rfl rfl ?_
    refine y_go rfl rfl ?_
    refine y_getR (w := .ref (p + 2)) (j := 0) rfl hl rfl rfl rfl rfl ?_
    refine y_go rfl rfl ?_
    refine y_go rfl rfl ?_
    refine y_astR (t := 0) (n := 2) (j := 2) (y := (nI o)) (cs' := (mC p lo [nI w, nI c, nI o] cc t 1)) rfl (Or.inl ⟨rfl, rfl⟩) hl rfl rfl (by decide) (Nat.le_of_ble_eq_true rfl) rfl rfl ?_
    refine y_go rfl rfl ?_
    refine y_go rfl rfl ?_
    refine y_putR (j := 0) (cs' := (mC p lo [nI w, nI c, nI o] (nI (mcost a b e w c o)) t 1)) rfl hl rfl rfl (Nat.le_of_ble_eq_true rfl) (xf_int rfl) rfl ?_
    refine y_go rfl rfl ?_
    refine y_go rfl rfl ?_
    refine y_putR (j := 0) (cs' := (mC p lo [nI w, nI c, nI o] (nI (mcost a b e w c o)) (nI (mheat w c o)) 1)) rfl hl rfl rfl (Nat.le_of_ble_eq_true rfl) (xf_int rfl) rfl ?_
    exact y_end rfl rfl (by rw [if_pos c64])
