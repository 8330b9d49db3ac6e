/-! THE LINE: a number's digits. -/
def dTe : List Int32 := [48, 48, 48, 48, 48, 48, 48, 48, 48, 48, 49, 49, 49, 49, 49, 49, 49, 49, 49, 49, 50, 50, 50, 50, 50, 50, 50, 50, 50, 50, 51, 51, 51, 51, 51, 51, 51, 51, 51, 51, 52, 52, 52, 52, 52, 52, 52, 52, 52, 52, 53, 53, 53, 53, 53, 53, 53, 53, 53, 53, 54, 54, 54, 54, 54, 54, 54, 54, 54, 54, 55, 55, 55, 55, 55, 55, 55, 55, 55, 55, 56, 56, 56, 56, 56, 56, 56, 56, 56, 56, 57, 57, 57, 57, 57, 57, 57, 57, 57, 57]
def dOn : List Int32 := [48, 49, 50, 51, 52, 53, 54, 55, 56, 57, 48, 49, 50, 51, 52, 53, 54, 55, 56, 57, 48, 49, 50, 51, 52, 53, 54, 55, 56, 57, 48, 49, 50, 51, 52, 53, 54, 55, 56, 57, 48, 49, 50, 51, 52, 53, 54, 55, 56, 57, 48, 49, 50, 51, 52, 53, 54, 55, 56, 57, 48, 49, 50, 51, 52, 53, 54, 55, 56, 57, 48, 49, 50, 51, 52, 53, 54, 55, 56, 57, 48, 49, 50, 51, 52, 53, 54, 55, 56, 57, 48, 49, 50, 51, 52, 53, 54, 55, 56, 57]
theorem xct_te : xct 1000093 = some (2, dTe.map .int) := by decide +kernel
theorem xct_on : xct 1000094 = some (2, dOn.map .int) := by decide +kernel
theorem map_at {l : List Int32} {j : Nat} (h : j < l.length) : (l.map Value.int)[j]? = some (.int (gd l j)) := by
  rw [List.getElem?_map, xgd h]; rfl
theorem nI_m1 {m : Nat} (h : 1 ≤ m) : nI m + (-1) = nI (m - 1) := by
  obtain ⟨k, rfl⟩ : ∃ k, m = k + 1 := ⟨m - 1, by omega⟩
  rw [nI_dec]; rfl
theorem gc_tab : ∀ v, v < 1101 → -(nI v) / 100 = -(nI (v / 100)) ∧ -(nI (v / 100)) * 100 - -(nI v) = nI (v % 100) := by decide +kernel
theorem l_gc {S : List Int32} {d : Nat} {e f sv : Int32} {K B F V : kK} {ol sz : Nat} {R : Nat → kK} {M : List xC} {G : Nat → xC} {P : List xC} {vp : Nat} {ml : Int32} {n : Nat} {D : List Int32} {h : xH} {k0 : Nat × Nat} {N0 : Nat} (hW : W0 e f sv K B F V ol sz R M G P vp ml (nI n) D h) (hdl : D.length = N0) (u q : Nat) (hu : u < 100) (hq : (if u < 10 then 1 else 2) ≤ q) (hin : q ≤ D.length) (x1 x3 x4 : Value) (hx4 : x4 = xno ∨ ∃ i, x4 = .int i) (hN9 : N0 ≤ 142) : yW S d 174 (22, [.int (-(nI u)), x1, .ref vp, x3, x4, .int (nI q), .int 0], [], (h, k0)) (fun r => ∃ z : xH × Int32, (∃ D2, D2.length = N0 ∧ W0 e f sv K B F V ol sz R M G P vp ml (nI n) D2 z.1) ∧ r = (.inl (some (.int z.2)), (z.1, k0))) := by
  obtain ⟨wl, wl2, wlM, wlP, wvp, w0, wK, wB, wF, wV, wH, wM, wG, wP, wL, wD, wR⟩ := id hW
  have wl2 := wl2
  have hq1 : 1 ≤ q := by split at hq <;> omega
  rcases hx4 with rfl | ⟨i4, rfl⟩
  · refine y_go rfl rfl ?_
    refine y_go rfl rfl ?_
    refine y_ic_gt rfl (fun _ => ?_) (fun c => absurd ((by rw [show (-100 : Int32) = -(nI 100) by decide]; exact (ng_lt (by decide) (by omega)).mpr hu)) c)
    refine y_go rfl rfl ?_
    refine y_go (g' := (76, [.int (-(nI u)), x1, .ref vp, x3, xno, .int (nI (q - 1)), .int 0], _, _)) rfl (by rw [← nI_m1 (m := q) (by omega)]; rfl) ?_
    refine y_go rfl rfl ?_
    refine y_go rfl rfl ?_
    refine y_go rfl rfl ?_
    refine y_go rfl rfl ?_
    rw [Int32.neg_neg]
    refine y_aldc (t := 2) (j := u) (w := .int (gd dOn u)) rfl (Or.inr (Or.inr ⟨rfl, rfl⟩)) (xnoh wl (by decide)) xct_on (xidx_nI (by omega)) (map_at (by show _ < 100; omega)) ?_
    refine y_ast (t := 2) (j := (q - 1)) (l := D) rfl (Or.inr (Or.inr ⟨rfl, rfl⟩)) (has_at wD (i := 0) rfl) (xidx_nI (by omega)) (by omega) rfl ?_
    show yW S d 174 (85, [.int (-(nI u)), x1, .ref vp, x3, xno, .int (nI (q - 1)), .int 0], [], (h.set vp (byC (D.set (q - 1) (xnar 2 (gd dOn u)))), k0)) _
    rw [set_at wD]
    have hl2 : (D.set (q - 1) (xnar 2 (gd dOn u))).length = D.length := List.length_set ..
    have hW2 := W_D hl2 hW
    clear hW wl wl2 wlM wlP wvp w0 wK wB wF wV wH wM wG wP wL wD wR
    obtain ⟨wl, wl2, wlM, wlP, wvp, w0, wK, wB, wF, wV, wH, wM, wG, wP, wL, wD, wR⟩ := id hW2
    rw [← hl2] at hdl hin
    generalize put h vp [byC (D.set (q - 1) (xnar 2 (gd dOn u)))] = h at *
    generalize D.set (q - 1) (xnar 2 (gd dOn u)) = D at *
    clear hl2
    have hW := hW2
    clear hW2
    refine y_go rfl rfl ?_
    refine y_go rfl rfl ?_
    rw [show (-9 : Int32) = -(nI 9) by decide]
    by_cases g : u < 10
    · refine y_ic_ge rfl (fun _ => ?_) (fun c => absurd c (fun z => by have := (ng_lt (by omega) (by decide)).mp z; omega))
      refine y_go rfl rfl ?_
      refine y_if_eq rfl (fun _ => ?_) (fun c => absurd (by decide) c)
      refine y_go rfl rfl ?_
      exact y_ireturn rfl rfl rfl ⟨(_, _), ⟨D, hdl, hW⟩, rfl⟩
    · rw [if_neg g] at hq
      refine y_ic_ge rfl (fun c => absurd ((ng_lt (by omega) (by decide)).mpr (by omega)) c) (fun _ => ?_)
      refine y_go rfl rfl ?_
      refine y_go (g' := (95, [.int (-(nI u)), x1, .ref vp, x3, xno, .int (nI (q - 1 - 1)), .int 0], _, _)) rfl (by rw [← nI_m1 (m := q - 1) (by omega)]; rfl) ?_
      refine y_go rfl rfl ?_
      refine y_go rfl rfl ?_
      refine y_go rfl rfl ?_
      refine y_go rfl rfl ?_
      rw [Int32.neg_neg]
      refine y_aldc (t := 2) (j := u) (w := .int (gd dTe u)) rfl (Or.inr (Or.inr ⟨rfl, rfl⟩)) (xnoh wl (by decide)) xct_te (xidx_nI (by omega)) (map_at (by show _ < 100; omega)) ?_
      refine y_ast (t := 2) (j := (q - 1 - 1)) (l := D) rfl (Or.inr (Or.inr ⟨rfl, rfl⟩)) (has_at wD (i := 0) rfl) (xidx_nI (by omega)) (by omega) rfl ?_
      show yW S d 174 (104, [.int (-(nI u)), x1, .ref vp, x3, xno, .int (nI (q - 1 - 1)), .int 0], [], (h.set vp (byC (D.set (q - 1 - 1) (xnar 2 (gd dTe u)))), k0)) _
      rw [set_at wD]
      have hl2 : (D.set (q - 1 - 1) (xnar 2 (gd dTe u))).length = D.length := List.length_set ..
      have hW2 := W_D hl2 hW
      clear hW wl wl2 wlM wlP wvp w0 wK wB wF wV wH wM wG wP wL wD wR
      obtain ⟨wl, wl2, wlM, wlP, wvp, w0, wK, wB, wF, wV, wH, wM, wG, wP, wL, wD, wR⟩ := id hW2
      rw [← hl2] at hdl hin
      generalize put h vp [byC (D.set (q - 1 - 1) (xnar 2 (gd dTe u)))] = h at *
      generalize D.set (q - 1 - 1) (xnar 2 (gd dTe u)) = D at *
      clear hl2
      have hW := hW2
      clear hW2
      refine y_go rfl rfl ?_
      refine y_if_eq rfl (fun _ => ?_) (fun c => absurd (by decide) c)
      refine y_go rfl rfl ?_
      exact y_ireturn rfl rfl rfl ⟨(_, _), ⟨D, hdl, hW⟩, rfl⟩
  · refine y_go rfl rfl ?_
    refine y_go rfl rfl ?_
    refine y_ic_gt rfl (fun _ => ?_) (fun c => absurd ((by rw [show (-100 : Int32) = -(nI 100) by decide]; exact (ng_lt (by decide) (by omega)).mpr hu)) c)
    refine y_go rfl rfl ?_
    refine y_go (g' := (76, [.int (-(nI u)), x1, .ref vp, x3, .int i4, .int (nI (q - 1)), .int 0], _, _)) rfl (by rw [← nI_m1 (m := q) (by omega)]; rfl) ?_
    refine y_go rfl rfl ?_
    refine y_go rfl rfl ?_
    refine y_go rfl rfl ?_
    refine y_go rfl rfl ?_
    rw [Int32.neg_neg]
    refine y_aldc (t := 2) (j := u) (w := .int (gd dOn u)) rfl (Or.inr (Or.inr ⟨rfl, rfl⟩)) (xnoh wl (by decide)) xct_on (xidx_nI (by omega)) (map_at (by show _ < 100; omega)) ?_
    refine y_ast (t := 2) (j := (q - 1)) (l := D) rfl (Or.inr (Or.inr ⟨rfl, rfl⟩)) (has_at wD (i := 0) rfl) (xidx_nI (by omega)) (by omega) rfl ?_
    show yW S d 174 (85, [.int (-(nI u)), x1, .ref vp, x3, .int i4, .int (nI (q - 1)), .int 0], [], (h.set vp (byC (D.set (q - 1) (xnar 2 (gd dOn u)))), k0)) _
    rw [set_at wD]
    have hl2 : (D.set (q - 1) (xnar 2 (gd dOn u))).length = D.length := List.length_set ..
    have hW2 := W_D hl2 hW
    clear hW wl wl2 wlM wlP wvp w0 wK wB wF wV wH wM wG wP wL wD wR
    obtain ⟨wl, wl2, wlM, wlP, wvp, w0, wK, wB, wF, wV, wH, wM, wG, wP, wL, wD, wR⟩ := id hW2
    rw [← hl2] at hdl hin
    generalize put h vp [byC (D.set (q - 1) (xnar 2 (gd dOn u)))] = h at *
    generalize D.set (q - 1) (xnar 2 (gd dOn u)) = D at *
    clear hl2
    have hW := hW2
    clear hW2
    refine y_go rfl rfl ?_
    refine y_go rfl rfl ?_
    rw [show (-9 : Int32) = -(nI 9) by decide]
    by_cases g : u < 10
    · refine y_ic_ge rfl (fun _ => ?_) (fun c => absurd c (fun z => by have := (ng_lt (by omega) (by decide)).mp z; omega))
      refine y_go rfl rfl ?_
      refine y_if_eq rfl (fun _ => ?_) (fun c => absurd (by decide) c)
      refine y_go rfl rfl ?_
      exact y_ireturn rfl rfl rfl ⟨(_, _), ⟨D, hdl, hW⟩, rfl⟩
    · rw [if_neg g] at hq
      refine y_ic_ge rfl (fun c => absurd ((ng_lt (by omega) (by decide)).mpr (by omega)) c) (fun _ => ?_)
      refine y_go rfl rfl ?_
      refine y_go (g' := (95, [.int (-(nI u)), x1, .ref vp, x3, .int i4, .int (nI (q - 1 - 1)), .int 0], _, _)) rfl (by rw [← nI_m1 (m := q - 1) (by omega)]; rfl) ?_
      refine y_go rfl rfl ?_
      refine y_go rfl rfl ?_
      refine y_go rfl rfl ?_
      refine y_go rfl rfl ?_
      rw [Int32.neg_neg]
      refine y_aldc (t := 2) (j := u) (w := .int (gd dTe u)) rfl (Or.inr (Or.inr ⟨rfl, rfl⟩)) (xnoh wl (by decide)) xct_te (xidx_nI (by omega)) (map_at (by show _ < 100; omega)) ?_
      refine y_ast (t := 2) (j := (q - 1 - 1)) (l := D) rfl (Or.inr (Or.inr ⟨rfl, rfl⟩)) (has_at wD (i := 0) rfl) (xidx_nI (by omega)) (by omega) rfl ?_
      show yW S d 174 (104, [.int (-(nI u)), x1, .ref vp, x3, .int i4, .int (nI (q - 1 - 1)), .int 0], [], (h.set vp (byC (D.set (q - 1 - 1) (xnar 2 (gd dTe u)))), k0)) _
      rw [set_at wD]
      have hl2 : (D.set (q - 1 - 1) (xnar 2 (gd dTe u))).length = D.length := List.length_set ..
      have hW2 := W_D hl2 hW
      clear hW wl wl2 wlM wlP wvp w0 wK wB wF wV wH wM wG wP wL wD wR
      obtain ⟨wl, wl2, wlM, wlP, wvp, w0, wK, wB, wF, wV, wH, wM, wG, wP, wL, wD, wR⟩ := id hW2
      rw [← hl2] at hdl hin
      generalize put h vp [byC (D.set (q - 1 - 1) (xnar 2 (gd dTe u)))] = h at *
      generalize D.set (q - 1 - 1) (xnar 2 (gd dTe u)) = D at *
      clear hl2
      have hW := hW2
      clear hW2
      refine y_go rfl rfl ?_
      refine y_if_eq rfl (fun _ => ?_) (fun c => absurd (by decide) c)
      refine y_go rfl rfl ?_
      exact y_ireturn rfl rfl rfl ⟨(_, _), ⟨D, hdl, hW⟩, rfl⟩
theorem s_getChars {S : List Int32} {d : Nat} (hd : 1 ≤ d) {e f sv : Int32} {K B F V : kK} {ol sz : Nat} {R : Nat → kK} {M : List xC} {G : Nat → xC} {P : List xC} {vp : Nat} {ml : Int32} {n : Nat} {D : List Int32} {h : xH} {k0 : Nat × Nat} (hW : W0 e f sv K B F V ol sz R M G P vp ml (nI n) D h) (v m : Nat) (hv : v ≤ 1100) (hm : dg v ≤ m) (hin : m ≤ D.length) (hD9 : D.length ≤ 142) : yT S d 174 [.int (nI v), .int (nI m), .ref vp] (h, k0) (fun r => ∃ z : xH × Int32, (∃ D2, D2.length = D.length ∧ W0 e f sv K B F V ol sz R M G P vp ml (nI n) D2 z.1) ∧ r = (.inl (some (.int z.2)), (z.1, k0))) := by
  obtain ⟨d, rfl⟩ : ∃ e, d = e + 1 := ⟨d - 1, by omega⟩
  obtain ⟨wl, wl2, wlM, wlP, wvp, w0, wK, wB, wF, wV, wH, wM, wG, wP, wL, wD, wR⟩ := id hW
  refine yT_of (Nat.le_of_ble_eq_true rfl) ?_ (fun r hr hx => by obtain ⟨z, -, rfl⟩ := hr; cases hx)
  show yW S d 174 (0, [.int (nI v), .int (nI m), .ref vp, xno, xno, xno, xno], [], (h, k0)) _
  refine y_go rfl rfl ?_
  refine y_go (g' := (3, [.int (nI v), .int (nI m), .ref vp, xno, xno, .int (nI m), xno], _, _)) rfl rfl ?_
  refine y_go rfl rfl ?_
  refine y_if_ge rfl (fun _ => ?_) (fun c => absurd c (nI_pos (by omega)))
  refine y_go rfl rfl ?_
  refine y_go (g' := (14, [.int (nI v), .int (nI m), .ref vp, xno, xno, .int (nI m), .int 0], _, _)) rfl rfl ?_
  refine y_go rfl rfl ?_
  refine y_if_ne rfl (fun c => absurd (by decide) c) (fun _ => ?_)
  refine y_go rfl rfl ?_
  refine y_go rfl rfl ?_
  refine y_go (g' := (22, [.int (-(nI v)), .int (nI m), .ref vp, xno, xno, .int (nI m), .int 0], _, _)) rfl rfl ?_
  by_cases g : v < 100
  · exact l_gc hW rfl v m g (by unfold dg at hm; split at hm <;> split <;> omega) hin _ _ _ (Or.inl rfl) hD9
  · have hm3 : (if v / 100 < 10 then 1 else 2) + 2 ≤ m := by unfold dg at hm; split <;> (repeat' split at hm) <;> omega
    have hm2 : 3 ≤ m := by split at hm3 <;> omega
    obtain ⟨e1, e2⟩ := gc_tab v (by omega)
    have hdl : D.length = D.length := rfl
    generalize hN0 : D.length = N0 at hdl ⊢
    rw [hN0] at hD9
    have hdl : D.length = N0 := hN0
    refine y_go rfl rfl ?_
    refine y_go rfl rfl ?_
    refine y_ic_gt rfl (fun c => absurd c ((fun z => g ((ng_lt (by decide) (by omega)).mp (by rw [show (-(nI 100) : Int32) = -100 by decide]; exact z))))) (fun _ => ?_)
    refine y_go rfl rfl ?_
    refine y_go rfl rfl ?_
    refine y_div rfl (by decide) (Or.inl ⟨rfl, rfl⟩) ?_
    rw [e1]
    refine y_go (g' := (33, [.int (-(nI v)), .int (nI m), .ref vp, .int (-(nI (v / 100))), xno, .int (nI m), .int 0], _, _)) rfl rfl ?_
    refine y_go rfl rfl ?_
    refine y_go rfl rfl ?_
    refine y_go rfl rfl ?_
    refine y_go rfl rfl ?_
    refine y_go rfl rfl ?_
    rw [e2]
    refine y_go (g' := (41, [.int (-(nI v)), .int (nI m), .ref vp, .int (-(nI (v / 100))), .int (nI (v % 100)), .int (nI m), .int 0], _, _)) rfl rfl ?_
    refine y_go rfl rfl ?_
    refine y_go (g' := (43, [.int (-(nI (v / 100))), .int (nI m), .ref vp, .int (-(nI (v / 100))), .int (nI (v % 100)), .int (nI m), .int 0], _, _)) rfl rfl ?_
    refine y_go rfl rfl ?_
    refine y_go (g' := (47, [.int (-(nI (v / 100))), .int (nI m), .ref vp, .int (-(nI (v / 100))), .int (nI (v % 100)), .int (nI (m - 1)), .int 0], _, _)) rfl (by rw [← nI_m1 (m := m) (by omega)]; rfl) ?_
    refine y_go rfl rfl ?_
    refine y_go rfl rfl ?_
    refine y_go rfl rfl ?_
    refine y_aldc (t := 2) (j := (v % 100)) (w := .int (gd dOn (v % 100))) rfl (Or.inr (Or.inr ⟨rfl, rfl⟩)) (xnoh wl (by decide)) xct_on (xidx_nI (by omega)) (map_at (by show _ < 100; omega)) ?_
    refine y_ast (t := 2) (j := (m - 1)) (l := D) rfl (Or.inr (Or.inr ⟨rfl, rfl⟩)) (has_at wD (i := 0) rfl) (xidx_nI (by omega)) (by omega) rfl ?_
    show yW S d 174 (56, [.int (-(nI (v / 100))), .int (nI m), .ref vp, .int (-(nI (v / 100))), .int (nI (v % 100)), .int (nI (m - 1)), .int 0], [], (h.set vp (byC (D.set (m - 1) (xnar 2 (gd dOn (v % 100))))), k0)) _
    rw [set_at wD]
    have hl2 : (D.set (m - 1) (xnar 2 (gd dOn (v % 100)))).length = D.length := List.length_set ..
    have hW2 := W_D hl2 hW
    clear hW wl wl2 wlM wlP wvp w0 wK wB wF wV wH wM wG wP wL wD wR
    obtain ⟨wl, wl2, wlM, wlP, wvp, w0, wK, wB, wF, wV, wH, wM, wG, wP, wL, wD, wR⟩ := id hW2
    rw [← hl2] at hdl hin
    generalize put h vp [byC (D.set (m - 1) (xnar 2 (gd dOn (v % 100))))] = h at *
    generalize D.set (m - 1) (xnar 2 (gd dOn (v % 100))) = D at *
    clear hl2
    have hW := hW2
    clear hW2
    refine y_go rfl rfl ?_
    refine y_go (g' := (60, [.int (-(nI (v / 100))), .int (nI m), .ref vp, .int (-(nI (v / 100))), .int (nI (v % 100)), .int (nI (m - 1 - 1)), .int 0], _, _)) rfl (by rw [← nI_m1 (m := m - 1) (by omega)]; rfl) ?_
    refine y_go rfl rfl ?_
    refine y_go rfl rfl ?_
    refine y_go rfl rfl ?_
    refine y_aldc (t := 2) (j := (v % 100)) (w := .int (gd dTe (v % 100))) rfl (Or.inr (Or.inr ⟨rfl, rfl⟩)) (xnoh wl (by decide)) xct_te (xidx_nI (by omega)) (map_at (by show _ < 100; omega)) ?_
    refine y_ast (t := 2) (j := (m - 1 - 1)) (l := D) rfl (Or.inr (Or.inr ⟨rfl, rfl⟩)) (has_at wD (i := 0) rfl) (xidx_nI (by omega)) (by omega) rfl ?_
    show yW S d 174 (69, [.int (-(nI (v / 100))), .int (nI m), .ref vp, .int (-(nI (v / 100))), .int (nI (v % 100)), .int (nI (m - 1 - 1)), .int 0], [], (h.set vp (byC (D.set (m - 1 - 1) (xnar 2 (gd dTe (v % 100))))), k0)) _
    rw [set_at wD]
    have hl2 : (D.set (m - 1 - 1) (xnar 2 (gd dTe (v % 100)))).length = D.length := List.length_set ..
    have hW2 := W_D hl2 hW
    clear hW wl wl2 wlM wlP wvp w0 wK wB wF wV wH wM wG wP wL wD wR
    obtain ⟨wl, wl2, wlM, wlP, wvp, w0, wK, wB, wF, wV, wH, wM, wG, wP, wL, wD, wR⟩ := id hW2
    rw [← hl2] at hdl hin
    generalize put h vp [byC (D.set (m - 1 - 1) (xnar 2 (gd dTe (v % 100))))] = h at *
    generalize D.set (m - 1 - 1) (xnar 2 (gd dTe (v % 100))) = D at *
    clear hl2
    have hW := hW2
    clear hW2
    refine y_go rfl rfl ?_
    exact l_gc hW hdl (v / 100) (m - 1 - 1) (by omega) (by split at hm3 <;> split <;> omega) (by omega) _ _ _ (Or.inr ⟨_, rfl⟩) hD9
theorem s_appI0 {S : List Int32} {d : Nat} (hd : 5 ≤ d) {e f sv : Int32} {K B F V : kK} {ol sz : Nat} {R : Nat → kK} {M : List xC} {G : Nat → xC} {P : List xC} {vp : Nat} {ml : Int32} {n : Nat} {D : List Int32} {h : xH} {k0 : Nat × Nat} (hW : W0 e f sv K B F V ol sz R M G P vp ml (nI n) D h) (hn : n ≤ D.length) (hD : D.length = 16 ∨ D.length = 34 ∨ D.length = 70 ∨ D.length = 142) (v : Nat) (hv : v ≤ 1100) (hn2 : n + dg v ≤ 142) : yT S d 161 [.ref 119, .int (nI v)] (h, k0) (fun r => ∃ z : xS, LN e f sv K B F V ol sz R M G P (n + dg v) 0 k0 1 z ∧ r = (.inl (some (.ref 119)), z)) := by
  obtain ⟨d, rfl⟩ : ∃ e, d = e + 1 := ⟨d - 1, by omega⟩
  obtain ⟨wl, wl2, wlM, wlP, wvp, w0, wK, wB, wF, wV, wH, wM, wG, wP, wL, wD, wR⟩ := id hW
  have hdg := dg_le v
  refine yT_e (Nat.le_of_ble_eq_true rfl) ?_
  show yW S d 161 (0, [.ref 119, .int (nI v), xno, xno], [], (h, k0)) _
  refine y_go rfl rfl ?_
  refine y_getf (w := .int (nI n)) rfl rfl (has_at wL (i := 0) rfl) rfl ?_
  refine y_go (g' := (5, [.ref 119, .int (nI v), .int (nI n), xno], _, _)) rfl rfl ?_
  refine y_go rfl rfl ?_
  refine y_go rfl rfl ?_
  refine y_S1 rfl rfl (Nat.le_of_ble_eq_true rfl) (Nat.le_of_ble_eq_true rfl) rfl rfl (s_size (by omega) v (by omega) _) ?_
  refine y_go rfl rfl ?_
  rw [nI_add]
  refine y_go (g' := (12, [.ref 119, .int (nI v), .int (nI n), .int (nI (n + dg v))], _, _)) rfl rfl ?_
  refine y_go rfl rfl ?_
  refine y_go rfl rfl ?_
  refine y_V0e rfl (Nat.le_of_ble_eq_true rfl) (Nat.le_of_ble_eq_true rfl) rfl rfl (xrcv_of (has_at wL (i := 0) rfl)) (s_ensure (by omega) hW hn hD (n + dg v) (by omega) (by omega)) (fun z hz => ?_)
  clear hW hn hD wl wl2 wlM wlP wvp w0 wK wB wF wV wH wM wG wP wL wD wR
  obtain ⟨⟨vp, ml, D, hW, hn, hm, hD⟩, hk1, hk2⟩ := hz
  obtain ⟨h, k1⟩ := z
  dsimp only at hW hk1 hk2
  obtain ⟨wl, wl2, wlM, wlP, wvp, w0, wK, wB, wF, wV, wH, wM, wG, wP, wL, wD, wR⟩ := id hW
  refine y_go rfl rfl ?_
  refine y_V1 rfl (Nat.le_of_ble_eq_true rfl) (Nat.le_of_ble_eq_true rfl) rfl rfl (xrcv_of (has_at wL (i := 0) rfl)) (s_sbLatin (by omega) hW) ?_
  refine y_if_eq rfl (fun c => absurd c (by decide)) (fun _ => ?_)
  refine y_go rfl rfl ?_
  refine y_go rfl rfl ?_
  refine y_go rfl rfl ?_
  refine y_getf (w := .ref vp) rfl rfl (has_at wL (i := 0) rfl) rfl ?_
  refine y_S1e rfl rfl (Nat.le_of_ble_eq_true rfl) (Nat.le_of_ble_eq_true rfl) rfl rfl (s_getChars (by omega) hW v (n + dg v) hv (by omega) hm (by omega)) (fun z hz => ?_)
  clear hW wl wl2 wlM wlP wvp w0 wK wB wF wV wH wM wG wP wL wD wR
  obtain ⟨h2, w2⟩ := z
  obtain ⟨D2, hD2, hW⟩ := hz
  dsimp only at hW
  obtain ⟨wl, wl2, wlM, wlP, wvp, w0, wK, wB, wF, wV, wH, wM, wG, wP, wL, wD, wR⟩ := id hW
  refine y_go rfl rfl ?_
  refine y_go rfl rfl ?_
  refine y_go rfl rfl ?_
  refine y_go rfl rfl ?_
  refine y_putf rfl (has_at wL (i := 0) rfl) (Nat.le_of_ble_eq_true rfl) (xf_int rfl) ?_
  show yW S d 161 (53, [.ref 119, .int (nI v), .int (nI n), .int (nI (n + dg v))], [], (h2.set 119 (liO vp ml (nI (n + dg v))), k1)) _
  rw [set_at wL]
  refine y_go rfl rfl ?_
  exact y_end rfl rfl ⟨(_, k1), ⟨⟨vp, ml, D2, W_L (ln2 := nI (n + dg v)) hW, by omega, Nat.zero_le _, by rw [hD2]; exact hD⟩, hk1, hk2⟩, rfl⟩
theorem s_appI {S : List Int32} {d : Nat} (hd : 6 ≤ d) {e f sv : Int32} {K B F V : kK} {ol sz : Nat} {R : Nat → kK} {M : List xC} {G : Nat → xC} {P : List xC} {vp : Nat} {ml : Int32} {n : Nat} {D : List Int32} {h : xH} {k0 : Nat × Nat} (hW : W0 e f sv K B F V ol sz R M G P vp ml (nI n) D h) (hn : n ≤ D.length) (hD : D.length = 16 ∨ D.length = 34 ∨ D.length = 70 ∨ D.length = 142) (v : Nat) (hv : v ≤ 1100) (hn2 : n + dg v ≤ 142) : yT S d 156 [.ref 119, .int (nI v)] (h, k0) (fun r => ∃ z : xS, LN e f sv K B F V ol sz R M G P (n + dg v) 0 k0 1 z ∧ r = (.inl (some (.ref 119)), z)) := by
  obtain ⟨d, rfl⟩ : ∃ e, d = e + 1 := ⟨d - 1, by omega⟩
  obtain ⟨wl, wl2, wlM, wlP, wvp, w0, wK, wB, wF, wV, wH, wM, wG, wP, wL, wD, wR⟩ := id hW
  refine yT_e (Nat.le_of_ble_eq_true rfl) ?_
  show yW S d 156 (0, [.ref 119, .int (nI v)], [], (h, k0)) _
  refine y_go rfl rfl ?_
  refine y_go rfl rfl ?_
  refine y_I1e rfl rfl (Nat.le_of_ble_eq_true rfl) (Nat.le_of_ble_eq_true rfl) rfl rfl (xrcv_of (has_at wL (i := 0) rfl)) (s_appI0 (by omega) hW hn hD v hv hn2) (fun z hz => ?_)
  refine y_go rfl rfl ?_
  refine y_go rfl rfl ?_
  exact y_end rfl rfl ⟨z, hz, rfl⟩
