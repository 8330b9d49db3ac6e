/-! THE LINE: characters and numbers are added. -/
theorem s_setLen0 {S : List Int32} {d : Nat} (hd : 5 ≤ d) {e f sv : Int32} {K B F V : kK} {ol sz : Nat} {R : Nat → kK} {M : List xC} {G : Nat → xC} {P : List xC} {vp : Nat} {ml : Int32} {n : Nat} {D : List Int32} {h : xH} {k0 : Nat × Nat} (hW : W0 e f sv K B F V ol sz R M G P vp ml (nI n) D h) (hn : n ≤ D.length) (hD : D.length = 16 ∨ D.length = 34 ∨ D.length = 70 ∨ D.length = 142) : yT S d 162 [.ref 119, .int 0] (h, k0) (fun r => ∃ z : xS, LN e f sv K B F V ol sz R M G P 0 0 k0 1 z ∧ r = (.inl none, z)) := by
  obtain ⟨d, rfl⟩ : ∃ e, d = e + 1 := ⟨d - 1, by omega⟩
  obtain ⟨wl, wl2, wlM, wlP, wvp, w0, wK, wB, wF, wV, wH, wM, wG, wP, wL, wD, wR⟩ := id hW
  refine yT_e (Nat.le_of_ble_eq_true rfl) ?_
  show yW S d 162 (0, [.ref 119, .int 0], [], (h, k0)) _
  refine y_go rfl rfl ?_
  refine y_if_ge rfl (fun _ => ?_) (fun c => absurd c (by decide))
  refine y_go rfl rfl ?_
  refine y_go rfl rfl ?_
  refine y_V0e rfl (Nat.le_of_ble_eq_true rfl) (Nat.le_of_ble_eq_true rfl) rfl rfl (xrcv_of (has_at wL (i := 0) rfl)) (s_ensure (by omega) hW hn hD 0 (by omega) (by omega)) (fun z hz => ?_)
  clear hW hn hD wl wl2 wlM wlP wvp w0 wK wB wF wV wH wM wG wP wL wD wR
  obtain ⟨⟨vp, ml, D, hW, hn, hm, hD⟩, hk1, hk2⟩ := hz
  obtain ⟨h, k1⟩ := z
  dsimp only at hW hk1 hk2
  obtain ⟨wl, wl2, wlM, wlP, wvp, w0, wK, wB, wF, wV, wH, wM, wG, wP, wL, wD, wR⟩ := id hW
  refine y_go rfl rfl ?_
  refine y_getf (w := .int (nI n)) rfl rfl (has_at wL (i := 0) rfl) rfl ?_
  refine y_go rfl rfl ?_
  refine y_ic_ge rfl (fun _ => ?_) (fun c => absurd c (nI_nlt (a := n) (b := 0) (by omega) (by omega)))
  refine y_go rfl rfl ?_
  refine y_getf (w := .int (nI n)) rfl rfl (has_at wL (i := 0) rfl) rfl ?_
  by_cases c0 : n = 0
  · refine y_go rfl rfl ?_
    refine y_ic_le rfl (fun _ => ?_) (fun c => absurd c (nI_nlt (a := 0) (b := n) (by omega) (by decide)))
    refine y_go rfl rfl ?_
    refine y_go rfl rfl ?_
    refine y_putf rfl (has_at wL (i := 0) rfl) (Nat.le_of_ble_eq_true rfl) (xf_int rfl) ?_
    show yW S d 162 (81, [.ref 119, .int 0], [], (h.set 119 (liO vp ml 0), k1)) _
    rw [set_at wL]
    exact y_end rfl rfl ⟨(_, k1), ⟨⟨vp, _, D, W_L (ln2 := nI 0) hW, Nat.zero_le _, Nat.zero_le _, hD⟩, hk1, hk2⟩, rfl⟩
  · refine y_go rfl rfl ?_
    refine y_ic_le rfl (fun c => absurd (nI_lt (a := 0) (b := n) (by omega) (by omega)) c) (fun _ => ?_)
    refine y_go rfl rfl ?_
    refine y_go rfl rfl ?_
    refine y_putf rfl (has_at wL (i := 0) rfl) (Nat.le_of_ble_eq_true rfl) rfl ?_
    show yW S d 162 (76, [.ref 119, .int 0], [], (h.set 119 (liO vp 1 (nI n)), k1)) _
    rw [set_at wL]
    have hW2 := W_L (ml2 := 1) (ln2 := nI n) hW
    clear wl wl2 wlM wlP wvp w0 wK wB wF wV wH wM wG wP wL wD wR
    obtain ⟨wl, wl2, wlM, wlP, wvp, w0, wK, wB, wF, wV, wH, wM, wG, wP, wL, wD, wR⟩ := id hW2
    generalize put h 119 [liO vp 1 (nI n)] = h at *
    clear hW
    have hW := hW2
    refine y_go rfl rfl ?_
    refine y_go rfl rfl ?_
    refine y_putf rfl (has_at wL (i := 0) rfl) (Nat.le_of_ble_eq_true rfl) (xf_int rfl) ?_
    show yW S d 162 (81, [.ref 119, .int 0], [], (h.set 119 (liO vp 1 0), k1)) _
    rw [set_at wL]
    exact y_end rfl rfl ⟨(_, k1), ⟨⟨vp, _, D, W_L (ln2 := nI 0) hW, Nat.zero_le _, Nat.zero_le _, hD⟩, hk1, hk2⟩, rfl⟩
theorem s_sbSet0 {S : List Int32} {d : Nat} (hd : 6 ≤ d) {e f sv : Int32} {K B F V : kK} {ol sz : Nat} {R : Nat → kK} {M : List xC} {G : Nat → xC} {P : List xC} {vp : Nat} {ml : Int32} {n : Nat} {D : List Int32} {h : xH} {k0 : Nat × Nat} (hW : W0 e f sv K B F V ol sz R M G P vp ml (nI n) D h) (hn : n ≤ D.length) (hD : D.length = 16 ∨ D.length = 34 ∨ D.length = 70 ∨ D.length = 142) : yT S d 157 [.ref 119, .int 0] (h, k0) (fun r => ∃ z : xS, LN e f sv K B F V ol sz R M G P 0 0 k0 1 z ∧ r = (.inl none, z)) := by
  obtain ⟨d, rfl⟩ : ∃ e, d = e + 1 := ⟨d - 1, by omega⟩
  obtain ⟨wl, wl2, wlM, wlP, wvp, w0, wK, wB, wF, wV, wH, wM, wG, wP, wL, wD, wR⟩ := id hW
  refine yT_e (Nat.le_of_ble_eq_true rfl) ?_
  show yW S d 157 (0, [.ref 119, .int 0], [], (h, k0)) _
  refine y_go rfl rfl ?_
  refine y_go rfl rfl ?_
  refine y_I0e rfl rfl (Nat.le_of_ble_eq_true rfl) (Nat.le_of_ble_eq_true rfl) rfl rfl (xrcv_of (has_at wL (i := 0) rfl)) (s_setLen0 (by omega) hW hn hD) (fun z hz => ?_)
  exact y_end rfl rfl ⟨z, hz, rfl⟩
theorem s_app0 {S : List Int32} {d : Nat} (hd : 5 ≤ d) {e f sv : Int32} {K B F V : kK} {ol sz : Nat} {R : Nat → kK} {M : List xC} {G : Nat → xC} {P : List xC} {vp : Nat} {ml : Int32} {n : Nat} {D : List Int32} {h : xH} {k0 : Nat × Nat} (hW : W0 e f sv K B F V ol sz R M G P vp ml (nI n) D h) (hn : n ≤ D.length) (hD : D.length = 16 ∨ D.length = 34 ∨ D.length = 70 ∨ D.length = 142) (hn2 : n + 1 ≤ 142) (ch : Nat) (hc : ch < 128) : yT S d 160 [.ref 119, .int (nI ch)] (h, k0) (fun r => ∃ z : xS, LN e f sv K B F V ol sz R M G P (n + 1) 0 k0 1 z ∧ r = (.inl (some (.ref 119)), z)) := by
  obtain ⟨d, rfl⟩ : ∃ e, d = e + 1 := ⟨d - 1, by omega⟩
  obtain ⟨wl, wl2, wlM, wlP, wvp, w0, wK, wB, wF, wV, wH, wM, wG, wP, wL, wD, wR⟩ := id hW
  refine yT_e (Nat.le_of_ble_eq_true rfl) ?_
  show yW S d 160 (0, [.ref 119, .int (nI ch)], [], (h, k0)) _
  refine y_go rfl rfl ?_
  refine y_go rfl rfl ?_
  refine y_getf (w := .int (nI n)) rfl rfl (has_at wL (i := 0) rfl) rfl ?_
  refine y_go rfl rfl ?_
  refine y_go rfl rfl ?_
  rw [nI_1]
  refine y_V0e rfl (Nat.le_of_ble_eq_true rfl) (Nat.le_of_ble_eq_true rfl) rfl rfl (xrcv_of (has_at wL (i := 0) rfl)) (s_ensure (by omega) hW hn hD (n + 1) (by omega) (by omega)) (fun z hz => ?_)
  clear hW hn hD wl wl2 wlM wlP wvp w0 wK wB wF wV wH wM wG wP wL wD wR
  obtain ⟨⟨vp, ml, D, hW, hn, hm, hD⟩, hk1, hk2⟩ := hz
  obtain ⟨h, k1⟩ := z
  dsimp only at hW hk1 hk2
  obtain ⟨wl, wl2, wlM, wlP, wvp, w0, wK, wB, wF, wV, wH, wM, wG, wP, wL, wD, wR⟩ := id hW
  refine y_go rfl rfl ?_
  refine y_V1 rfl (Nat.le_of_ble_eq_true rfl) (Nat.le_of_ble_eq_true rfl) rfl rfl (xrcv_of (has_at wL (i := 0) rfl)) (s_sbLatin (by omega) hW) ?_
  refine y_if_eq rfl (fun c => absurd c (by decide)) (fun _ => ?_)
  refine y_go rfl rfl ?_
  refine y_S1 rfl rfl (Nat.le_of_ble_eq_true rfl) (Nat.le_of_ble_eq_true rfl) rfl rfl (s_canEnc (by omega) ch hc _) ?_
  refine y_if_eq rfl (fun c => absurd c (by decide)) (fun _ => ?_)
  refine y_go rfl rfl ?_
  refine y_getf (w := .ref vp) rfl rfl (has_at wL (i := 0) rfl) rfl ?_
  refine y_go rfl rfl ?_
  refine y_go rfl rfl ?_
  refine y_getf (w := .int (nI n)) rfl rfl (has_at wL (i := 0) rfl) rfl ?_
  refine y_go rfl rfl ?_
  refine y_go rfl rfl ?_
  refine y_go rfl rfl ?_
  refine y_putf rfl (has_at wL (i := 0) rfl) (Nat.le_of_ble_eq_true rfl) (xf_int rfl) ?_
  show yW S d 160 (39, [.ref 119, .int (nI ch)], [.int (nI n), .ref vp], (h.set 119 (liO vp ml (nI n + 1)), k1)) _
  rw [set_at wL, nI_1]
  have hW2 := W_L (ml2 := ml) (ln2 := nI (n + 1)) hW
  clear wl wl2 wlM wlP wvp w0 wK wB wF wV wH wM wG wP wL wD wR
  obtain ⟨wl, wl2, wlM, wlP, wvp, w0, wK, wB, wF, wV, wH, wM, wG, wP, wL, wD, wR⟩ := id hW2
  generalize put h 119 [liO vp ml (nI (n + 1))] = h at *
  clear hW
  have hW := hW2
  refine y_go rfl rfl ?_
  refine y_go rfl rfl ?_
  refine y_ast (t := 2) (j := n) rfl (Or.inr (Or.inr ⟨rfl, rfl⟩)) (has_at wD (i := 0) rfl) (xidx_nI (by omega)) (by omega) rfl ?_
  show yW S d 160 (42, [.ref 119, .int (nI ch)], [], (h.set vp (byC (D.set n (xnar 2 ((nI ch).toInt8.toInt32)))), k1)) _
  rw [set_at wD]
  refine y_go rfl rfl ?_
  refine y_go rfl rfl ?_
  exact y_end rfl rfl ⟨(_, k1), ⟨⟨vp, ml, _, W_D (List.length_set ..) hW, by rw [List.length_set]; exact hm, Nat.zero_le _, by rw [List.length_set]; exact hD⟩, hk1, hk2⟩, rfl⟩
theorem s_app {S : List Int32} {d : Nat} (hd : 6 ≤ d) {e f sv : Int32} {K B F V : kK} {ol sz : Nat} {R : Nat → kK} {M : List xC} {G : Nat → xC} {P : List xC} {vp : Nat} {ml : Int32} {n : Nat} {D : List Int32} {h : xH} {k0 : Nat × Nat} (hW : W0 e f sv K B F V ol sz R M G P vp ml (nI n) D h) (hn : n ≤ D.length) (hD : D.length = 16 ∨ D.length = 34 ∨ D.length = 70 ∨ D.length = 142) (hn2 : n + 1 ≤ 142) (ch : Nat) (hc : ch < 128) : yT S d 155 [.ref 119, .int (nI ch)] (h, k0) (fun r => ∃ z : xS, LN e f sv K B F V ol sz R M G P (n + 1) 0 k0 1 z ∧ r = (.inl (some (.ref 119)), z)) := by
  obtain ⟨d, rfl⟩ : ∃ e, d = e + 1 := ⟨d - 1, by omega⟩
  obtain ⟨wl, wl2, wlM, wlP, wvp, w0, wK, wB, wF, wV, wH, wM, wG, wP, wL, wD, wR⟩ := id hW
  refine yT_e (Nat.le_of_ble_eq_true rfl) ?_
  show yW S d 155 (0, [.ref 119, .int (nI ch)], [], (h, k0)) _
  refine y_go rfl rfl ?_
  refine y_go rfl rfl ?_
  refine y_I1e rfl rfl (Nat.le_of_ble_eq_true rfl) (Nat.le_of_ble_eq_true rfl) rfl rfl (xrcv_of (has_at wL (i := 0) rfl)) (s_app0 (by omega) hW hn hD hn2 ch hc) (fun z hz => ?_)
  refine y_go rfl rfl ?_
  refine y_go rfl rfl ?_
  exact y_end rfl rfl ⟨z, hz, rfl⟩
/-- how many digits -/
def dg (v : Nat) : Nat := if v < 10 then 1 else if v < 100 then 2 else if v < 1000 then 3 else 4
theorem dg_le (v : Nat) : 1 ≤ dg v ∧ dg v ≤ 4 := by unfold dg; (repeat' split) <;> omega
theorem ng_lt {k v : Nat} (hk : k < 2 ^ 31) (hv : v < 2 ^ 31) : -(nI k) < -(nI v) ↔ v < k := by
  have h : ∀ {x : Nat}, x < 2 ^ 31 → (-(nI x)).toInt = -(x : Int) := fun {x} hx => by
    rw [Int32.toInt_neg, nI_toInt hx]
    exact Int.bmod_eq_of_le (by omega) (by omega)
  rw [Int32.lt_iff_toInt_lt, h hk, h hv]
  omega
theorem s_size {S : List Int32} {d : Nat} (hd : 1 ≤ d) (v : Nat) (hv : v < 10000) (s : xS) : yT S d 175 [.int (nI v)] s (· = (.inl (some (.int (nI (dg v)))), s)) := by
  obtain ⟨d, rfl⟩ : ∃ e, d = e + 1 := ⟨d - 1, by omega⟩
  refine yT_eq (Nat.le_of_ble_eq_true rfl) ?_
  show yW S d 175 (0, [.int (nI v), xno, xno, xno], [], s) _
  refine y_go rfl rfl ?_
  refine y_go (g' := (2, [.int (nI v), .int 1, xno, xno], _, _)) rfl rfl ?_
  refine y_go rfl rfl ?_
  refine y_if_lt rfl (fun c => absurd c (nI_pos (by omega))) (fun _ => ?_)
  refine y_go rfl rfl ?_
  refine y_go (g' := (8, [.int (nI v), .int 0, xno, xno], _, _)) rfl rfl ?_
  refine y_go rfl rfl ?_
  refine y_go rfl rfl ?_
  refine y_go (g' := (11, [.int (-(nI v)), .int 0, xno, xno], _, _)) rfl rfl ?_
  refine y_go rfl rfl ?_
  refine y_go (g' := (14, [.int (-(nI v)), .int 0, .int (-10), xno], _, _)) rfl rfl ?_
  refine y_go rfl rfl ?_
  refine y_go (g' := (16, [.int (-(nI v)), .int 0, .int (-10), .int 1], _, _)) rfl rfl ?_
  refine y_go rfl rfl ?_
  refine y_go rfl rfl ?_
  refine y_ic_ge rfl (fun c => absurd (by decide) c) (fun _ => ?_)
  refine y_go rfl rfl ?_
  refine y_go rfl rfl ?_
  rw [show (-10 : Int32) = -(nI 10) by decide]
  by_cases g0 : v < 10
  · refine y_ic_le rfl (fun c => absurd ((ng_lt (by decide) (by omega)).mpr g0) c) (fun _ => ?_)
    refine y_go rfl rfl ?_
    refine y_go rfl rfl ?_
    refine y_go rfl rfl ?_
    exact y_ireturn rfl rfl rfl (by rw [show dg v = 1 by unfold dg; (repeat' split) <;> omega]; rfl)
  · refine y_ic_le rfl (fun _ => ?_) (fun c => absurd c (fun q => g0 ((ng_lt (by decide) (by omega)).mp q)))
    refine y_go rfl rfl ?_
    refine y_go rfl rfl ?_
    refine y_go rfl rfl ?_
    refine y_go (g' := (36, [.int (-(nI v)), .int 0, .int (10 * (-(nI 10))), .int 1], _, _)) rfl rfl ?_
    refine y_go (g' := (39, [.int (-(nI v)), .int 0, .int (10 * (-(nI 10))), .int 2], _, _)) rfl rfl ?_
    refine y_go rfl rfl ?_
    refine y_go rfl rfl ?_
    refine y_go rfl rfl ?_
    refine y_ic_ge rfl (fun c => absurd (by decide) c) (fun _ => ?_)
    refine y_go rfl rfl ?_
    refine y_go rfl rfl ?_
    rw [show (10 * (-(nI 10))) = (-(nI 100) : Int32) by decide]
    by_cases g1 : v < 100
    · refine y_ic_le rfl (fun c => absurd ((ng_lt (by decide) (by omega)).mpr g1) c) (fun _ => ?_)
      refine y_go rfl rfl ?_
      refine y_go rfl rfl ?_
      refine y_go rfl rfl ?_
      exact y_ireturn rfl rfl rfl (by rw [show dg v = 2 by unfold dg; (repeat' split) <;> omega]; rfl)
    · refine y_ic_le rfl (fun _ => ?_) (fun c => absurd c (fun q => g1 ((ng_lt (by decide) (by omega)).mp q)))
      refine y_go rfl rfl ?_
      refine y_go rfl rfl ?_
      refine y_go rfl rfl ?_
      refine y_go (g' := (36, [.int (-(nI v)), .int 0, .int (10 * (-(nI 100))), .int 2], _, _)) rfl rfl ?_
      refine y_go (g' := (39, [.int (-(nI v)), .int 0, .int (10 * (-(nI 100))), .int 3], _, _)) rfl rfl ?_
      refine y_go rfl rfl ?_
      refine y_go rfl rfl ?_
      refine y_go rfl rfl ?_
      refine y_ic_ge rfl (fun c => absurd (by decide) c) (fun _ => ?_)
      refine y_go rfl rfl ?_
      refine y_go rfl rfl ?_
      rw [show (10 * (-(nI 100))) = (-(nI 1000) : Int32) by decide]
      by_cases g2 : v < 1000
      · refine y_ic_le rfl (fun c => absurd ((ng_lt (by decide) (by omega)).mpr g2) c) (fun _ => ?_)
        refine y_go rfl rfl ?_
        refine y_go rfl rfl ?_
        refine y_go rfl rfl ?_
        exact y_ireturn rfl rfl rfl (by rw [show dg v = 3 by unfold dg; (repeat' split) <;> omega]; rfl)
      · refine y_ic_le rfl (fun _ => ?_) (fun c => absurd c (fun q => g2 ((ng_lt (by decide) (by omega)).mp q)))
        refine y_go rfl rfl ?_
        refine y_go rfl rfl ?_
        refine y_go rfl rfl ?_
        refine y_go (g' := (36, [.int (-(nI v)), .int 0, .int (10 * (-(nI 1000))), .int 3], _, _)) rfl rfl ?_
        refine y_go (g' := (39, [.int (-(nI v)), .int 0, .int (10 * (-(nI 1000))), .int 4], _, _)) rfl rfl ?_
        refine y_go rfl rfl ?_
        refine y_go rfl rfl ?_
        refine y_go rfl rfl ?_
        refine y_ic_ge rfl (fun c => absurd (by decide) c) (fun _ => ?_)
        refine y_go rfl rfl ?_
        refine y_go rfl rfl ?_
        rw [show (10 * (-(nI 1000))) = (-(nI 10000) : Int32) by decide]
        have g3 : v < 10000 := hv
        refine y_ic_le rfl (fun c => absurd ((ng_lt (by decide) (by omega)).mpr g3) c) (fun _ => ?_)
        refine y_go rfl rfl ?_
        refine y_go rfl rfl ?_
        refine y_go rfl rfl ?_
        exact y_ireturn rfl rfl rfl (by rw [show dg v = 4 by unfold dg; (repeat' split) <;> omega]; rfl)
