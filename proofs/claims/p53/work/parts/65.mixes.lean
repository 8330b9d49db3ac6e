/-! THE KILN AS A WHOLE: mixtures and walls. -/
theorem kp_eq {K : kK} (h : kp K) : K.2.2.2.2.1 = [nI (pN K 0), nI (pN K 1), nI (pN K 2)] ∧ K.2.2.2.2.2 = [nI (rN K 0), nI (rN K 1), nI (rN K 2)] ∧ pN K 0 ≤ 99 ∧ pN K 1 ≤ 99 ∧ pN K 2 ≤ 99 ∧ rN K 0 ≤ 20 ∧ rN K 1 ≤ 20 ∧ rN K 2 ≤ 20 := by
  obtain ⟨W, C, O, a, b, c, h1, h2, h3, h4, h5, h6, e1, e2⟩ := h
  have p0 : pN K 0 = W := by unfold pN; rw [e1]; exact nI_back (by omega)
  have p1 : pN K 1 = C := by unfold pN; rw [e1]; exact nI_back (by omega)
  have p2 : pN K 2 = O := by unfold pN; rw [e1]; exact nI_back (by omega)
  have r0 : rN K 0 = a := by unfold rN; rw [e2]; exact nI_back (by omega)
  have r1 : rN K 1 = b := by unfold rN; rw [e2]; exact nI_back (by omega)
  have r2 : rN K 2 = c := by unfold rN; rw [e2]; exact nI_back (by omega)
  rw [p0, p1, p2, r0, r1, r2]
  exact ⟨e1, e2, h1, h2, h3, h4, h5, h6⟩
/-- the best mixture of a kiln's fuels, its cost, the cost by the table -/
def bst (K : kK) (u : Nat) : Option (Nat × (Nat × Nat)) := bestM (pN K 0) (pN K 1) (pN K 2) (rN K 0) (rN K 1) (rN K 2) u
def tbl (K : kK) (u : Nat) : Int32 := tabR (pN K 0) (pN K 1) (pN K 2) (rN K 0) (rN K 1) (rN K 2) u
def bcst (K : kK) (u : Nat) : Int32 := match bst K u with
  | none => -4
  | some (w, c, o) => nI (mcost (rN K 0) (rN K 1) (rN K 2) w c o)
def bpc (K : kK) (u : Nat) (k : Nat) : Int32 := match bst K u with
  | none => -4
  | some (w, c, o) => gd [nI w, nI c, nI o] k
theorem bcst_none {K : kK} {u : Nat} (h : bst K u = none) : bcst K u = -4 := by unfold bcst; rw [h]
theorem bcst_some {K : kK} {u w c o : Nat} (h : bst K u = some (w, c, o)) : bcst K u = nI (mcost (rN K 0) (rN K 1) (rN K 2) w c o) := by unfold bcst; rw [h]
theorem bpc_none {K : kK} {u k : Nat} (h : bst K u = none) : bpc K u k = -4 := by unfold bpc; rw [h]
theorem bpc_some {K : kK} {u k w c o : Nat} (h : bst K u = some (w, c, o)) : bpc K u k = gd [nI w, nI c, nI o] k := by unfold bpc; rw [h]
/-- what the mixer holds behind a search -/
def mxB (K : kK) (u : Nat) (M : List xC) : Prop := mxOK M ∧ ∀ w c o, bst K u = some (w, c, o) → ∃ lo, M = mC 75 lo [nI w, nI c, nI o] (nI (mcost (rN K 0) (rN K 1) (rN K 2) w c o)) (nI (mheat w c o)) 1
theorem w_tabR {S : List Int32} {d : Nat} (hd : 2 ≤ d) {e f sv : Int32} {K B F V : kK} {ol sz : Nat} {R : Nat → kK} {M : List xC} {G : Nat → xC} {P : List xC} {vp : Nat} {ml ln : Int32} {D : List Int32} {h : xH} {k0 : Nat × Nat} (hW : W0 e f sv K B F V ol sz R M G P vp ml ln D h) (hM : mxOK M) (hp : kp K) (u : Nat) (hu : u ≤ 200) : yT S d 43 [.ref 75, .ref (1 + 4), .ref (1 + 5), .int (nI u)] (h, k0) (fun r => ∃ h2, (∃ M2, mxOK M2 ∧ W0 e f sv K B F V ol sz R M2 G P vp ml ln D h2) ∧ r = (.inl (some (.int (tbl K u))), (h2, k0))) := by
  obtain ⟨wl, wl2, wlM, wlP, wvp, w0, wK, wB, wF, wV, wH, wM, wG, wP, wL, wD, wR⟩ := id hW
  obtain ⟨e1, e2, q1, q2, q3, q4, q5, q6⟩ := kp_eq hp
  obtain ⟨lo, x, y, z, cc, t, fo, hlo, rfl⟩ := hM
  have l2 := has_len wM (by show 0 < 3; decide)
  have hs1 : h[1 + 4]? = some (.inr (.inl (0, [nI (pN K 0), nI (pN K 1), nI (pN K 2)]))) := by rw [← e1]; exact has_at wK (i := 4) rfl
  have hs2 : h[1 + 5]? = some (.inr (.inl (0, [nI (rN K 0), nI (rN K 1), nI (rN K 2)]))) := by rw [← e2]; exact has_at wK (i := 5) rfl
  have hT := s_cheapest (S := S) (p := 75) hd l2 wl k0 [x, y, z] cc t fo u hu _ _ _ _ _ _ hs1 hs2 (by decide) (by decide) q1 q2 q3 q4 q5 q6 hlo
  rw [W_self wM (by show 0 < 3; decide)] at hT
  refine yT_mono hT fun r hr => ?_
  obtain ⟨lo2, h2, hr⟩ := hr
  exact ⟨_, ⟨_, ⟨lo2, x, y, z, cc, t, fo, h2, rfl⟩, W_M rfl hW⟩, hr⟩
theorem w_bst {S : List Int32} {d : Nat} (hd : 3 ≤ d) {e f sv : Int32} {K B F V : kK} {ol sz : Nat} {R : Nat → kK} {M : List xC} {G : Nat → xC} {P : List xC} {vp : Nat} {ml ln : Int32} {D : List Int32} {h : xH} {k0 : Nat × Nat} (hW : W0 e f sv K B F V ol sz R M G P vp ml ln D h) (hM : mxOK M) (hp : kp K) (u : Nat) (hu : u ≤ 200) : yT S d 45 [.ref 75, .ref (1 + 4), .ref (1 + 5), .int (nI u)] (h, k0) (fun r => ∃ h2, (∃ M2, mxB K u M2 ∧ W0 e f sv K B F V ol sz R M2 G P vp ml ln D h2) ∧ r = (.inl (some (.int (if (bst K u).isSome = true then 1 else 0))), (h2, k0))) := by
  obtain ⟨wl, wl2, wlM, wlP, wvp, w0, wK, wB, wF, wV, wH, wM, wG, wP, wL, wD, wR⟩ := id hW
  obtain ⟨e1, e2, q1, q2, q3, q4, q5, q6⟩ := kp_eq hp
  obtain ⟨lo, x, y, z, cc, t, fo, hlo, rfl⟩ := hM
  have l2 := has_len wM (by show 0 < 3; decide)
  have hs1 : h[1 + 4]? = some (.inr (.inl (0, [nI (pN K 0), nI (pN K 1), nI (pN K 2)]))) := by rw [← e1]; exact has_at wK (i := 4) rfl
  have hs2 : h[1 + 5]? = some (.inr (.inl (0, [nI (rN K 0), nI (rN K 1), nI (rN K 2)]))) := by rw [← e2]; exact has_at wK (i := 5) rfl
  have hT := s_findBest (S := S) (p := 75) hd l2 wl k0 lo _ _ _ _ _ _ u hs1 hs2 (by decide) (by decide) q1 q2 q3 hu x y z cc t fo
  rw [W_self wM (by show 0 < 3; decide)] at hT
  refine yT_mono hT fun r hr => ?_
  obtain ⟨cs, hcs, hr⟩ := hr
  refine ⟨_, ⟨cs, ⟨?_, fun w c o hb => ?_⟩, W_M (mixR_len hcs) hW⟩, hr⟩
  · obtain ⟨x2, y2, z2, c2, t2, f2, rfl⟩ := mixR_ex hcs
    exact ⟨lo, x2, y2, z2, c2, t2, f2, hlo, rfl⟩
  · rw [show bestM (pN K 0) (pN K 1) (pN K 2) (rN K 0) (rN K 1) (rN K 2) u = some (w, c, o) from hb] at hcs
    exact ⟨lo, hcs⟩
theorem w_rcvM {M : List xC} {h : xH} {k0 : Nat × Nat} (hM : mxOK M) (wM : has h 75 M) : xrcv 7 (h, k0) (.ref 75) = true := by
  obtain ⟨lo, x, y, z, cc, t, fo, -, rfl⟩ := hM
  exact xrcv_of (has_at wM (i := 0) rfl)
theorem w_rcvG {G : Nat → xC} {h : xH} {k0 : Nat × Nat} (hG : cg 78 xJ xCt G) (wG : has h 78 (rg 35 G)) : xrcv 4 (h, k0) (.ref 78) = true := by
  obtain ⟨X, U, a1, a2, b1, b2, Y, V, M, ha, hb, g0, -⟩ := hG
  exact xrcv_of (wG 0 _ ((rg_get (by decide)).trans (congrArg some g0)))
def wcn (w k : Nat) : Int64 := sumL (wy (xJ w) (xCn w) (k - 1)) (xCn w)
def fwb (w k : Nat) : Int32 := lbk (xJ w) (xCn w) (k - 1)
theorem w_tabG {S : List Int32} {d : Nat} (hd : 3 ≤ d) {e f sv : Int32} {K B F V : kK} {ol sz : Nat} {R : Nat → kK} {M : List xC} {G : Nat → xC} {P : List xC} {vp : Nat} {ml ln : Int32} {D : List Int32} {h : xH} {k0 : Nat × Nat} (hW : W0 e f sv K B F V ol sz R M G P vp ml ln D h) (hG : cg 78 xJ xCt G) (w k : Nat) (hw : w < 19) (hk : k ≤ 8) (hk1 : 1 ≤ k) : yT S d 3 [.ref 78, .int (nI w), .int (nI k)] (h, k0) (fun r => ∃ h2, (∃ G2, cg 78 xJ xCt G2 ∧ W0 e f sv K B F V ol sz R M G2 P vp ml ln D h2) ∧ r = (.inl (some (.long (wcn w k))), (h2, k0))) := by
  obtain ⟨wl, wl2, wlM, wlP, wvp, w0, wK, wB, wF, wV, wH, wM, wG, wP, wL, wD, wR⟩ := id hW
  have l2 := has_len wG (by rw [rg_len]; decide)
  rw [rg_len] at l2
  have hJ := xJ_ok.2 w hw
  have hT := s_byTable (S := S) (p := 78) hd l2 k0 xJ xCt G hG w (xCn w) hw hJ.2.2 hJ.1 k hk hk1 xJ_ok.1 hJ.2.1
  rw [W_self wG (by rw [rg_len]; decide)] at hT
  refine yT_mono hT fun r hr => ?_
  obtain ⟨G2, hG2, hr⟩ := hr
  exact ⟨_, ⟨G2, hG2, W_G hW⟩, hr⟩
theorem w_memG {S : List Int32} {d : Nat} (hd : 11 ≤ d) {e f sv : Int32} {K B F V : kK} {ol sz : Nat} {R : Nat → kK} {M : List xC} {G : Nat → xC} {P : List xC} {vp : Nat} {ml ln : Int32} {D : List Int32} {h : xH} {k0 : Nat × Nat} (hW : W0 e f sv K B F V ol sz R M G P vp ml ln D h) (hG : cg 78 xJ xCt G) (w k : Nat) (hw : w < 19) (hk : k ≤ 8) (hk1 : 1 ≤ k) : yT S d 5 [.ref 78, .int (nI w), .int (nI k)] (h, k0) (fun r => ∃ h2, (∃ G2, cg 78 xJ xCt G2 ∧ W0 e f sv K B F V ol sz R M G2 P vp ml ln D h2) ∧ r = (.inl (some (.long (wcn w k))), (h2, k0))) := by
  obtain ⟨wl, wl2, wlM, wlP, wvp, w0, wK, wB, wF, wV, wH, wM, wG, wP, wL, wD, wR⟩ := id hW
  have l2 := has_len wG (by rw [rg_len]; decide)
  rw [rg_len] at l2
  have hJ := xJ_ok.2 w hw
  have hT := s_byMemory (S := S) (p := 78) hd l2 k0 xJ xCt G hG w (xCn w) hw hJ.2.2 hJ.1 k hk hk1 xJ_ok.1 hJ.2.1
  rw [W_self wG (by rw [rg_len]; decide)] at hT
  refine yT_mono hT fun r hr => ?_
  obtain ⟨G2, hG2, hr⟩ := hr
  exact ⟨_, ⟨G2, hG2, W_G hW⟩, hr⟩
theorem w_fewG {S : List Int32} {d : Nat} (hd : 5 ≤ d) {e f sv : Int32} {K B F V : kK} {ol sz : Nat} {R : Nat → kK} {M : List xC} {G : Nat → xC} {P : List xC} {vp : Nat} {ml ln : Int32} {D : List Int32} {h : xH} {k0 : Nat × Nat} (hW : W0 e f sv K B F V ol sz R M G P vp ml ln D h) (hG : cg 78 xJ xCt G) (w k : Nat) (hw : w < 19) (hk : k ≤ 8) (hk1 : 1 ≤ k) : yT S d 7 [.ref 78, .int (nI w), .int (nI k)] (h, k0) (fun r => ∃ h2, (∃ G2, cg 78 xJ xCt G2 ∧ W0 e f sv K B F V ol sz R M G2 P vp ml ln D h2) ∧ r = (.inl (some (.int (fwb w k))), (h2, k0))) := by
  obtain ⟨wl, wl2, wlM, wlP, wvp, w0, wK, wB, wF, wV, wH, wM, wG, wP, wL, wD, wR⟩ := id hW
  have l2 := has_len wG (by rw [rg_len]; decide)
  rw [rg_len] at l2
  have hJ := xJ_ok.2 w hw
  have hT := s_leastBricks (S := S) (p := 78) hd l2 k0 xJ xCt G hG w (xCn w) hw hJ.2.2 hJ.1 k hk hk1 xJ_ok.1 hJ.2.1
  rw [W_self wG (by rw [rg_len]; decide)] at hT
  refine yT_mono hT fun r hr => ?_
  obtain ⟨G2, hG2, hr⟩ := hr
  exact ⟨_, ⟨G2, hG2, W_G hW⟩, hr⟩
theorem nIr {u l m : Nat} (hl : l < 2 ^ 31) (hm : m < 2 ^ 31) (h : l ≤ u ∧ u ≤ m) : ¬ (nI u < nI l ∨ nI m < nI u) := fun q => xout (u := u) (l := l) (m := m) (by omega) hl hm q h
theorem q_byTable {S : List Int32} {d : Nat} (hd : 8 ≤ d) {e f sv : Int32} {K V : kK} {ol sz : Nat} {R : Nat → kK} {T : List Int32} {h : xH} (hW2 : W2 e f sv K V ol sz R T h) (k0 : Nat × Nat) (u : Nat) (hu : 1 ≤ u ∧ u ≤ 200) : yT S d 118 [.ref 0, .int (nI u)] (h, k0) (fun r => ∃ h2, W2 e f sv K V ol sz R T h2 ∧ r = (.inl (some (.int (tbl K u))), (h2, k0))) := by
  have hW2c := hW2
  obtain ⟨B, F, P, vp, ml, ln, D, ⟨M, G, hM, hG, hW⟩, kB, kF, kV, kK2, hR, hol, hsz, hP, hL⟩ := hW2
  obtain ⟨wl, wl2, wlM, wlP, wvp, w0, wK, wB, wF, wV, wH, wM, wG, wP, wL, wD, wR⟩ := id hW
  have lK : 1 + 6 ≤ h.length := has_len wK (by show 0 < 6; decide)
  obtain ⟨d, rfl⟩ : ∃ e, d = e + 1 := ⟨d - 1, by omega⟩
  refine yT_e (Nat.le_of_ble_eq_true rfl) ?_
  show yW S d 118 (0, [.ref 0, .int (nI u)], [], (h, k0)) _
  refine y_go rfl rfl ?_
  refine y_getf (w := .ref 75) rfl rfl (has_at w0 (i := 0) rfl) rfl ?_
  refine y_go rfl rfl ?_
  refine y_getf (w := .ref 1) rfl rfl (has_at w0 (i := 0) rfl) rfl ?_
  refine y_getf (w := .ref (1 + 4)) rfl rfl (has_at wK (i := 0) rfl) rfl ?_
  refine y_go rfl rfl ?_
  refine y_getf (w := .ref 1) rfl rfl (has_at w0 (i := 0) rfl) rfl ?_
  refine y_getf (w := .ref (1 + 5)) rfl rfl (has_at wK (i := 0) rfl) rfl ?_
  refine y_go rfl rfl ?_
  refine y_V1e rfl (Nat.le_of_ble_eq_true rfl) (Nat.le_of_ble_eq_true rfl) rfl rfl (w_rcvM hM wM) (w_tabR (by omega) hW hM kK2.2 u hu.2) (fun h3 hz => ?_)
  obtain ⟨M2, hM2, hz2⟩ := hz
  exact y_ireturn rfl rfl rfl ⟨h3, ⟨_, _, _, _, _, _, _, ⟨_, _, hM2, hG, hz2⟩, kB, kF, kV, kK2, hR, hol, hsz, hP, hL⟩, rfl⟩
theorem q_byTrying {S : List Int32} {d : Nat} (hd : 8 ≤ d) {e f sv : Int32} {K V : kK} {ol sz : Nat} {R : Nat → kK} {T : List Int32} {h : xH} (hW2 : W2 e f sv K V ol sz R T h) (k0 : Nat × Nat) (u : Nat) (hu : 1 ≤ u ∧ u ≤ 200) : yT S d 119 [.ref 0, .int (nI u)] (h, k0) (fun r => ∃ h2, W2 e f sv K V ol sz R T h2 ∧ r = (.inl (some (.int (bcst K u))), (h2, k0))) := by
  have hW2c := hW2
  obtain ⟨B, F, P, vp, ml, ln, D, ⟨M, G, hM, hG, hW⟩, kB, kF, kV, kK2, hR, hol, hsz, hP, hL⟩ := hW2
  obtain ⟨wl, wl2, wlM, wlP, wvp, w0, wK, wB, wF, wV, wH, wM, wG, wP, wL, wD, wR⟩ := id hW
  have lK : 1 + 6 ≤ h.length := has_len wK (by show 0 < 6; decide)
  obtain ⟨d, rfl⟩ : ∃ e, d = e + 1 := ⟨d - 1, by omega⟩
  refine yT_e (Nat.le_of_ble_eq_true rfl) ?_
  show yW S d 119 (0, [.ref 0, .int (nI u)], [], (h, k0)) _
  refine y_go rfl rfl ?_
  refine y_getf (w := .ref 75) rfl rfl (has_at w0 (i := 0) rfl) rfl ?_
  refine y_go rfl rfl ?_
  refine y_getf (w := .ref 1) rfl rfl (has_at w0 (i := 0) rfl) rfl ?_
  refine y_getf (w := .ref (1 + 4)) rfl rfl (has_at wK (i := 0) rfl) rfl ?_
  refine y_go rfl rfl ?_
  refine y_getf (w := .ref 1) rfl rfl (has_at w0 (i := 0) rfl) rfl ?_
  refine y_getf (w := .ref (1 + 5)) rfl rfl (has_at wK (i := 0) rfl) rfl ?_
  refine y_go rfl rfl ?_
  refine y_V1e rfl (Nat.le_of_ble_eq_true rfl) (Nat.le_of_ble_eq_true rfl) rfl rfl (w_rcvM hM wM) (w_bst (by omega) hW hM kK2.2 u hu.2) (fun h3 hz => ?_)
  obtain ⟨M2, ⟨hM2, hB2⟩, hz2⟩ := hz
  clear wl wl2 wlM wlP wvp w0 wK wB wF wV wH wM wG wP wL wD wR
  obtain ⟨wl, wl2, wlM, wlP, wvp, w0, wK, wB, wF, wV, wH, wM, wG, wP, wL, wD, wR⟩ := id hz2
  cases hb : bst K u with
  | none =>
    show yW S d 119 (22, [.ref 0, .int (nI u)], [.int 0], (h3, k0)) _
    refine y_if_eq rfl (fun _ => ?_) (fun c => absurd (by decide) c)
    refine y_go rfl rfl ?_
    exact y_ireturn rfl rfl rfl ⟨h3, ⟨_, _, _, _, _, _, _, ⟨_, _, hM2, hG, hz2⟩, kB, kF, kV, kK2, hR, hol, hsz, hP, hL⟩, by rw [bcst_none hb]⟩
  | some m =>
    obtain ⟨w, c, o⟩ := m
    obtain ⟨lo, hlo⟩ := hB2 w c o hb
    have wM3 := wM
    rw [hlo] at wM3
    show yW S d 119 (22, [.ref 0, .int (nI u)], [.int 1], (h3, k0)) _
    refine y_if_eq rfl (fun c => absurd c (by decide)) (fun _ => ?_)
    refine y_go rfl rfl ?_
    refine y_getf (w := .ref 75) rfl rfl (has_at w0 (i := 0) rfl) rfl ?_
    refine y_getf (w := .int (nI (mcost (rN K 0) (rN K 1) (rN K 2) w c o))) rfl rfl (has_at wM3 (i := 0) rfl) rfl ?_
    refine y_go rfl rfl ?_
    exact y_ireturn rfl rfl rfl ⟨h3, ⟨_, _, _, _, _, _, _, ⟨_, _, hM2, hG, hz2⟩, kB, kF, kV, kK2, hR, hol, hsz, hP, hL⟩, by rw [bcst_some hb]⟩
theorem q_lowest {S : List Int32} {d : Nat} (hd : 10 ≤ d) {e f sv : Int32} {K V : kK} {ol sz : Nat} {R : Nat → kK} {T : List Int32} {h : xH} (hW2 : W2 e f sv K V ol sz R T h) (k0 : Nat × Nat) (u : Nat) (hu : 1 ≤ u ∧ u ≤ 200) : yT S d 86 [.ref 0, .int (nI u)] (h, k0) (ansP (tbl K u) (W2 e f sv K V ol sz R T) k0) := by
  have hW2c := hW2
  obtain ⟨B, F, P, vp, ml, ln, D, ⟨M, G, hM, hG, hW⟩, kB, kF, kV, kK2, hR, hol, hsz, hP, hL⟩ := hW2
  obtain ⟨wl, wl2, wlM, wlP, wvp, w0, wK, wB, wF, wV, wH, wM, wG, wP, wL, wD, wR⟩ := id hW
  have lK : 1 + 6 ≤ h.length := has_len wK (by show 0 < 6; decide)
  obtain ⟨d, rfl⟩ : ∃ e, d = e + 1 := ⟨d - 1, by omega⟩
  have hr : ¬ (nI u < 1 ∨ 200 < nI u) := nIr (u := u) (l := 1) (m := 200) (by decide) (by decide) hu
  refine yT_x rfl (Nat.le_of_ble_eq_true rfl) ?_
  show yW S d 86 (0, [.ref 0, .int (nI u)], [], (h, k0)) _
  refine y_go rfl rfl ?_
  refine y_go rfl rfl ?_
  refine y_go rfl rfl ?_
  refine y_S0 rfl rfl (Nat.le_of_ble_eq_true rfl) (Nat.le_of_ble_eq_true rfl) rfl rfl (s_needWithin (by omega) _ _ _ hr _) ?_
  refine y_go rfl rfl ?_
  refine y_go rfl rfl ?_
  refine y_V1e rfl (Nat.le_of_ble_eq_true rfl) (Nat.le_of_ble_eq_true rfl) rfl rfl (xrcv_of (has_at w0 (i := 0) rfl)) (q_byTable (by omega) hW2c k0 u hu) (fun h3 hz => ?_)
  cases hx : xcode (tbl K u) with
  | some E => exact y_Sx rfl rfl (Nat.le_of_ble_eq_true rfl) (Nat.le_of_ble_eq_true rfl) rfl (s_ansX (by omega) hx _) rfl (Or.inr ⟨E, hx, h3, hz, rfl⟩)
  | none =>
    refine y_S1 rfl rfl (Nat.le_of_ble_eq_true rfl) (Nat.le_of_ble_eq_true rfl) rfl rfl (s_ans0 (by omega) hx _) ?_
    exact y_ireturn rfl rfl rfl (Or.inl ⟨hx, h3, hz, rfl⟩)
theorem q_lowestT {S : List Int32} {d : Nat} (hd : 10 ≤ d) {e f sv : Int32} {K V : kK} {ol sz : Nat} {R : Nat → kK} {T : List Int32} {h : xH} (hW2 : W2 e f sv K V ol sz R T h) (k0 : Nat × Nat) (u : Nat) (hu : 1 ≤ u ∧ u ≤ 200) : yT S d 87 [.ref 0, .int (nI u)] (h, k0) (ansP (bcst K u) (W2 e f sv K V ol sz R T) k0) := by
  have hW2c := hW2
  obtain ⟨B, F, P, vp, ml, ln, D, ⟨M, G, hM, hG, hW⟩, kB, kF, kV, kK2, hR, hol, hsz, hP, hL⟩ := hW2
  obtain ⟨wl, wl2, wlM, wlP, wvp, w0, wK, wB, wF, wV, wH, wM, wG, wP, wL, wD, wR⟩ := id hW
  have lK : 1 + 6 ≤ h.length := has_len wK (by show 0 < 6; decide)
  obtain ⟨d, rfl⟩ : ∃ e, d = e + 1 := ⟨d - 1, by omega⟩
  have hr : ¬ (nI u < 1 ∨ 200 < nI u) := nIr (u := u) (l := 1) (m := 200) (by decide) (by decide) hu
  refine yT_x rfl (Nat.le_of_ble_eq_true rfl) ?_
  show yW S d 87 (0, [.ref 0, .int (nI u)], [], (h, k0)) _
  refine y_go rfl rfl ?_
  refine y_go rfl rfl ?_
  refine y_go rfl rfl ?_
  refine y_S0 rfl rfl (Nat.le_of_ble_eq_true rfl) (Nat.le_of_ble_eq_true rfl) rfl rfl (s_needWithin (by omega) _ _ _ hr _) ?_
  refine y_go rfl rfl ?_
  refine y_go rfl rfl ?_
  refine y_V1e rfl (Nat.le_of_ble_eq_true rfl) (Nat.le_of_ble_eq_true rfl) rfl rfl (xrcv_of (has_at w0 (i := 0) rfl)) (q_byTrying (by omega) hW2c k0 u hu) (fun h3 hz => ?_)
  cases hx : xcode (bcst K u) with
  | some E => exact y_Sx rfl rfl (Nat.le_of_ble_eq_true rfl) (Nat.le_of_ble_eq_true rfl) rfl (s_ansX (by omega) hx _) rfl (Or.inr ⟨E, hx, h3, hz, rfl⟩)
  | none =>
    refine y_S1 rfl rfl (Nat.le_of_ble_eq_true rfl) (Nat.le_of_ble_eq_true rfl) rfl rfl (s_ans0 (by omega) hx _) ?_
    exact y_ireturn rfl rfl rfl (Or.inl ⟨hx, h3, hz, rfl⟩)
theorem q_pieces0 {S : List Int32} {d : Nat} (hd : 10 ≤ d) {e f sv : Int32} {K V : kK} {ol sz : Nat} {R : Nat → kK} {T : List Int32} {h : xH} (hW2 : W2 e f sv K V ol sz R T h) (k0 : Nat × Nat) (u : Nat) (hu : 1 ≤ u ∧ u ≤ 200) : yT S d 88 [.ref 0, .int 119, .int (nI u)] (h, k0) (ansP (bpc K u 0) (W2 e f sv K V ol sz R T) k0) := by
  have hW2c := hW2
  obtain ⟨B, F, P, vp, ml, ln, D, ⟨M, G, hM, hG, hW⟩, kB, kF, kV, kK2, hR, hol, hsz, hP, hL⟩ := hW2
  obtain ⟨wl, wl2, wlM, wlP, wvp, w0, wK, wB, wF, wV, wH, wM, wG, wP, wL, wD, wR⟩ := id hW
  have lK : 1 + 6 ≤ h.length := has_len wK (by show 0 < 6; decide)
  obtain ⟨d, rfl⟩ : ∃ e, d = e + 1 := ⟨d - 1, by omega⟩
  have hr : ¬ (nI u < 1 ∨ 200 < nI u) := nIr (u := u) (l := 1) (m := 200) (by decide) (by decide) hu
  refine yT_x rfl (Nat.le_of_ble_eq_true rfl) ?_
  show yW S d 88 (0, [.ref 0, .int 119, .int (nI u), xno, xno], [], (h, k0)) _
  refine y_go rfl rfl ?_
  refine y_S1 rfl rfl (Nat.le_of_ble_eq_true rfl) (Nat.le_of_ble_eq_true rfl) rfl rfl (s_neededKind (by omega) _ (by decide) _) ?_
  refine y_go (g' := (5, [.ref 0, .int 119, .int (nI u), .int (xkind 119), xno], _, _)) rfl rfl ?_
  refine y_go rfl rfl ?_
  refine y_go rfl rfl ?_
  refine y_go rfl rfl ?_
  refine y_S0 rfl rfl (Nat.le_of_ble_eq_true rfl) (Nat.le_of_ble_eq_true rfl) rfl rfl (s_needWithin (by omega) _ _ _ hr _) ?_
  refine y_go rfl rfl ?_
  refine y_getf (w := .ref 75) rfl rfl (has_at w0 (i := 0) rfl) rfl ?_
  refine y_go rfl rfl ?_
  refine y_getf (w := .ref 1) rfl rfl (has_at w0 (i := 0) rfl) rfl ?_
  refine y_getf (w := .ref (1 + 4)) rfl rfl (has_at wK (i := 0) rfl) rfl ?_
  refine y_go rfl rfl ?_
  refine y_getf (w := .ref 1) rfl rfl (has_at w0 (i := 0) rfl) rfl ?_
  refine y_getf (w := .ref (1 + 5)) rfl rfl (has_at wK (i := 0) rfl) rfl ?_
  refine y_go rfl rfl ?_
  refine y_V1e rfl (Nat.le_of_ble_eq_true rfl) (Nat.le_of_ble_eq_true rfl) rfl rfl (w_rcvM hM wM) (w_bst (by omega) hW hM kK2.2 u hu.2) (fun h3 hz => ?_)
  obtain ⟨M2, ⟨hM2, hB2⟩, hz2⟩ := hz
  clear wl wl2 wlM wlP wvp w0 wK wB wF wV wH wM wG wP wL wD wR
  obtain ⟨wl, wl2, wlM, wlP, wvp, w0, wK, wB, wF, wV, wH, wM, wG, wP, wL, wD, wR⟩ := id hz2
  cases hb : bst K u with
  | none =>
    show yW S d 88 (35, [.ref 0, .int 119, .int (nI u), .int (xkind 119), xno], [.int 0], (h3, k0)) _
    refine y_go (g' := (37, [.ref 0, .int 119, .int (nI u), .int (xkind 119), .int 0], _, _)) rfl rfl ?_
    refine y_go rfl rfl ?_
    refine y_if_eq rfl (fun _ => ?_) (fun c => absurd (by decide) c)
    refine y_go (g' := (56, [.ref 0, .int 119, .int (nI u), .int (xkind 119), .int 0], [.int (bpc K u 0)], _, _)) rfl (by rw [bpc_none hb]; rfl) ?_
    cases hx : xcode (bpc K u 0) with
    | some E => exact y_Sx rfl rfl (Nat.le_of_ble_eq_true rfl) (Nat.le_of_ble_eq_true rfl) rfl (s_ansX (by omega) hx _) rfl (Or.inr ⟨E, hx, h3, ⟨_, _, _, _, _, _, _, ⟨_, _, hM2, hG, hz2⟩, kB, kF, kV, kK2, hR, hol, hsz, hP, hL⟩, rfl⟩)
    | none =>
      refine y_S1 rfl rfl (Nat.le_of_ble_eq_true rfl) (Nat.le_of_ble_eq_true rfl) rfl rfl (s_ans0 (by omega) hx _) ?_
      exact y_ireturn rfl rfl rfl (Or.inl ⟨hx, h3, ⟨_, _, _, _, _, _, _, ⟨_, _, hM2, hG, hz2⟩, kB, kF, kV, kK2, hR, hol, hsz, hP, hL⟩, rfl⟩)
  | some m =>
    obtain ⟨w, c, o⟩ := m
    obtain ⟨lo, hlo⟩ := hB2 w c o hb
    have wM3 := wM
    rw [hlo] at wM3
    show yW S d 88 (35, [.ref 0, .int 119, .int (nI u), .int (xkind 119), xno], [.int 1], (h3, k0)) _
    refine y_go (g' := (37, [.ref 0, .int 119, .int (nI u), .int (xkind 119), .int 1], _, _)) rfl rfl ?_
    refine y_go rfl rfl ?_
    refine y_if_eq rfl (fun c => absurd c (by decide)) (fun _ => ?_)
    refine y_go rfl rfl ?_
    refine y_getf (w := .ref 75) rfl rfl (has_at w0 (i := 0) rfl) rfl ?_
    refine y_getf (w := .ref 77) rfl rfl (has_at wM3 (i := 0) rfl) rfl ?_
    refine y_go rfl rfl ?_
    refine y_ald (t := 0) (j := 0) (l := [nI w, nI c, nI o]) (x := bpc K u 0) rfl (Or.inl ⟨rfl, rfl⟩) (has_at wM3 (i := 2) rfl) (by decide) (by rw [bpc_some hb]; rfl) ?_
    refine y_go rfl rfl ?_
    cases hx : xcode (bpc K u 0) with
    | some E => exact y_Sx rfl rfl (Nat.le_of_ble_eq_true rfl) (Nat.le_of_ble_eq_true rfl) rfl (s_ansX (by omega) hx _) rfl (Or.inr ⟨E, hx, h3, ⟨_, _, _, _, _, _, _, ⟨_, _, hM2, hG, hz2⟩, kB, kF, kV, kK2, hR, hol, hsz, hP, hL⟩, rfl⟩)
    | none =>
      refine y_S1 rfl rfl (Nat.le_of_ble_eq_true rfl) (Nat.le_of_ble_eq_true rfl) rfl rfl (s_ans0 (by omega) hx _) ?_
      exact y_ireturn rfl rfl rfl (Or.inl ⟨hx, h3, ⟨_, _, _, _, _, _, _, ⟨_, _, hM2, hG, hz2⟩, kB, kF, kV, kK2, hR, hol, hsz, hP, hL⟩, rfl⟩)
theorem q_pieces1 {S : List Int32} {d : Nat} (hd : 10 ≤ d) {e f sv : Int32} {K V : kK} {ol sz : Nat} {R : Nat → kK} {T : List Int32} {h : xH} (hW2 : W2 e f sv K V ol sz R T h) (k0 : Nat × Nat) (u : Nat) (hu : 1 ≤ u ∧ u ≤ 200) : yT S d 88 [.ref 0, .int 99, .int (nI u)] (h, k0) (ansP (bpc K u 1) (W2 e f sv K V ol sz R T) k0) := by
  have hW2c := hW2
  obtain ⟨B, F, P, vp, ml, ln, D, ⟨M, G, hM, hG, hW⟩, kB, kF, kV, kK2, hR, hol, hsz, hP, hL⟩ := hW2
  obtain ⟨wl, wl2, wlM, wlP, wvp, w0, wK, wB, wF, wV, wH, wM, wG, wP, wL, wD, wR⟩ := id hW
  have lK : 1 + 6 ≤ h.length := has_len wK (by show 0 < 6; decide)
  obtain ⟨d, rfl⟩ : ∃ e, d = e + 1 := ⟨d - 1, by omega⟩
  have hr : ¬ (nI u < 1 ∨ 200 < nI u) := nIr (u := u) (l := 1) (m := 200) (by decide) (by decide) hu
  refine yT_x rfl (Nat.le_of_ble_eq_true rfl) ?_
  show yW S d 88 (0, [.ref 0, .int 99, .int (nI u), xno, xno], [], (h, k0)) _
  refine y_go rfl rfl ?_
  refine y_S1 rfl rfl (Nat.le_of_ble_eq_true rfl) (Nat.le_of_ble_eq_true rfl) rfl rfl (s_neededKind (by omega) _ (by decide) _) ?_
  refine y_go (g' := (5, [.ref 0, .int 99, .int (nI u), .int (xkind 99), xno], _, _)) rfl rfl ?_
  refine y_go rfl rfl ?_
  refine y_go rfl rfl ?_
  refine y_go rfl rfl ?_
  refine y_S0 rfl rfl (Nat.le_of_ble_eq_true rfl) (Nat.le_of_ble_eq_true rfl) rfl rfl (s_needWithin (by omega) _ _ _ hr _) ?_
  refine y_go rfl rfl ?_
  refine y_getf (w := .ref 75) rfl rfl (has_at w0 (i := 0) rfl) rfl ?_
  refine y_go rfl rfl ?_
  refine y_getf (w := .ref 1) rfl rfl (has_at w0 (i := 0) rfl) rfl ?_
  refine y_getf (w := .ref (1 + 4)) rfl rfl (has_at wK (i := 0) rfl) rfl ?_
  refine y_go rfl rfl ?_
  refine y_getf (w := .ref 1) rfl rfl (has_at w0 (i := 0) rfl) rfl ?_
  refine y_getf (w := .ref (1 + 5)) rfl rfl (has_at wK (i := 0) rfl) rfl ?_
  refine y_go rfl rfl ?_
  refine y_V1e rfl (Nat.le_of_ble_eq_true rfl) (Nat.le_of_ble_eq_true rfl) rfl rfl (w_rcvM hM wM) (w_bst (by omega) hW hM kK2.2 u hu.2) (fun h3 hz => ?_)
  obtain ⟨M2, ⟨hM2, hB2⟩, hz2⟩ := hz
  clear wl wl2 wlM wlP wvp w0 wK wB wF wV wH wM wG wP wL wD wR
  obtain ⟨wl, wl2, wlM, wlP, wvp, w0, wK, wB, wF, wV, wH, wM, wG, wP, wL, wD, wR⟩ := id hz2
  cases hb : bst K u with
  | none =>
    show yW S d 88 (35, [.ref 0, .int 99, .int (nI u), .int (xkind 99), xno], [.int 0], (h3, k0)) _
    refine y_go (g' := (37, [.ref 0, .int 99, .int (nI u), .int (xkind 99), .int 0], _, _)) rfl rfl ?_
    refine y_go rfl rfl ?_
    refine y_if_eq rfl (fun _ => ?_) (fun c => absurd (by decide) c)
    refine y_go (g' := (56, [.ref 0, .int 99, .int (nI u), .int (xkind 99), .int 0], [.int (bpc K u 1)], _, _)) rfl (by rw [bpc_none hb]; rfl) ?_
    cases hx : xcode (bpc K u 1) with
    | some E => exact y_Sx rfl rfl (Nat.le_of_ble_eq_true rfl) (Nat.le_of_ble_eq_true rfl) rfl (s_ansX (by omega) hx _) rfl (Or.inr ⟨E, hx, h3, ⟨_, _, _, _, _, _, _, ⟨_, _, hM2, hG, hz2⟩, kB, kF, kV, kK2, hR, hol, hsz, hP, hL⟩, rfl⟩)
    | none =>
      refine y_S1 rfl rfl (Nat.le_of_ble_eq_true rfl) (Nat.le_of_ble_eq_true rfl) rfl rfl (s_ans0 (by omega) hx _) ?_
      exact y_ireturn rfl rfl rfl (Or.inl ⟨hx, h3, ⟨_, _, _, _, _, _, _, ⟨_, _, hM2, hG, hz2⟩, kB, kF, kV, kK2, hR, hol, hsz, hP, hL⟩, rfl⟩)
  | some m =>
    obtain ⟨w, c, o⟩ := m
    obtain ⟨lo, hlo⟩ := hB2 w c o hb
    have wM3 := wM
    rw [hlo] at wM3
    show yW S d 88 (35, [.ref 0, .int 99, .int (nI u), .int (xkind 99), xno], [.int 1], (h3, k0)) _
    refine y_go (g' := (37, [.ref 0, .int 99, .int (nI u), .int (xkind 99), .int 1], _, _)) rfl rfl ?_
    refine y_go rfl rfl ?_
    refine y_if_eq rfl (fun c => absurd c (by decide)) (fun _ => ?_)
    refine y_go rfl rfl ?_
    refine y_getf (w := .ref 75) rfl rfl (has_at w0 (i := 0) rfl) rfl ?_
    refine y_getf (w := .ref 77) rfl rfl (has_at wM3 (i := 0) rfl) rfl ?_
    refine y_go rfl rfl ?_
    refine y_ald (t := 0) (j := 1) (l := [nI w, nI c, nI o]) (x := bpc K u 1) rfl (Or.inl ⟨rfl, rfl⟩) (has_at wM3 (i := 2) rfl) (by decide) (by rw [bpc_some hb]; rfl) ?_
    refine y_go rfl rfl ?_
    cases hx : xcode (bpc K u 1) with
    | some E => exact y_Sx rfl rfl (Nat.le_of_ble_eq_true rfl) (Nat.le_of_ble_eq_true rfl) rfl (s_ansX (by omega) hx _) rfl (Or.inr ⟨E, hx, h3, ⟨_, _, _, _, _, _, _, ⟨_, _, hM2, hG, hz2⟩, kB, kF, kV, kK2, hR, hol, hsz, hP, hL⟩, rfl⟩)
    | none =>
      refine y_S1 rfl rfl (Nat.le_of_ble_eq_true rfl) (Nat.le_of_ble_eq_true rfl) rfl rfl (s_ans0 (by omega) hx _) ?_
      exact y_ireturn rfl rfl rfl (Or.inl ⟨hx, h3, ⟨_, _, _, _, _, _, _, ⟨_, _, hM2, hG, hz2⟩, kB, kF, kV, kK2, hR, hol, hsz, hP, hL⟩, rfl⟩)
theorem q_pieces2 {S : List Int32} {d : Nat} (hd : 10 ≤ d) {e f sv : Int32} {K V : kK} {ol sz : Nat} {R : Nat → kK} {T : List Int32} {h : xH} (hW2 : W2 e f sv K V ol sz R T h) (k0 : Nat × Nat) (u : Nat) (hu : 1 ≤ u ∧ u ≤ 200) : yT S d 88 [.ref 0, .int 111, .int (nI u)] (h, k0) (ansP (bpc K u 2) (W2 e f sv K V ol sz R T) k0) := by
  have hW2c := hW2
  obtain ⟨B, F, P, vp, ml, ln, D, ⟨M, G, hM, hG, hW⟩, kB, kF, kV, kK2, hR, hol, hsz, hP, hL⟩ := hW2
  obtain ⟨wl, wl2, wlM, wlP, wvp, w0, wK, wB, wF, wV, wH, wM, wG, wP, wL, wD, wR⟩ := id hW
  have lK : 1 + 6 ≤ h.length := has_len wK (by show 0 < 6; decide)
  obtain ⟨d, rfl⟩ : ∃ e, d = e + 1 := ⟨d - 1, by omega⟩
  have hr : ¬ (nI u < 1 ∨ 200 < nI u) := nIr (u := u) (l := 1) (m := 200) (by decide) (by decide) hu
  refine yT_x rfl (Nat.le_of_ble_eq_true rfl) ?_
  show yW S d 88 (0, [.ref 0, .int 111, .int (nI u), xno, xno], [], (h, k0)) _
  refine y_go rfl rfl ?_
  refine y_S1 rfl rfl (Nat.le_of_ble_eq_true rfl) (Nat.le_of_ble_eq_true rfl) rfl rfl (s_neededKind (by omega) _ (by decide) _) ?_
  refine y_go (g' := (5, [.ref 0, .int 111, .int (nI u), .int (xkind 111), xno], _, _)) rfl rfl ?_
  refine y_go rfl rfl ?_
  refine y_go rfl rfl ?_
  refine y_go rfl rfl ?_
  refine y_S0 rfl rfl (Nat.le_of_ble_eq_true rfl) (Nat.le_of_ble_eq_true rfl) rfl rfl (s_needWithin (by omega) _ _ _ hr _) ?_
  refine y_go rfl rfl ?_
  refine y_getf (w := .ref 75) rfl rfl (has_at w0 (i := 0) rfl) rfl ?_
  refine y_go rfl rfl ?_
  refine y_getf (w := .ref 1) rfl rfl (has_at w0 (i := 0) rfl) rfl ?_
  refine y_getf (w := .ref (1 + 4)) rfl rfl (has_at wK (i := 0) rfl) rfl ?_
  refine y_go rfl rfl ?_
  refine y_getf (w := .ref 1) rfl rfl (has_at w0 (i := 0) rfl) rfl ?_
  refine y_getf (w := .ref (1 + 5)) rfl rfl (has_at wK (i := 0) rfl) rfl ?_
  refine y_go rfl rfl ?_
  refine y_V1e rfl (Nat.le_of_ble_eq_true rfl) (Nat.le_of_ble_eq_true rfl) rfl rfl (w_rcvM hM wM) (w_bst (by omega) hW hM kK2.2 u hu.2) (fun h3 hz => ?_)
  obtain ⟨M2, ⟨hM2, hB2⟩, hz2⟩ := hz
  clear wl wl2 wlM wlP wvp w0 wK wB wF wV wH wM wG wP wL wD wR
  obtain ⟨wl, wl2, wlM, wlP, wvp, w0, wK, wB, wF, wV, wH, wM, wG, wP, wL, wD, wR⟩ := id hz2
  cases hb : bst K u with
  | none =>
    show yW S d 88 (35, [.ref 0, .int 111, .int (nI u), .int (xkind 111), xno], [.int 0], (h3, k0)) _
    refine y_go (g' := (37, [.ref 0, .int 111, .int (nI u), .int (xkind 111), .int 0], _, _)) rfl rfl ?_
    refine y_go rfl rfl ?_
    refine y_if_eq rfl (fun _ => ?_) (fun c => absurd (by decide) c)
    refine y_go (g' := (56, [.ref 0, .int 111, .int (nI u), .int (xkind 111), .int 0], [.int (bpc K u 2)], _, _)) rfl (by rw [bpc_none hb]; rfl) ?_
    cases hx : xcode (bpc K u 2) with
    | some E => exact y_Sx rfl rfl (Nat.le_of_ble_eq_true rfl) (Nat.le_of_ble_eq_true rfl) rfl (s_ansX (by omega) hx _) rfl (Or.inr ⟨E, hx, h3, ⟨_, _, _, _, _, _, _, ⟨_, _, hM2, hG, hz2⟩, kB, kF, kV, kK2, hR, hol, hsz, hP, hL⟩, rfl⟩)
    | none =>
      refine y_S1 rfl rfl (Nat.le_of_ble_eq_true rfl) (Nat.le_of_ble_eq_true rfl) rfl rfl (s_ans0 (by omega) hx _) ?_
      exact y_ireturn rfl rfl rfl (Or.inl ⟨hx, h3, ⟨_, _, _, _, _, _, _, ⟨_, _, hM2, hG, hz2⟩, kB, kF, kV, kK2, hR, hol, hsz, hP, hL⟩, rfl⟩)
  | some m =>
    obtain ⟨w, c, o⟩ := m
    obtain ⟨lo, hlo⟩ := hB2 w c o hb
    have wM3 := wM
    rw [hlo] at wM3
    show yW S d 88 (35, [.ref 0, .int 111, .int (nI u), .int (xkind 111), xno], [.int 1], (h3, k0)) _
    refine y_go (g' := (37, [.ref 0, .int 111, .int (nI u), .int (xkind 111), .int 1], _, _)) rfl rfl ?_
    refine y_go rfl rfl ?_
    refine y_if_eq rfl (fun c => absurd c (by decide)) (fun _ => ?_)
    refine y_go rfl rfl ?_
    refine y_getf (w := .ref 75) rfl rfl (has_at w0 (i := 0) rfl) rfl ?_
    refine y_getf (w := .ref 77) rfl rfl (has_at wM3 (i := 0) rfl) rfl ?_
    refine y_go rfl rfl ?_
    refine y_ald (t := 0) (j := 2) (l := [nI w, nI c, nI o]) (x := bpc K u 2) rfl (Or.inl ⟨rfl, rfl⟩) (has_at wM3 (i := 2) rfl) (by decide) (by rw [bpc_some hb]; rfl) ?_
    refine y_go rfl rfl ?_
    cases hx : xcode (bpc K u 2) with
    | some E => exact y_Sx rfl rfl (Nat.le_of_ble_eq_true rfl) (Nat.le_of_ble_eq_true rfl) rfl (s_ansX (by omega) hx _) rfl (Or.inr ⟨E, hx, h3, ⟨_, _, _, _, _, _, _, ⟨_, _, hM2, hG, hz2⟩, kB, kF, kV, kK2, hR, hol, hsz, hP, hL⟩, rfl⟩)
    | none =>
      refine y_S1 rfl rfl (Nat.le_of_ble_eq_true rfl) (Nat.le_of_ble_eq_true rfl) rfl rfl (s_ans0 (by omega) hx _) ?_
      exact y_ireturn rfl rfl rfl (Or.inl ⟨hx, h3, ⟨_, _, _, _, _, _, _, ⟨_, _, hM2, hG, hz2⟩, kB, kF, kV, kK2, hR, hol, hsz, hP, hL⟩, rfl⟩)
theorem q_wallCount {S : List Int32} {d : Nat} (hd : 14 ≤ d) {e f sv : Int32} {K V : kK} {ol sz : Nat} {R : Nat → kK} {T : List Int32} {h : xH} (hW2 : W2 e f sv K V ol sz R T h) (k0 : Nat × Nat) (w k : Nat) (hw : 2 ≤ w ∧ w ≤ 18) (hk : 1 ≤ k ∧ k ≤ 8) : yT S d 90 [.ref 0, .int (nI w), .int (nI k)] (h, k0) (fun r => ∃ h2, W2 e f sv K V ol sz R T h2 ∧ r = (.inl (some (.long (wcn w k))), (h2, k0))) := by
  have hW2c := hW2
  obtain ⟨B, F, P, vp, ml, ln, D, ⟨M, G, hM, hG, hW⟩, kB, kF, kV, kK2, hR, hol, hsz, hP, hL⟩ := hW2
  obtain ⟨wl, wl2, wlM, wlP, wvp, w0, wK, wB, wF, wV, wH, wM, wG, wP, wL, wD, wR⟩ := id hW
  have lK : 1 + 6 ≤ h.length := has_len wK (by show 0 < 6; decide)
  obtain ⟨d, rfl⟩ : ∃ e, d = e + 1 := ⟨d - 1, by omega⟩
  have hr2 : ¬ (nI w < 2 ∨ 18 < nI w) := nIr (u := w) (l := 2) (m := 18) (by decide) (by decide) hw
  have hr : ¬ (nI k < 1 ∨ 8 < nI k) := nIr (u := k) (l := 1) (m := 8) (by decide) (by decide) hk
  refine yT_e (Nat.le_of_ble_eq_true rfl) ?_
  show yW S d 90 (0, [.ref 0, .int (nI w), .int (nI k)], [], (h, k0)) _
  refine y_go rfl rfl ?_
  refine y_S0 rfl rfl (Nat.le_of_ble_eq_true rfl) (Nat.le_of_ble_eq_true rfl) rfl rfl (s_needWidth (by omega) _ hr2 _) ?_
  refine y_go rfl rfl ?_
  refine y_go rfl rfl ?_
  refine y_go rfl rfl ?_
  refine y_S0 rfl rfl (Nat.le_of_ble_eq_true rfl) (Nat.le_of_ble_eq_true rfl) rfl rfl (s_needWithin (by omega) _ _ _ hr _) ?_
  refine y_go rfl rfl ?_
  refine y_getf (w := .ref 78) rfl rfl (has_at w0 (i := 0) rfl) rfl ?_
  refine y_go rfl rfl ?_
  refine y_go rfl rfl ?_
  refine y_V1e rfl (Nat.le_of_ble_eq_true rfl) (Nat.le_of_ble_eq_true rfl) rfl rfl (w_rcvG hG wG) (w_tabG (by omega) hW hG w k (by omega) hk.2 hk.1) (fun h3 hz => ?_)
  clear hG
  obtain ⟨G2, hG, hz2⟩ := hz
  exact y_end rfl rfl ⟨h3, ⟨_, _, _, _, _, _, _, ⟨_, _, hM, hG, hz2⟩, kB, kF, kV, kK2, hR, hol, hsz, hP, hL⟩, rfl⟩
theorem q_wallMemory {S : List Int32} {d : Nat} (hd : 14 ≤ d) {e f sv : Int32} {K V : kK} {ol sz : Nat} {R : Nat → kK} {T : List Int32} {h : xH} (hW2 : W2 e f sv K V ol sz R T h) (k0 : Nat × Nat) (w k : Nat) (hw : 2 ≤ w ∧ w ≤ 18) (hk : 1 ≤ k ∧ k ≤ 8) : yT S d 91 [.ref 0, .int (nI w), .int (nI k)] (h, k0) (fun r => ∃ h2, W2 e f sv K V ol sz R T h2 ∧ r = (.inl (some (.long (wcn w k))), (h2, k0))) := by
  have hW2c := hW2
  obtain ⟨B, F, P, vp, ml, ln, D, ⟨M, G, hM, hG, hW⟩, kB, kF, kV, kK2, hR, hol, hsz, hP, hL⟩ := hW2
  obtain ⟨wl, wl2, wlM, wlP, wvp, w0, wK, wB, wF, wV, wH, wM, wG, wP, wL, wD, wR⟩ := id hW
  have lK : 1 + 6 ≤ h.length := has_len wK (by show 0 < 6; decide)
  obtain ⟨d, rfl⟩ : ∃ e, d = e + 1 := ⟨d - 1, by omega⟩
  have hr2 : ¬ (nI w < 2 ∨ 18 < nI w) := nIr (u := w) (l := 2) (m := 18) (by decide) (by decide) hw
  have hr : ¬ (nI k < 1 ∨ 8 < nI k) := nIr (u := k) (l := 1) (m := 8) (by decide) (by decide) hk
  refine yT_e (Nat.le_of_ble_eq_true rfl) ?_
  show yW S d 91 (0, [.ref 0, .int (nI w), .int (nI k)], [], (h, k0)) _
  refine y_go rfl rfl ?_
  refine y_S0 rfl rfl (Nat.le_of_ble_eq_true rfl) (Nat.le_of_ble_eq_true rfl) rfl rfl (s_needWidth (by omega) _ hr2 _) ?_
  refine y_go rfl rfl ?_
  refine y_go rfl rfl ?_
  refine y_go rfl rfl ?_
  refine y_S0 rfl rfl (Nat.le_of_ble_eq_true rfl) (Nat.le_of_ble_eq_true rfl) rfl rfl (s_needWithin (by omega) _ _ _ hr _) ?_
  refine y_go rfl rfl ?_
  refine y_getf (w := .ref 78) rfl rfl (has_at w0 (i := 0) rfl) rfl ?_
  refine y_go rfl rfl ?_
  refine y_go rfl rfl ?_
  refine y_V1e rfl (Nat.le_of_ble_eq_true rfl) (Nat.le_of_ble_eq_true rfl) rfl rfl (w_rcvG hG wG) (w_memG (by omega) hW hG w k (by omega) hk.2 hk.1) (fun h3 hz => ?_)
  clear hG
  obtain ⟨G2, hG, hz2⟩ := hz
  exact y_end rfl rfl ⟨h3, ⟨_, _, _, _, _, _, _, ⟨_, _, hM, hG, hz2⟩, kB, kF, kV, kK2, hR, hol, hsz, hP, hL⟩, rfl⟩
theorem q_fewest {S : List Int32} {d : Nat} (hd : 10 ≤ d) {e f sv : Int32} {K V : kK} {ol sz : Nat} {R : Nat → kK} {T : List Int32} {h : xH} (hW2 : W2 e f sv K V ol sz R T h) (k0 : Nat × Nat) (w k : Nat) (hw : 2 ≤ w ∧ w ≤ 18) (hk : 1 ≤ k ∧ k ≤ 8) : yT S d 92 [.ref 0, .int (nI w), .int (nI k)] (h, k0) (ansP (fwb w k) (W2 e f sv K V ol sz R T) k0) := by
  have hW2c := hW2
  obtain ⟨B, F, P, vp, ml, ln, D, ⟨M, G, hM, hG, hW⟩, kB, kF, kV, kK2, hR, hol, hsz, hP, hL⟩ := hW2
  obtain ⟨wl, wl2, wlM, wlP, wvp, w0, wK, wB, wF, wV, wH, wM, wG, wP, wL, wD, wR⟩ := id hW
  have lK : 1 + 6 ≤ h.length := has_len wK (by show 0 < 6; decide)
  obtain ⟨d, rfl⟩ : ∃ e, d = e + 1 := ⟨d - 1, by omega⟩
  have hr2 : ¬ (nI w < 2 ∨ 18 < nI w) := nIr (u := w) (l := 2) (m := 18) (by decide) (by decide) hw
  have hr : ¬ (nI k < 1 ∨ 8 < nI k) := nIr (u := k) (l := 1) (m := 8) (by decide) (by decide) hk
  refine yT_x rfl (Nat.le_of_ble_eq_true rfl) ?_
  show yW S d 92 (0, [.ref 0, .int (nI w), .int (nI k)], [], (h, k0)) _
  refine y_go rfl rfl ?_
  refine y_S0 rfl rfl (Nat.le_of_ble_eq_true rfl) (Nat.le_of_ble_eq_true rfl) rfl rfl (s_needWidth (by omega) _ hr2 _) ?_
  refine y_go rfl rfl ?_
  refine y_go rfl rfl ?_
  refine y_go rfl rfl ?_
  refine y_S0 rfl rfl (Nat.le_of_ble_eq_true rfl) (Nat.le_of_ble_eq_true rfl) rfl rfl (s_needWithin (by omega) _ _ _ hr _) ?_
  refine y_go rfl rfl ?_
  refine y_getf (w := .ref 78) rfl rfl (has_at w0 (i := 0) rfl) rfl ?_
  refine y_go rfl rfl ?_
  refine y_go rfl rfl ?_
  refine y_V1e rfl (Nat.le_of_ble_eq_true rfl) (Nat.le_of_ble_eq_true rfl) rfl rfl (w_rcvG hG wG) (w_fewG (by omega) hW hG w k (by omega) hk.2 hk.1) (fun h3 hz => ?_)
  clear hG
  obtain ⟨G2, hG, hz2⟩ := hz
  cases hx : xcode (fwb w k) with
  | some E => exact y_Sx rfl rfl (Nat.le_of_ble_eq_true rfl) (Nat.le_of_ble_eq_true rfl) rfl (s_ansX (by omega) hx _) rfl (Or.inr ⟨E, hx, h3, ⟨_, _, _, _, _, _, _, ⟨_, _, hM, hG, hz2⟩, kB, kF, kV, kK2, hR, hol, hsz, hP, hL⟩, rfl⟩)
  | none =>
    refine y_S1 rfl rfl (Nat.le_of_ble_eq_true rfl) (Nat.le_of_ble_eq_true rfl) rfl rfl (s_ans0 (by omega) hx _) ?_
    exact y_ireturn rfl rfl rfl (Or.inl ⟨hx, h3, ⟨_, _, _, _, _, _, _, ⟨_, _, hM, hG, hz2⟩, kB, kF, kV, kK2, hR, hol, hsz, hP, hL⟩, rfl⟩)
theorem q_courses {S : List Int32} {d : Nat} (hd : 8 ≤ d) {e f sv : Int32} {K V : kK} {ol sz : Nat} {R : Nat → kK} {T : List Int32} {h : xH} (hW2 : W2 e f sv K V ol sz R T h) (k0 : Nat × Nat) (w : Nat) (hw : 2 ≤ w ∧ w ≤ 18) : yT S d 89 [.ref 0, .int (nI w)] (h, k0) (· = (.inl (some (.int (nI (xCn w)))), (h, k0))) := by
  have hW2c := hW2
  obtain ⟨B, F, P, vp, ml, ln, D, ⟨M, G, hM, hG, hW⟩, kB, kF, kV, kK2, hR, hol, hsz, hP, hL⟩ := hW2
  obtain ⟨wl, wl2, wlM, wlP, wvp, w0, wK, wB, wF, wV, wH, wM, wG, wP, wL, wD, wR⟩ := id hW
  have lK : 1 + 6 ≤ h.length := has_len wK (by show 0 < 6; decide)
  obtain ⟨d, rfl⟩ : ∃ e, d = e + 1 := ⟨d - 1, by omega⟩
  have hr2 : ¬ (nI w < 2 ∨ 18 < nI w) := nIr (u := w) (l := 2) (m := 18) (by decide) (by decide) hw
  refine yT_eq (Nat.le_of_ble_eq_true rfl) ?_
  show yW S d 89 (0, [.ref 0, .int (nI w)], [], (h, k0)) _
  refine y_go rfl rfl ?_
  refine y_S0 rfl rfl (Nat.le_of_ble_eq_true rfl) (Nat.le_of_ble_eq_true rfl) rfl rfl (s_needWidth (by omega) _ hr2 _) ?_
  refine y_go rfl rfl ?_
  refine y_getf (w := .ref 78) rfl rfl (has_at w0 (i := 0) rfl) rfl ?_
  obtain ⟨X, U, a1, a2, b1, b2, Y, V, M3, ha, hb, g0, -, -, gct, -⟩ := hG
  refine y_getf (w := .ref (78 + 21)) rfl rfl (wG 0 _ ((rg_get (by decide)).trans (congrArg some g0))) rfl ?_
  refine y_go rfl rfl ?_
  refine y_ald (t := 0) (j := w) (l := xCt) (x := nI (xCn w)) rfl (Or.inl ⟨rfl, rfl⟩) (wG 21 _ ((rg_get (by decide)).trans (congrArg some gct))) (xidx_nI (by omega)) ((xgd (by rw [xJ_ok.1]; omega)).trans (congrArg some (xJ_ok.2 w (by omega)).2.1)) ?_
  exact y_ireturn rfl rfl rfl rfl
