/-! THE KILN AS A WHOLE: the mean, whether it is consistent. -/
def mok (x : Nat) : Bool := decide (FP.ddiv (FP.i2d (nI x)) 4620693217682128896 &&& 0x7fffffffffffffff ≤ 0x7ff0000000000000) && (FP.dcmp (FP.ddiv (FP.i2d (nI x)) 4620693217682128896) (FP.ddiv (FP.i2d (nI x)) 4620693217682128896) == some .eq)
theorem mok_t : ∀ i, i < 94 → ∀ j, j < 94 → mok (94 * i + j) = true := by decide +kernel
theorem mok_all {x : Nat} (h : x ≤ 8800) : mok x = true := by
  have := mok_t (x / 94) (by omega) (x % 94) (by omega)
  rw [Nat.div_add_mod] at this
  exact this
theorem mok_1 {x : Nat} (h : x ≤ 8800) : FP.ddiv (FP.i2d (nI x)) 4620693217682128896 &&& 0x7fffffffffffffff ≤ 0x7ff0000000000000 := by
  have := mok_all h
  simp only [mok, Bool.and_eq_true, decide_eq_true_eq] at this
  exact this.1
theorem mok_2 {x : Nat} (h : x ≤ 8800) : FP.dcmp (FP.ddiv (FP.i2d (nI x)) 4620693217682128896) (FP.ddiv (FP.i2d (nI x)) 4620693217682128896) = some .eq := by
  have := mok_all h
  simp only [mok, Bool.and_eq_true, beq_iff_eq] at this
  exact this.2
theorem sumT_b {ts : List Int32} (h : gtm ts) : ∀ i, i ≤ 8 → ∃ s : Nat, sumTo 0 ts i = nI s ∧ s ≤ 1100 * i
  | 0, _ => ⟨0, rfl, Nat.le_refl _⟩
  | i + 1, hi => by
    obtain ⟨s, h1, h2⟩ := sumT_b h i (by omega)
    obtain ⟨t, h3, h4, h5⟩ := h i (by omega)
    exact ⟨s + t, by simp only [sumTo]; rw [h1, h3, nI_add], by omega⟩
abbrev mnT (K : kK) : UInt64 := FP.ddiv (FP.i2d (sumTo 0 K.2.2.2.1 8)) 4620693217682128896
theorem y_ddiv {S : List Int32} {d m pc nx a b : Nat} {v : Value} {L st : List Value} {s : xS} {Q : xR → Prop} {x y : UInt64} (hc : xc m pc = some (.ddiv, nx, a, b, v)) (hn : FP.ddiv x y &&& 0x7fffffffffffffff ≤ 0x7ff0000000000000) (k : yW S d m (nx, L, .double (FP.ddiv x y) :: st, s) Q) : yW S d m (pc, L, .double y :: .double x :: st, s) Q := by
  refine y_go hc ?_ k
  simp only [xnext, x2d]
  rw [if_pos hn]
  rfl
theorem q_mean {S : List Int32} {d : Nat} (hd : 8 ≤ d) {e f sv : Int32} {K V : kK} {ol sz : Nat} {R : Nat → kK} {T : List Int32} {h : xH} (hW2 : W2 e f sv K V ol sz R T h) (k0 : Nat × Nat) (hg : gtm K.2.2.2.1) : yT S d 98 [.ref 0] (h, k0) (· = (.inl (some (.double (mnT K))), (h, k0))) := by
  have hW2c := hW2
  obtain ⟨B, F, P, vp, ml, ln, D, ⟨M, G, hM, hG, hW⟩, kB, kF, kV, kK2, hR, hol, hsz, hP, hL⟩ := hW2
  obtain ⟨wl, wl2, wlM, wlP, wvp, w0, wK, wB, wF, wV, wH, wM, wG, wP, wL, wD, wR⟩ := id hW
  have lK : 1 + 6 ≤ h.length := has_len wK (by show 0 < 6; decide)
  obtain ⟨d, rfl⟩ : ∃ e, d = e + 1 := ⟨d - 1, by omega⟩
  obtain ⟨sm, es, hsb⟩ := sumT_b hg 8 (Nat.le_refl _)
  refine yT_eq (Nat.le_of_ble_eq_true rfl) ?_
  show yW S d 98 (0, [.ref 0], [], (h, k0)) _
  refine y_go rfl rfl ?_
  refine y_getf (w := .ref 1) rfl rfl (has_at w0 (i := 0) rfl) rfl ?_
  refine y_V1 rfl (Nat.le_of_ble_eq_true rfl) (Nat.le_of_ble_eq_true rfl) rfl rfl (xrcv_of (has_at wK (i := 0) rfl)) (w_Kr hW (Q := fun z => (.inl (some (.int (sumTo 0 K.2.2.2.1 8))), (z, k0))) (s_sumOfTemperatures (by omega) lK K.1 K.2.1 K.2.2.1 K.2.2.2.1 K.2.2.2.2.1 K.2.2.2.2.2 k0 kK2.1.2.2.1)) ?_
  refine y_go rfl rfl ?_
  refine y_go rfl rfl ?_
  refine y_ddiv rfl (by rw [es]; exact mok_1 hsb) ?_
  exact y_end rfl rfl rfl
theorem lgc_0 {x : Int64} : lg_cmp x x = 0 := by
  unfold lg_cmp
  rw [if_neg (by exact Int64.lt_irrefl), if_pos rfl]
theorem q_consistent {S : List Int32} {d : Nat} (hd : 14 ≤ d) {e f sv : Int32} {K V : kK} {ol sz : Nat} {R : Nat → kK} {T : List Int32} {h : xH} (hW2 : W2 e f sv K V ol sz R T h) (k0 : Nat × Nat) (hg1 : sumTo (K.1 9) K.2.2.1 8 = K.1 11 - K.1 13) (hg2 : K.1 15 = K.1 2 + K.1 16) (hkp : kp K) : yT S d 99 [.ref 0] (h, k0) (fun r => ∃ h2, W2 e f sv K V ol sz R T h2 ∧ r = (.inl (some (.int 1)), (h2, k0))) := by
  have hW2c := hW2
  obtain ⟨B, F, P, vp, ml, ln, D, ⟨M, G, hM, hG, hW⟩, kB, kF, kV, kK2, hR, hol, hsz, hP, hL⟩ := hW2
  obtain ⟨wl, wl2, wlM, wlP, wvp, w0, wK, wB, wF, wV, wH, wM, wG, wP, wL, wD, wR⟩ := id hW
  have lK : 1 + 6 ≤ h.length := has_len wK (by show 0 < 6; decide)
  obtain ⟨d, rfl⟩ : ∃ e, d = e + 1 := ⟨d - 1, by omega⟩
  refine yT_e (Nat.le_of_ble_eq_true rfl) ?_
  show yW S d 99 (0, [.ref 0], [], (h, k0)) _
  refine y_go rfl rfl ?_
  refine y_getf (w := .ref 1) rfl rfl (has_at w0 (i := 0) rfl) rfl ?_
  refine y_V1 rfl (Nat.le_of_ble_eq_true rfl) (Nat.le_of_ble_eq_true rfl) rfl rfl (xrcv_of (has_at wK (i := 0) rfl)) (w_Kr hW (Q := fun z => (.inl (some (.int (sumTo (K.1 9) K.2.2.1 8))), (z, k0))) (s_bricksInSight (by omega) lK K.1 K.2.1 K.2.2.1 K.2.2.2.1 K.2.2.2.2.1 K.2.2.2.2.2 k0 kK2.1.2.1)) ?_
  refine y_go rfl rfl ?_
  refine y_getf (w := .ref 1) rfl rfl (has_at w0 (i := 0) rfl) rfl ?_
  refine y_getf (w := .int (K.1 11)) rfl rfl (has_at wK (i := 0) rfl) rfl ?_
  refine y_go rfl rfl ?_
  refine y_getf (w := .ref 1) rfl rfl (has_at w0 (i := 0) rfl) rfl ?_
  refine y_getf (w := .int (K.1 13)) rfl rfl (has_at wK (i := 0) rfl) rfl ?_
  refine y_go rfl rfl ?_
  refine y_ic_ne rfl (fun c => absurd (hg1) c) (fun _ => ?_)
  refine y_go rfl rfl ?_
  refine y_go rfl rfl ?_
  refine y_V1e rfl (Nat.le_of_ble_eq_true rfl) (Nat.le_of_ble_eq_true rfl) rfl rfl (xrcv_of (has_at w0 (i := 0) rfl)) (q_byTable (by omega) hW2c k0 10 (by omega)) (fun h2 hW2d => ?_)
  clear hW2c
  have hW2c := hW2d
  clear hW2d
  clear hW hM hG kB kF kV kK2 hR hol hsz hP hL lK wl wl2 wlM wlP wvp w0 wK wB wF wV wH wM wG wP wL wD wR
  have hW2 := hW2c
  obtain ⟨B, F, P, vp, ml, ln, D, ⟨M, G, hM, hG, hW⟩, kB, kF, kV, kK2, hR, hol, hsz, hP, hL⟩ := hW2
  obtain ⟨wl, wl2, wlM, wlP, wvp, w0, wK, wB, wF, wV, wH, wM, wG, wP, wL, wD, wR⟩ := id hW
  have lK : 1 + 6 ≤ h2.length := has_len wK (by show 0 < 6; decide)
  clear lK
  have lK : 1 + 6 ≤ h2.length := has_len wK (by show 0 < 6; decide)
  refine y_go rfl rfl ?_
  refine y_go rfl rfl ?_
  refine y_V1e rfl (Nat.le_of_ble_eq_true rfl) (Nat.le_of_ble_eq_true rfl) rfl rfl (xrcv_of (has_at w0 (i := 0) rfl)) (q_byTrying (by omega) hW2c k0 10 (by omega)) (fun h2 hW2d => ?_)
  clear hW2c
  have hW2c := hW2d
  clear hW2d
  clear hW hM hG kB kF kV kK2 hR hol hsz hP hL lK wl wl2 wlM wlP wvp w0 wK wB wF wV wH wM wG wP wL wD wR
  have hW2 := hW2c
  obtain ⟨B, F, P, vp, ml, ln, D, ⟨M, G, hM, hG, hW⟩, kB, kF, kV, kK2, hR, hol, hsz, hP, hL⟩ := hW2
  obtain ⟨wl, wl2, wlM, wlP, wvp, w0, wK, wB, wF, wV, wH, wM, wG, wP, wL, wD, wR⟩ := id hW
  have lK : 1 + 6 ≤ h2.length := has_len wK (by show 0 < 6; decide)
  clear lK
  have lK : 1 + 6 ≤ h2.length := has_len wK (by show 0 < 6; decide)
  refine y_ic_ne rfl (fun c => absurd (tbl_eq hkp (by decide)) c) (fun _ => ?_)
  refine y_go rfl rfl ?_
  refine y_go rfl rfl ?_
  refine y_V1e rfl (Nat.le_of_ble_eq_true rfl) (Nat.le_of_ble_eq_true rfl) rfl rfl (xrcv_of (has_at w0 (i := 0) rfl)) (q_byTable (by omega) hW2c k0 50 (by omega)) (fun h2 hW2d => ?_)
  clear hW2c
  have hW2c := hW2d
  clear hW2d
  clear hW hM hG kB kF kV kK2 hR hol hsz hP hL lK wl wl2 wlM wlP wvp w0 wK wB wF wV wH wM wG wP wL wD wR
  have hW2 := hW2c
  obtain ⟨B, F, P, vp, ml, ln, D, ⟨M, G, hM, hG, hW⟩, kB, kF, kV, kK2, hR, hol, hsz, hP, hL⟩ := hW2
  obtain ⟨wl, wl2, wlM, wlP, wvp, w0, wK, wB, wF, wV, wH, wM, wG, wP, wL, wD, wR⟩ := id hW
  have lK : 1 + 6 ≤ h2.length := has_len wK (by show 0 < 6; decide)
  clear lK
  have lK : 1 + 6 ≤ h2.length := has_len wK (by show 0 < 6; decide)
  refine y_go rfl rfl ?_
  refine y_go rfl rfl ?_
  refine y_V1e rfl (Nat.le_of_ble_eq_true rfl) (Nat.le_of_ble_eq_true rfl) rfl rfl (xrcv_of (has_at w0 (i := 0) rfl)) (q_byTrying (by omega) hW2c k0 50 (by omega)) (fun h2 hW2d => ?_)
  clear hW2c
  have hW2c := hW2d
  clear hW2d
  clear hW hM hG kB kF kV kK2 hR hol hsz hP hL lK wl wl2 wlM wlP wvp w0 wK wB wF wV wH wM wG wP wL wD wR
  have hW2 := hW2c
  obtain ⟨B, F, P, vp, ml, ln, D, ⟨M, G, hM, hG, hW⟩, kB, kF, kV, kK2, hR, hol, hsz, hP, hL⟩ := hW2
  obtain ⟨wl, wl2, wlM, wlP, wvp, w0, wK, wB, wF, wV, wH, wM, wG, wP, wL, wD, wR⟩ := id hW
  have lK : 1 + 6 ≤ h2.length := has_len wK (by show 0 < 6; decide)
  clear lK
  have lK : 1 + 6 ≤ h2.length := has_len wK (by show 0 < 6; decide)
  refine y_ic_ne rfl (fun c => absurd (tbl_eq hkp (by decide)) c) (fun _ => ?_)
  refine y_go rfl rfl ?_
  refine y_getf (w := .ref 78) rfl rfl (has_at w0 (i := 0) rfl) rfl ?_
  refine y_go rfl rfl ?_
  refine y_go rfl rfl ?_
  refine y_V1e rfl (Nat.le_of_ble_eq_true rfl) (Nat.le_of_ble_eq_true rfl) rfl rfl (w_rcvG hG wG) (w_tabG (by omega) hW hG 9 3 (by omega) (by omega) (by omega)) (fun h6 hz9 => ?_)
  clear hW hG wl wl2 wlM wlP wvp w0 wK wB wF wV wH wM wG wP wL wD wR
  obtain ⟨G, hG, hW⟩ := hz9
  obtain ⟨wl, wl2, wlM, wlP, wvp, w0, wK, wB, wF, wV, wH, wM, wG, wP, wL, wD, wR⟩ := id hW
  refine y_go rfl rfl ?_
  refine y_getf (w := .ref 78) rfl rfl (has_at w0 (i := 0) rfl) rfl ?_
  refine y_go rfl rfl ?_
  refine y_go rfl rfl ?_
  refine y_V1e rfl (Nat.le_of_ble_eq_true rfl) (Nat.le_of_ble_eq_true rfl) rfl rfl (w_rcvG hG wG) (w_memG (by omega) hW hG 9 3 (by omega) (by omega) (by omega)) (fun h7 hz9 => ?_)
  clear hW hG wl wl2 wlM wlP wvp w0 wK wB wF wV wH wM wG wP wL wD wR
  obtain ⟨G, hG, hW⟩ := hz9
  obtain ⟨wl, wl2, wlM, wlP, wvp, w0, wK, wB, wF, wV, wH, wM, wG, wP, wL, wD, wR⟩ := id hW
  refine y_go (g' := (76, [.ref 0], [.int (lg_cmp (wcn 9 3) (wcn 9 3))], _)) rfl rfl ?_
  rw [lgc_0]
  refine y_if_ne rfl (fun c => absurd (by decide) c) (fun _ => ?_)
  refine y_go rfl rfl ?_
  refine y_getf (w := .ref 1) rfl rfl (has_at w0 (i := 0) rfl) rfl ?_
  refine y_getf (w := .int (K.1 15)) rfl rfl (has_at wK (i := 0) rfl) rfl ?_
  refine y_go rfl rfl ?_
  refine y_getf (w := .ref 1) rfl rfl (has_at w0 (i := 0) rfl) rfl ?_
  refine y_getf (w := .int (K.1 2)) rfl rfl (has_at wK (i := 0) rfl) rfl ?_
  refine y_go rfl rfl ?_
  refine y_getf (w := .ref 1) rfl rfl (has_at w0 (i := 0) rfl) rfl ?_
  refine y_getf (w := .int (K.1 16)) rfl rfl (has_at wK (i := 0) rfl) rfl ?_
  refine y_go rfl rfl ?_
  refine y_ic_ne rfl (fun c => absurd (hg2) c) (fun _ => ?_)
  refine y_go rfl rfl ?_
  refine y_go rfl rfl ?_
  exact y_ireturn rfl rfl rfl ⟨h7, ⟨_, _, _, _, _, _, _, ⟨_, _, hM, hG, hW⟩, kB, kF, kV, kK2, hR, hol, hsz, hP, hL⟩, rfl⟩
