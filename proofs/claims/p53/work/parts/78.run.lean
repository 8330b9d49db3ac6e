/-! THE KILN AS A WHOLE: a program is run. -/
theorem set_0 {h : xH} {cs : xC} (w0 : has h 0 [cs]) (x : xC) : h.set 0 x = put h 0 [x] := by
  have hs := W_self w0 (by show 0 < 1; decide)
  have hp := put_set (h := h) (p := 0) (cs := [cs]) (c := x) (i := 0) (has_len w0 (by show 0 < 1; decide)) (by show 0 < 1; decide)
  rw [hs] at hp
  exact hp
/-- a value that is small, or a mark -/
def ok5 (v : Nat) : Bool := decide (v ≤ 1000) || (decide (v = 5000) || decide (v = 6000))
theorem mk56_le {v0 v1 v : Nat} (h0 : v0 ≤ 1000) (h1 : v1 ≤ 1000) (h : ok5 v = true) : mk56 v0 v1 v ≤ 1000 := by
  unfold mk56
  split
  · exact h0
  · split
    · exact h1
    · simp only [ok5, Bool.or_eq_true, decide_eq_true_eq] at h
      omega
def okS (s : pV) : Bool := decide (s.1 ≤ 60) && (decide (s.2.1 ≤ 2) && (ok5 s.2.2.1 && ok5 s.2.2.2))
def okC (c : Nat × (Nat × Nat)) : Bool := decide (c.1 < 10) && (ok5 c.2.1 && ok5 c.2.2)
theorem okS_1 {s : pV} (h : okS s = true) : s.1 ≤ 60 ∧ s.2.1 ≤ 2 ∧ ok5 s.2.2.1 = true ∧ ok5 s.2.2.2 = true := by
  simp only [okS, Bool.and_eq_true, decide_eq_true_eq] at h
  exact h
theorem okC_1 {v0 v1 : Nat} (h0 : v0 ≤ 1000) (h1 : v1 ≤ 1000) {l : List (Nat × (Nat × Nat))} (h : l.all okC = true) : ∀ c a b, (c, a, b) ∈ l.map (mpC (mk56 v0 v1)) → c < 10 ∧ a ≤ 1000 ∧ b ≤ 1000 := by
  intro c a b hm
  obtain ⟨⟨c5, a5, b5⟩, hx, he⟩ := List.mem_map.mp hm
  have hk := List.all_eq_true.mp h _ hx
  simp only [okC, Bool.and_eq_true, decide_eq_true_eq] at hk
  cases he
  exact ⟨hk.1, mk56_le h0 h1 hk.2.1, mk56_le h0 h1 hk.2.2⟩
theorem runK_le : ∀ (l : List (Nat × (Nat × Nat))) (n : Nat) (K : kK), (runK l n K).1 ≤ n + l.length
  | [], n, K => Nat.le_refl _
  | (c, a, b) :: cs, n, K => by
    simp only [runK]
    split
    · show n ≤ _; omega
    · refine Nat.le_trans (runK_le cs (n + 1) _) ?_
      rw [List.length_cons]; omega
theorem q_runBad {S : List Int32} {d : Nat} (hd : 12 ≤ d) {e f sv : Int32} {K V : kK} {ol sz : Nat} {R : Nat → kK} {T : List Int32} {h : xH} (hW2 : W2 e f sv K V ol sz R T h) (k0 : Nat × Nat) (N : List Nat) (hTN : T = N.map nI) (hB : ∀ i, i < N.length → gn N i < 128) (s5 : pV) (l5 : List (Nat × (Nat × Nat))) (hR5 : rtx N 16 (0, 0, 5000, 6000) [] = (false, s5, l5)) (h5 : okS s5 = true) (hl5 : l5.length ≤ 16) : yT S d 101 [.ref 0] (h, k0) (fun r => ∃ h2, W2 (nI s5.1) f sv K V ol sz R [] h2 ∧ r = (.inr "java/lang/IllegalArgumentException", xth (h2, k0))) := by
  have hW2c := hW2
  obtain ⟨B, F, P, vp, ml, ln, D, ⟨M, G, hM, hG, hW⟩, kB, kF, kV, kK2, hR0, hol, hsz, hP, hL⟩ := hW2
  obtain ⟨wl, wl2, wlM, wlP, wvp, w0, wK, wB, wF, wV, wH, wM, wG, wP, wL, wD, wR⟩ := id hW
  have lK : 1 + 6 ≤ h.length := has_len wK (by show 0 < 6; decide)
  obtain ⟨d, rfl⟩ : ∃ e, d = e + 1 := ⟨d - 1, by omega⟩
  subst hTN
  obtain ⟨pos, cnt, vc, tx, cm, fi, se, v0, v1, rfl, p1, p2, p3, p4, p5, p6, p7, p8, p9, p10, p11⟩ := hP
  have hN : N.length ≤ 60 := by rw [List.length_map] at p2; exact p2
  have hTt : ∀ i, i < N.length → gd tx i = nI (gn N i) := fun i hi => by rw [p3 i (by rw [List.length_map]; exact hi), gd_mapI hi]
  rw [List.length_map] at hW wP
  have hR := rtx_56 hB v0 v1 hR5
  obtain ⟨z1, z2, z3, z4⟩ := okS_1 h5
  have hl5m : (l5.map (mpC (mk56 v0 v1))).length = l5.length := List.length_map _
  refine yT_x rfl (Nat.le_of_ble_eq_true rfl) ?_
  show yW S d 101 (0, [.ref 0, xno, xno], [], (h, k0)) _
  refine y_go rfl rfl ?_
  refine y_getf (w := .ref 113) rfl rfl (has_at w0 (i := 0) rfl) rfl ?_
  refine y_V1e rfl (Nat.le_of_ble_eq_true rfl) (Nat.le_of_ble_eq_true rfl) rfl rfl (xrcv_of (has_at wP (i := 0) rfl)) (w_readText (by omega) N hN hB tx p1 hTt cm fi se p4 p5 p6 _ _ vc v0 v1 ⟨Nat.zero_le _, p11, p7, p8⟩ rfl hW) (fun h3 hz => ?_)
  obtain ⟨⟨cm2, fi2, se2⟩, hcm, hW3⟩ := hz
  rw [hR] at hcm hW3 ⊢
  dsimp only at hcm hW3
  clear wl wl2 wlM wlP wvp w0 wK wB wF wV wH wM wG wP wL wD wR
  obtain ⟨wl, wl2, wlM, wlP, wvp, w0, wK, wB, wF, wV, wH, wM, wG, wP, wL, wD, wR⟩ := id hW3
  have lP3 : 113 + 6 ≤ h3.length := has_len wP (by show 0 < 6; decide)
  refine y_go (g' := (8, [.ref 0, .int (if false = true then 1 else 0), xno], _, _)) rfl rfl ?_
  refine y_go rfl rfl ?_
  refine y_getf (w := .ref 113) rfl rfl (has_at w0 (i := 0) rfl) rfl ?_
  refine y_V0e rfl (Nat.le_of_ble_eq_true rfl) (Nat.le_of_ble_eq_true rfl) rfl rfl (xrcv_of (has_at wP (i := 0) rfl)) (w_Pl rfl hW3 (s_clearText (by omega) lP3 k0 _ _ _ tx cm2 fi2 se2 _ _)) (fun h4 hW4 => ?_)
  clear wl wl2 wlM wlP wvp w0 wK wB wF wV wH wM wG wP wL wD wR
  obtain ⟨wl, wl2, wlM, wlP, wvp, w0, wK, wB, wF, wV, wH, wM, wG, wP, wL, wD, wR⟩ := id hW4
  refine y_go rfl rfl ?_
  refine y_if_ne rfl (fun c => absurd (by decide) c) (fun _ => ?_)
  refine y_go rfl rfl ?_
  refine y_go rfl rfl ?_
  refine y_getf (w := .ref 113) rfl rfl (has_at w0 (i := 0) rfl) rfl ?_
  refine y_getf (w := .int (nI s5.1)) rfl rfl (has_at wP (i := 0) rfl) rfl ?_
  refine y_putf rfl (has_at w0 (i := 0) rfl) (Nat.le_of_ble_eq_true rfl) (xf_int rfl) ?_
  show yW S d 101 (30, [.ref 0, .int (if false = true then 1 else 0), xno], [], (h4.set 0 (rkO (nI s5.1) f sv), k0)) _
  rw [set_0 w0]
  exact y_throw rfl rfl rfl ⟨_, ⟨_, _, _, _, _, _, _, ⟨_, _, hM, hG, (W_0 (e2 := nI s5.1) hW4)⟩, kB, kF, kV, kK2, hR0, hol, hsz, ⟨s5.1, l5.length, s5.2.1, tx, cm2, fi2, se2, mk56 v0 v1 s5.2.2.1, mk56 v0 v1 s5.2.2.2, by rw [← hl5m]; rfl, p1, Nat.zero_le _, fun i hi => absurd hi (Nat.not_lt_zero _), hcm.1, hcm.2.1, hcm.2.2.1, mk56_le p7 p8 z3, mk56_le p7 p8 z4, z1, hl5, z2⟩, hL⟩, rfl⟩
theorem q_cmds1 {S : List Int32} {d : Nat} (hd : 9 ≤ d) {e f sv : Int32} {B F V : kK} {ol sz : Nat} {R : Nat → kK} {vp : Nat} {ml ln : Int32} {D : List Int32} (k0 : Nat × Nat) (len ps vc : Int32) (tx : List Int32) (cm : List (Option Nat)) (fi se va : List Int32) (l : List (Nat × (Nat × Nat))) (hc : cmR l cm fi se) (hl16 : l.length ≤ 16) (hlb : ∀ c a b, (c, a, b) ∈ l → c < 10 ∧ a ≤ 1000 ∧ b ≤ 1000) (J : Nat → kK → Prop) (hJ1 : ∀ i K, J i K → kvp K) (hJ3 : ∀ i j K, i ≤ j → J i K → J j K) (hJ2 : ∀ i c a b, c < 10 → a ≤ 1000 → b ≤ 1000 → ∀ K, J i K → J (i + 1) (cmdX c a b K).2) (h : xH) (K : kK) (hJ : J 0 K) (hW1 : W1 e f sv K B F V ol sz R (prC len ps (nI l.length) vc tx cm fi se va) vp ml ln D h) : yT S d 117 [.ref 0] (h, k0) (fun r => ∃ h2, (J l.length (runK l 0 K).2 ∧ W1 e f sv (runK l 0 K).2 B F V ol sz R (prC len ps (nI l.length) vc tx cm fi se va) vp ml ln D h2) ∧ r = (.inl (some (.int (nI (runK l 0 K).1))), (h2, k0))) := yT_mono (w_cmds hd k0 len ps vc tx cm fi se va l hc hl16 hlb J hJ1 hJ3 hJ2 h K hJ hW1) fun r ⟨h2, a, b, c⟩ => ⟨h2, ⟨a, b⟩, c⟩
theorem q_run {S : List Int32} {d : Nat} (hd : 12 ≤ d) {e f sv : Int32} {K V : kK} {ol sz : Nat} {R : Nat → kK} {T : List Int32} {h : xH} (hW2 : W2 e f sv K V ol sz R T h) (k0 : Nat × Nat) (N : List Nat) (hTN : T = N.map nI) (hB : ∀ i, i < N.length → gn N i < 128) (s5 : pV) (l5 : List (Nat × (Nat × Nat))) (hR5 : rtx N 16 (0, 0, 5000, 6000) [] = (true, s5, l5)) (h5 : okS s5 = true) (hl5 : l5.length ≤ 16) (hq5 : l5.all okC = true) (J : Nat → kK → Prop) (hJ : J 0 K) (hJ1 : ∀ i K, J i K → kvp K) (hJ3 : ∀ i j K, i ≤ j → J i K → J j K) (hJ2 : ∀ i c a b, c < 10 → a ≤ 1000 → b ≤ 1000 → ∀ K, J i K → J (i + 1) (cmdX c a b K).2) : yT S d 101 [.ref 0] (h, k0) (fun r => (∃ h2 K2, J l5.length K2 ∧ W2 e f sv K2 V (if sz < 8 then ol else (ol + 1) % 8) (if sz < 8 then sz + 1 else sz) (up R ((ol + sz) % 8) K) [] h2 ∧ r = (.inl (some (.int (nI l5.length))), (h2, k0))) ∨ ∃ (h2 : xH) (j : Nat), j ≤ 16 ∧ W2 e (nI j) sv K V ol sz R [] h2 ∧ r = (.inr "java/lang/UnsupportedOperationException", xth (h2, k0))) := by
  have hW2c := hW2
  obtain ⟨B, F, P, vp, ml, ln, D, ⟨M, G, hM, hG, hW⟩, kB, kF, kV, kK2, hR0, hol, hsz, hP, hL⟩ := hW2
  obtain ⟨wl, wl2, wlM, wlP, wvp, w0, wK, wB, wF, wV, wH, wM, wG, wP, wL, wD, wR⟩ := id hW
  have lK : 1 + 6 ≤ h.length := has_len wK (by show 0 < 6; decide)
  obtain ⟨d, rfl⟩ : ∃ e, d = e + 1 := ⟨d - 1, by omega⟩
  subst hTN
  obtain ⟨pos, cnt, vc, tx, cm, fi, se, v0, v1, rfl, p1, p2, p3, p4, p5, p6, p7, p8, p9, p10, p11⟩ := hP
  have hN : N.length ≤ 60 := by rw [List.length_map] at p2; exact p2
  have hTt : ∀ i, i < N.length → gd tx i = nI (gn N i) := fun i hi => by rw [p3 i (by rw [List.length_map]; exact hi), gd_mapI hi]
  rw [List.length_map] at hW wP
  have hR := rtx_56 hB v0 v1 hR5
  obtain ⟨z1, z2, z3, z4⟩ := okS_1 h5
  have hl5m : (l5.map (mpC (mk56 v0 v1))).length = l5.length := List.length_map _
  refine yT_x rfl (Nat.le_of_ble_eq_true rfl) ?_
  show yW S d 101 (0, [.ref 0, xno, xno], [], (h, k0)) _
  refine y_go rfl rfl ?_
  refine y_getf (w := .ref 113) rfl rfl (has_at w0 (i := 0) rfl) rfl ?_
  refine y_V1e rfl (Nat.le_of_ble_eq_true rfl) (Nat.le_of_ble_eq_true rfl) rfl rfl (xrcv_of (has_at wP (i := 0) rfl)) (w_readText (by omega) N hN hB tx p1 hTt cm fi se p4 p5 p6 _ _ vc v0 v1 ⟨Nat.zero_le _, p11, p7, p8⟩ rfl hW) (fun h3 hz => ?_)
  obtain ⟨⟨cm2, fi2, se2⟩, hcm, hW3⟩ := hz
  rw [hR] at hcm hW3 ⊢
  dsimp only at hcm hW3
  clear wl wl2 wlM wlP wvp w0 wK wB wF wV wH wM wG wP wL wD wR
  obtain ⟨wl, wl2, wlM, wlP, wvp, w0, wK, wB, wF, wV, wH, wM, wG, wP, wL, wD, wR⟩ := id hW3
  have lP3 : 113 + 6 ≤ h3.length := has_len wP (by show 0 < 6; decide)
  refine y_go (g' := (8, [.ref 0, .int (if true = true then 1 else 0), xno], _, _)) rfl rfl ?_
  refine y_go rfl rfl ?_
  refine y_getf (w := .ref 113) rfl rfl (has_at w0 (i := 0) rfl) rfl ?_
  refine y_V0e rfl (Nat.le_of_ble_eq_true rfl) (Nat.le_of_ble_eq_true rfl) rfl rfl (xrcv_of (has_at wP (i := 0) rfl)) (w_Pl rfl hW3 (s_clearText (by omega) lP3 k0 _ _ _ tx cm2 fi2 se2 _ _)) (fun h4 hW4 => ?_)
  clear wl wl2 wlM wlP wvp w0 wK wB wF wV wH wM wG wP wL wD wR
  obtain ⟨wl, wl2, wlM, wlP, wvp, w0, wK, wB, wF, wV, wH, wM, wG, wP, wL, wD, wR⟩ := id hW4
  refine y_go rfl rfl ?_
  refine y_if_ne rfl (fun _ => ?_) (fun c => absurd c (by decide))
  refine y_go rfl rfl ?_
  refine y_getf (w := .ref 7) rfl rfl (has_at w0 (i := 0) rfl) rfl ?_
  refine y_go rfl rfl ?_
  refine y_getf (w := .ref 1) rfl rfl (has_at w0 (i := 0) rfl) rfl ?_
  refine y_V0e rfl (Nat.le_of_ble_eq_true rfl) (Nat.le_of_ble_eq_true rfl) rfl rfl (xrcv_of (has_at wB (i := 0) rfl)) (w_cpB (by omega) hW4 kB.1 kK2.1 k0) (fun h5 hW5 => ?_)
  clear wl wl2 wlM wlP wvp w0 wK wB wF wV wH wM wG wP wL wD wR
  obtain ⟨wl, wl2, wlM, wlP, wvp, w0, wK, wB, wF, wV, wH, wM, wG, wP, wL, wD, wR⟩ := id hW5
  refine y_go rfl rfl ?_
  refine y_V1e rfl (Nat.le_of_ble_eq_true rfl) (Nat.le_of_ble_eq_true rfl) rfl rfl (xrcv_of (has_at w0 (i := 0) rfl)) (q_cmds1 (by omega) k0 _ _ _ tx cm2 fi2 se2 _ (l5.map (mpC (mk56 v0 v1))) hcm (by omega) (okC_1 p7 p8 hq5) J hJ1 hJ3 hJ2 h5 K hJ ⟨M, G, hM, hG, hW5⟩) (fun h6 hz6 => ?_)
  clear hM hG
  obtain ⟨hJz, M, G, hM, hG, hW6⟩ := hz6
  clear wl wl2 wlM wlP wvp w0 wK wB wF wV wH wM wG wP wL wD wR
  obtain ⟨wl, wl2, wlM, wlP, wvp, w0, wK, wB, wF, wV, wH, wM, wG, wP, wL, wD, wR⟩ := id hW6
  have hle := runK_le (l5.map (mpC (mk56 v0 v1))) 0 K
  rw [Nat.zero_add] at hle
  refine y_go (g' := (57, [.ref 0, .int (if true = true then 1 else 0), .int (nI (runK (l5.map (mpC (mk56 v0 v1))) 0 K).1)], _, _)) rfl rfl ?_
  refine y_go rfl rfl ?_
  refine y_go rfl rfl ?_
  refine y_getf (w := .ref 113) rfl rfl (has_at w0 (i := 0) rfl) rfl ?_
  refine y_getf (w := .int (nI (l5.map (mpC (mk56 v0 v1))).length)) rfl rfl (has_at wP (i := 0) rfl) rfl ?_
  by_cases hlt : (runK (l5.map (mpC (mk56 v0 v1))) 0 K).1 < (l5.map (mpC (mk56 v0 v1))).length
  · refine y_ic_ge rfl (fun c => absurd (nI_lt hlt (by omega)) c) (fun _ => ?_)
    refine y_go rfl rfl ?_
    refine y_getf (w := .ref 1) rfl rfl (has_at w0 (i := 0) rfl) rfl ?_
    refine y_go rfl rfl ?_
    refine y_getf (w := .ref 7) rfl rfl (has_at w0 (i := 0) rfl) rfl ?_
    refine y_V0e rfl (Nat.le_of_ble_eq_true rfl) (Nat.le_of_ble_eq_true rfl) rfl rfl (xrcv_of (has_at wK (i := 0) rfl)) (w_cpKB (by omega) hW6 (hJ1 _ _ hJz).1 kK2.1 k0) (fun h7 hW7 => ?_)
    clear wl wl2 wlM wlP wvp w0 wK wB wF wV wH wM wG wP wL wD wR
    obtain ⟨wl, wl2, wlM, wlP, wvp, w0, wK, wB, wF, wV, wH, wM, wG, wP, wL, wD, wR⟩ := id hW7
    refine y_go rfl rfl ?_
    refine y_go rfl rfl ?_
    refine y_putf rfl (has_at w0 (i := 0) rfl) (Nat.le_of_ble_eq_true rfl) (xf_int rfl) ?_
    show yW S d 101 (84, [.ref 0, .int (if true = true then 1 else 0), .int (nI (runK (l5.map (mpC (mk56 v0 v1))) 0 K).1)], [], (h7.set 0 (rkO e (nI (runK (l5.map (mpC (mk56 v0 v1))) 0 K).1) sv), k0)) _
    rw [set_0 w0]
    exact y_throw rfl rfl rfl (Or.inr ⟨_, (runK (l5.map (mpC (mk56 v0 v1))) 0 K).1, by omega, ⟨_, _, _, _, _, _, _, ⟨_, _, hM, hG, (W_0 (f2 := nI (runK (l5.map (mpC (mk56 v0 v1))) 0 K).1) hW7)⟩, kK2, kF, kV, kK2, hR0, hol, hsz, ⟨s5.1, l5.length, s5.2.1, tx, cm2, fi2, se2, mk56 v0 v1 s5.2.2.1, mk56 v0 v1 s5.2.2.2, by rw [← hl5m]; rfl, p1, Nat.zero_le _, fun i hi => absurd hi (Nat.not_lt_zero _), hcm.1, hcm.2.1, hcm.2.2.1, mk56_le p7 p8 z3, mk56_le p7 p8 z4, z1, hl5, z2⟩, hL⟩, rfl⟩)
  · have e9 : (runK (l5.map (mpC (mk56 v0 v1))) 0 K).1 = l5.length := by omega
    refine y_ic_ge rfl (fun _ => ?_) (fun c => absurd c (nI_nlt (by omega) (by omega)))
    refine y_go rfl rfl ?_
    refine y_getf (w := .ref 25) rfl rfl (has_at w0 (i := 0) rfl) rfl ?_
    refine y_go rfl rfl ?_
    refine y_getf (w := .ref 7) rfl rfl (has_at w0 (i := 0) rfl) rfl ?_
    refine y_V0e rfl (Nat.le_of_ble_eq_true rfl) (Nat.le_of_ble_eq_true rfl) rfl rfl (xrcv_of (has_at wH (i := 0) rfl)) (w_remember (by omega) hW6 k0 hol hsz (fun i hi => (hR0 i hi).1) kK2.1) (fun h7 hW7 => ?_)
    refine y_go rfl rfl ?_
    exact y_ireturn rfl rfl rfl (Or.inl ⟨h7, _, (by rw [hl5m] at hJz; exact hJz), ⟨_, _, _, _, _, _, _, ⟨_, _, hM, hG, hW7⟩, kK2, kF, kV, (hJ1 _ _ hJz), (kvp_up hR0 kK2 _), (by split; exact hol; exact Nat.mod_lt _ (by decide)), (by split <;> omega), ⟨s5.1, l5.length, s5.2.1, tx, cm2, fi2, se2, mk56 v0 v1 s5.2.2.1, mk56 v0 v1 s5.2.2.2, by rw [← hl5m]; rfl, p1, Nat.zero_le _, fun i hi => absurd hi (Nat.not_lt_zero _), hcm.1, hcm.2.1, hcm.2.2.1, mk56_le p7 p8 z3, mk56_le p7 p8 z4, z1, hl5, z2⟩, hL⟩, by rw [e9]⟩)
