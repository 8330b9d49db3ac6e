/-! THE KILN AS A WHOLE: what changes it. -/
def prC (len pos cnt vc : Int32) (tx : List Int32) (cm : List (Option Nat)) (fi se va : List Int32) : List xC := [.inl (8, [.ref 114, .int len, .int pos, .ref 115, .ref 116, .ref 117, .int cnt, .ref 118, .int vc]), .inr (.inl (1, tx)), .inr (.inr (.inr (5, cm))), .inr (.inl (0, fi)), .inr (.inl (0, se)), .inr (.inl (0, va))]
/-- the program: the text T has been typed -/
def prOK (T : List Int32) (P : List xC) : Prop := ∃ (pos cnt vc : Nat) (tx : List Int32) (cm : List (Option Nat)) (fi se : List Int32) (v0 v1 : Nat), P = prC (nI T.length) (nI pos) (nI cnt) (nI vc) tx cm fi se [nI v0, nI v1] ∧ tx.length = 60 ∧ T.length ≤ 60 ∧ (∀ i, i < T.length → gd tx i = gd T i) ∧ cm.length = 16 ∧ fi.length = 16 ∧ se.length = 16 ∧ v0 ≤ 1000 ∧ v1 ≤ 1000 ∧ pos ≤ 60 ∧ cnt ≤ 16 ∧ vc ≤ 2
def lnOK (D : List Int32) (ln : Int32) : Prop := ∃ n, ln = nI n ∧ n ≤ D.length ∧ (D.length = 16 ∨ D.length = 34 ∨ D.length = 70 ∨ D.length = 142)
def kvp (K : kK) : Prop := kv K ∧ kp K
/-- the world, told by what can be seen of it -/
def W2 (e f sv : Int32) (K V : kK) (ol sz : Nat) (R : Nat → kK) (T : List Int32) (h : xH) : Prop := ∃ (B F : kK) (P : List xC) (vp : Nat) (ml ln : Int32) (D : List Int32), W1 e f sv K B F V ol sz R P vp ml ln D h ∧ kvp B ∧ kv F ∧ kvp V ∧ kvp K ∧ (∀ i, i < 8 → kvp (R i)) ∧ ol < 8 ∧ sz ≤ 8 ∧ prOK T P ∧ lnOK D ln
theorem s_ans0 {S : List Int32} {d : Nat} (hd : 1 ≤ d) {o : Int32} (ho : xcode o = none) (s : xS) : yT S d 114 [.int o] s (· = (.inl (some (.int o)), s)) := by
  have h := s_answerOf (S := S) hd o s
  unfold xans at h; rw [ho] at h; exact h
theorem s_ansX {S : List Int32} {d : Nat} (hd : 1 ≤ d) {o : Int32} {E : String} (ho : xcode o = some E) (s : xS) : yT S d 114 [.int o] s (· = (.inr E, xth s)) := by
  have h := s_answerOf (S := S) hd o s
  unfold xans at h; rw [ho] at h; exact h
theorem kvp_up {R : Nat → kK} {B : kK} (hR : ∀ i, i < 8 → kvp (R i)) (hB : kvp B) (j : Nat) : ∀ i, i < 8 → kvp (up R j B i) := fun i hi => by
  unfold up; split
  · exact hB
  · exact hR i hi
theorem w_change {S : List Int32} {d : Nat} (hd : 10 ≤ d) {e f sv : Int32} {K V : kK} {ol sz : Nat} {R : Nat → kK} {T : List Int32} {h : xH} (hW2 : W2 e f sv K V ol sz R T h) (k0 : Nat × Nat) (c : Nat) (hc : c < 10) (a b : Nat) (ha : a ≤ 1000) (hb : b ≤ 1000) (hq : kvp (cmdX c a b K).2) : yT S d 115 [.ref 0, .ref (1000000 + c), .int (nI a), .int (nI b)] (h, k0) (fun r => (xcode (cmdX c a b K).1 = none ∧ ∃ h2, W2 e f sv (cmdX c a b K).2 V (if sz < 8 then ol else (ol + 1) % 8) (if sz < 8 then sz + 1 else sz) (up R ((ol + sz) % 8) K) T h2 ∧ r = (.inl (some (.int (cmdX c a b K).1)), (h2, k0))) ∨ ∃ E, xcode (cmdX c a b K).1 = some E ∧ ∃ h2, W2 e f sv (cmdX c a b K).2 V ol sz R T h2 ∧ r = (.inr E, xth (h2, k0))) := by
  obtain ⟨B, F, P, vp, ml, ln, D, ⟨M, G, hM, hG, hW⟩, kB, kF, kV, kK2, hR, hol, hsz, hP, hL⟩ := hW2
  obtain ⟨wl, wl2, wlM, wlP, wvp, w0, wK, wB, wF, wV, wH, wM, wG, wP, wL, wD, wR⟩ := id hW
  obtain ⟨d, rfl⟩ : ∃ e, d = e + 1 := ⟨d - 1, by omega⟩
  refine yT_x rfl (Nat.le_of_ble_eq_true rfl) ?_
  show yW S d 115 (0, [.ref 0, .ref (1000000 + c), .int (nI a), .int (nI b), xno], [], (h, k0)) _
  refine y_go rfl rfl ?_
  refine y_getf (w := .ref 7) rfl rfl (has_at w0 (i := 0) rfl) rfl ?_
  refine y_go rfl rfl ?_
  refine y_getf (w := .ref 1) rfl rfl (has_at w0 (i := 0) rfl) rfl ?_
  refine y_V0e rfl (Nat.le_of_ble_eq_true rfl) (Nat.le_of_ble_eq_true rfl) rfl rfl (xrcv_of (has_at wB (i := 0) rfl)) (w_cpB (by omega) hW kB.1 kK2.1 k0) (fun h3 hz => ?_)
  clear wl wl2 wlM wlP wvp w0 wK wB wF wV wH wM wG wP wL wD wR
  obtain ⟨wl, wl2, wlM, wlP, wvp, w0, wK, wB, wF, wV, wH, wM, wG, wP, wL, wD, wR⟩ := id hz
  refine y_go rfl rfl ?_
  refine y_go rfl rfl ?_
  refine y_go rfl rfl ?_
  refine y_go rfl rfl ?_
  refine y_V1e rfl (Nat.le_of_ble_eq_true rfl) (Nat.le_of_ble_eq_true rfl) rfl rfl (xrcv_of (has_at w0 (i := 0) rfl)) (w_carry (by omega) hz hM hG kK2.1 kK2.2 k0 a b ha hb c hc) (fun h4 hz4 => ?_)
  clear hM hG
  obtain ⟨M, G, hM, hG, hz5⟩ := hz4
  clear wl wl2 wlM wlP wvp w0 wK wB wF wV wH wM wG wP wL wD wR
  obtain ⟨wl, wl2, wlM, wlP, wvp, w0, wK, wB, wF, wV, wH, wM, wG, wP, wL, wD, wR⟩ := id hz5
  cases hx : xcode (cmdX c a b K).1 with
  | some E =>
    exact y_Sx rfl rfl (Nat.le_of_ble_eq_true rfl) (Nat.le_of_ble_eq_true rfl) rfl (s_ansX (by omega) hx _) rfl (Or.inr ⟨E, rfl, h4, ⟨_, _, _, _, _, _, _, ⟨_, _, hM, hG, hz5⟩, kK2, kF, kV, hq, hR, hol, hsz, hP, hL⟩, rfl⟩)
  | none =>
    refine y_S1 rfl rfl (Nat.le_of_ble_eq_true rfl) (Nat.le_of_ble_eq_true rfl) rfl rfl (s_ans0 (by omega) hx _) ?_
    refine y_go (g' := (23, [.ref 0, .ref (1000000 + c), .int (nI a), .int (nI b), .int ((cmdX c a b K).1)], _, _)) rfl rfl ?_
    refine y_go rfl rfl ?_
    refine y_getf (w := .ref 25) rfl rfl (has_at w0 (i := 0) rfl) rfl ?_
    refine y_go rfl rfl ?_
    refine y_getf (w := .ref 7) rfl rfl (has_at w0 (i := 0) rfl) rfl ?_
    refine y_V0e rfl (Nat.le_of_ble_eq_true rfl) (Nat.le_of_ble_eq_true rfl) rfl rfl (xrcv_of (has_at wH (i := 0) rfl)) (w_remember (by omega) hz5 k0 hol hsz (fun i hi => (hR i hi).1) kK2.1) (fun h5 hz6 => ?_)
    refine y_go rfl rfl ?_
    exact y_ireturn rfl rfl rfl (Or.inl ⟨rfl, h5, ⟨_, _, _, _, _, _, _, ⟨_, _, hM, hG, hz6⟩, kK2, kF, kV, hq, (kvp_up hR kK2 _), (by split; exact hol; exact Nat.mod_lt _ (by decide)), (by split <;> omega), hP, hL⟩, rfl⟩)
theorem w_undo0 {S : List Int32} {d : Nat} (hd : 4 ≤ d) {e f sv : Int32} {K V : kK} {ol sz : Nat} {R : Nat → kK} {T : List Int32} {h : xH} (hW2 : W2 e f sv K V ol sz R T h) (k0 : Nat × Nat) (h0 : sz = 0) : yT S d 104 [.ref 0] (h, k0) (· = (.inr "java/lang/IllegalStateException", xth (h, k0))) := by
  obtain ⟨B, F, P, vp, ml, ln, D, ⟨M, G, hM, hG, hW⟩, kB, kF, kV, kK2, hR, hol, hsz, hP, hL⟩ := hW2
  obtain ⟨wl, wl2, wlM, wlP, wvp, w0, wK, wB, wF, wV, wH, wM, wG, wP, wL, wD, wR⟩ := id hW
  obtain ⟨d, rfl⟩ : ∃ e, d = e + 1 := ⟨d - 1, by omega⟩
  refine yT_x rfl (Nat.le_of_ble_eq_true rfl) ?_
  show yW S d 104 (0, [.ref 0], [], (h, k0)) _
  refine y_go rfl rfl ?_
  refine y_getf (w := .ref 25) rfl rfl (has_at w0 (i := 0) rfl) rfl ?_
  refine y_go rfl rfl ?_
  refine y_getf (w := .ref 1) rfl rfl (has_at w0 (i := 0) rfl) rfl ?_
  refine y_V1 rfl (Nat.le_of_ble_eq_true rfl) (Nat.le_of_ble_eq_true rfl) rfl rfl (xrcv_of (has_at wH (i := 0) rfl)) (w_takeBack0 (by omega) hW k0 h0) ?_
  exact y_Sx rfl rfl (Nat.le_of_ble_eq_true rfl) (Nat.le_of_ble_eq_true rfl) rfl (s_ansX (by omega) (E := "java/lang/IllegalStateException") rfl _) rfl rfl
theorem w_undo {S : List Int32} {d : Nat} (hd : 4 ≤ d) {e f sv : Int32} {K V : kK} {ol sz : Nat} {R : Nat → kK} {T : List Int32} {h : xH} (hW2 : W2 e f sv K V ol sz R T h) (k0 : Nat × Nat) (s1 : Nat) (hs : sz = s1 + 1) : yT S d 104 [.ref 0] (h, k0) (fun r => ∃ h2, W2 e f sv (R ((ol + s1) % 8)) V ol s1 R T h2 ∧ r = (.inl (some (.int (nI s1))), (h2, k0))) := by
  obtain ⟨B, F, P, vp, ml, ln, D, ⟨M, G, hM, hG, hW⟩, kB, kF, kV, kK2, hR, hol, hsz, hP, hL⟩ := hW2
  obtain ⟨wl, wl2, wlM, wlP, wvp, w0, wK, wB, wF, wV, wH, wM, wG, wP, wL, wD, wR⟩ := id hW
  obtain ⟨d, rfl⟩ : ∃ e, d = e + 1 := ⟨d - 1, by omega⟩
  refine yT_x rfl (Nat.le_of_ble_eq_true rfl) ?_
  show yW S d 104 (0, [.ref 0], [], (h, k0)) _
  refine y_go rfl rfl ?_
  refine y_getf (w := .ref 25) rfl rfl (has_at w0 (i := 0) rfl) rfl ?_
  refine y_go rfl rfl ?_
  refine y_getf (w := .ref 1) rfl rfl (has_at w0 (i := 0) rfl) rfl ?_
  refine y_V1e rfl (Nat.le_of_ble_eq_true rfl) (Nat.le_of_ble_eq_true rfl) rfl rfl (xrcv_of (has_at wH (i := 0) rfl)) (w_takeBack (by omega) hW k0 hol hsz (fun i hi => (hR i hi).1) kK2.1 s1 hs) (fun h2 hz => ?_)
  refine y_S1 rfl rfl (Nat.le_of_ble_eq_true rfl) (Nat.le_of_ble_eq_true rfl) rfl rfl (s_ans0 (by omega) (xcode_pos (nI_pos (by omega))) _) ?_
  exact y_ireturn rfl rfl rfl ⟨h2, ⟨_, _, _, _, _, _, _, ⟨_, _, hM, hG, hz⟩, kB, kF, kV, (hR _ (Nat.mod_lt _ (by decide))), hR, hol, (by omega), hP, hL⟩, rfl⟩
theorem w_save {S : List Int32} {d : Nat} (hd : 4 ≤ d) {e f sv : Int32} {K V : kK} {ol sz : Nat} {R : Nat → kK} {T : List Int32} {h : xH} (hW2 : W2 e f sv K V ol sz R T h) (k0 : Nat × Nat) : yT S d 105 [.ref 0] (h, k0) (fun r => ∃ h2, W2 e f 1 K K ol sz R T h2 ∧ r = (.inl none, (h2, k0))) := by
  obtain ⟨B, F, P, vp, ml, ln, D, ⟨M, G, hM, hG, hW⟩, kB, kF, kV, kK2, hR, hol, hsz, hP, hL⟩ := hW2
  obtain ⟨wl, wl2, wlM, wlP, wvp, w0, wK, wB, wF, wV, wH, wM, wG, wP, wL, wD, wR⟩ := id hW
  obtain ⟨d, rfl⟩ : ∃ e, d = e + 1 := ⟨d - 1, by omega⟩
  refine yT_e (Nat.le_of_ble_eq_true rfl) ?_
  show yW S d 105 (0, [.ref 0], [], (h, k0)) _
  refine y_go rfl rfl ?_
  refine y_getf (w := .ref 19) rfl rfl (has_at w0 (i := 0) rfl) rfl ?_
  refine y_go rfl rfl ?_
  refine y_getf (w := .ref 1) rfl rfl (has_at w0 (i := 0) rfl) rfl ?_
  refine y_V0e rfl (Nat.le_of_ble_eq_true rfl) (Nat.le_of_ble_eq_true rfl) rfl rfl (xrcv_of (has_at wV (i := 0) rfl)) (w_cpV (by omega) hW kV.1 kK2.1 k0) (fun h3 hz => ?_)
  clear wl wl2 wlM wlP wvp w0 wK wB wF wV wH wM wG wP wL wD wR
  obtain ⟨wl, wl2, wlM, wlP, wvp, w0, wK, wB, wF, wV, wH, wM, wG, wP, wL, wD, wR⟩ := id hz
  have hl0 : 0 + 1 ≤ h3.length := has_len w0 (by show 0 < 1; decide)
  have hs3 := W_self w0 (by show 0 < 1; decide)
  suffices hg : yW S d 105 (11, [.ref 0], [], (put h3 0 [rkO e f sv], k0)) (fun r => ∃ h2, W2 e f 1 K K ol sz R T h2 ∧ r = (.inl none, (h2, k0))) by rw [hs3] at hg; exact hg
  refine y_go rfl rfl ?_
  refine y_go rfl rfl ?_
  refine y_putR (j := 0) (cs' := [rkO e f 1]) rfl hl0 rfl rfl (Nat.le_of_ble_eq_true rfl) rfl rfl ?_
  exact y_end rfl rfl ⟨_, ⟨_, _, _, _, _, _, _, ⟨_, _, hM, hG, (W_0 (sv2 := 1) hz)⟩, kB, kF, kK2, kK2, hR, hol, hsz, hP, hL⟩, rfl⟩
theorem w_restore0 {S : List Int32} {d : Nat} (hd : 4 ≤ d) {e f sv : Int32} {K V : kK} {ol sz : Nat} {R : Nat → kK} {T : List Int32} {h : xH} (hW2 : W2 e f sv K V ol sz R T h) (k0 : Nat × Nat) (h0 : sv = 0) : yT S d 106 [.ref 0] (h, k0) (· = (.inr "java/lang/IllegalStateException", xth (h, k0))) := by
  obtain ⟨B, F, P, vp, ml, ln, D, ⟨M, G, hM, hG, hW⟩, kB, kF, kV, kK2, hR, hol, hsz, hP, hL⟩ := hW2
  obtain ⟨wl, wl2, wlM, wlP, wvp, w0, wK, wB, wF, wV, wH, wM, wG, wP, wL, wD, wR⟩ := id hW
  obtain ⟨d, rfl⟩ : ∃ e, d = e + 1 := ⟨d - 1, by omega⟩
  refine yT_x rfl (Nat.le_of_ble_eq_true rfl) ?_
  show yW S d 106 (0, [.ref 0], [], (h, k0)) _
  refine y_go rfl rfl ?_
  refine y_getf (w := .int sv) rfl rfl (has_at w0 (i := 0) rfl) rfl ?_
  refine y_if_ne rfl (fun c => absurd (h0) c) (fun _ => ?_)
  exact y_throw rfl rfl rfl rfl
theorem w_restore {S : List Int32} {d : Nat} (hd : 4 ≤ d) {e f sv : Int32} {K V : kK} {ol sz : Nat} {R : Nat → kK} {T : List Int32} {h : xH} (hW2 : W2 e f sv K V ol sz R T h) (k0 : Nat × Nat) (h0 : ¬ sv = 0) : yT S d 106 [.ref 0] (h, k0) (fun r => ∃ h2, W2 e f sv V V ol 0 R T h2 ∧ r = (.inl none, (h2, k0))) := by
  obtain ⟨B, F, P, vp, ml, ln, D, ⟨M, G, hM, hG, hW⟩, kB, kF, kV, kK2, hR, hol, hsz, hP, hL⟩ := hW2
  obtain ⟨wl, wl2, wlM, wlP, wvp, w0, wK, wB, wF, wV, wH, wM, wG, wP, wL, wD, wR⟩ := id hW
  obtain ⟨d, rfl⟩ : ∃ e, d = e + 1 := ⟨d - 1, by omega⟩
  refine yT_x rfl (Nat.le_of_ble_eq_true rfl) ?_
  show yW S d 106 (0, [.ref 0], [], (h, k0)) _
  refine y_go rfl rfl ?_
  refine y_getf (w := .int sv) rfl rfl (has_at w0 (i := 0) rfl) rfl ?_
  refine y_if_ne rfl (fun _ => ?_) (fun c => absurd c (h0))
  refine y_go rfl rfl ?_
  refine y_getf (w := .ref 1) rfl rfl (has_at w0 (i := 0) rfl) rfl ?_
  refine y_go rfl rfl ?_
  refine y_getf (w := .ref 19) rfl rfl (has_at w0 (i := 0) rfl) rfl ?_
  refine y_V0e rfl (Nat.le_of_ble_eq_true rfl) (Nat.le_of_ble_eq_true rfl) rfl rfl (xrcv_of (has_at wK (i := 0) rfl)) (w_cpKV (by omega) hW kK2.1 kV.1 k0) (fun h3 hz => ?_)
  clear wl wl2 wlM wlP wvp w0 wK wB wF wV wH wM wG wP wL wD wR
  obtain ⟨wl, wl2, wlM, wlP, wvp, w0, wK, wB, wF, wV, wH, wM, wG, wP, wL, wD, wR⟩ := id hz
  refine y_go rfl rfl ?_
  refine y_getf (w := .ref 25) rfl rfl (has_at w0 (i := 0) rfl) rfl ?_
  refine y_V0e rfl (Nat.le_of_ble_eq_true rfl) (Nat.le_of_ble_eq_true rfl) rfl rfl (xrcv_of (has_at wH (i := 0) rfl)) (w_forget (by omega) hz k0) (fun h4 hz4 => ?_)
  exact y_end rfl rfl ⟨_, ⟨_, _, _, _, _, _, _, ⟨_, _, hM, hG, hz4⟩, kB, kF, kV, kV, hR, hol, (by omega), hP, hL⟩, rfl⟩
