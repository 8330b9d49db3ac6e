/-! THE KILN AS A WHOLE: what it tells. -/
/-- an answer, or what answerOf makes of a refusal, in a world of W -/
def ansP (v : Int32) (W : xH → Prop) (k0 : Nat × Nat) (r : xR) : Prop := (xcode v = none ∧ ∃ h2, W h2 ∧ r = (.inl (some (.int v)), (h2, k0))) ∨ ∃ E, xcode v = some E ∧ ∃ h2, W h2 ∧ r = (.inr E, xth (h2, k0))
theorem kv_tillOut : ∀ (n i : Nat) (K : kK), kv K → kv (tillOut n i K).2
  | 0, _, _, h => h
  | n + 1, i, K, h => by
    simp only [tillOut]; split
    · exact h
    · exact kv_tillOut n (i + 1) _ (kv_hour h)
theorem kv_tillCool (j : Nat) : ∀ (n i : Nat) (K : kK), kv K → kv (tillCool j n i K).2
  | 0, _, _, h => h
  | n + 1, i, K, h => by
    simp only [tillCool]; split
    · exact kv_tillCool j n (i + 1) _ (kv_hour h)
    · exact h
theorem nIlt8 {j : Nat} (hj : j < 8) : ¬ (nI j < 0 ∨ 7 < nI j) := fun q => xout (u := j) (l := 0) (m := 7) (by omega) (by decide) (by decide) q ⟨Nat.zero_le _, by omega⟩
theorem q_time {S : List Int32} {d : Nat} (hd : 8 ≤ d) {e f sv : Int32} {K V : kK} {ol sz : Nat} {R : Nat → kK} {T : List Int32} {h : xH} (hW2 : W2 e f sv K V ol sz R T h) (k0 : Nat × Nat) : yT S d 71 [.ref 0] (h, k0) (· = (.inl (some (.int (K.1 0))), (h, k0))) := by
  have hW2c := hW2
  obtain ⟨B, F, P, vp, ml, ln, D, ⟨M, G, hM, hG, hW⟩, kB, kF, kV, kK2, hR, hol, hsz, hP, hL⟩ := hW2
  obtain ⟨wl, wl2, wlM, wlP, wvp, w0, wK, wB, wF, wV, wH, wM, wG, wP, wL, wD, wR⟩ := id hW
  have lK : 1 + 6 ≤ h.length := has_len wK (by show 0 < 6; decide)
  obtain ⟨d, rfl⟩ : ∃ e, d = e + 1 := ⟨d - 1, by omega⟩
  refine yT_eq (Nat.le_of_ble_eq_true rfl) ?_
  show yW S d 71 (0, [.ref 0], [], (h, k0)) _
  refine y_go rfl rfl ?_
  refine y_getf (w := .ref 1) rfl rfl (has_at w0 (i := 0) rfl) rfl ?_
  refine y_getf (w := .int (K.1 0)) rfl rfl (has_at wK (i := 0) rfl) rfl ?_
  exact y_ireturn rfl rfl rfl rfl
theorem q_heat {S : List Int32} {d : Nat} (hd : 8 ≤ d) {e f sv : Int32} {K V : kK} {ol sz : Nat} {R : Nat → kK} {T : List Int32} {h : xH} (hW2 : W2 e f sv K V ol sz R T h) (k0 : Nat × Nat) : yT S d 74 [.ref 0] (h, k0) (· = (.inl (some (.int (K.1 2))), (h, k0))) := by
  have hW2c := hW2
  obtain ⟨B, F, P, vp, ml, ln, D, ⟨M, G, hM, hG, hW⟩, kB, kF, kV, kK2, hR, hol, hsz, hP, hL⟩ := hW2
  obtain ⟨wl, wl2, wlM, wlP, wvp, w0, wK, wB, wF, wV, wH, wM, wG, wP, wL, wD, wR⟩ := id hW
  have lK : 1 + 6 ≤ h.length := has_len wK (by show 0 < 6; decide)
  obtain ⟨d, rfl⟩ : ∃ e, d = e + 1 := ⟨d - 1, by omega⟩
  refine yT_eq (Nat.le_of_ble_eq_true rfl) ?_
  show yW S d 74 (0, [.ref 0], [], (h, k0)) _
  refine y_go rfl rfl ?_
  refine y_getf (w := .ref 1) rfl rfl (has_at w0 (i := 0) rfl) rfl ?_
  refine y_getf (w := .int (K.1 2)) rfl rfl (has_at wK (i := 0) rfl) rfl ?_
  exact y_ireturn rfl rfl rfl rfl
theorem q_draught {S : List Int32} {d : Nat} (hd : 8 ≤ d) {e f sv : Int32} {K V : kK} {ol sz : Nat} {R : Nat → kK} {T : List Int32} {h : xH} (hW2 : W2 e f sv K V ol sz R T h) (k0 : Nat × Nat) : yT S d 75 [.ref 0] (h, k0) (· = (.inl (some (.int (K.1 3))), (h, k0))) := by
  have hW2c := hW2
  obtain ⟨B, F, P, vp, ml, ln, D, ⟨M, G, hM, hG, hW⟩, kB, kF, kV, kK2, hR, hol, hsz, hP, hL⟩ := hW2
  obtain ⟨wl, wl2, wlM, wlP, wvp, w0, wK, wB, wF, wV, wH, wM, wG, wP, wL, wD, wR⟩ := id hW
  have lK : 1 + 6 ≤ h.length := has_len wK (by show 0 < 6; decide)
  obtain ⟨d, rfl⟩ : ∃ e, d = e + 1 := ⟨d - 1, by omega⟩
  refine yT_eq (Nat.le_of_ble_eq_true rfl) ?_
  show yW S d 75 (0, [.ref 0], [], (h, k0)) _
  refine y_go rfl rfl ?_
  refine y_getf (w := .ref 1) rfl rfl (has_at w0 (i := 0) rfl) rfl ?_
  refine y_getf (w := .int (K.1 3)) rfl rfl (has_at wK (i := 0) rfl) rfl ?_
  exact y_ireturn rfl rfl rfl rfl
theorem q_stock {S : List Int32} {d : Nat} (hd : 8 ≤ d) {e f sv : Int32} {K V : kK} {ol sz : Nat} {R : Nat → kK} {T : List Int32} {h : xH} (hW2 : W2 e f sv K V ol sz R T h) (k0 : Nat × Nat) : yT S d 93 [.ref 0] (h, k0) (· = (.inl (some (.int (K.1 9))), (h, k0))) := by
  have hW2c := hW2
  obtain ⟨B, F, P, vp, ml, ln, D, ⟨M, G, hM, hG, hW⟩, kB, kF, kV, kK2, hR, hol, hsz, hP, hL⟩ := hW2
  obtain ⟨wl, wl2, wlM, wlP, wvp, w0, wK, wB, wF, wV, wH, wM, wG, wP, wL, wD, wR⟩ := id hW
  have lK : 1 + 6 ≤ h.length := has_len wK (by show 0 < 6; decide)
  obtain ⟨d, rfl⟩ : ∃ e, d = e + 1 := ⟨d - 1, by omega⟩
  refine yT_eq (Nat.le_of_ble_eq_true rfl) ?_
  show yW S d 93 (0, [.ref 0], [], (h, k0)) _
  refine y_go rfl rfl ?_
  refine y_getf (w := .ref 1) rfl rfl (has_at w0 (i := 0) rfl) rfl ?_
  refine y_getf (w := .int (K.1 9)) rfl rfl (has_at wK (i := 0) rfl) rfl ?_
  exact y_ireturn rfl rfl rfl rfl
theorem q_walls {S : List Int32} {d : Nat} (hd : 8 ≤ d) {e f sv : Int32} {K V : kK} {ol sz : Nat} {R : Nat → kK} {T : List Int32} {h : xH} (hW2 : W2 e f sv K V ol sz R T h) (k0 : Nat × Nat) : yT S d 94 [.ref 0] (h, k0) (· = (.inl (some (.int (K.1 10))), (h, k0))) := by
  have hW2c := hW2
  obtain ⟨B, F, P, vp, ml, ln, D, ⟨M, G, hM, hG, hW⟩, kB, kF, kV, kK2, hR, hol, hsz, hP, hL⟩ := hW2
  obtain ⟨wl, wl2, wlM, wlP, wvp, w0, wK, wB, wF, wV, wH, wM, wG, wP, wL, wD, wR⟩ := id hW
  have lK : 1 + 6 ≤ h.length := has_len wK (by show 0 < 6; decide)
  obtain ⟨d, rfl⟩ : ∃ e, d = e + 1 := ⟨d - 1, by omega⟩
  refine yT_eq (Nat.le_of_ble_eq_true rfl) ?_
  show yW S d 94 (0, [.ref 0], [], (h, k0)) _
  refine y_go rfl rfl ?_
  refine y_getf (w := .ref 1) rfl rfl (has_at w0 (i := 0) rfl) rfl ?_
  refine y_getf (w := .int (K.1 10)) rfl rfl (has_at wK (i := 0) rfl) rfl ?_
  exact y_ireturn rfl rfl rfl rfl
theorem q_paid {S : List Int32} {d : Nat} (hd : 8 ≤ d) {e f sv : Int32} {K V : kK} {ol sz : Nat} {R : Nat → kK} {T : List Int32} {h : xH} (hW2 : W2 e f sv K V ol sz R T h) (k0 : Nat × Nat) : yT S d 97 [.ref 0] (h, k0) (· = (.inl (some (.int (K.1 14))), (h, k0))) := by
  have hW2c := hW2
  obtain ⟨B, F, P, vp, ml, ln, D, ⟨M, G, hM, hG, hW⟩, kB, kF, kV, kK2, hR, hol, hsz, hP, hL⟩ := hW2
  obtain ⟨wl, wl2, wlM, wlP, wvp, w0, wK, wB, wF, wV, wH, wM, wG, wP, wL, wD, wR⟩ := id hW
  have lK : 1 + 6 ≤ h.length := has_len wK (by show 0 < 6; decide)
  obtain ⟨d, rfl⟩ : ∃ e, d = e + 1 := ⟨d - 1, by omega⟩
  refine yT_eq (Nat.le_of_ble_eq_true rfl) ?_
  show yW S d 97 (0, [.ref 0], [], (h, k0)) _
  refine y_go rfl rfl ?_
  refine y_getf (w := .ref 1) rfl rfl (has_at w0 (i := 0) rfl) rfl ?_
  refine y_getf (w := .int (K.1 14)) rfl rfl (has_at wK (i := 0) rfl) rfl ?_
  exact y_ireturn rfl rfl rfl rfl
theorem q_accounts {S : List Int32} {d : Nat} (hd : 8 ≤ d) {e f sv : Int32} {K V : kK} {ol sz : Nat} {R : Nat → kK} {T : List Int32} {h : xH} (hW2 : W2 e f sv K V ol sz R T h) (k0 : Nat × Nat) : yT S d 96 [.ref 0] (h, k0) (· = (.inl (some (.int (K.1 11 - K.1 13))), (h, k0))) := by
  have hW2c := hW2
  obtain ⟨B, F, P, vp, ml, ln, D, ⟨M, G, hM, hG, hW⟩, kB, kF, kV, kK2, hR, hol, hsz, hP, hL⟩ := hW2
  obtain ⟨wl, wl2, wlM, wlP, wvp, w0, wK, wB, wF, wV, wH, wM, wG, wP, wL, wD, wR⟩ := id hW
  have lK : 1 + 6 ≤ h.length := has_len wK (by show 0 < 6; decide)
  obtain ⟨d, rfl⟩ : ∃ e, d = e + 1 := ⟨d - 1, by omega⟩
  refine yT_eq (Nat.le_of_ble_eq_true rfl) ?_
  show yW S d 96 (0, [.ref 0], [], (h, k0)) _
  refine y_go rfl rfl ?_
  refine y_getf (w := .ref 1) rfl rfl (has_at w0 (i := 0) rfl) rfl ?_
  refine y_getf (w := .int (K.1 11)) rfl rfl (has_at wK (i := 0) rfl) rfl ?_
  refine y_go rfl rfl ?_
  refine y_getf (w := .ref 1) rfl rfl (has_at w0 (i := 0) rfl) rfl ?_
  refine y_getf (w := .int (K.1 13)) rfl rfl (has_at wK (i := 0) rfl) rfl ?_
  refine y_go rfl rfl ?_
  exact y_ireturn rfl rfl rfl rfl
theorem q_isLit {S : List Int32} {d : Nat} (hd : 8 ≤ d) {e f sv : Int32} {K V : kK} {ol sz : Nat} {R : Nat → kK} {T : List Int32} {h : xH} (hW2 : W2 e f sv K V ol sz R T h) (k0 : Nat × Nat) : yT S d 72 [.ref 0] (h, k0) (· = (.inl (some (.int (if K.1 1 = -1 then 0 else 1))), (h, k0))) := by
  have hW2c := hW2
  obtain ⟨B, F, P, vp, ml, ln, D, ⟨M, G, hM, hG, hW⟩, kB, kF, kV, kK2, hR, hol, hsz, hP, hL⟩ := hW2
  obtain ⟨wl, wl2, wlM, wlP, wvp, w0, wK, wB, wF, wV, wH, wM, wG, wP, wL, wD, wR⟩ := id hW
  have lK : 1 + 6 ≤ h.length := has_len wK (by show 0 < 6; decide)
  obtain ⟨d, rfl⟩ : ∃ e, d = e + 1 := ⟨d - 1, by omega⟩
  refine yT_eq (Nat.le_of_ble_eq_true rfl) ?_
  show yW S d 72 (0, [.ref 0], [], (h, k0)) _
  refine y_go rfl rfl ?_
  refine y_getf (w := .ref 1) rfl rfl (has_at w0 (i := 0) rfl) rfl ?_
  refine y_V1 rfl (Nat.le_of_ble_eq_true rfl) (Nat.le_of_ble_eq_true rfl) rfl rfl (xrcv_of (has_at wK (i := 0) rfl)) (w_Kr hW (Q := fun z => (.inl (some (.int (if K.1 1 = -1 then 0 else 1))), (z, k0))) (s_fireIsLit (by omega) lK K.1 K.2.1 K.2.2.1 K.2.2.2.1 K.2.2.2.2.1 K.2.2.2.2.2 k0)) ?_
  exact y_ireturn rfl rfl (by split <;> rfl) rfl
theorem q_brickTotal {S : List Int32} {d : Nat} (hd : 8 ≤ d) {e f sv : Int32} {K V : kK} {ol sz : Nat} {R : Nat → kK} {T : List Int32} {h : xH} (hW2 : W2 e f sv K V ol sz R T h) (k0 : Nat × Nat) : yT S d 95 [.ref 0] (h, k0) (· = (.inl (some (.int (sumTo (K.1 9) K.2.2.1 8))), (h, k0))) := by
  have hW2c := hW2
  obtain ⟨B, F, P, vp, ml, ln, D, ⟨M, G, hM, hG, hW⟩, kB, kF, kV, kK2, hR, hol, hsz, hP, hL⟩ := hW2
  obtain ⟨wl, wl2, wlM, wlP, wvp, w0, wK, wB, wF, wV, wH, wM, wG, wP, wL, wD, wR⟩ := id hW
  have lK : 1 + 6 ≤ h.length := has_len wK (by show 0 < 6; decide)
  obtain ⟨d, rfl⟩ : ∃ e, d = e + 1 := ⟨d - 1, by omega⟩
  refine yT_eq (Nat.le_of_ble_eq_true rfl) ?_
  show yW S d 95 (0, [.ref 0], [], (h, k0)) _
  refine y_go rfl rfl ?_
  refine y_getf (w := .ref 1) rfl rfl (has_at w0 (i := 0) rfl) rfl ?_
  refine y_V1 rfl (Nat.le_of_ble_eq_true rfl) (Nat.le_of_ble_eq_true rfl) rfl rfl (xrcv_of (has_at wK (i := 0) rfl)) (w_Kr hW (Q := fun z => (.inl (some (.int (sumTo (K.1 9) K.2.2.1 8))), (z, k0))) (s_bricksInSight (by omega) lK K.1 K.2.1 K.2.2.1 K.2.2.2.1 K.2.2.2.2.1 K.2.2.2.2.2 k0 kK2.1.2.1)) ?_
  exact y_ireturn rfl rfl rfl rfl
theorem q_fire {S : List Int32} {d : Nat} (hd : 8 ≤ d) {e f sv : Int32} {K V : kK} {ol sz : Nat} {R : Nat → kK} {T : List Int32} {h : xH} (hW2 : W2 e f sv K V ol sz R T h) (k0 : Nat × Nat) (hf : ¬ K.1 1 = -1) : yT S d 73 [.ref 0] (h, k0) (ansP (K.1 1) (W2 e f sv K V ol sz R T) k0) := by
  have hW2c := hW2
  obtain ⟨B, F, P, vp, ml, ln, D, ⟨M, G, hM, hG, hW⟩, kB, kF, kV, kK2, hR, hol, hsz, hP, hL⟩ := hW2
  obtain ⟨wl, wl2, wlM, wlP, wvp, w0, wK, wB, wF, wV, wH, wM, wG, wP, wL, wD, wR⟩ := id hW
  have lK : 1 + 6 ≤ h.length := has_len wK (by show 0 < 6; decide)
  obtain ⟨d, rfl⟩ : ∃ e, d = e + 1 := ⟨d - 1, by omega⟩
  refine yT_x rfl (Nat.le_of_ble_eq_true rfl) ?_
  show yW S d 73 (0, [.ref 0], [], (h, k0)) _
  refine y_go rfl rfl ?_
  refine y_getf (w := .ref 1) rfl rfl (has_at w0 (i := 0) rfl) rfl ?_
  refine y_V1 rfl (Nat.le_of_ble_eq_true rfl) (Nat.le_of_ble_eq_true rfl) rfl rfl (xrcv_of (has_at wK (i := 0) rfl)) (w_Kr hW (Q := fun z => (.inl (some (.int (if K.1 1 = -1 then 0 else 1))), (z, k0))) (s_fireIsLit (by omega) lK K.1 K.2.1 K.2.2.1 K.2.2.2.1 K.2.2.2.2.1 K.2.2.2.2.2 k0)) ?_
  refine y_if_eq rfl (fun c => absurd c (by rw [if_neg hf]; decide)) (fun _ => ?_)
  refine y_go rfl rfl ?_
  refine y_getf (w := .ref 1) rfl rfl (has_at w0 (i := 0) rfl) rfl ?_
  refine y_getf (w := .int (K.1 1)) rfl rfl (has_at wK (i := 0) rfl) rfl ?_
  refine y_go rfl rfl ?_
  cases hx : xcode (K.1 1) with
  | some E => exact y_Sx rfl rfl (Nat.le_of_ble_eq_true rfl) (Nat.le_of_ble_eq_true rfl) rfl (s_ansX (by omega) hx _) rfl (Or.inr ⟨E, hx, h, hW2c, rfl⟩)
  | none =>
    refine y_S1 rfl rfl (Nat.le_of_ble_eq_true rfl) (Nat.le_of_ble_eq_true rfl) rfl rfl (s_ans0 (by omega) hx _) ?_
    exact y_ireturn rfl rfl rfl (Or.inl ⟨hx, h, hW2c, rfl⟩)
theorem q_fire0 {S : List Int32} {d : Nat} (hd : 8 ≤ d) {e f sv : Int32} {K V : kK} {ol sz : Nat} {R : Nat → kK} {T : List Int32} {h : xH} (hW2 : W2 e f sv K V ol sz R T h) (k0 : Nat × Nat) (hf : K.1 1 = -1) : yT S d 73 [.ref 0] (h, k0) (ansP (-5) (W2 e f sv K V ol sz R T) k0) := by
  have hW2c := hW2
  obtain ⟨B, F, P, vp, ml, ln, D, ⟨M, G, hM, hG, hW⟩, kB, kF, kV, kK2, hR, hol, hsz, hP, hL⟩ := hW2
  obtain ⟨wl, wl2, wlM, wlP, wvp, w0, wK, wB, wF, wV, wH, wM, wG, wP, wL, wD, wR⟩ := id hW
  have lK : 1 + 6 ≤ h.length := has_len wK (by show 0 < 6; decide)
  obtain ⟨d, rfl⟩ : ∃ e, d = e + 1 := ⟨d - 1, by omega⟩
  refine yT_x rfl (Nat.le_of_ble_eq_true rfl) ?_
  show yW S d 73 (0, [.ref 0], [], (h, k0)) _
  refine y_go rfl rfl ?_
  refine y_getf (w := .ref 1) rfl rfl (has_at w0 (i := 0) rfl) rfl ?_
  refine y_V1 rfl (Nat.le_of_ble_eq_true rfl) (Nat.le_of_ble_eq_true rfl) rfl rfl (xrcv_of (has_at wK (i := 0) rfl)) (w_Kr hW (Q := fun z => (.inl (some (.int (if K.1 1 = -1 then 0 else 1))), (z, k0))) (s_fireIsLit (by omega) lK K.1 K.2.1 K.2.2.1 K.2.2.2.1 K.2.2.2.2.1 K.2.2.2.2.2 k0)) ?_
  refine y_if_eq rfl (fun _ => ?_) (fun c => absurd (if_pos hf) c)
  refine y_go rfl rfl ?_
  cases hx : xcode (-5) with
  | some E => exact y_Sx rfl rfl (Nat.le_of_ble_eq_true rfl) (Nat.le_of_ble_eq_true rfl) rfl (s_ansX (by omega) hx _) rfl (Or.inr ⟨E, hx, h, hW2c, rfl⟩)
  | none =>
    refine y_S1 rfl rfl (Nat.le_of_ble_eq_true rfl) (Nat.le_of_ble_eq_true rfl) rfl rfl (s_ans0 (by omega) hx _) ?_
    exact y_ireturn rfl rfl rfl (Or.inl ⟨hx, h, hW2c, rfl⟩)
theorem q_state {S : List Int32} {d : Nat} (hd : 8 ≤ d) {e f sv : Int32} {K V : kK} {ol sz : Nat} {R : Nat → kK} {T : List Int32} {h : xH} (hW2 : W2 e f sv K V ol sz R T h) (k0 : Nat × Nat) (j : Nat) (hj : j < 8) (hs : gd K.2.1 j = 101 ∨ gd K.2.1 j = 103 ∨ gd K.2.1 j = 102) : yT S d 76 [.ref 0, .int (nI j)] (h, k0) (· = (.inl (some (.int (gd K.2.1 j))), (h, k0))) := by
  have hW2c := hW2
  obtain ⟨B, F, P, vp, ml, ln, D, ⟨M, G, hM, hG, hW⟩, kB, kF, kV, kK2, hR, hol, hsz, hP, hL⟩ := hW2
  obtain ⟨wl, wl2, wlM, wlP, wvp, w0, wK, wB, wF, wV, wH, wM, wG, wP, wL, wD, wR⟩ := id hW
  have lK : 1 + 6 ≤ h.length := has_len wK (by show 0 < 6; decide)
  obtain ⟨d, rfl⟩ : ∃ e, d = e + 1 := ⟨d - 1, by omega⟩
  refine yT_eq (Nat.le_of_ble_eq_true rfl) ?_
  show yW S d 76 (0, [.ref 0, .int (nI j)], [], (h, k0)) _
  refine y_go rfl rfl ?_
  refine y_S0 rfl rfl (Nat.le_of_ble_eq_true rfl) (Nat.le_of_ble_eq_true rfl) rfl rfl (s_needChamber (by omega) _ (nIlt8 hj) _) ?_
  refine y_go rfl rfl ?_
  refine y_getf (w := .ref 1) rfl rfl (has_at w0 (i := 0) rfl) rfl ?_
  refine y_getf (w := .ref (1 + 1)) rfl rfl (has_at wK (i := 0) rfl) rfl ?_
  refine y_go rfl rfl ?_
  refine y_ald (t := 1) (j := j) (l := K.2.1) (x := (gd K.2.1 j)) rfl (Or.inr (Or.inl ⟨rfl, rfl⟩)) (has_at wK (i := 1) rfl) (xidx_nI (by omega)) (xgd (by rw [kK2.1.1]; omega)) ?_
  exact y_ireturn rfl rfl (by rcases hs with e | e | e <;> rw [e] <;> rfl) rfl
theorem q_bricks {S : List Int32} {d : Nat} (hd : 8 ≤ d) {e f sv : Int32} {K V : kK} {ol sz : Nat} {R : Nat → kK} {T : List Int32} {h : xH} (hW2 : W2 e f sv K V ol sz R T h) (k0 : Nat × Nat) (j : Nat) (hj : j < 8) : yT S d 77 [.ref 0, .int (nI j)] (h, k0) (· = (.inl (some (.int (gd K.2.2.1 j))), (h, k0))) := by
  have hW2c := hW2
  obtain ⟨B, F, P, vp, ml, ln, D, ⟨M, G, hM, hG, hW⟩, kB, kF, kV, kK2, hR, hol, hsz, hP, hL⟩ := hW2
  obtain ⟨wl, wl2, wlM, wlP, wvp, w0, wK, wB, wF, wV, wH, wM, wG, wP, wL, wD, wR⟩ := id hW
  have lK : 1 + 6 ≤ h.length := has_len wK (by show 0 < 6; decide)
  obtain ⟨d, rfl⟩ : ∃ e, d = e + 1 := ⟨d - 1, by omega⟩
  refine yT_eq (Nat.le_of_ble_eq_true rfl) ?_
  show yW S d 77 (0, [.ref 0, .int (nI j)], [], (h, k0)) _
  refine y_go rfl rfl ?_
  refine y_S0 rfl rfl (Nat.le_of_ble_eq_true rfl) (Nat.le_of_ble_eq_true rfl) rfl rfl (s_needChamber (by omega) _ (nIlt8 hj) _) ?_
  refine y_go rfl rfl ?_
  refine y_getf (w := .ref 1) rfl rfl (has_at w0 (i := 0) rfl) rfl ?_
  refine y_getf (w := .ref (1 + 2)) rfl rfl (has_at wK (i := 0) rfl) rfl ?_
  refine y_go rfl rfl ?_
  refine y_ald (t := 0) (j := j) (l := K.2.2.1) (x := (gd K.2.2.1 j)) rfl (Or.inl ⟨rfl, rfl⟩) (has_at wK (i := 2) rfl) (xidx_nI (by omega)) (xgd (by rw [kK2.1.2.1]; omega)) ?_
  exact y_ireturn rfl rfl rfl rfl
theorem q_temperature {S : List Int32} {d : Nat} (hd : 8 ≤ d) {e f sv : Int32} {K V : kK} {ol sz : Nat} {R : Nat → kK} {T : List Int32} {h : xH} (hW2 : W2 e f sv K V ol sz R T h) (k0 : Nat × Nat) (j : Nat) (hj : j < 8) : yT S d 78 [.ref 0, .int (nI j)] (h, k0) (· = (.inl (some (.int (gd K.2.2.2.1 j))), (h, k0))) := by
  have hW2c := hW2
  obtain ⟨B, F, P, vp, ml, ln, D, ⟨M, G, hM, hG, hW⟩, kB, kF, kV, kK2, hR, hol, hsz, hP, hL⟩ := hW2
  obtain ⟨wl, wl2, wlM, wlP, wvp, w0, wK, wB, wF, wV, wH, wM, wG, wP, wL, wD, wR⟩ := id hW
  have lK : 1 + 6 ≤ h.length := has_len wK (by show 0 < 6; decide)
  obtain ⟨d, rfl⟩ : ∃ e, d = e + 1 := ⟨d - 1, by omega⟩
  refine yT_eq (Nat.le_of_ble_eq_true rfl) ?_
  show yW S d 78 (0, [.ref 0, .int (nI j)], [], (h, k0)) _
  refine y_go rfl rfl ?_
  refine y_S0 rfl rfl (Nat.le_of_ble_eq_true rfl) (Nat.le_of_ble_eq_true rfl) rfl rfl (s_needChamber (by omega) _ (nIlt8 hj) _) ?_
  refine y_go rfl rfl ?_
  refine y_getf (w := .ref 1) rfl rfl (has_at w0 (i := 0) rfl) rfl ?_
  refine y_getf (w := .ref (1 + 3)) rfl rfl (has_at wK (i := 0) rfl) rfl ?_
  refine y_go rfl rfl ?_
  refine y_ald (t := 0) (j := j) (l := K.2.2.2.1) (x := (gd K.2.2.2.1 j)) rfl (Or.inl ⟨rfl, rfl⟩) (has_at wK (i := 3) rfl) (xidx_nI (by omega)) (xgd (by rw [kK2.1.2.2.1]; omega)) ?_
  exact y_ireturn rfl rfl rfl rfl
theorem q_rank {S : List Int32} {d : Nat} (hd : 8 ≤ d) {e f sv : Int32} {K V : kK} {ol sz : Nat} {R : Nat → kK} {T : List Int32} {h : xH} (hW2 : W2 e f sv K V ol sz R T h) (k0 : Nat × Nat) (v : Int32) : yT S d 79 [.ref 0, .int v] (h, k0) (ansP (crk K.2.2.2.1 K.2.2.1 v 8 0) (W2 e f sv K V ol sz R T) k0) := by
  have hW2c := hW2
  obtain ⟨B, F, P, vp, ml, ln, D, ⟨M, G, hM, hG, hW⟩, kB, kF, kV, kK2, hR, hol, hsz, hP, hL⟩ := hW2
  obtain ⟨wl, wl2, wlM, wlP, wvp, w0, wK, wB, wF, wV, wH, wM, wG, wP, wL, wD, wR⟩ := id hW
  have lK : 1 + 6 ≤ h.length := has_len wK (by show 0 < 6; decide)
  obtain ⟨d, rfl⟩ : ∃ e, d = e + 1 := ⟨d - 1, by omega⟩
  refine yT_x rfl (Nat.le_of_ble_eq_true rfl) ?_
  show yW S d 79 (0, [.ref 0, .int v], [], (h, k0)) _
  refine y_go rfl rfl ?_
  refine y_getf (w := .ref 1) rfl rfl (has_at w0 (i := 0) rfl) rfl ?_
  refine y_go rfl rfl ?_
  refine y_V1 rfl (Nat.le_of_ble_eq_true rfl) (Nat.le_of_ble_eq_true rfl) rfl rfl (xrcv_of (has_at wK (i := 0) rfl)) (w_Kr hW (Q := fun z => (.inl (some (.int (crk K.2.2.2.1 K.2.2.1 v 8 0))), (z, k0))) (s_chamberRanked (by omega) lK K.1 K.2.1 K.2.2.1 K.2.2.2.1 K.2.2.2.2.1 K.2.2.2.2.2 k0 kK2.1.2.1 kK2.1.2.2.1 v)) ?_
  cases hx : xcode (crk K.2.2.2.1 K.2.2.1 v 8 0) with
  | some E => exact y_Sx rfl rfl (Nat.le_of_ble_eq_true rfl) (Nat.le_of_ble_eq_true rfl) rfl (s_ansX (by omega) hx _) rfl (Or.inr ⟨E, hx, h, hW2c, rfl⟩)
  | none =>
    refine y_S1 rfl rfl (Nat.le_of_ble_eq_true rfl) (Nat.le_of_ble_eq_true rfl) rfl rfl (s_ans0 (by omega) hx _) ?_
    exact y_ireturn rfl rfl rfl (Or.inl ⟨hx, h, hW2c, rfl⟩)
theorem q_in_e {S : List Int32} {d : Nat} (hd : 8 ≤ d) {e f sv : Int32} {K V : kK} {ol sz : Nat} {R : Nat → kK} {T : List Int32} {h : xH} (hW2 : W2 e f sv K V ol sz R T h) (k0 : Nat × Nat) : yT S d 80 [.ref 0, .int 101] (h, k0) (ansP (cntTo K.2.1 101 8) (W2 e f sv K V ol sz R T) k0) := by
  have hW2c := hW2
  obtain ⟨B, F, P, vp, ml, ln, D, ⟨M, G, hM, hG, hW⟩, kB, kF, kV, kK2, hR, hol, hsz, hP, hL⟩ := hW2
  obtain ⟨wl, wl2, wlM, wlP, wvp, w0, wK, wB, wF, wV, wH, wM, wG, wP, wL, wD, wR⟩ := id hW
  have lK : 1 + 6 ≤ h.length := has_len wK (by show 0 < 6; decide)
  obtain ⟨d, rfl⟩ : ∃ e, d = e + 1 := ⟨d - 1, by omega⟩
  refine yT_x rfl (Nat.le_of_ble_eq_true rfl) ?_
  show yW S d 80 (0, [.ref 0, .int 101, xno], [], (h, k0)) _
  refine y_go rfl rfl ?_
  refine y_go rfl rfl ?_
  refine y_ic_eq rfl (fun _ => ?_) (fun c => absurd (by decide) c)
  refine y_go rfl rfl ?_
  refine y_go rfl rfl ?_
  refine y_go (g' := (24, [.ref 0, .int 101, .int 1], _, _)) rfl rfl ?_
  refine y_go rfl rfl ?_
  refine y_if_eq rfl (fun c => absurd c (by decide)) (fun _ => ?_)
  refine y_go rfl rfl ?_
  refine y_getf (w := .ref 1) rfl rfl (has_at w0 (i := 0) rfl) rfl ?_
  refine y_go rfl rfl ?_
  refine y_V1 rfl (Nat.le_of_ble_eq_true rfl) (Nat.le_of_ble_eq_true rfl) rfl rfl (xrcv_of (has_at wK (i := 0) rfl)) (w_Kr hW (Q := fun z => (.inl (some (.int (cntTo K.2.1 101 8))), (z, k0))) (s_countIn (by omega) lK K.1 K.2.1 K.2.2.1 K.2.2.2.1 K.2.2.2.2.1 K.2.2.2.2.2 k0 kK2.1.1 101)) ?_
  refine y_go rfl rfl ?_
  cases hx : xcode (cntTo K.2.1 101 8) with
  | some E => exact y_Sx rfl rfl (Nat.le_of_ble_eq_true rfl) (Nat.le_of_ble_eq_true rfl) rfl (s_ansX (by omega) hx _) rfl (Or.inr ⟨E, hx, h, hW2c, rfl⟩)
  | none =>
    refine y_S1 rfl rfl (Nat.le_of_ble_eq_true rfl) (Nat.le_of_ble_eq_true rfl) rfl rfl (s_ans0 (by omega) hx _) ?_
    exact y_ireturn rfl rfl rfl (Or.inl ⟨hx, h, hW2c, rfl⟩)
theorem q_in_g {S : List Int32} {d : Nat} (hd : 8 ≤ d) {e f sv : Int32} {K V : kK} {ol sz : Nat} {R : Nat → kK} {T : List Int32} {h : xH} (hW2 : W2 e f sv K V ol sz R T h) (k0 : Nat × Nat) : yT S d 80 [.ref 0, .int 103] (h, k0) (ansP (cntTo K.2.1 103 8) (W2 e f sv K V ol sz R T) k0) := by
  have hW2c := hW2
  obtain ⟨B, F, P, vp, ml, ln, D, ⟨M, G, hM, hG, hW⟩, kB, kF, kV, kK2, hR, hol, hsz, hP, hL⟩ := hW2
  obtain ⟨wl, wl2, wlM, wlP, wvp, w0, wK, wB, wF, wV, wH, wM, wG, wP, wL, wD, wR⟩ := id hW
  have lK : 1 + 6 ≤ h.length := has_len wK (by show 0 < 6; decide)
  obtain ⟨d, rfl⟩ : ∃ e, d = e + 1 := ⟨d - 1, by omega⟩
  refine yT_x rfl (Nat.le_of_ble_eq_true rfl) ?_
  show yW S d 80 (0, [.ref 0, .int 103, xno], [], (h, k0)) _
  refine y_go rfl rfl ?_
  refine y_go rfl rfl ?_
  refine y_ic_eq rfl (fun c => absurd c (by decide)) (fun _ => ?_)
  refine y_go rfl rfl ?_
  refine y_go rfl rfl ?_
  refine y_ic_eq rfl (fun _ => ?_) (fun c => absurd (by decide) c)
  refine y_go rfl rfl ?_
  refine y_go rfl rfl ?_
  refine y_go (g' := (24, [.ref 0, .int 103, .int 1], _, _)) rfl rfl ?_
  refine y_go rfl rfl ?_
  refine y_if_eq rfl (fun c => absurd c (by decide)) (fun _ => ?_)
  refine y_go rfl rfl ?_
  refine y_getf (w := .ref 1) rfl rfl (has_at w0 (i := 0) rfl) rfl ?_
  refine y_go rfl rfl ?_
  refine y_V1 rfl (Nat.le_of_ble_eq_true rfl) (Nat.le_of_ble_eq_true rfl) rfl rfl (xrcv_of (has_at wK (i := 0) rfl)) (w_Kr hW (Q := fun z => (.inl (some (.int (cntTo K.2.1 103 8))), (z, k0))) (s_countIn (by omega) lK K.1 K.2.1 K.2.2.1 K.2.2.2.1 K.2.2.2.2.1 K.2.2.2.2.2 k0 kK2.1.1 103)) ?_
  refine y_go rfl rfl ?_
  cases hx : xcode (cntTo K.2.1 103 8) with
  | some E => exact y_Sx rfl rfl (Nat.le_of_ble_eq_true rfl) (Nat.le_of_ble_eq_true rfl) rfl (s_ansX (by omega) hx _) rfl (Or.inr ⟨E, hx, h, hW2c, rfl⟩)
  | none =>
    refine y_S1 rfl rfl (Nat.le_of_ble_eq_true rfl) (Nat.le_of_ble_eq_true rfl) rfl rfl (s_ans0 (by omega) hx _) ?_
    exact y_ireturn rfl rfl rfl (Or.inl ⟨hx, h, hW2c, rfl⟩)
theorem q_in_f {S : List Int32} {d : Nat} (hd : 8 ≤ d) {e f sv : Int32} {K V : kK} {ol sz : Nat} {R : Nat → kK} {T : List Int32} {h : xH} (hW2 : W2 e f sv K V ol sz R T h) (k0 : Nat × Nat) : yT S d 80 [.ref 0, .int 102] (h, k0) (ansP (cntTo K.2.1 102 8) (W2 e f sv K V ol sz R T) k0) := by
  have hW2c := hW2
  obtain ⟨B, F, P, vp, ml, ln, D, ⟨M, G, hM, hG, hW⟩, kB, kF, kV, kK2, hR, hol, hsz, hP, hL⟩ := hW2
  obtain ⟨wl, wl2, wlM, wlP, wvp, w0, wK, wB, wF, wV, wH, wM, wG, wP, wL, wD, wR⟩ := id hW
  have lK : 1 + 6 ≤ h.length := has_len wK (by show 0 < 6; decide)
  obtain ⟨d, rfl⟩ : ∃ e, d = e + 1 := ⟨d - 1, by omega⟩
  refine yT_x rfl (Nat.le_of_ble_eq_true rfl) ?_
  show yW S d 80 (0, [.ref 0, .int 102, xno], [], (h, k0)) _
  refine y_go rfl rfl ?_
  refine y_go rfl rfl ?_
  refine y_ic_eq rfl (fun c => absurd c (by decide)) (fun _ => ?_)
  refine y_go rfl rfl ?_
  refine y_go rfl rfl ?_
  refine y_ic_eq rfl (fun c => absurd c (by decide)) (fun _ => ?_)
  refine y_go rfl rfl ?_
  refine y_go rfl rfl ?_
  refine y_ic_ne rfl (fun c => absurd (by decide) c) (fun _ => ?_)
  refine y_go rfl rfl ?_
  refine y_go rfl rfl ?_
  refine y_go (g' := (24, [.ref 0, .int 102, .int 1], _, _)) rfl rfl ?_
  refine y_go rfl rfl ?_
  refine y_if_eq rfl (fun c => absurd c (by decide)) (fun _ => ?_)
  refine y_go rfl rfl ?_
  refine y_getf (w := .ref 1) rfl rfl (has_at w0 (i := 0) rfl) rfl ?_
  refine y_go rfl rfl ?_
  refine y_V1 rfl (Nat.le_of_ble_eq_true rfl) (Nat.le_of_ble_eq_true rfl) rfl rfl (xrcv_of (has_at wK (i := 0) rfl)) (w_Kr hW (Q := fun z => (.inl (some (.int (cntTo K.2.1 102 8))), (z, k0))) (s_countIn (by omega) lK K.1 K.2.1 K.2.2.1 K.2.2.2.1 K.2.2.2.2.1 K.2.2.2.2.2 k0 kK2.1.1 102)) ?_
  refine y_go rfl rfl ?_
  cases hx : xcode (cntTo K.2.1 102 8) with
  | some E => exact y_Sx rfl rfl (Nat.le_of_ble_eq_true rfl) (Nat.le_of_ble_eq_true rfl) rfl (s_ansX (by omega) hx _) rfl (Or.inr ⟨E, hx, h, hW2c, rfl⟩)
  | none =>
    refine y_S1 rfl rfl (Nat.le_of_ble_eq_true rfl) (Nat.le_of_ble_eq_true rfl) rfl rfl (s_ans0 (by omega) hx _) ?_
    exact y_ireturn rfl rfl rfl (Or.inl ⟨hx, h, hW2c, rfl⟩)
theorem q_untilOut {S : List Int32} {d : Nat} (hd : 8 ≤ d) {e f sv : Int32} {K V : kK} {ol sz : Nat} {R : Nat → kK} {T : List Int32} {h : xH} (hW2 : W2 e f sv K V ol sz R T h) (k0 : Nat × Nat) : yT S d 81 [.ref 0] (h, k0) (ansP ((tillOut 101 0 K).1) (W2 e f sv K V ol sz R T) k0) := by
  have hW2c := hW2
  obtain ⟨B, F, P, vp, ml, ln, D, ⟨M, G, hM, hG, hW⟩, kB, kF, kV, kK2, hR, hol, hsz, hP, hL⟩ := hW2
  obtain ⟨wl, wl2, wlM, wlP, wvp, w0, wK, wB, wF, wV, wH, wM, wG, wP, wL, wD, wR⟩ := id hW
  have lK : 1 + 6 ≤ h.length := has_len wK (by show 0 < 6; decide)
  obtain ⟨d, rfl⟩ : ∃ e, d = e + 1 := ⟨d - 1, by omega⟩
  refine yT_x rfl (Nat.le_of_ble_eq_true rfl) ?_
  show yW S d 81 (0, [.ref 0], [], (h, k0)) _
  refine y_go rfl rfl ?_
  refine y_getf (w := .ref 13) rfl rfl (has_at w0 (i := 0) rfl) rfl ?_
  refine y_go rfl rfl ?_
  refine y_getf (w := .ref 1) rfl rfl (has_at w0 (i := 0) rfl) rfl ?_
  refine y_V0e rfl (Nat.le_of_ble_eq_true rfl) (Nat.le_of_ble_eq_true rfl) rfl rfl (xrcv_of (has_at wF (i := 0) rfl)) (w_cpF (by omega) hW kF kK2.1 k0) (fun h3 hz => ?_)
  clear wl wl2 wlM wlP wvp w0 wK wB wF wV wH wM wG wP wL wD wR
  obtain ⟨wl, wl2, wlM, wlP, wvp, w0, wK, wB, wF, wV, wH, wM, wG, wP, wL, wD, wR⟩ := id hz
  have lF : 13 + 6 ≤ h3.length := has_len wF (by show 0 < 6; decide)
  refine y_go rfl rfl ?_
  refine y_getf (w := .ref 13) rfl rfl (has_at w0 (i := 0) rfl) rfl ?_
  refine y_V1e rfl (Nat.le_of_ble_eq_true rfl) (Nat.le_of_ble_eq_true rfl) rfl rfl (xrcv_of (has_at wF (i := 0) rfl)) (w_F hz (s_hoursTillFireIsOut (by omega) lF K kK2.1 k0)) (fun h4 hz4 => ?_)
  cases hx : xcode ((tillOut 101 0 K).1) with
  | some E => exact y_Sx rfl rfl (Nat.le_of_ble_eq_true rfl) (Nat.le_of_ble_eq_true rfl) rfl (s_ansX (by omega) hx _) rfl (Or.inr ⟨E, hx, h4, ⟨_, _, _, _, _, _, _, ⟨_, _, hM, hG, hz4⟩, kB, (kv_tillOut _ _ _ kK2.1), kV, kK2, hR, hol, hsz, hP, hL⟩, rfl⟩)
  | none =>
    refine y_S1 rfl rfl (Nat.le_of_ble_eq_true rfl) (Nat.le_of_ble_eq_true rfl) rfl rfl (s_ans0 (by omega) hx _) ?_
    exact y_ireturn rfl rfl rfl (Or.inl ⟨hx, h4, ⟨_, _, _, _, _, _, _, ⟨_, _, hM, hG, hz4⟩, kB, (kv_tillOut _ _ _ kK2.1), kV, kK2, hR, hol, hsz, hP, hL⟩, rfl⟩)
theorem q_untilCool {S : List Int32} {d : Nat} (hd : 8 ≤ d) {e f sv : Int32} {K V : kK} {ol sz : Nat} {R : Nat → kK} {T : List Int32} {h : xH} (hW2 : W2 e f sv K V ol sz R T h) (k0 : Nat × Nat) (j : Nat) (hj : j < 8) : yT S d 82 [.ref 0, .int (nI j)] (h, k0) (ansP ((tillCool j 101 0 K).1) (W2 e f sv K V ol sz R T) k0) := by
  have hW2c := hW2
  obtain ⟨B, F, P, vp, ml, ln, D, ⟨M, G, hM, hG, hW⟩, kB, kF, kV, kK2, hR, hol, hsz, hP, hL⟩ := hW2
  obtain ⟨wl, wl2, wlM, wlP, wvp, w0, wK, wB, wF, wV, wH, wM, wG, wP, wL, wD, wR⟩ := id hW
  have lK : 1 + 6 ≤ h.length := has_len wK (by show 0 < 6; decide)
  obtain ⟨d, rfl⟩ : ∃ e, d = e + 1 := ⟨d - 1, by omega⟩
  refine yT_x rfl (Nat.le_of_ble_eq_true rfl) ?_
  show yW S d 82 (0, [.ref 0, .int (nI j)], [], (h, k0)) _
  refine y_go rfl rfl ?_
  refine y_S0 rfl rfl (Nat.le_of_ble_eq_true rfl) (Nat.le_of_ble_eq_true rfl) rfl rfl (s_needChamber (by omega) _ (nIlt8 hj) _) ?_
  refine y_go rfl rfl ?_
  refine y_getf (w := .ref 13) rfl rfl (has_at w0 (i := 0) rfl) rfl ?_
  refine y_go rfl rfl ?_
  refine y_getf (w := .ref 1) rfl rfl (has_at w0 (i := 0) rfl) rfl ?_
  refine y_V0e rfl (Nat.le_of_ble_eq_true rfl) (Nat.le_of_ble_eq_true rfl) rfl rfl (xrcv_of (has_at wF (i := 0) rfl)) (w_cpF (by omega) hW kF kK2.1 k0) (fun h3 hz => ?_)
  clear wl wl2 wlM wlP wvp w0 wK wB wF wV wH wM wG wP wL wD wR
  obtain ⟨wl, wl2, wlM, wlP, wvp, w0, wK, wB, wF, wV, wH, wM, wG, wP, wL, wD, wR⟩ := id hz
  have lF : 13 + 6 ≤ h3.length := has_len wF (by show 0 < 6; decide)
  refine y_go rfl rfl ?_
  refine y_getf (w := .ref 13) rfl rfl (has_at w0 (i := 0) rfl) rfl ?_
  refine y_go rfl rfl ?_
  refine y_V1e rfl (Nat.le_of_ble_eq_true rfl) (Nat.le_of_ble_eq_true rfl) rfl rfl (xrcv_of (has_at wF (i := 0) rfl)) (w_F hz (s_hoursTillCool (by omega) lF K kK2.1 k0 j hj)) (fun h4 hz4 => ?_)
  cases hx : xcode ((tillCool j 101 0 K).1) with
  | some E => exact y_Sx rfl rfl (Nat.le_of_ble_eq_true rfl) (Nat.le_of_ble_eq_true rfl) rfl (s_ansX (by omega) hx _) rfl (Or.inr ⟨E, hx, h4, ⟨_, _, _, _, _, _, _, ⟨_, _, hM, hG, hz4⟩, kB, (kv_tillCool _ _ _ _ kK2.1), kV, kK2, hR, hol, hsz, hP, hL⟩, rfl⟩)
  | none =>
    refine y_S1 rfl rfl (Nat.le_of_ble_eq_true rfl) (Nat.le_of_ble_eq_true rfl) rfl rfl (s_ans0 (by omega) hx _) ?_
    exact y_ireturn rfl rfl rfl (Or.inl ⟨hx, h4, ⟨_, _, _, _, _, _, _, ⟨_, _, hM, hG, hz4⟩, kB, (kv_tillCool _ _ _ _ kK2.1), kV, kK2, hR, hol, hsz, hP, hL⟩, rfl⟩)
theorem q_firedIn {S : List Int32} {d : Nat} (hd : 8 ≤ d) {e f sv : Int32} {K V : kK} {ol sz : Nat} {R : Nat → kK} {T : List Int32} {h : xH} (hW2 : W2 e f sv K V ol sz R T h) (k0 : Nat × Nat) (m : Nat) (hm : m ≤ 100) : yT S d 83 [.ref 0, .int (nI m)] (h, k0) (fun r => ∃ h2, W2 e f sv K V ol sz R T h2 ∧ r = (.inl (some (.int ((hoursK K m).1 12 - K.1 12))), (h2, k0))) := by
  have hW2c := hW2
  obtain ⟨B, F, P, vp, ml, ln, D, ⟨M, G, hM, hG, hW⟩, kB, kF, kV, kK2, hR, hol, hsz, hP, hL⟩ := hW2
  obtain ⟨wl, wl2, wlM, wlP, wvp, w0, wK, wB, wF, wV, wH, wM, wG, wP, wL, wD, wR⟩ := id hW
  have lK : 1 + 6 ≤ h.length := has_len wK (by show 0 < 6; decide)
  obtain ⟨d, rfl⟩ : ∃ e, d = e + 1 := ⟨d - 1, by omega⟩
  have hr : ¬ (nI m < 0 ∨ 100 < nI m) := fun q => xout (u := m) (l := 0) (m := 100) (by omega) (by decide) (by decide) q ⟨Nat.zero_le _, hm⟩
  refine yT_e (Nat.le_of_ble_eq_true rfl) ?_
  show yW S d 83 (0, [.ref 0, .int (nI m)], [], (h, k0)) _
  refine y_go rfl rfl ?_
  refine y_go rfl rfl ?_
  refine y_go rfl rfl ?_
  refine y_S0 rfl rfl (Nat.le_of_ble_eq_true rfl) (Nat.le_of_ble_eq_true rfl) rfl rfl (s_needWithin (by omega) _ _ _ hr _) ?_
  refine y_go rfl rfl ?_
  refine y_getf (w := .ref 13) rfl rfl (has_at w0 (i := 0) rfl) rfl ?_
  refine y_go rfl rfl ?_
  refine y_getf (w := .ref 1) rfl rfl (has_at w0 (i := 0) rfl) rfl ?_
  refine y_V0e rfl (Nat.le_of_ble_eq_true rfl) (Nat.le_of_ble_eq_true rfl) rfl rfl (xrcv_of (has_at wF (i := 0) rfl)) (w_cpF (by omega) hW kF kK2.1 k0) (fun h3 hz => ?_)
  clear wl wl2 wlM wlP wvp w0 wK wB wF wV wH wM wG wP wL wD wR
  obtain ⟨wl, wl2, wlM, wlP, wvp, w0, wK, wB, wF, wV, wH, wM, wG, wP, wL, wD, wR⟩ := id hz
  have lF : 13 + 6 ≤ h3.length := has_len wF (by show 0 < 6; decide)
  refine y_go rfl rfl ?_
  refine y_getf (w := .ref 13) rfl rfl (has_at w0 (i := 0) rfl) rfl ?_
  refine y_go rfl rfl ?_
  refine y_V1e rfl (Nat.le_of_ble_eq_true rfl) (Nat.le_of_ble_eq_true rfl) rfl rfl (xrcv_of (has_at wF (i := 0) rfl)) (w_F hz (s_letHoursPass (by omega) lF K kK2.1 k0 m (by omega))) (fun h4 hz4 => ?_)
  exact y_ireturn rfl rfl rfl ⟨h4, ⟨_, _, _, _, _, _, _, ⟨_, _, hM, hG, hz4⟩, kB, (kv_hours kK2.1 _), kV, kK2, hR, hol, hsz, hP, hL⟩, rfl⟩
theorem q_fuel0 {S : List Int32} {d : Nat} (hd : 8 ≤ d) {e f sv : Int32} {K V : kK} {ol sz : Nat} {R : Nat → kK} {T : List Int32} {h : xH} (hW2 : W2 e f sv K V ol sz R T h) (k0 : Nat × Nat) : yT S d 84 [.ref 0, .int 119] (h, k0) (· = (.inl (some (.int (gd K.2.2.2.2.1 0))), (h, k0))) := by
  have hW2c := hW2
  obtain ⟨B, F, P, vp, ml, ln, D, ⟨M, G, hM, hG, hW⟩, kB, kF, kV, kK2, hR, hol, hsz, hP, hL⟩ := hW2
  obtain ⟨wl, wl2, wlM, wlP, wvp, w0, wK, wB, wF, wV, wH, wM, wG, wP, wL, wD, wR⟩ := id hW
  have lK : 1 + 6 ≤ h.length := has_len wK (by show 0 < 6; decide)
  obtain ⟨d, rfl⟩ : ∃ e, d = e + 1 := ⟨d - 1, by omega⟩
  refine yT_eq (Nat.le_of_ble_eq_true rfl) ?_
  show yW S d 84 (0, [.ref 0, .int 119], [], (h, k0)) _
  refine y_go rfl rfl ?_
  refine y_getf (w := .ref 1) rfl rfl (has_at w0 (i := 0) rfl) rfl ?_
  refine y_getf (w := .ref (1 + 4)) rfl rfl (has_at wK (i := 0) rfl) rfl ?_
  refine y_go rfl rfl ?_
  refine y_S1 rfl rfl (Nat.le_of_ble_eq_true rfl) (Nat.le_of_ble_eq_true rfl) rfl rfl (s_neededKind (by omega) _ (by decide) _) ?_
  refine y_ald (t := 0) (j := 0) (l := K.2.2.2.2.1) (x := (gd K.2.2.2.2.1 0)) rfl (Or.inl ⟨rfl, rfl⟩) (has_at wK (i := 4) rfl) (by decide) (xgd (by rw [kK2.1.2.2.2.1]; decide)) ?_
  exact y_ireturn rfl rfl rfl rfl
theorem q_price0 {S : List Int32} {d : Nat} (hd : 8 ≤ d) {e f sv : Int32} {K V : kK} {ol sz : Nat} {R : Nat → kK} {T : List Int32} {h : xH} (hW2 : W2 e f sv K V ol sz R T h) (k0 : Nat × Nat) : yT S d 85 [.ref 0, .int 119] (h, k0) (· = (.inl (some (.int (gd K.2.2.2.2.2 0))), (h, k0))) := by
  have hW2c := hW2
  obtain ⟨B, F, P, vp, ml, ln, D, ⟨M, G, hM, hG, hW⟩, kB, kF, kV, kK2, hR, hol, hsz, hP, hL⟩ := hW2
  obtain ⟨wl, wl2, wlM, wlP, wvp, w0, wK, wB, wF, wV, wH, wM, wG, wP, wL, wD, wR⟩ := id hW
  have lK : 1 + 6 ≤ h.length := has_len wK (by show 0 < 6; decide)
  obtain ⟨d, rfl⟩ : ∃ e, d = e + 1 := ⟨d - 1, by omega⟩
  refine yT_eq (Nat.le_of_ble_eq_true rfl) ?_
  show yW S d 85 (0, [.ref 0, .int 119], [], (h, k0)) _
  refine y_go rfl rfl ?_
  refine y_getf (w := .ref 1) rfl rfl (has_at w0 (i := 0) rfl) rfl ?_
  refine y_getf (w := .ref (1 + 5)) rfl rfl (has_at wK (i := 0) rfl) rfl ?_
  refine y_go rfl rfl ?_
  refine y_S1 rfl rfl (Nat.le_of_ble_eq_true rfl) (Nat.le_of_ble_eq_true rfl) rfl rfl (s_neededKind (by omega) _ (by decide) _) ?_
  refine y_ald (t := 0) (j := 0) (l := K.2.2.2.2.2) (x := (gd K.2.2.2.2.2 0)) rfl (Or.inl ⟨rfl, rfl⟩) (has_at wK (i := 5) rfl) (by decide) (xgd (by rw [kK2.1.2.2.2.2.1]; decide)) ?_
  exact y_ireturn rfl rfl rfl rfl
theorem q_fuel1 {S : List Int32} {d : Nat} (hd : 8 ≤ d) {e f sv : Int32} {K V : kK} {ol sz : Nat} {R : Nat → kK} {T : List Int32} {h : xH} (hW2 : W2 e f sv K V ol sz R T h) (k0 : Nat × Nat) : yT S d 84 [.ref 0, .int 99] (h, k0) (· = (.inl (some (.int (gd K.2.2.2.2.1 1))), (h, k0))) := by
  have hW2c := hW2
  obtain ⟨B, F, P, vp, ml, ln, D, ⟨M, G, hM, hG, hW⟩, kB, kF, kV, kK2, hR, hol, hsz, hP, hL⟩ := hW2
  obtain ⟨wl, wl2, wlM, wlP, wvp, w0, wK, wB, wF, wV, wH, wM, wG, wP, wL, wD, wR⟩ := id hW
  have lK : 1 + 6 ≤ h.length := has_len wK (by show 0 < 6; decide)
  obtain ⟨d, rfl⟩ : ∃ e, d = e + 1 := ⟨d - 1, by omega⟩
  refine yT_eq (Nat.le_of_ble_eq_true rfl) ?_
  show yW S d 84 (0, [.ref 0, .int 99], [], (h, k0)) _
  refine y_go rfl rfl ?_
  refine y_getf (w := .ref 1) rfl rfl (has_at w0 (i := 0) rfl) rfl ?_
  refine y_getf (w := .ref (1 + 4)) rfl rfl (has_at wK (i := 0) rfl) rfl ?_
  refine y_go rfl rfl ?_
  refine y_S1 rfl rfl (Nat.le_of_ble_eq_true rfl) (Nat.le_of_ble_eq_true rfl) rfl rfl (s_neededKind (by omega) _ (by decide) _) ?_
  refine y_ald (t := 0) (j := 1) (l := K.2.2.2.2.1) (x := (gd K.2.2.2.2.1 1)) rfl (Or.inl ⟨rfl, rfl⟩) (has_at wK (i := 4) rfl) (by decide) (xgd (by rw [kK2.1.2.2.2.1]; decide)) ?_
  exact y_ireturn rfl rfl rfl rfl
theorem q_price1 {S : List Int32} {d : Nat} (hd : 8 ≤ d) {e f sv : Int32} {K V : kK} {ol sz : Nat} {R : Nat → kK} {T : List Int32} {h : xH} (hW2 : W2 e f sv K V ol sz R T h) (k0 : Nat × Nat) : yT S d 85 [.ref 0, .int 99] (h, k0) (· = (.inl (some (.int (gd K.2.2.2.2.2 1))), (h, k0))) := by
  have hW2c := hW2
  obtain ⟨B, F, P, vp, ml, ln, D, ⟨M, G, hM, hG, hW⟩, kB, kF, kV, kK2, hR, hol, hsz, hP, hL⟩ := hW2
  obtain ⟨wl, wl2, wlM, wlP, wvp, w0, wK, wB, wF, wV, wH, wM, wG, wP, wL, wD, wR⟩ := id hW
  have lK : 1 + 6 ≤ h.length := has_len wK (by show 0 < 6; decide)
  obtain ⟨d, rfl⟩ : ∃ e, d = e + 1 := ⟨d - 1, by omega⟩
  refine yT_eq (Nat.le_of_ble_eq_true rfl) ?_
  show yW S d 85 (0, [.ref 0, .int 99], [], (h, k0)) _
  refine y_go rfl rfl ?_
  refine y_getf (w := .ref 1) rfl rfl (has_at w0 (i := 0) rfl) rfl ?_
  refine y_getf (w := .ref (1 + 5)) rfl rfl (has_at wK (i := 0) rfl) rfl ?_
  refine y_go rfl rfl ?_
  refine y_S1 rfl rfl (Nat.le_of_ble_eq_true rfl) (Nat.le_of_ble_eq_true rfl) rfl rfl (s_neededKind (by omega) _ (by decide) _) ?_
  refine y_ald (t := 0) (j := 1) (l := K.2.2.2.2.2) (x := (gd K.2.2.2.2.2 1)) rfl (Or.inl ⟨rfl, rfl⟩) (has_at wK (i := 5) rfl) (by decide) (xgd (by rw [kK2.1.2.2.2.2.1]; decide)) ?_
  exact y_ireturn rfl rfl rfl rfl
theorem q_fuel2 {S : List Int32} {d : Nat} (hd : 8 ≤ d) {e f sv : Int32} {K V : kK} {ol sz : Nat} {R : Nat → kK} {T : List Int32} {h : xH} (hW2 : W2 e f sv K V ol sz R T h) (k0 : Nat × Nat) : yT S d 84 [.ref 0, .int 111] (h, k0) (· = (.inl (some (.int (gd K.2.2.2.2.1 2))), (h, k0))) := by
  have hW2c := hW2
  obtain ⟨B, F, P, vp, ml, ln, D, ⟨M, G, hM, hG, hW⟩, kB, kF, kV, kK2, hR, hol, hsz, hP, hL⟩ := hW2
  obtain ⟨wl, wl2, wlM, wlP, wvp, w0, wK, wB, wF, wV, wH, wM, wG, wP, wL, wD, wR⟩ := id hW
  have lK : 1 + 6 ≤ h.length := has_len wK (by show 0 < 6; decide)
  obtain ⟨d, rfl⟩ : ∃ e, d = e + 1 := ⟨d - 1, by omega⟩
  refine yT_eq (Nat.le_of_ble_eq_true rfl) ?_
  show yW S d 84 (0, [.ref 0, .int 111], [], (h, k0)) _
  refine y_go rfl rfl ?_
  refine y_getf (w := .ref 1) rfl rfl (has_at w0 (i := 0) rfl) rfl ?_
  refine y_getf (w := .ref (1 + 4)) rfl rfl (has_at wK (i := 0) rfl) rfl ?_
  refine y_go rfl rfl ?_
  refine y_S1 rfl rfl (Nat.le_of_ble_eq_true rfl) (Nat.le_of_ble_eq_true rfl) rfl rfl (s_neededKind (by omega) _ (by decide) _) ?_
  refine y_ald (t := 0) (j := 2) (l := K.2.2.2.2.1) (x := (gd K.2.2.2.2.1 2)) rfl (Or.inl ⟨rfl, rfl⟩) (has_at wK (i := 4) rfl) (by decide) (xgd (by rw [kK2.1.2.2.2.1]; decide)) ?_
  exact y_ireturn rfl rfl rfl rfl
theorem q_price2 {S : List Int32} {d : Nat} (hd : 8 ≤ d) {e f sv : Int32} {K V : kK} {ol sz : Nat} {R : Nat → kK} {T : List Int32} {h : xH} (hW2 : W2 e f sv K V ol sz R T h) (k0 : Nat × Nat) : yT S d 85 [.ref 0, .int 111] (h, k0) (· = (.inl (some (.int (gd K.2.2.2.2.2 2))), (h, k0))) := by
  have hW2c := hW2
  obtain ⟨B, F, P, vp, ml, ln, D, ⟨M, G, hM, hG, hW⟩, kB, kF, kV, kK2, hR, hol, hsz, hP, hL⟩ := hW2
  obtain ⟨wl, wl2, wlM, wlP, wvp, w0, wK, wB, wF, wV, wH, wM, wG, wP, wL, wD, wR⟩ := id hW
  have lK : 1 + 6 ≤ h.length := has_len wK (by show 0 < 6; decide)
  obtain ⟨d, rfl⟩ : ∃ e, d = e + 1 := ⟨d - 1, by omega⟩
  refine yT_eq (Nat.le_of_ble_eq_true rfl) ?_
  show yW S d 85 (0, [.ref 0, .int 111], [], (h, k0)) _
  refine y_go rfl rfl ?_
  refine y_getf (w := .ref 1) rfl rfl (has_at w0 (i := 0) rfl) rfl ?_
  refine y_getf (w := .ref (1 + 5)) rfl rfl (has_at wK (i := 0) rfl) rfl ?_
  refine y_go rfl rfl ?_
  refine y_S1 rfl rfl (Nat.le_of_ble_eq_true rfl) (Nat.le_of_ble_eq_true rfl) rfl rfl (s_neededKind (by omega) _ (by decide) _) ?_
  refine y_ald (t := 0) (j := 2) (l := K.2.2.2.2.2) (x := (gd K.2.2.2.2.2 2)) rfl (Or.inl ⟨rfl, rfl⟩) (has_at wK (i := 5) rfl) (by decide) (xgd (by rw [kK2.1.2.2.2.2.1]; decide)) ?_
  exact y_ireturn rfl rfl rfl rfl
theorem q_failed {S : List Int32} {d : Nat} (hd : 8 ≤ d) {e f sv : Int32} {K V : kK} {ol sz : Nat} {R : Nat → kK} {T : List Int32} {h : xH} (hW2 : W2 e f sv K V ol sz R T h) (k0 : Nat × Nat) (hf : ¬ f = -1) : yT S d 102 [.ref 0] (h, k0) (ansP f (W2 e f sv K V ol sz R T) k0) := by
  have hW2c := hW2
  obtain ⟨B, F, P, vp, ml, ln, D, ⟨M, G, hM, hG, hW⟩, kB, kF, kV, kK2, hR, hol, hsz, hP, hL⟩ := hW2
  obtain ⟨wl, wl2, wlM, wlP, wvp, w0, wK, wB, wF, wV, wH, wM, wG, wP, wL, wD, wR⟩ := id hW
  have lK : 1 + 6 ≤ h.length := has_len wK (by show 0 < 6; decide)
  obtain ⟨d, rfl⟩ : ∃ e, d = e + 1 := ⟨d - 1, by omega⟩
  refine yT_x rfl (Nat.le_of_ble_eq_true rfl) ?_
  show yW S d 102 (0, [.ref 0], [], (h, k0)) _
  refine y_go rfl rfl ?_
  refine y_getf (w := .int f) rfl rfl (has_at w0 (i := 0) rfl) rfl ?_
  refine y_go rfl rfl ?_
  refine y_ic_ne rfl (fun _ => ?_) (fun c => absurd c (hf))
  refine y_go rfl rfl ?_
  refine y_getf (w := .int f) rfl rfl (has_at w0 (i := 0) rfl) rfl ?_
  cases hx : xcode f with
  | some E => exact y_Sx rfl rfl (Nat.le_of_ble_eq_true rfl) (Nat.le_of_ble_eq_true rfl) rfl (s_ansX (by omega) hx _) rfl (Or.inr ⟨E, hx, h, hW2c, rfl⟩)
  | none =>
    refine y_S1 rfl rfl (Nat.le_of_ble_eq_true rfl) (Nat.le_of_ble_eq_true rfl) rfl rfl (s_ans0 (by omega) hx _) ?_
    exact y_ireturn rfl rfl rfl (Or.inl ⟨hx, h, hW2c, rfl⟩)
theorem q_failed0 {S : List Int32} {d : Nat} (hd : 8 ≤ d) {e f sv : Int32} {K V : kK} {ol sz : Nat} {R : Nat → kK} {T : List Int32} {h : xH} (hW2 : W2 e f sv K V ol sz R T h) (k0 : Nat × Nat) (hf : f = -1) : yT S d 102 [.ref 0] (h, k0) (ansP (-5) (W2 e f sv K V ol sz R T) k0) := by
  have hW2c := hW2
  obtain ⟨B, F, P, vp, ml, ln, D, ⟨M, G, hM, hG, hW⟩, kB, kF, kV, kK2, hR, hol, hsz, hP, hL⟩ := hW2
  obtain ⟨wl, wl2, wlM, wlP, wvp, w0, wK, wB, wF, wV, wH, wM, wG, wP, wL, wD, wR⟩ := id hW
  have lK : 1 + 6 ≤ h.length := has_len wK (by show 0 < 6; decide)
  obtain ⟨d, rfl⟩ : ∃ e, d = e + 1 := ⟨d - 1, by omega⟩
  refine yT_x rfl (Nat.le_of_ble_eq_true rfl) ?_
  show yW S d 102 (0, [.ref 0], [], (h, k0)) _
  refine y_go rfl rfl ?_
  refine y_getf (w := .int f) rfl rfl (has_at w0 (i := 0) rfl) rfl ?_
  refine y_go rfl rfl ?_
  refine y_ic_ne rfl (fun c => absurd (hf) c) (fun _ => ?_)
  refine y_go rfl rfl ?_
  refine y_go rfl rfl ?_
  cases hx : xcode (-5) with
  | some E => exact y_Sx rfl rfl (Nat.le_of_ble_eq_true rfl) (Nat.le_of_ble_eq_true rfl) rfl (s_ansX (by omega) hx _) rfl (Or.inr ⟨E, hx, h, hW2c, rfl⟩)
  | none =>
    refine y_S1 rfl rfl (Nat.le_of_ble_eq_true rfl) (Nat.le_of_ble_eq_true rfl) rfl rfl (s_ans0 (by omega) hx _) ?_
    exact y_ireturn rfl rfl rfl (Or.inl ⟨hx, h, hW2c, rfl⟩)
