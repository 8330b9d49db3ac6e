/-! THE LINE: a chamber is written; the ring. -/
/-- how many characters a chamber takes -/
def wcl (c b t : Nat) (x : Bool) : Nat := 2 + (if c = 101 then 0 else dg b) + dg t + (if x = true then 1 else 0)
theorem wcl_le (c b t : Nat) (hb : b ≤ 60) (x : Bool) : wcl c b t x ≤ 9 := by
  have := dg_le t
  have h2 : dg b ≤ 2 := by unfold dg; (repeat' split) <;> omega
  unfold wcl
  (repeat' split) <;> omega
theorem LN_mk {e f sv : Int32} {K B F V : kK} {ol sz : Nat} {R : Nat → kK} {M : List xC} {G : Nat → xC} {P : List xC} {vp : Nat} {ml : Int32} {n : Nat} {D : List Int32} {h : xH} {k0 : Nat × Nat} {k1 : Nat × Nat} {cc : Nat} (hW : W0 e f sv K B F V ol sz R M G P vp ml (nI n) D h) (hn : n ≤ D.length) (hD : D.length = 16 ∨ D.length = 34 ∨ D.length = 70 ∨ D.length = 142) (h1 : k1.1 ≤ k0.1 + cc) (h2 : k1.2 ≤ k0.2 + 150 * cc) : LN e f sv K B F V ol sz R M G P n 0 k0 cc (h, k1) := ⟨⟨vp, ml, D, hW, hn, Nat.zero_le _, hD⟩, h1, h2⟩
theorem cnt_b1 {a b c i : Nat} (h1 : b ≤ a + 150 * (6 * i + 2)) (h2 : c ≤ b + 150 * 5) : c ≤ a + 150 * (6 * (i + 1) + 2) := by
  refine Nat.le_trans h2 (Nat.le_trans (Nat.add_le_add_right h1 _) ?_)
  rw [Nat.add_assoc, ← Nat.mul_add]
  exact Nat.add_le_add_left (Nat.mul_le_mul_left 150 (by omega)) _
theorem cnt_b2 {a b c e i : Nat} (h1 : b ≤ a + 150 * (6 * i + 2)) (h2 : c ≤ b + 150 * 1) (h3 : e ≤ c + 150 * 5) : e ≤ a + 150 * (6 * (i + 1) + 2) := by
  refine Nat.le_trans h3 (Nat.le_trans (Nat.add_le_add_right h2 _) (Nat.le_trans (Nat.add_le_add_right (Nat.add_le_add_right h1 _) _) ?_))
  rw [Nat.add_assoc, Nat.add_assoc, ← Nat.mul_add, ← Nat.mul_add]
  exact Nat.add_le_add_left (Nat.mul_le_mul_left 150 (by omega)) _
theorem s_wc {S : List Int32} {d : Nat} (hd : 7 ≤ d) {e f sv : Int32} {K B F V : kK} {ol sz : Nat} {R : Nat → kK} {M : List xC} {G : Nat → xC} {P : List xC} {vp : Nat} {ml : Int32} {n : Nat} {D : List Int32} {h : xH} {k0 : Nat × Nat} (hW : W0 e f sv K B F V ol sz R M G P vp ml (nI n) D h) (hn : n ≤ D.length) (hD : D.length = 16 ∨ D.length = 34 ∨ D.length = 70 ∨ D.length = 142) (hK : kv K) (j : Nat) (hj : j < 8) (cc b t : Nat) (e1 : gd K.2.1 j = nI cc) (c1 : cc < 128) (e2 : gd K.2.2.1 j = nI b) (c2 : b ≤ 60) (e3 : gd K.2.2.2.1 j = nI t) (c3 : t ≤ 1100) (hn9 : n + 9 ≤ 142) : yT S d 24 [.ref 1, .int (nI j), .ref 119] (h, k0) (fun r => ∃ z : xS, LN e f sv K B F V ol sz R M G P (n + wcl cc b t (decide (nI j = K.1 1))) 0 k0 5 z ∧ r = (.inl none, z)) := by
  obtain ⟨d, rfl⟩ : ∃ e, d = e + 1 := ⟨d - 1, by omega⟩
  obtain ⟨wl, wl2, wlM, wlP, wvp, w0, wK, wB, wF, wV, wH, wM, wG, wP, wL, wD, wR⟩ := id hW
  have hdt := dg_le t
  have hdb : dg b ≤ 2 := by unfold dg; (repeat' split) <;> omega
  refine yT_e (Nat.le_of_ble_eq_true rfl) ?_
  show yW S d 24 (0, [.ref 1, .int (nI j), .ref 119], [], (h, k0)) _
  refine y_go rfl rfl ?_
  refine y_go rfl rfl ?_
  refine y_getf (w := .ref (1 + 1)) rfl rfl (has_at wK (i := 0) rfl) rfl ?_
  refine y_go rfl rfl ?_
  refine y_ald (t := 1) (j := j) (l := K.2.1) (x := (gd K.2.1 j)) rfl (Or.inr (Or.inl ⟨rfl, rfl⟩)) (has_at wK (i := 1) rfl) (xidx_nI (by omega)) (xgd (by rw [hK.1]; omega)) ?_
  rw [e1]
  refine y_V1e rfl (Nat.le_of_ble_eq_true rfl) (Nat.le_of_ble_eq_true rfl) rfl rfl (xrcv_of (has_at wL (i := 0) rfl)) (s_app (by omega) hW hn hD (by omega) cc c1) (fun z hz => ?_)
  clear hW hn hD wl wl2 wlM wlP wvp w0 wK wB wF wV wH wM wG wP wL wD wR
  obtain ⟨⟨vp, ml, D, hW, hn, -, hD⟩, ka1, kb1⟩ := hz
  obtain ⟨h, k1⟩ := z
  dsimp only at hW ka1 kb1
  obtain ⟨wl, wl2, wlM, wlP, wvp, w0, wK, wB, wF, wV, wH, wM, wG, wP, wL, wD, wR⟩ := id hW
  refine y_go rfl rfl ?_
  refine y_go rfl rfl ?_
  refine y_getf (w := .ref (1 + 1)) rfl rfl (has_at wK (i := 0) rfl) rfl ?_
  refine y_go rfl rfl ?_
  refine y_ald (t := 1) (j := j) (l := K.2.1) (x := (gd K.2.1 j)) rfl (Or.inr (Or.inl ⟨rfl, rfl⟩)) (has_at wK (i := 1) rfl) (xidx_nI (by omega)) (xgd (by rw [hK.1]; omega)) ?_
  refine y_go rfl rfl ?_
  rw [e1]
  by_cases q1 : cc = 101
  · refine y_ic_eq rfl (fun _ => ?_) (fun c => absurd ((by rw [q1]; rfl)) c)
    refine y_go rfl rfl ?_
    refine y_go rfl rfl ?_
    refine y_V1e rfl (Nat.le_of_ble_eq_true rfl) (Nat.le_of_ble_eq_true rfl) rfl rfl (xrcv_of (has_at wL (i := 0) rfl)) (s_app (by omega) hW hn hD (by omega) 58 (by decide)) (fun z hz => ?_)
    clear hW hn hD wl wl2 wlM wlP wvp w0 wK wB wF wV wH wM wG wP wL wD wR
    obtain ⟨⟨vp, ml, D, hW, hn, -, hD⟩, ka2, kb2⟩ := hz
    obtain ⟨h, k2⟩ := z
    dsimp only at hW ka2 kb2
    obtain ⟨wl, wl2, wlM, wlP, wvp, w0, wK, wB, wF, wV, wH, wM, wG, wP, wL, wD, wR⟩ := id hW
    refine y_go rfl rfl ?_
    refine y_go rfl rfl ?_
    refine y_go rfl rfl ?_
    refine y_getf (w := .ref (1 + 3)) rfl rfl (has_at wK (i := 0) rfl) rfl ?_
    refine y_go rfl rfl ?_
    refine y_ald (t := 0) (j := j) (l := K.2.2.2.1) (x := (gd K.2.2.2.1 j)) rfl (Or.inl ⟨rfl, rfl⟩) (has_at wK (i := 3) rfl) (xidx_nI (by omega)) (xgd (by rw [hK.2.2.1]; omega)) ?_
    rw [e3]
    refine y_V1e rfl (Nat.le_of_ble_eq_true rfl) (Nat.le_of_ble_eq_true rfl) rfl rfl (xrcv_of (has_at wL (i := 0) rfl)) (s_appI (by omega) hW hn hD t (by omega) (by omega)) (fun z hz => ?_)
    clear hW hn hD wl wl2 wlM wlP wvp w0 wK wB wF wV wH wM wG wP wL wD wR
    obtain ⟨⟨vp, ml, D, hW, hn, -, hD⟩, ka3, kb3⟩ := hz
    obtain ⟨h, k3⟩ := z
    dsimp only at hW ka3 kb3
    obtain ⟨wl, wl2, wlM, wlP, wvp, w0, wK, wB, wF, wV, wH, wM, wG, wP, wL, wD, wR⟩ := id hW
    refine y_go rfl rfl ?_
    refine y_go rfl rfl ?_
    refine y_go rfl rfl ?_
    refine y_getf (w := .int (K.1 1)) rfl rfl (has_at wK (i := 0) rfl) rfl ?_
    by_cases q2 : nI j = K.1 1
    · refine y_ic_ne rfl (fun c => absurd (q2) c) (fun _ => ?_)
      refine y_go rfl rfl ?_
      refine y_go rfl rfl ?_
      refine y_V1e rfl (Nat.le_of_ble_eq_true rfl) (Nat.le_of_ble_eq_true rfl) rfl rfl (xrcv_of (has_at wL (i := 0) rfl)) (s_app (by omega) hW hn hD (by omega) 42 (by decide)) (fun z hz => ?_)
      clear hW hn hD wl wl2 wlM wlP wvp w0 wK wB wF wV wH wM wG wP wL wD wR
      obtain ⟨⟨vp, ml, D, hW, hn, -, hD⟩, ka4, kb4⟩ := hz
      obtain ⟨h, k4⟩ := z
      dsimp only at hW ka4 kb4
      obtain ⟨wl, wl2, wlM, wlP, wvp, w0, wK, wB, wF, wV, wH, wM, wG, wP, wL, wD, wR⟩ := id hW
      refine y_go rfl rfl ?_
      exact y_end rfl rfl (by have e9 : n + wcl cc b t (decide (nI j = K.1 1)) = n + 1 + 1 + dg t + 1 := (by unfold wcl; rw [if_pos q1, show decide (nI j = K.1 1) = true from decide_eq_true q2]; simp only [if_true, Bool.false_eq_true, if_false]; omega); rw [e9]; exact ⟨(h, k4), ⟨⟨vp, ml, D, hW, hn, Nat.zero_le _, hD⟩, by show k4.1 ≤ _; omega, by show k4.2 ≤ _; omega⟩, rfl⟩)
    · refine y_ic_ne rfl (fun _ => ?_) (fun c => absurd c (q2))
      exact y_end rfl rfl (by have e9 : n + wcl cc b t (decide (nI j = K.1 1)) = n + 1 + 1 + dg t := (by unfold wcl; rw [if_pos q1, show decide (nI j = K.1 1) = false from decide_eq_false q2]; simp only [if_true, Bool.false_eq_true, if_false]; omega); rw [e9]; exact ⟨(h, k3), ⟨⟨vp, ml, D, hW, hn, Nat.zero_le _, hD⟩, by show k3.1 ≤ _; omega, by show k3.2 ≤ _; omega⟩, rfl⟩)
  · refine y_ic_eq rfl (fun c => absurd c (fun z => q1 ((nI_eq (a := cc) (b := 101) (by omega) (by decide)).mp z))) (fun _ => ?_)
    refine y_go rfl rfl ?_
    refine y_go rfl rfl ?_
    refine y_getf (w := .ref (1 + 2)) rfl rfl (has_at wK (i := 0) rfl) rfl ?_
    refine y_go rfl rfl ?_
    refine y_ald (t := 0) (j := j) (l := K.2.2.1) (x := (gd K.2.2.1 j)) rfl (Or.inl ⟨rfl, rfl⟩) (has_at wK (i := 2) rfl) (xidx_nI (by omega)) (xgd (by rw [hK.2.1]; omega)) ?_
    rw [e2]
    refine y_V1e rfl (Nat.le_of_ble_eq_true rfl) (Nat.le_of_ble_eq_true rfl) rfl rfl (xrcv_of (has_at wL (i := 0) rfl)) (s_appI (by omega) hW hn hD b (by omega) (by omega)) (fun z hz => ?_)
    clear hW hn hD wl wl2 wlM wlP wvp w0 wK wB wF wV wH wM wG wP wL wD wR
    obtain ⟨⟨vp, ml, D, hW, hn, -, hD⟩, ka2, kb2⟩ := hz
    obtain ⟨h, k2⟩ := z
    dsimp only at hW ka2 kb2
    obtain ⟨wl, wl2, wlM, wlP, wvp, w0, wK, wB, wF, wV, wH, wM, wG, wP, wL, wD, wR⟩ := id hW
    refine y_go rfl rfl ?_
    refine y_go rfl rfl ?_
    refine y_go rfl rfl ?_
    refine y_V1e rfl (Nat.le_of_ble_eq_true rfl) (Nat.le_of_ble_eq_true rfl) rfl rfl (xrcv_of (has_at wL (i := 0) rfl)) (s_app (by omega) hW hn hD (by omega) 58 (by decide)) (fun z hz => ?_)
    clear hW hn hD wl wl2 wlM wlP wvp w0 wK wB wF wV wH wM wG wP wL wD wR
    obtain ⟨⟨vp, ml, D, hW, hn, -, hD⟩, ka3, kb3⟩ := hz
    obtain ⟨h, k3⟩ := z
    dsimp only at hW ka3 kb3
    obtain ⟨wl, wl2, wlM, wlP, wvp, w0, wK, wB, wF, wV, wH, wM, wG, wP, wL, wD, wR⟩ := id hW
    refine y_go rfl rfl ?_
    refine y_go rfl rfl ?_
    refine y_go rfl rfl ?_
    refine y_getf (w := .ref (1 + 3)) rfl rfl (has_at wK (i := 0) rfl) rfl ?_
    refine y_go rfl rfl ?_
    refine y_ald (t := 0) (j := j) (l := K.2.2.2.1) (x := (gd K.2.2.2.1 j)) rfl (Or.inl ⟨rfl, rfl⟩) (has_at wK (i := 3) rfl) (xidx_nI (by omega)) (xgd (by rw [hK.2.2.1]; omega)) ?_
    rw [e3]
    refine y_V1e rfl (Nat.le_of_ble_eq_true rfl) (Nat.le_of_ble_eq_true rfl) rfl rfl (xrcv_of (has_at wL (i := 0) rfl)) (s_appI (by omega) hW hn hD t (by omega) (by omega)) (fun z hz => ?_)
    clear hW hn hD wl wl2 wlM wlP wvp w0 wK wB wF wV wH wM wG wP wL wD wR
    obtain ⟨⟨vp, ml, D, hW, hn, -, hD⟩, ka4, kb4⟩ := hz
    obtain ⟨h, k4⟩ := z
    dsimp only at hW ka4 kb4
    obtain ⟨wl, wl2, wlM, wlP, wvp, w0, wK, wB, wF, wV, wH, wM, wG, wP, wL, wD, wR⟩ := id hW
    refine y_go rfl rfl ?_
    refine y_go rfl rfl ?_
    refine y_go rfl rfl ?_
    refine y_getf (w := .int (K.1 1)) rfl rfl (has_at wK (i := 0) rfl) rfl ?_
    by_cases q2 : nI j = K.1 1
    · refine y_ic_ne rfl (fun c => absurd (q2) c) (fun _ => ?_)
      refine y_go rfl rfl ?_
      refine y_go rfl rfl ?_
      refine y_V1e rfl (Nat.le_of_ble_eq_true rfl) (Nat.le_of_ble_eq_true rfl) rfl rfl (xrcv_of (has_at wL (i := 0) rfl)) (s_app (by omega) hW hn hD (by omega) 42 (by decide)) (fun z hz => ?_)
      clear hW hn hD wl wl2 wlM wlP wvp w0 wK wB wF wV wH wM wG wP wL wD wR
      obtain ⟨⟨vp, ml, D, hW, hn, -, hD⟩, ka5, kb5⟩ := hz
      obtain ⟨h, k5⟩ := z
      dsimp only at hW ka5 kb5
      obtain ⟨wl, wl2, wlM, wlP, wvp, w0, wK, wB, wF, wV, wH, wM, wG, wP, wL, wD, wR⟩ := id hW
      refine y_go rfl rfl ?_
      exact y_end rfl rfl (by have e9 : n + wcl cc b t (decide (nI j = K.1 1)) = n + 1 + dg b + 1 + dg t + 1 := (by unfold wcl; rw [if_neg q1, show decide (nI j = K.1 1) = true from decide_eq_true q2]; simp only [if_true, Bool.false_eq_true, if_false]; omega); rw [e9]; exact ⟨(h, k5), ⟨⟨vp, ml, D, hW, hn, Nat.zero_le _, hD⟩, by show k5.1 ≤ _; omega, by show k5.2 ≤ _; omega⟩, rfl⟩)
    · refine y_ic_ne rfl (fun _ => ?_) (fun c => absurd c (q2))
      exact y_end rfl rfl (by have e9 : n + wcl cc b t (decide (nI j = K.1 1)) = n + 1 + dg b + 1 + dg t := (by unfold wcl; rw [if_neg q1, show decide (nI j = K.1 1) = false from decide_eq_false q2]; simp only [if_true, Bool.false_eq_true, if_false]; omega); rw [e9]; exact ⟨(h, k4), ⟨⟨vp, ml, D, hW, hn, Nat.zero_le _, hD⟩, by show k4.1 ≤ _; omega, by show k4.2 ≤ _; omega⟩, rfl⟩)
/-- the characters of the first i chambers, the blanks between them -/
def rgl_ (c b t : Nat → Nat) (x : Nat → Bool) : Nat → Nat
  | 0 => 0
  | i + 1 => rgl_ c b t x i + (if i = 0 then 0 else 1) + wcl (c i) (b i) (t i) (x i)
theorem rgl_le {c b t : Nat → Nat} {x : Nat → Bool} (hb : ∀ j, j < 8 → b j ≤ 60) : ∀ i, i ≤ 8 → rgl_ c b t x i ≤ 10 * i
  | 0, _ => Nat.le_refl _
  | i + 1, hi => by
    have h1 := rgl_le (c := c) (t := t) (x := x) hb i (by omega)
    have h2 := wcl_le (c i) (b i) (t i) (hb i (by omega)) (x i)
    simp only [rgl_]
    split <;> omega
theorem l_ring {S : List Int32} {d : Nat} (hd : 8 ≤ d) {e f sv : Int32} {K B F V : kK} {ol sz : Nat} {R : Nat → kK} {M : List xC} {G : Nat → xC} {P : List xC} (hK : kv K) (c b t : Nat → Nat) (hf : ∀ j, j < 8 → gd K.2.1 j = nI (c j) ∧ c j < 128 ∧ gd K.2.2.1 j = nI (b j) ∧ b j ≤ 60 ∧ gd K.2.2.2.1 j = nI (t j) ∧ t j ≤ 1100) (k0 : Nat × Nat) : ∀ (i0 i : Nat), i + i0 = 8 → ∀ z : xS, LN e f sv K B F V ol sz R M G P (rgl_ c b t (fun j => decide (nI j = K.1 1)) i) 0 k0 (6 * i + 2) z → yW S d 103 (10, [.ref 0, .int (nI i)], [], z) (fun r => ∃ z : xS, LN e f sv K B F V ol sz R M G P (rgl_ c b t (fun j => decide (nI j = K.1 1)) 8) 0 k0 50 z ∧ r = (.inl (some (.int (nI (rgl_ c b t (fun j => decide (nI j = K.1 1)) 8)))), z)) := by
  have hb6 : ∀ j, j < 8 → b j ≤ 60 := fun j hj => (hf j hj).2.2.2.1
  intro i0
  induction i0 with
  | zero =>
    intro i hi z hz
    obtain rfl : i = 8 := by omega
    obtain ⟨⟨vp, ml, D, hW, hn, -, hD⟩, ka0, kb0⟩ := hz
    obtain ⟨h, k_⟩ := z
    dsimp only at hW ka0 kb0
    obtain ⟨wl, wl2, wlM, wlP, wvp, w0, wK, wB, wF, wV, wH, wM, wG, wP, wL, wD, wR⟩ := id hW
    refine y_go rfl rfl ?_
    refine y_go rfl rfl ?_
    refine y_ic_ge rfl (fun _ => ?_) (fun c => absurd c (nI_nlt (a := 8) (b := 8) (Nat.le_refl _) (by decide)))
    refine y_go rfl rfl ?_
    refine y_getf (w := .ref 119) rfl rfl (has_at w0 (i := 0) rfl) rfl ?_
    refine y_V1 rfl (Nat.le_of_ble_eq_true rfl) (Nat.le_of_ble_eq_true rfl) rfl rfl (xrcv_of (has_at wL (i := 0) rfl)) (s_sbLen (by omega) hW) ?_
    exact y_ireturn rfl rfl rfl ⟨(h, k_), ⟨⟨vp, ml, D, hW, hn, Nat.zero_le _, hD⟩, by show k_.1 ≤ _; omega, by show k_.2 ≤ _; omega⟩, rfl⟩
  | succ i0 ih =>
    intro i hi z hz
    have hlt : i < 8 := by omega
    have hle := rgl_le (c := c) (t := t) (x := fun j => decide (nI j = K.1 1)) hb6 i (by omega)
    have hw9 := wcl_le (c i) (b i) (t i) (hb6 i hlt) (decide (nI i = K.1 1))
    obtain ⟨f1, f2, f3, f4, f5, f6⟩ := hf i hlt
    obtain ⟨⟨vp, ml, D, hW, hn, -, hD⟩, ka0, kb0⟩ := hz
    obtain ⟨h, k_⟩ := z
    dsimp only at hW ka0 kb0
    obtain ⟨wl, wl2, wlM, wlP, wvp, w0, wK, wB, wF, wV, wH, wM, wG, wP, wL, wD, wR⟩ := id hW
    refine y_go rfl rfl ?_
    refine y_go rfl rfl ?_
    refine y_ic_ge rfl (fun c => absurd (nI_lt (a := i) (b := 8) hlt (by decide)) c) (fun _ => ?_)
    refine y_go rfl rfl ?_
    by_cases q0 : i = 0
    · refine y_if_le rfl (fun _ => ?_) (fun c => absurd c (nI_nlt (a := 0) (b := i) (by omega) (by decide)))
      refine y_go rfl rfl ?_
      refine y_getf (w := .ref 1) rfl rfl (has_at w0 (i := 0) rfl) rfl ?_
      refine y_go rfl rfl ?_
      refine y_go rfl rfl ?_
      refine y_getf (w := .ref 119) rfl rfl (has_at w0 (i := 0) rfl) rfl ?_
      refine y_V0e rfl (Nat.le_of_ble_eq_true rfl) (Nat.le_of_ble_eq_true rfl) rfl rfl (xrcv_of (has_at wK (i := 0) rfl)) (s_wc (by omega) hW hn hD hK i hlt (c i) (b i) (t i) f1 f2 f3 f4 f5 f6 (by omega)) (fun z hz => ?_)
      clear hW hn hD wl wl2 wlM wlP wvp w0 wK wB wF wV wH wM wG wP wL wD wR
      obtain ⟨⟨vp, ml, D, hW, hn, -, hD⟩, ka1, kb1⟩ := hz
      obtain ⟨h, k1⟩ := z
      dsimp only at hW ka1 kb1
      obtain ⟨wl, wl2, wlM, wlP, wvp, w0, wK, wB, wF, wV, wH, wM, wG, wP, wL, wD, wR⟩ := id hW
      refine y_go (g' := (45, [.ref 0, .int (nI (i + 1))], _, _)) rfl (by rw [← nI_1 i]; rfl) ?_
      refine y_go rfl rfl ?_
      have e9 : rgl_ c b t (fun j => decide (nI j = K.1 1)) (i + 1) = rgl_ c b t (fun j => decide (nI j = K.1 1)) i + wcl (c i) (b i) (t i) (decide (nI i = K.1 1)) := by simp only [rgl_]; rw [if_pos q0]; omega
      have g1 : k1.1 ≤ k0.1 + (6 * (i + 1) + 2) := by clear hW hn hD e9 ih hf; omega
      have g2 : k1.2 ≤ k0.2 + 150 * (6 * (i + 1) + 2) := cnt_b1 kb0 kb1
      exact ih (i + 1) (by omega) (h, k1) (by rw [e9]; exact LN_mk hW hn hD g1 g2)
    · refine y_if_le rfl (fun c => absurd (nI_lt (a := 0) (b := i) (by omega) (by omega)) c) (fun _ => ?_)
      refine y_go rfl rfl ?_
      refine y_getf (w := .ref 119) rfl rfl (has_at w0 (i := 0) rfl) rfl ?_
      refine y_go rfl rfl ?_
      refine y_V1e rfl (Nat.le_of_ble_eq_true rfl) (Nat.le_of_ble_eq_true rfl) rfl rfl (xrcv_of (has_at wL (i := 0) rfl)) (s_app (by omega) hW hn hD (by omega) 32 (by decide)) (fun z hz => ?_)
      clear hW hn hD wl wl2 wlM wlP wvp w0 wK wB wF wV wH wM wG wP wL wD wR
      obtain ⟨⟨vp, ml, D, hW, hn, -, hD⟩, ka1, kb1⟩ := hz
      obtain ⟨h, k1⟩ := z
      dsimp only at hW ka1 kb1
      obtain ⟨wl, wl2, wlM, wlP, wvp, w0, wK, wB, wF, wV, wH, wM, wG, wP, wL, wD, wR⟩ := id hW
      refine y_go rfl rfl ?_
      refine y_go rfl rfl ?_
      refine y_getf (w := .ref 1) rfl rfl (has_at w0 (i := 0) rfl) rfl ?_
      refine y_go rfl rfl ?_
      refine y_go rfl rfl ?_
      refine y_getf (w := .ref 119) rfl rfl (has_at w0 (i := 0) rfl) rfl ?_
      refine y_V0e rfl (Nat.le_of_ble_eq_true rfl) (Nat.le_of_ble_eq_true rfl) rfl rfl (xrcv_of (has_at wK (i := 0) rfl)) (s_wc (by omega) hW hn hD hK i hlt (c i) (b i) (t i) f1 f2 f3 f4 f5 f6 (by omega)) (fun z hz => ?_)
      clear hW hn hD wl wl2 wlM wlP wvp w0 wK wB wF wV wH wM wG wP wL wD wR
      obtain ⟨⟨vp, ml, D, hW, hn, -, hD⟩, ka2, kb2⟩ := hz
      obtain ⟨h, k2⟩ := z
      dsimp only at hW ka2 kb2
      obtain ⟨wl, wl2, wlM, wlP, wvp, w0, wK, wB, wF, wV, wH, wM, wG, wP, wL, wD, wR⟩ := id hW
      refine y_go (g' := (45, [.ref 0, .int (nI (i + 1))], _, _)) rfl (by rw [← nI_1 i]; rfl) ?_
      refine y_go rfl rfl ?_
      have e9 : rgl_ c b t (fun j => decide (nI j = K.1 1)) (i + 1) = rgl_ c b t (fun j => decide (nI j = K.1 1)) i + 1 + wcl (c i) (b i) (t i) (decide (nI i = K.1 1)) := by simp only [rgl_]; rw [if_neg q0]
      have g1 : k2.1 ≤ k0.1 + (6 * (i + 1) + 2) := by clear hW hn hD e9 ih hf; omega
      have g2 : k2.2 ≤ k0.2 + 150 * (6 * (i + 1) + 2) := cnt_b2 kb0 kb1 kb2
      exact ih (i + 1) (by omega) (h, k2) (by rw [e9]; exact LN_mk hW hn hD g1 g2)
theorem q_ring {S : List Int32} {d : Nat} (hd : 10 ≤ d) {e f sv : Int32} {K V : kK} {ol sz : Nat} {R : Nat → kK} {T : List Int32} {h : xH} (hW2 : W2 e f sv K V ol sz R T h) (k0 : Nat × Nat) (hK : kv K) (c b t : Nat → Nat) (hf : ∀ j, j < 8 → gd K.2.1 j = nI (c j) ∧ c j < 128 ∧ gd K.2.2.1 j = nI (b j) ∧ b j ≤ 60 ∧ gd K.2.2.2.1 j = nI (t j) ∧ t j ≤ 1100) : yT S d 103 [.ref 0] (h, k0) (fun r => ∃ z : xS, (W2 e f sv K V ol sz R T z.1 ∧ z.2.1 ≤ k0.1 + 50 ∧ z.2.2 ≤ k0.2 + 150 * 50) ∧ r = (.inl (some (.int (nI (rgl_ c b t (fun j => decide (nI j = K.1 1)) 8)))), z)) := by
  have hW2c := hW2
  obtain ⟨B, F, P, vp, ml, ln, D, ⟨M, G, hM, hG, hW⟩, kB, kF, kV, kK2, hR, hol, hsz, hP, hL⟩ := hW2
  obtain ⟨wl, wl2, wlM, wlP, wvp, w0, wK, wB, wF, wV, wH, wM, wG, wP, wL, wD, wR⟩ := id hW
  have lK : 1 + 6 ≤ h.length := has_len wK (by show 0 < 6; decide)
  obtain ⟨d, rfl⟩ : ∃ e, d = e + 1 := ⟨d - 1, by omega⟩
  refine yT_e (Nat.le_of_ble_eq_true rfl) ?_
  show yW S d 103 (0, [.ref 0, xno], [], (h, k0)) _
  refine y_go rfl rfl ?_
  refine y_getf (w := .ref 119) rfl rfl (has_at w0 (i := 0) rfl) rfl ?_
  refine y_go rfl rfl ?_
  obtain ⟨n0, rfl, hn, hD⟩ := hL
  refine y_V0e rfl (Nat.le_of_ble_eq_true rfl) (Nat.le_of_ble_eq_true rfl) rfl rfl (xrcv_of (has_at wL (i := 0) rfl)) (s_sbSet0 (by omega) hW hn hD) (fun z hz => ?_)
  refine y_go rfl rfl ?_
  refine y_go (g' := (10, [.ref 0, .int (nI 0)], _, _)) rfl rfl ?_
  refine yW_mono (l_ring (by omega) hK c b t hf k0 8 0 rfl z ⟨hz.1, by have := hz.2.1; omega, by have := hz.2.2; omega⟩) fun r hr => ?_
  obtain ⟨z2, ⟨⟨vp2, ml2, D2, hW2, hn2, -, hD2⟩, ka, kb⟩, hr⟩ := hr
  exact ⟨z2, ⟨⟨_, _, _, _, _, _, _, ⟨_, _, hM, hG, hW2⟩, kB, kF, kV, kK2, hR, hol, hsz, hP, ⟨_, rfl, hn2, hD2⟩⟩, ka, kb⟩, hr⟩
