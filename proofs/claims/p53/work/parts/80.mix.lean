/-! MIXTURES: the best one is the least in cost, then in heat, of all; the table tells its cost. -/
def lxo (c1 h1 c2 h2 : Nat) : Prop := c1 < c2 ∨ (c1 = c2 ∧ h1 ≤ h2)
def lxM (a b e : Nat) (m r : Nat × (Nat × Nat)) : Prop := lxo (mcost a b e m.1 m.2.1 m.2.2) (mheat m.1 m.2.1 m.2.2) (mcost a b e r.1 r.2.1 r.2.2) (mheat r.1 r.2.1 r.2.2)
theorem lxM_rf {a b e : Nat} (m : Nat × (Nat × Nat)) : lxM a b e m m := Or.inr ⟨rfl, Nat.le_refl _⟩
theorem lxM_tr {a b e : Nat} {m r t : Nat × (Nat × Nat)} (h1 : lxM a b e m r) (h2 : lxM a b e r t) : lxM a b e m t := by
  unfold lxM lxo at *
  omega
/-- what a best mixture so far keeps to -/
def mgd (W C O u : Nat) (r : Nat × (Nat × Nat)) : Prop := r.1 ≤ W ∧ r.2.1 ≤ C ∧ r.2.2 ≤ O ∧ u ≤ mheat r.1 r.2.1 r.2.2
theorem mcost_b {W C O a b e u : Nat} {r : Nat × (Nat × Nat)} (h : mgd W C O u r) (hW : W ≤ 99) (hC : C ≤ 99) (hO : O ≤ 99) (ha : a ≤ 20) (hb : b ≤ 20) (he : e ≤ 20) : mcost a b e r.1 r.2.1 r.2.2 ≤ 5940 ∧ mheat r.1 r.2.1 r.2.2 ≤ 2277 := by
  obtain ⟨h1, h2, h3, -⟩ := h
  have q1 : r.1 * a ≤ 99 * 20 := Nat.mul_le_mul (by omega) ha
  have q2 : r.2.1 * b ≤ 99 * 20 := Nat.mul_le_mul (by omega) hb
  have q3 : r.2.2 * e ≤ 99 * 20 := Nat.mul_le_mul (by omega) he
  exact ⟨by unfold mcost; omega, by unfold mheat; omega⟩
theorem btr_lx {a b e : Nat} {x y z w c o : Nat} (h1 : mcost a b e x y z < 2 ^ 31) (h2 : mheat x y z < 2 ^ 31) (h3 : mcost a b e w c o < 2 ^ 31) (h4 : mheat w c o < 2 ^ 31) : if btr (nI x) (nI y) (nI z) (nI (mcost a b e x y z)) (nI (mheat x y z)) (nI (mcost a b e w c o)) (nI (mheat w c o)) (nI w) (nI c) = true then lxM a b e (w, c, o) (x, y, z) else lxM a b e (x, y, z) (w, c, o) := by
  unfold btr lxM lxo
  dsimp only
  simp only [nI_eq h3 h1, nI_eq h4 h2]
  by_cases q1 : mcost a b e w c o = mcost a b e x y z
  · rw [if_pos q1]
    by_cases q2 : mheat w c o = mheat x y z
    · rw [if_pos q2]
      have hA : mcost a b e w c o < mcost a b e x y z ∨ mcost a b e w c o = mcost a b e x y z ∧ mheat w c o ≤ mheat x y z := Or.inr ⟨q1, by omega⟩
      have hB : mcost a b e x y z < mcost a b e w c o ∨ mcost a b e x y z = mcost a b e w c o ∧ mheat x y z ≤ mheat w c o := Or.inr ⟨q1.symm, by omega⟩
      (repeat' split) <;> first | exact hA | exact hB
    · rw [if_neg q2]
      simp only [decide_eq_true_eq, nI_ltI h4 h2]
      split
      · exact Or.inr ⟨q1, by omega⟩
      · exact Or.inr ⟨q1.symm, by omega⟩
  · rw [if_neg q1]
    simp only [decide_eq_true_eq, nI_ltI h3 h1]
    split
    · exact Or.inl (by omega)
    · exact Or.inl (by omega)
theorem consider_ok {W C O a b e u : Nat} (hW : W ≤ 99) (hC : C ≤ 99) (hO : O ≤ 99) (ha : a ≤ 20) (hb : b ≤ 20) (he : e ≤ 20) {B : Option (Nat × (Nat × Nat))} (hB : ∀ r, B = some r → mgd W C O u r) {w c o : Nat} (hm : mgd W C O u (w, c, o)) : ∃ r, considerB a b e B w c o = some r ∧ mgd W C O u r ∧ lxM a b e r (w, c, o) ∧ ∀ r0, B = some r0 → lxM a b e r r0 := by
  cases B with
  | none => exact ⟨(w, c, o), rfl, hm, lxM_rf _, fun r0 h => by cases h⟩
  | some m =>
    obtain ⟨x, y, z⟩ := m
    have hx := hB _ rfl
    have b1 := mcost_b (a := a) (b := b) (e := e) hx hW hC hO ha hb he
    have b2 := mcost_b (a := a) (b := b) (e := e) hm hW hC hO ha hb he
    dsimp only at b1 b2
    have hl := btr_lx (a := a) (b := b) (e := e) (x := x) (y := y) (z := z) (w := w) (c := c) (o := o) (by omega) (by omega) (by omega) (by omega)
    unfold considerB
    dsimp only
    split at hl
    · rename_i q
      rw [if_pos q]
      exact ⟨_, rfl, hm, lxM_rf _, fun r0 h => by cases h; exact hl⟩
    · rename_i q
      rw [if_neg q]
      exact ⟨_, rfl, hx, hl, fun r0 h => by cases h; exact lxM_rf _⟩
theorem tryC_ok {W C O a b e u o : Nat} (hW : W ≤ 99) (hC : C ≤ 99) (hO : O ≤ 99) (ha : a ≤ 20) (hb : b ≤ 20) (he : e ≤ 20) (ho : o ≤ O) {B : Option (Nat × (Nat × Nat))} (hB : ∀ r, B = some r → mgd W C O u r) : ∀ n, n ≤ C + 1 → (∀ r, tryC W u a b e o B n = some r → mgd W C O u r) ∧ (∀ c, c < n → pf (u - o * 12 - c * 8) 3 ≤ W → ∃ r, tryC W u a b e o B n = some r ∧ lxM a b e r (pf (u - o * 12 - c * 8) 3, c, o)) ∧ (∀ r0, B = some r0 → ∃ r, tryC W u a b e o B n = some r ∧ lxM a b e r r0)
  | 0, _ => ⟨hB, fun c hc => absurd hc (Nat.not_lt_zero _), fun r0 h => ⟨r0, h, lxM_rf _⟩⟩
  | n + 1, hn => by
    obtain ⟨i1, i2, i3⟩ := tryC_ok hW hC hO ha hb he ho hB n (by omega)
    simp only [tryC]
    by_cases q : W < pf (u - o * 12 - n * 8) 3
    · rw [if_pos q]
      refine ⟨i1, fun c hc hw => ?_, i3⟩
      by_cases e1 : c = n
      · subst e1; omega
      · exact i2 c (by omega) hw
    · rw [if_neg q]
      have hm : mgd W C O u (pf (u - o * 12 - n * 8) 3, n, o) := ⟨by show pf _ _ ≤ W; omega, by show n ≤ C; omega, ho, by show u ≤ mheat (pf (u - o * 12 - n * 8) 3) n o; unfold mheat pf; omega⟩
      obtain ⟨r, g1, g2, g3, g4⟩ := consider_ok hW hC hO ha hb he i1 hm
      rw [g1]
      refine ⟨fun r' h' => by cases h'; exact g2, fun c hc hw => ?_, fun r0 h0 => ?_⟩
      · by_cases e1 : c = n
        · subst e1; exact ⟨r, rfl, g3⟩
        · obtain ⟨r1, k1, k2⟩ := i2 c (by omega) hw
          exact ⟨r, rfl, lxM_tr (g4 _ k1) k2⟩
      · obtain ⟨r1, k1, k2⟩ := i3 r0 h0
        exact ⟨r, rfl, lxM_tr (g4 _ k1) k2⟩
theorem tryO_ok {W C O a b e u : Nat} (hW : W ≤ 99) (hC : C ≤ 99) (hO : O ≤ 99) (ha : a ≤ 20) (hb : b ≤ 20) (he : e ≤ 20) : ∀ n, n ≤ O + 1 → (∀ r, tryO W C u a b e n = some r → mgd W C O u r) ∧ ∀ o c, o < n → c ≤ min C (pf (u - o * 12) 8) → pf (u - o * 12 - c * 8) 3 ≤ W → ∃ r, tryO W C u a b e n = some r ∧ lxM a b e r (pf (u - o * 12 - c * 8) 3, c, o)
  | 0, _ => ⟨fun r h => by simp [tryO] at h, fun o c ho => absurd ho (Nat.not_lt_zero _)⟩
  | n + 1, hn => by
    obtain ⟨i1, i2⟩ := tryO_ok (u := u) hW hC hO ha hb he n (by omega)
    simp only [tryO]
    obtain ⟨j1, j2, j3⟩ := tryC_ok hW hC hO ha hb he (show n ≤ O by omega) i1 (min C (pf (u - n * 12) 8) + 1) (by omega)
    refine ⟨j1, fun o c ho hc hw => ?_⟩
    by_cases e1 : o = n
    · subst e1; exact j2 c (by omega) hw
    · obtain ⟨r1, k1, k2⟩ := i2 o c (by omega) hc hw
      obtain ⟨r2, k3, k4⟩ := j3 r1 k1
      exact ⟨r2, k3, lxM_tr k4 k2⟩
section BM
variable {W C O a b e u : Nat}
theorem best_gd (hW : W ≤ 99) (hC : C ≤ 99) (hO : O ≤ 99) (ha : a ≤ 20) (hb : b ≤ 20) (he : e ≤ 20) {r : Nat × (Nat × Nat)} (h : bestM W C O a b e u = some r) : mgd W C O u r := (tryO_ok hW hC hO ha hb he _ (by omega)).1 r h
theorem best_min (hW : W ≤ 99) (hC : C ≤ 99) (hO : O ≤ 99) (ha : a ≤ 20) (hb : b ≤ 20) (he : e ≤ 20) {w c o : Nat} (hw : w ≤ W) (hc : c ≤ C) (ho : o ≤ O) (hu : u ≤ mheat w c o) : ∃ r, bestM W C O a b e u = some r ∧ lxM a b e r (w, c, o) := by
  have key : ∃ o' c', o' ≤ o ∧ c' ≤ c ∧ o' < min O (pf u 12) + 1 ∧ c' ≤ min C (pf (u - o' * 12) 8) ∧ pf (u - o' * 12 - c' * 8) 3 ≤ w := by
    unfold mheat at hu
    unfold pf
    refine ⟨min o ((u + 12 - 1) / 12), min c ((u - min o ((u + 12 - 1) / 12) * 12 + 8 - 1) / 8), Nat.min_le_left _ _, Nat.min_le_left _ _, by omega, by omega, by omega⟩
  obtain ⟨o', c', h1, h2, h3, h4, h5⟩ := key
  obtain ⟨r, g1, g2⟩ := (tryO_ok (u := u) hW hC hO ha hb he (min O (pf u 12) + 1) (by omega)).2 o' c' h3 h4 (by omega)
  refine ⟨r, g1, lxM_tr g2 ?_⟩
  have q1 : pf (u - o' * 12 - c' * 8) 3 * a ≤ w * a := Nat.mul_le_mul_right _ h5
  have q2 : c' * b ≤ c * b := Nat.mul_le_mul_right _ h2
  have q3 : o' * e ≤ o * e := Nat.mul_le_mul_right _ h1
  unfold lxM lxo
  dsimp only
  generalize pf (u - o' * 12 - c' * 8) 3 = w' at *
  unfold mcost mheat
  omega
theorem best_none (hW : W ≤ 99) (hC : C ≤ 99) (hO : O ≤ 99) (ha : a ≤ 20) (hb : b ≤ 20) (he : e ≤ 20) (h : bestM W C O a b e u = none) {w c o : Nat} (hw : w ≤ W) (hc : c ≤ C) (ho : o ≤ O) : mheat w c o < u := by
  rcases Nat.lt_or_ge (mheat w c o) u with q | q
  · exact q
  · obtain ⟨r, g1, -⟩ := best_min hW hC hO ha hb he hw hc ho q
    rw [h] at g1; cases g1
/-- no piece too many -/
theorem best_tight (hW : W ≤ 99) (hC : C ≤ 99) (hO : O ≤ 99) (ha : a ≤ 20) (hb : b ≤ 20) (he : e ≤ 20) {w c o : Nat} (h : bestM W C O a b e u = some (w, c, o)) : (w = 0 ∨ mheat w c o < u + 3) ∧ (c = 0 ∨ mheat w c o < u + 8) ∧ (o = 0 ∨ mheat w c o < u + 12) := by
  obtain ⟨g1, g2, g3, g4⟩ := best_gd hW hC hO ha hb he h
  dsimp only at g1 g2 g3 g4
  have no : ∀ w' c' o', w' ≤ w → c' ≤ c → o' ≤ o → mheat w' c' o' < mheat w c o → mheat w' c' o' < u := by
    intro w' c' o' k1 k2 k3 k4
    rcases Nat.lt_or_ge (mheat w' c' o') u with q | q
    · exact q
    · obtain ⟨r, r1, r2⟩ := best_min (u := u) hW hC hO ha hb he (w := w') (c := c') (o := o') (by omega) (by omega) (by omega) q
      rw [h] at r1; cases r1
      have q1 : w' * a ≤ w * a := Nat.mul_le_mul_right _ k1
      have q2 : c' * b ≤ c * b := Nat.mul_le_mul_right _ k2
      have q3 : o' * e ≤ o * e := Nat.mul_le_mul_right _ k3
      unfold lxM lxo at r2
      dsimp only at r2
      unfold mcost at r2
      omega
  unfold mheat at *
  refine ⟨?_, ?_, ?_⟩
  · rcases Nat.eq_zero_or_pos w with q | q
    · exact Or.inl q
    · have := no (w - 1) c o (by omega) (Nat.le_refl _) (Nat.le_refl _) (by omega)
      exact Or.inr (by omega)
  · rcases Nat.eq_zero_or_pos c with q | q
    · exact Or.inl q
    · have := no w (c - 1) o (Nat.le_refl _) (by omega) (Nat.le_refl _) (by omega)
      exact Or.inr (by omega)
  · rcases Nat.eq_zero_or_pos o with q | q
    · exact Or.inl q
    · have := no w c (o - 1) (Nat.le_refl _) (Nat.le_refl _) (by omega) (by omega)
      exact Or.inr (by omega)
end BM
theorem minTo_lb (T : Nat → Nat) (ph a h : Nat) : ∀ n c, c ≤ n → minTo T ph a h n ≤ T (h - c * ph) + c * a
  | 0, c, hc => by
    obtain rfl : c = 0 := by omega
    simp [minTo]
  | n + 1, c, hc => by
    simp only [minTo]
    by_cases q : c = n + 1
    · subst q; exact Nat.min_le_right _ _
    · exact Nat.le_trans (Nat.min_le_left _ _) (minTo_lb T ph a h n c (by omega))
theorem minTo_at (T : Nat → Nat) (ph a h : Nat) : ∀ n, ∃ c, c ≤ n ∧ minTo T ph a h n = T (h - c * ph) + c * a
  | 0 => ⟨0, Nat.le_refl _, by simp [minTo]⟩
  | n + 1 => by
    obtain ⟨c, h1, h2⟩ := minTo_at T ph a h n
    simp only [minTo]
    rcases Nat.le_total (minTo T ph a h n) (T (h - (n + 1) * ph) + (n + 1) * a) with q | q
    · rw [Nat.min_eq_left q]; exact ⟨c, by omega, h2⟩
    · rw [Nat.min_eq_right q]; exact ⟨n + 1, Nat.le_refl _, rfl⟩
theorem extF_lb {T : Nat → Nat} {ph P a j c : Nat} (hp : 0 < ph) (h1 : c ≤ P) (h2 : c * ph ≤ j) : extF T ph P a j ≤ T (j - c * ph) + c * a := minTo_lb T ph a j _ c (by
  have := (Nat.le_div_iff_mul_le hp).mpr h2
  omega)
theorem extF_at {T : Nat → Nat} {ph P a j : Nat} (hp : 0 < ph) : ∃ c, c ≤ P ∧ c * ph ≤ j ∧ extF T ph P a j = T (j - c * ph) + c * a := by
  obtain ⟨c, h1, h2⟩ := minTo_at T ph a j (min P (j / ph))
  exact ⟨c, by omega, (Nat.le_div_iff_mul_le hp).mp (by omega), h2⟩
theorem T3_lb {W C O a b e w c o : Nat} (hw : w ≤ W) (hc : c ≤ C) (ho : o ≤ O) : T3 W C O a b e (mheat w c o) ≤ mcost a b e w c o := by
  unfold T3
  have h1 := extF_lb (T := extF (extF T0 3 W a) 8 C b) (ph := 12) (P := O) (a := e) (j := mheat w c o) (c := o) (by decide) ho (by unfold mheat; omega)
  have h2 := extF_lb (T := extF T0 3 W a) (ph := 8) (P := C) (a := b) (j := mheat w c o - o * 12) (c := c) (by decide) hc (by unfold mheat; omega)
  have h3 := extF_lb (T := T0) (ph := 3) (P := W) (a := a) (j := mheat w c o - o * 12 - c * 8) (c := w) (by decide) hw (by unfold mheat; omega)
  have h4 : T0 (mheat w c o - o * 12 - c * 8 - w * 3) = 0 := by
    rw [show mheat w c o - o * 12 - c * 8 - w * 3 = 0 by unfold mheat; omega]; rfl
  unfold mcost
  omega
theorem T3_at (W C O a b e j : Nat) : ∃ w c o, w ≤ W ∧ c ≤ C ∧ o ≤ O ∧ mheat w c o ≤ j ∧ T3 W C O a b e j = T0 (j - mheat w c o) + mcost a b e w c o := by
  unfold T3
  obtain ⟨o, a1, a2, a3⟩ := extF_at (T := extF (extF T0 3 W a) 8 C b) (ph := 12) (P := O) (a := e) (j := j) (by decide)
  obtain ⟨c, b1, b2, b3⟩ := extF_at (T := extF T0 3 W a) (ph := 8) (P := C) (a := b) (j := j - o * 12) (by decide)
  obtain ⟨w, c1, c2, c3⟩ := extF_at (T := T0) (ph := 3) (P := W) (a := a) (j := j - o * 12 - c * 8) (by decide)
  refine ⟨w, c, o, c1, b1, a1, by unfold mheat; omega, ?_⟩
  rw [a3, b3, c3, show j - o * 12 - c * 8 - w * 3 = j - mheat w c o by unfold mheat; omega]
  unfold mcost
  omega
theorem mr_lb (T : Nat → Nat) (u : Nat) : ∀ k i, i < k → mr T u k ≤ T (u + i)
  | 0, i, h => absurd h (Nat.not_lt_zero _)
  | k + 1, i, h => by
    simp only [mr]
    by_cases q : i = k
    · subst q; exact Nat.min_le_right _ _
    · exact Nat.le_trans (Nat.min_le_left _ _) (mr_lb T u k i (by omega))
theorem mr_at (T : Nat → Nat) (u : Nat) : ∀ k, mr T u k = 1000000 ∨ ∃ i, i < k ∧ mr T u k = T (u + i)
  | 0 => Or.inl rfl
  | k + 1 => by
    simp only [mr]
    rcases Nat.le_total (mr T u k) (T (u + k)) with q | q
    · rw [Nat.min_eq_left q]
      rcases mr_at T u k with h | ⟨i, h1, h2⟩
      · exact Or.inl h
      · exact Or.inr ⟨i, by omega, h2⟩
    · rw [Nat.min_eq_right q]; exact Or.inr ⟨k, by omega, rfl⟩
theorem tabM_some {W C O a b e u : Nat} (hW : W ≤ 99) (hC : C ≤ 99) (hO : O ≤ 99) (ha : a ≤ 20) (hb : b ≤ 20) (he : e ≤ 20) (hu : 1 ≤ u) {w c o : Nat} (h : bestM W C O a b e u = some (w, c, o)) : tabM W C O a b e u = mcost a b e w c o := by
  have hg := best_gd hW hC hO ha hb he h
  have hbd := mcost_b (a := a) (b := b) (e := e) hg hW hC hO ha hb he
  obtain ⟨t1, t2, t3⟩ := best_tight hW hC hO ha hb he h
  obtain ⟨g1, g2, g3, g4⟩ := hg
  dsimp only at g1 g2 g3 g4 hbd
  have hj : mheat w c o < u + 12 := by
    unfold mheat at *
    omega
  apply Nat.le_antisymm
  · have h1 := mr_lb (T3 W C O a b e) u 12 (mheat w c o - u) (by omega)
    rw [show u + (mheat w c o - u) = mheat w c o by omega] at h1
    exact Nat.le_trans h1 (T3_lb g1 g2 g3)
  · unfold tabM
    rcases mr_at (T3 W C O a b e) u 12 with q | ⟨i, q1, q2⟩
    · omega
    · obtain ⟨w', c', o', k1, k2, k3, k4, k5⟩ := T3_at W C O a b e (u + i)
      rw [q2, k5]
      by_cases z : mheat w' c' o' = u + i
      · obtain ⟨r, r1, r2⟩ := best_min (u := u) hW hC hO ha hb he k1 k2 k3 (by omega)
        rw [h] at r1; cases r1
        unfold lxM lxo at r2
        dsimp only at r2
        omega
      · have : T0 (u + i - mheat w' c' o') = 1000000 := if_neg (by omega)
        omega
theorem tabM_none {W C O a b e u : Nat} (hW : W ≤ 99) (hC : C ≤ 99) (hO : O ≤ 99) (ha : a ≤ 20) (hb : b ≤ 20) (he : e ≤ 20) (h : bestM W C O a b e u = none) : tabM W C O a b e u = 1000000 := by
  unfold tabM
  rcases mr_at (T3 W C O a b e) u 12 with q | ⟨i, q1, q2⟩
  · exact q
  · obtain ⟨w', c', o', k1, k2, k3, k4, k5⟩ := T3_at W C O a b e (u + i)
    have h1 := best_none hW hC hO ha hb he h k1 k2 k3
    have h2 := mr_le (T3 W C O a b e) u 12
    have : T0 (u + i - mheat w' c' o') = 1000000 := if_neg (by omega)
    omega
/-! of a kiln -/
theorem tbl_eq {K : kK} (hp : kp K) {u : Nat} (hu : 1 ≤ u) : tbl K u = bcst K u := by
  obtain ⟨-, -, h1, h2, h3, h4, h5, h6⟩ := kp_eq hp
  unfold tbl tabR
  cases hb : bst K u with
  | none =>
    rw [bcst_none hb, if_pos (tabM_none h1 h2 h3 h4 h5 h6 hb)]
  | some m =>
    obtain ⟨w, c, o⟩ := m
    have hc := tabM_some h1 h2 h3 h4 h5 h6 hu hb
    have hbd := mcost_b (a := rN K 0) (b := rN K 1) (e := rN K 2) (best_gd h1 h2 h3 h4 h5 h6 hb) h1 h2 h3 h4 h5 h6
    dsimp only at hbd
    rw [bcst_some hb, hc, if_neg (by omega)]
/-- all that is asked of the best mixture -/
theorem bst_facts {K : kK} (hp : kp K) {u w c o : Nat} (hb : bst K u = some (w, c, o)) : w ≤ pN K 0 ∧ c ≤ pN K 1 ∧ o ≤ pN K 2 ∧ u ≤ mheat w c o ∧ mcost (rN K 0) (rN K 1) (rN K 2) w c o ≤ 5940 ∧ mheat w c o ≤ 2277 ∧ (w = 0 ∨ mheat w c o < u + 3) ∧ (c = 0 ∨ mheat w c o < u + 8) ∧ (o = 0 ∨ mheat w c o < u + 12) := by
  obtain ⟨-, -, h1, h2, h3, h4, h5, h6⟩ := kp_eq hp
  have hg := best_gd h1 h2 h3 h4 h5 h6 hb
  have hbd := mcost_b (a := rN K 0) (b := rN K 1) (e := rN K 2) hg h1 h2 h3 h4 h5 h6
  exact ⟨hg.1, hg.2.1, hg.2.2.1, hg.2.2.2, hbd.1, hbd.2, best_tight h1 h2 h3 h4 h5 h6 hb⟩
theorem bst_none {K : kK} (hp : kp K) {u : Nat} (hb : bst K u = none) : mheat (pN K 0) (pN K 1) (pN K 2) < u := by
  obtain ⟨-, -, h1, h2, h3, h4, h5, h6⟩ := kp_eq hp
  exact best_none h1 h2 h3 h4 h5 h6 hb (Nat.le_refl _) (Nat.le_refl _) (Nat.le_refl _)
theorem bst_mono {K : kK} (hp : kp K) {u w c o : Nat} (hb : bst K u = some (w, c, o)) : ∃ w' c' o', bst K (u - 1) = some (w', c', o') ∧ mcost (rN K 0) (rN K 1) (rN K 2) w' c' o' ≤ mcost (rN K 0) (rN K 1) (rN K 2) w c o := by
  obtain ⟨-, -, h1, h2, h3, h4, h5, h6⟩ := kp_eq hp
  obtain ⟨g1, g2, g3, g4⟩ := best_gd h1 h2 h3 h4 h5 h6 hb
  dsimp only at g1 g2 g3 g4
  obtain ⟨⟨w', c', o'⟩, r1, r2⟩ := best_min (u := u - 1) h1 h2 h3 h4 h5 h6 g1 g2 g3 (by omega)
  refine ⟨w', c', o', r1, ?_⟩
  unfold lxM lxo at r2
  dsimp only at r2
  omega
