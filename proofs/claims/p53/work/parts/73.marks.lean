/-! THE PROGRAM: what is left in the values doesn't matter. -/
def mpV (φ : Nat → Nat) (s : Nat × (Nat × Nat)) : Nat × (Nat × Nat) := (s.1, φ s.2.1, φ s.2.2)
def mpS (φ : Nat → Nat) (s : pV) : pV := (s.1, mpV φ s.2)
def mpC (φ : Nat → Nat) (c : Nat × (Nat × Nat)) : Nat × (Nat × Nat) := (c.1, φ c.2.1, φ c.2.2)
theorem addV_mp {φ : Nat → Nat} {v : Nat} (hv : φ v = v) (s : Nat × (Nat × Nat)) : addV v (mpV φ s) = mpV φ (addV v s) := by
  obtain ⟨c, a, b⟩ := s
  unfold addV mpV
  dsimp only
  split
  · dsimp only; rw [hv]
  · split
    · dsimp only; rw [hv]
    · rfl
theorem rdNl_v (N : List Nat) : ∀ (f n g p : Nat), f + g ≤ 3 → n < 10 ^ g → (rdNl N f n g p).1 < 1000
  | 0, n, g, p, h1, h4 => Nat.lt_of_lt_of_le h4 (by
      have : 10 ^ g ≤ 10 ^ 3 := Nat.pow_le_pow_right (by decide) (by omega)
      omega)
  | f + 1, n, g, p, h1, h4 => by
    have q : (n : Nat) < 1000 := Nat.lt_of_lt_of_le h4 (by
      have : 10 ^ g ≤ 10 ^ 3 := Nat.pow_le_pow_right (by decide) (by omega)
      omega)
    simp only [rdNl]
    split
    · split
      · rename_i h5 h6
        have h7 := isD_1 h6
        exact rdNl_v N f _ (g + 1) (p + 1) (by omega) (by rw [Nat.pow_succ]; omega)
      · exact q
    · exact q
theorem fo1_mp {φ : Nat → Nat} (hφ : ∀ v, v ≤ 1000 → φ v = v) {N : List Nat} (hB : ∀ i, i < N.length → gn N i < 128) (c : Nat) (s : pV) : fo1 N c (mpS φ s) = ((fo1 N c s).1, mpS φ (fo1 N c s).2) := by
  obtain ⟨p, t⟩ := s
  unfold fo1 mpS
  dsimp only
  split
  · unfold rdN
    dsimp only
    rw [addV_mp (hφ _ (by have := rdNl_v N 3 0 0 p (by decide) (by decide); omega))]
  · unfold rdC
    dsimp only
    by_cases hp : p < N.length
    · have hb := hB p hp
      rw [if_pos hp, if_pos hp, addV_mp (hφ _ (by omega)), addV_mp (hφ _ (by omega))]
      by_cases h1 : c = 35
      · rw [if_pos h1, if_pos h1]; split <;> rfl
      · rw [if_neg h1, if_neg h1]
        by_cases h2 : c = 64
        · rw [if_pos h2, if_pos h2]; split <;> rfl
        · rw [if_neg h2, if_neg h2]; split <;> rfl
    · rw [if_neg hp, if_neg hp]
theorem foT_mp {φ : Nat → Nat} (hφ : ∀ v, v ≤ 1000 → φ v = v) {N : List Nat} (hB : ∀ i, i < N.length → gn N i < 128) : ∀ (cs : List Nat) (s : pV), foT N cs (mpS φ s) = ((foT N cs s).1, mpS φ (foT N cs s).2)
  | [], _ => rfl
  | c :: cs, s => by
    simp only [foT]
    rw [fo1_mp hφ hB]
    by_cases h : (fo1 N c s).1 = true
    · rw [if_pos h, if_pos h]; exact foT_mp hφ hB cs _
    · rw [if_neg h, if_neg h]
theorem foT_mp0 {φ : Nat → Nat} (hφ : ∀ v, v ≤ 1000 → φ v = v) {N : List Nat} (hB : ∀ i, i < N.length → gn N i < 128) (cs : List Nat) (p : Nat) (s : Nat × (Nat × Nat)) : foT N cs (p, 0, (mpV φ s).2) = ((foT N cs (p, 0, s.2)).1, mpS φ (foT N cs (p, 0, s.2)).2) := foT_mp hφ hB cs (p, 0, s.2)
theorem rcm_mp {φ : Nat → Nat} (hφ : ∀ v, v ≤ 1000 → φ v = v) {N : List Nat} (hB : ∀ i, i < N.length → gn N i < 128) (p0 : Nat) : ∀ (n c r : Nat) (s : Nat × (Nat × Nat)), rcm N p0 n c r (mpV φ s) = ((rcm N p0 n c r s).1, mpS φ (rcm N p0 n c r s).2)
  | 0, _, _, _ => rfl
  | n + 1, c, r, s => by
    simp only [rcm]
    rw [foT_mp0 hφ hB]
    by_cases h : (foT N (patN c) (p0, 0, s.2)).1 = true
    · rw [if_pos h, if_pos h]
    · rw [if_neg h, if_neg h]
      exact rcm_mp hφ hB p0 n (c + 1) _ _
theorem rtx_10 {N : List Nat} {n : Nat} {s : pV} {l : List (Nat × (Nat × Nat))} {R : Nat × pV} (hR : rcm N s.1 10 0 s.1 s.2 = R) (h : R.1 = 10) : rtx N (n + 1) s l = (false, R.2, l) := by subst hR; exact if_pos h
theorem rtx_end {N : List Nat} {n : Nat} {s : pV} {l : List (Nat × (Nat × Nat))} {R : Nat × pV} (hR : rcm N s.1 10 0 s.1 s.2 = R) (h : ¬ R.1 = 10) (h2 : N.length ≤ R.2.1) : rtx N (n + 1) s l = (true, R.2, l ++ [(R.1, R.2.2.2)]) := by subst hR; exact (if_neg h).trans (if_pos h2)
theorem rtx_go {N : List Nat} {n : Nat} {s : pV} {l : List (Nat × (Nat × Nat))} {R : Nat × pV} (hR : rcm N s.1 10 0 s.1 s.2 = R) (h : ¬ R.1 = 10) (h2 : ¬ N.length ≤ R.2.1) (h3 : gn N R.2.1 = 59) : rtx N (n + 1) s l = rtx N n (R.2.1 + 1, R.2.2) (l ++ [(R.1, R.2.2.2)]) := by subst hR; exact (if_neg h).trans ((if_neg h2).trans (if_pos h3))
theorem rtx_bad {N : List Nat} {n : Nat} {s : pV} {l : List (Nat × (Nat × Nat))} {R : Nat × pV} (hR : rcm N s.1 10 0 s.1 s.2 = R) (h : ¬ R.1 = 10) (h2 : ¬ N.length ≤ R.2.1) (h3 : ¬ gn N R.2.1 = 59) : rtx N (n + 1) s l = (false, R.2, l ++ [(R.1, R.2.2.2)]) := by subst hR; exact (if_neg h).trans ((if_neg h2).trans (if_neg h3))
theorem rtx_mp {φ : Nat → Nat} (hφ : ∀ v, v ≤ 1000 → φ v = v) {N : List Nat} (hB : ∀ i, i < N.length → gn N i < 128) : ∀ (n : Nat) (s : pV) (l : List (Nat × (Nat × Nat))), rtx N n (mpS φ s) (l.map (mpC φ)) = ((rtx N n s l).1, mpS φ (rtx N n s l).2.1, (rtx N n s l).2.2.map (mpC φ))
  | 0, _, _ => rfl
  | n + 1, s, l => by
    obtain ⟨p, t⟩ := s
    have e := rcm_mp hφ hB p 10 0 p t
    cases hR : rcm N p 10 0 p t with
    | mk c qu =>
      obtain ⟨q, u⟩ := qu
      rw [hR] at e
      have e1 : rcm N (mpS φ (p, t)).1 10 0 (mpS φ (p, t)).1 (mpS φ (p, t)).2 = (c, q, mpV φ u) := e
      have e2 : rcm N (p, t).1 10 0 (p, t).1 (p, t).2 = (c, q, u) := hR
      have el : l.map (mpC φ) ++ [(c, (mpV φ u).2)] = (l ++ [(c, u.2)]).map (mpC φ) := by rw [List.map_append]; rfl
      by_cases h1 : c = 10
      · rw [rtx_10 e1 h1, rtx_10 e2 h1]; rfl
      · by_cases h2 : N.length ≤ q
        · rw [rtx_end e1 h1 h2, rtx_end e2 h1 h2, ← el]; rfl
        · by_cases h3 : gn N q = 59
          · rw [rtx_go e1 h1 h2 h3, rtx_go e2 h1 h2 h3]
            have ih := rtx_mp hφ hB n (q + 1, u) (l ++ [(c, u.2)])
            rw [← el] at ih
            exact ih
          · rw [rtx_bad e1 h1 h2 h3, rtx_bad e2 h1 h2 h3, ← el]; rfl
/-- 5000 and 6000 stand for what was left -/
def mk56 (v0 v1 : Nat) (v : Nat) : Nat := if v = 5000 then v0 else if v = 6000 then v1 else v
theorem rtx_56 {N : List Nat} (hB : ∀ i, i < N.length → gn N i < 128) (v0 v1 : Nat) {b : Bool} {s : pV} {l : List (Nat × (Nat × Nat))} (h : rtx N 16 (0, 0, 5000, 6000) [] = (b, s, l)) : rtx N 16 (0, 0, v0, v1) [] = (b, mpS (mk56 v0 v1) s, l.map (mpC (mk56 v0 v1))) := by
  have e := rtx_mp (φ := mk56 v0 v1) (fun v hv => by unfold mk56; rw [if_neg (by omega), if_neg (by omega)]) hB 16 (0, 0, 5000, 6000) []
  rw [h] at e
  exact e
