/-! RANKS: a chamber for each, in the order of bfr. -/
/-- no more different numbers below n than n -/
theorem pigeon : ∀ (n : Nat) (f : Nat → Nat), (∀ i, i ≤ n → f i < n) → (∀ i j, i ≤ n → j ≤ n → f i = f j → i = j) → False
  | 0, f, h, _ => absurd (h 0 (Nat.le_refl _)) (Nat.not_lt_zero _)
  | n + 1, f, h, hi => by
    refine pigeon n (fun i => if f i = n then f (n + 1) else f i) (fun i hin => ?_) (fun i j hin hjn he => ?_)
    · have h1 := h i (by omega)
      have h2 := h (n + 1) (Nat.le_refl _)
      have h3 : f i ≠ f (n + 1) := fun e => by have := hi i (n + 1) (by omega) (Nat.le_refl _) e; omega
      split <;> omega
    · have h2 : f i ≠ f (n + 1) := fun e => by have := hi i (n + 1) (by omega) (Nat.le_refl _) e; omega
      have h3 : f j ≠ f (n + 1) := fun e => by have := hi j (n + 1) (by omega) (Nat.le_refl _) e; omega
      refine hi i j (by omega) (by omega) ?_
      by_cases e1 : f i = n <;> by_cases e2 : f j = n
      · rw [e1, e2]
      · rw [if_pos e1, if_neg e2] at he; omega
      · rw [if_neg e1, if_pos e2] at he; omega
      · rw [if_neg e1, if_neg e2] at he; exact he
theorem onto {n : Nat} {f : Nat → Nat} (h : ∀ i, i < n → f i < n) (hi : ∀ i j, i < n → j < n → f i = f j → i = j) {v : Nat} (hv : v < n) : ∃ i, i < n ∧ f i = v := by
  refine Classical.byContradiction fun q => ?_
  have hne : ∀ i, i < n → f i ≠ v := fun i hin e => q ⟨i, hin, e⟩
  obtain ⟨m, rfl⟩ : ∃ m, n = m + 1 := ⟨n - 1, by omega⟩
  refine pigeon m (fun i => if v < f i then f i - 1 else f i) (fun i hin => ?_) (fun i j hin hjn he => ?_)
  · have h1 := h i (by omega)
    have h2 := hne i (by omega)
    split <;> omega
  · have h1 := hne i (by omega)
    have h2 := hne j (by omega)
    refine hi i j (by omega) (by omega) ?_
    split at he <;> split at he <;> omega
/-- the order, in numbers -/
def bfN (t b : Nat → Nat) (i j : Nat) : Prop := t j < t i ∨ (t i = t j ∧ (b j < b i ∨ (b i = b j ∧ i < j)))
theorem bfr_N {ts bs : List Int32} {t b : Nat → Nat} (ht : ∀ j, j < 8 → gd ts j = nI (t j) ∧ t j < 2 ^ 31) (hb : ∀ j, j < 8 → gd bs j = nI (b j) ∧ b j < 2 ^ 31) {i j : Nat} (hi : i < 8) (hj : j < 8) : bfr ts bs i j = true ↔ bfN t b i j := by
  obtain ⟨a1, a2⟩ := ht i hi
  obtain ⟨a3, a4⟩ := ht j hj
  obtain ⟨c1, c2⟩ := hb i hi
  obtain ⟨c3, c4⟩ := hb j hj
  unfold bfr bfN
  rw [a1, a3, c1, c3]
  simp only [nI_eq a2 a4, nI_eq c2 c4]
  by_cases q1 : t i = t j
  · rw [if_pos q1]
    by_cases q2 : b i = b j
    · rw [if_pos q2]
      simp only [decide_eq_true_eq]
      omega
    · rw [if_neg q2]
      simp only [decide_eq_true_eq, nI_ltI c4 c2]
      omega
  · rw [if_neg q1]
    simp only [decide_eq_true_eq, nI_ltI a4 a2]
    omega
/-- how many of the first i come before j -/
def rkN (t b : Nat → Nat) (j : Nat) : Nat → Nat
  | 0 => 0
  | i + 1 => (if t j < t i ∨ (t i = t j ∧ (b j < b i ∨ (b i = b j ∧ i < j))) then 1 else 0) + rkN t b j i
theorem rkN_le (t b : Nat → Nat) (j : Nat) : ∀ i, rkN t b j i ≤ i
  | 0 => Nat.le_refl _
  | i + 1 => by
    have := rkN_le t b j i
    simp only [rkN]
    split <;> omega
theorem rkN_mono {t b : Nat → Nat} {x y : Nat} (h : bfN t b x y) : ∀ i, rkN t b x i ≤ rkN t b y i
  | 0 => Nat.le_refl _
  | i + 1 => by
    have ih := rkN_mono h i
    unfold bfN at h
    simp only [rkN]
    split
    · split
      · omega
      · omega
    · split <;> omega
theorem rkN_lt {t b : Nat → Nat} {x y : Nat} (h : bfN t b x y) : ∀ i, x < i → rkN t b x i < rkN t b y i
  | 0, hx => absurd hx (Nat.not_lt_zero _)
  | i + 1, hx => by
    have ih := rkN_mono h i
    simp only [rkN]
    by_cases e : x = i
    · subst e
      unfold bfN at h
      rw [if_neg (by omega), if_pos h]
      omega
    · have ih2 := rkN_lt h i (by omega)
      unfold bfN at h
      split
      · split
        · omega
        · omega
      · split <;> omega
theorem rkN_lt8 (t b : Nat → Nat) {j : Nat} : ∀ i, j < i → rkN t b j i < i
  | 0, h => absurd h (Nat.not_lt_zero _)
  | i + 1, h => by
    simp only [rkN]
    by_cases e : j = i
    · subst e
      have := rkN_le t b j j
      rw [if_neg (by omega)]
      omega
    · have := rkN_lt8 t b (j := j) i (by omega)
      split <;> omega
theorem rnkTo_N {ts bs : List Int32} {t b : Nat → Nat} (ht : ∀ j, j < 8 → gd ts j = nI (t j) ∧ t j < 2 ^ 31) (hb : ∀ j, j < 8 → gd bs j = nI (b j) ∧ b j < 2 ^ 31) {j : Nat} (hj : j < 8) : ∀ i, i ≤ 8 → rnkTo ts bs j i = nI (rkN t b j i)
  | 0, _ => rfl
  | i + 1, hi => by
    have ih := rnkTo_N ht hb hj i (by omega)
    have hk := bfr_N ht hb (show i < 8 by omega) hj
    unfold bfN at hk
    simp only [rnkTo, rkN, ih]
    by_cases q : bfr ts bs i j = true
    · rw [if_pos q, if_pos (hk.mp q), nI_1, Nat.add_comm]
    · rw [if_neg q, if_neg (fun z => q (hk.mpr z)), Nat.zero_add]
theorem bfN_tot (t b : Nat → Nat) {i j : Nat} (h : i ≠ j) : bfN t b i j ∨ bfN t b j i := by
  unfold bfN
  omega
/-- the chamber of a rank -/
theorem crk_at {ts bs : List Int32} {t b : Nat → Nat} (ht : ∀ j, j < 8 → gd ts j = nI (t j) ∧ t j < 2 ^ 31) (hb : ∀ j, j < 8 → gd bs j = nI (b j) ∧ b j < 2 ^ 31) (r : Nat) (hr : r < 2 ^ 31) : ∀ n i, i + n = 8 → (crk ts bs (nI r) n i = -5 ∧ ∀ j, i ≤ j → j < 8 → rkN t b j 8 ≠ r) ∨ ∃ j, i ≤ j ∧ j < 8 ∧ crk ts bs (nI r) n i = nI j ∧ rkN t b j 8 = r
  | 0, i, h => Or.inl ⟨rfl, fun j h1 h2 => by omega⟩
  | n + 1, i, h => by
    have hk := rnkTo_N ht hb (show i < 8 by omega) 8 (Nat.le_refl _)
    have hle := rkN_le t b i 8
    simp only [crk]
    rw [hk]
    by_cases q : nI (rkN t b i 8) = nI r
    · rw [if_pos q]
      exact Or.inr ⟨i, Nat.le_refl _, by omega, rfl, (nI_eq (by omega) hr).mp q⟩
    · rw [if_neg q]
      rcases crk_at ht hb r hr n (i + 1) (by omega) with ⟨h1, h2⟩ | ⟨j, h1, h2, h3, h4⟩
      · refine Or.inl ⟨h1, fun j k1 k2 e => ?_⟩
        by_cases z : j = i
        · subst z; exact q (by rw [e])
        · exact h2 j (by omega) k2 e
      · exact Or.inr ⟨j, by omega, h2, h3, h4⟩
theorem crk_no {ts bs : List Int32} {t b : Nat → Nat} (ht : ∀ j, j < 8 → gd ts j = nI (t j) ∧ t j < 2 ^ 31) (hb : ∀ j, j < 8 → gd bs j = nI (b j) ∧ b j < 2 ^ 31) {v : Int32} (hv : ∀ r, r < 8 → nI r ≠ v) : ∀ n i, i + n = 8 → crk ts bs v n i = -5
  | 0, _, _ => rfl
  | n + 1, i, h => by
    have hk := rnkTo_N ht hb (show i < 8 by omega) 8 (Nat.le_refl _)
    have hle := rkN_lt8 t b (j := i) 8 (by omega)
    simp only [crk]
    rw [hk, if_neg (hv _ hle)]
    exact crk_no ht hb hv n (i + 1) (by omega)
/-- all that is asked of the ranks -/
theorem crk_facts {ts bs : List Int32} {t b : Nat → Nat} (ht : ∀ j, j < 8 → gd ts j = nI (t j) ∧ t j < 2 ^ 31) (hb : ∀ j, j < 8 → gd bs j = nI (b j) ∧ b j < 2 ^ 31) : ∃ c : Nat → Nat, (∀ r, r < 8 → c r < 8 ∧ crk ts bs (nI r) 8 0 = nI (c r)) ∧ ∀ r, r < 7 → bfN t b (c r) (c (r + 1)) := by
  have hinj : ∀ i j, i < 8 → j < 8 → rkN t b i 8 = rkN t b j 8 → i = j := fun i j hi hj e => by
    refine Classical.byContradiction fun q => ?_
    rcases bfN_tot t b q with h | h
    · have := rkN_lt h 8 hi; omega
    · have := rkN_lt h 8 hj; omega
  have hex : ∀ r, r < 8 → ∃ j, j < 8 ∧ crk ts bs (nI r) 8 0 = nI j ∧ rkN t b j 8 = r := fun r hr => by
    obtain ⟨j, h1, h2⟩ := onto (n := 8) (f := fun j => rkN t b j 8) (fun i hi => rkN_lt8 t b 8 hi) hinj hr
    rcases crk_at ht hb r (by omega) 8 0 rfl with ⟨-, k⟩ | ⟨j', -, k1, k2, k3⟩
    · exact absurd h2 (k j (Nat.zero_le _) h1)
    · exact ⟨j', k1, k2, k3⟩
  refine ⟨fun r => if h : r < 8 then (hex r h).choose else 0, fun r hr => ?_, fun r hr => ?_⟩
  · dsimp only
    rw [dif_pos hr]
    exact ⟨(hex r hr).choose_spec.1, (hex r hr).choose_spec.2.1⟩
  · have h1 : r < 8 := by omega
    have h2 : r + 1 < 8 := by omega
    dsimp only
    rw [dif_pos h1, dif_pos h2]
    have k1 := (hex r h1).choose_spec
    have k2 := (hex (r + 1) h2).choose_spec
    generalize (hex r h1).choose = x at *
    generalize (hex (r + 1) h2).choose = y at *
    have hxy : x ≠ y := fun e => by subst e; omega
    rcases bfN_tot t b hxy with h | h
    · exact h
    · have := rkN_lt h 8 k2.1; omega
theorem gtm_N {ts : List Int32} (h : gtm ts) : ∃ t : Nat → Nat, ∀ j, j < 8 → gd ts j = nI (t j) ∧ 20 ≤ t j ∧ t j ≤ 1100 := by
  refine ⟨fun j => (gd ts j).toNatClampNeg, fun j hj => ?_⟩
  obtain ⟨t, h1, h2, h3⟩ := h j hj
  dsimp only
  rw [h1, nI_back (by omega)]
  exact ⟨rfl, h2, h3⟩
theorem gsb_N {ss bs : List Int32} (h : gsb ss bs) : ∃ b : Nat → Nat, ∀ j, j < 8 → gd bs j = nI (b j) ∧ b j ≤ 60 ∧ ((gd ss j = 101 ∧ b j = 0) ∨ ((gd ss j = 103 ∨ gd ss j = 102) ∧ 0 < b j)) := by
  refine ⟨fun j => (gd bs j).toNatClampNeg, fun j hj => ?_⟩
  obtain ⟨b, h1, h2, h3⟩ := h j hj
  dsimp only
  rw [h1, nI_back (by omega)]
  exact ⟨rfl, h2, h3⟩
/-! FORECASTS. -/
theorem hoursK_add (K : kK) (a : Nat) : ∀ b, hoursK K (a + b) = hoursK (hoursK K a) b
  | 0 => rfl
  | b + 1 => by
    show hourK (hoursK K (a + b)) = hourK (hoursK (hoursK K a) b)
    rw [hoursK_add K a b]
theorem hoursK_1 (K : kK) (n : Nat) : hoursK (hourK K) n = hoursK K (n + 1) := by
  have h := hoursK_add K 1 n
  rw [Nat.add_comm 1 n] at h
  exact h.symm
theorem hour_out {K : kK} (h : K.1 1 = -1) : (hourK K).1 1 = -1 := by
  have e0 : hour0 K.1 1 = -1 := by unfold hour0; rw [if_pos h]; exact h
  unfold hourK hour1
  rw [if_pos e0]
  unfold hour2
  rw [if_pos e0]
  exact e0
theorem hours_out {K : kK} (h : K.1 1 = -1) : ∀ n, (hoursK K n).1 1 = -1
  | 0 => h
  | n + 1 => hour_out (hours_out h n)
/-- the hours till the fire is out: the first at which it is out -/
theorem tillOut_at : ∀ (n i : Nat) (K : kK), (tillOut n i K).1 = -5 ∧ (∀ m, m < n → (hoursK K m).1 1 ≠ -1) ∨ ∃ m, m < n ∧ (tillOut n i K).1 = nI (i + m) ∧ (hoursK K m).1 1 = -1 ∧ ∀ l, l < m → (hoursK K l).1 1 ≠ -1
  | 0, i, K => Or.inl ⟨rfl, fun m h => absurd h (Nat.not_lt_zero _)⟩
  | n + 1, i, K => by
    simp only [tillOut]
    by_cases q : K.1 1 = -1
    · rw [if_pos q]
      exact Or.inr ⟨0, Nat.succ_pos _, rfl, q, fun l h => absurd h (Nat.not_lt_zero _)⟩
    · rw [if_neg q]
      rcases tillOut_at n (i + 1) (hourK K) with ⟨h1, h2⟩ | ⟨m, h1, h2, h3, h4⟩
      · refine Or.inl ⟨h1, fun m hm => ?_⟩
        cases m with
        | zero => exact q
        | succ m => rw [← hoursK_1]; exact h2 m (by omega)
      · refine Or.inr ⟨m + 1, by omega, ?_, ?_, fun l hl => ?_⟩
        · rw [h2, show i + 1 + m = i + (m + 1) by omega]
        · rw [← hoursK_1]; exact h3
        · cases l with
          | zero => exact q
          | succ l => rw [← hoursK_1]; exact h4 l (by omega)
theorem tillCool_at (j : Nat) : ∀ (n i : Nat) (K : kK), (tillCool j n i K).1 = -5 ∧ (0 < n → (60 : Int32) < gd K.2.2.2.1 j) ∨ ∃ m, m < n ∧ (tillCool j n i K).1 = nI (i + m) ∧ ¬ (60 : Int32) < gd (hoursK K m).2.2.2.1 j ∧ (0 < m → (60 : Int32) < gd K.2.2.2.1 j)
  | 0, i, K => Or.inl ⟨rfl, fun h => absurd h (Nat.not_lt_zero _)⟩
  | n + 1, i, K => by
    simp only [tillCool]
    by_cases q : (60 : Int32) < gd K.2.2.2.1 j
    · rw [if_pos q]
      rcases tillCool_at j n (i + 1) (hourK K) with ⟨h1, h2⟩ | ⟨m, h1, h2, h3, h4⟩
      · exact Or.inl ⟨h1, fun _ => q⟩
      · refine Or.inr ⟨m + 1, by omega, ?_, ?_, fun _ => q⟩
        · rw [h2, show i + 1 + m = i + (m + 1) by omega]
        · rw [← hoursK_1]; exact h3
    · rw [if_neg q]
      exact Or.inr ⟨0, Nat.succ_pos _, rfl, q, fun h => absurd h (Nat.not_lt_zero _)⟩
