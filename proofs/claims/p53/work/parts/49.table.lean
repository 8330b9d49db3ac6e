/-! THE MIXER: the lowest costs by a table. -/
/-- the row tells the numbers T up to tp -/
def loR (lo : List Int32) (T : Nat → Nat) (tp : Nat) : Prop := lo.length = 212 ∧ ∀ j, j ≤ tp → gd lo j = nI (T j)
theorem loR_congr {lo : List Int32} {T T2 : Nat → Nat} {tp : Nat} (h : loR lo T tp) (he : ∀ j, j ≤ tp → T j = T2 j) : loR lo T2 tp := ⟨h.1, fun j hj => by rw [h.2 j hj, he j hj]⟩
/-- the least for the heat h with at most so many pieces of one fuel -/
def minTo (T : Nat → Nat) (ph a h : Nat) : Nat → Nat
  | 0 => T h
  | c + 1 => min (minTo T ph a h c) (T (h - (c + 1) * ph) + (c + 1) * a)
theorem minTo_le (T : Nat → Nat) (ph a h : Nat) : ∀ c, minTo T ph a h c ≤ T h
  | 0 => Nat.le_refl _
  | c + 1 => Nat.le_trans (Nat.min_le_left _ _) (minTo_le T ph a h c)
theorem minTo_congr {T T2 : Nat → Nat} {h : Nat} (he : ∀ j, j ≤ h → T j = T2 j) (ph a : Nat) : ∀ c, minTo T ph a h c = minTo T2 ph a h c
  | 0 => he h (Nat.le_refl _)
  | c + 1 => by simp only [minTo]; rw [minTo_congr he ph a c, he _ (Nat.sub_le _ _)]
def extF (T : Nat → Nat) (ph P a : Nat) (j : Nat) : Nat := minTo T ph a j (min P (j / ph))
theorem extF_le (T : Nat → Nat) (ph P a j : Nat) : extF T ph P a j ≤ T j := minTo_le _ _ _ _ _
theorem l_ext {S : List Int32} {d : Nat} {h : xH} {p : Nat} (hl : p + 3 ≤ h.length) (hB : h.length ≤ 1000000) (k0 : Nat × Nat) (be : List Int32) (c t fo : Int32) (ph P a tp : Nat) (hp1 : 1 ≤ ph) (hp2 : ph ≤ 12) (hP : P ≤ 99) (ha : a ≤ 20) (htp : tp ≤ 211) (T : Nat → Nat) (hT : ∀ j, j ≤ tp → T j ≤ 2000000) (hh : Nat) (h1 : 1 ≤ hh) (h2 : hh ≤ tp) {Q : xR → Prop} (k : ∀ (x7 : Value) (lo : List Int32), loR lo (fun j => if j = hh then minTo T ph a hh (min P (hh / ph)) else T j) tp → yW S d 44 (71, [.ref p, .int (nI ph), .int (nI P), .int (nI a), .int (nI tp), .int (nI hh), .int (nI ((min P (hh / ph)) + 1)), x7], [], ((put h p (mC p lo be c t fo)), k0)) Q) : ∀ (n i : Nat), i + n = min P (hh / ph) → ∀ (x7 : Value) (lo : List Int32), loR lo (fun j => if j = hh then minTo T ph a hh i else T j) tp → yW S d 44 (12, [.ref p, .int (nI ph), .int (nI P), .int (nI a), .int (nI tp), .int (nI hh), .int (nI (i + 1)), x7], [], ((put h p (mC p lo be c t fo)), k0)) Q := by
  intro n
  induction n with
  | zero =>
    intro i hi x7 lo e_lo
    obtain rfl : i = min P (hh / ph) := by omega
    have hd9 : hh / ph ≤ hh := Nat.div_le_self _ _
    by_cases hq : P ≤ hh / ph
    · have hm : min P (hh / ph) = P := Nat.min_eq_left hq
      refine y_go rfl rfl ?_
      refine y_go rfl rfl ?_
      refine y_ic_gt rfl (fun _ => ?_) (fun c => absurd (by rw [hm]; exact nI_lt (by omega) (by omega)) c)
      exact k _ _ e_lo
    · have hm : min P (hh / ph) = hh / ph := Nat.min_eq_right (by omega)
      have hx : hh < (min P (hh / ph) + 1) * ph := by rw [hm]; exact (Nat.div_lt_iff_lt_mul (by omega)).mp (Nat.lt_succ_self _)
      have hy : (min P (hh / ph) + 1) * ph ≤ 100 * 12 := Nat.mul_le_mul (by omega) hp2
      refine y_go rfl rfl ?_
      refine y_go rfl rfl ?_
      refine y_ic_gt rfl (fun c => absurd c (nI_nlt (by omega) (by omega))) (fun _ => ?_)
      refine y_go rfl rfl ?_
      refine y_go rfl rfl ?_
      refine y_go rfl rfl ?_
      rw [show (nI ((min P (hh / ph)) + 1)) * (nI ph) = nI ((min P (hh / ph) + 1) * ph) from nI_mul _ _]
      refine y_go rfl rfl ?_
      refine y_ic_gt rfl (fun _ => ?_) (fun c => absurd (nI_lt hx (by omega)) c)
      exact k _ _ e_lo
  | succ n ih =>
    intro i hi x7 lo e_lo
    have hd9 : hh / ph ≤ hh := Nat.div_le_self _ _
    have hx : (i + 1) * ph ≤ hh := (Nat.le_div_iff_mul_le (by omega)).mp (by omega)
    have hy : (i + 1) * 1 ≤ (i + 1) * ph := Nat.mul_le_mul_left _ hp1
    have hz : (i + 1) * a ≤ 100 * 20 := Nat.mul_le_mul (by omega) ha
    have hlen := e_lo.1
    have hj9 : hh - (i + 1) * ph < hh := by omega
    have e1 : gd lo (hh - (i + 1) * ph) = nI (T (hh - (i + 1) * ph)) := (e_lo.2 _ (by omega)).trans (by dsimp only; rw [if_neg (by omega)])
    have e2 : gd lo hh = nI (minTo T ph a hh i) := (e_lo.2 _ h2).trans (by dsimp only; rw [if_pos rfl])
    have e3 := hT (hh - (i + 1) * ph) (by omega)
    have e4 := Nat.le_trans (minTo_le T ph a hh i) (hT hh h2)
    refine y_go rfl rfl ?_
    refine y_go rfl rfl ?_
    refine y_ic_gt rfl (fun c => absurd c (nI_nlt (by omega) (by omega))) (fun _ => ?_)
    refine y_go rfl rfl ?_
    refine y_go rfl rfl ?_
    refine y_go rfl rfl ?_
    rw [show (nI (i + 1)) * (nI ph) = nI ((i + 1) * ph) from nI_mul _ _]
    refine y_go rfl rfl ?_
    refine y_ic_gt rfl (fun c => absurd c (nI_nlt hx (by omega))) (fun _ => ?_)
    refine y_go rfl rfl ?_
    refine y_getR (w := .ref (p + 1)) (j := 0) rfl hl rfl rfl rfl rfl ?_
    refine y_go rfl rfl ?_
    refine y_go rfl rfl ?_
    refine y_go rfl rfl ?_
    refine y_go rfl rfl ?_
    rw [show (nI (i + 1)) * (nI ph) = nI ((i + 1) * ph) from nI_mul _ _]
    refine y_go rfl rfl ?_
    rw [show (nI hh) - (nI ((i + 1) * ph)) = nI (hh - (i + 1) * ph) from nI_sub hx]
    refine y_aldR (t := 0) (n := 1) (j := (hh - (i + 1) * ph)) (l := lo) rfl (Or.inl ⟨rfl, rfl⟩) hl rfl rfl (xidx_nI (by omega)) (xgd (by omega)) ?_
    rw [show (gd lo (hh - (i + 1) * ph)) = nI (T (hh - (i + 1) * ph)) from e1]
    refine y_go rfl rfl ?_
    refine y_go rfl rfl ?_
    refine y_go rfl rfl ?_
    refine y_go rfl rfl ?_
    rw [show (nI (T (hh - (i + 1) * ph))) + ((nI (i + 1)) * (nI a)) = nI (T (hh - (i + 1) * ph) + (i + 1) * a) from by rw [nI_mul, nI_add]]
    refine y_go (g' := (46, [.ref p, .int (nI ph), .int (nI P), .int (nI a), .int (nI tp), .int (nI hh), .int (nI (i + 1)), .int (nI (T (hh - (i + 1) * ph) + (i + 1) * a))], _, _)) rfl rfl ?_
    refine y_go rfl rfl ?_
    refine y_getR (w := .ref (p + 1)) (j := 0) rfl hl rfl rfl rfl rfl ?_
    refine y_go rfl rfl ?_
    refine y_go rfl rfl ?_
    refine y_getR (w := .ref (p + 1)) (j := 0) rfl hl rfl rfl rfl rfl ?_
    refine y_go rfl rfl ?_
    refine y_aldR (t := 0) (n := 1) (j := hh) (l := lo) rfl (Or.inl ⟨rfl, rfl⟩) hl rfl rfl (xidx_nI (by omega)) (xgd (by omega)) ?_
    rw [show (gd lo hh) = nI (minTo T ph a hh i) from e2]
    refine y_go rfl rfl ?_
    refine y_min rfl (Nat.le_of_ble_eq_true rfl) rfl ?_
    rw [show (imin (nI (minTo T ph a hh i)) (nI (T (hh - (i + 1) * ph) + (i + 1) * a))) = nI (minTo T ph a hh (i + 1)) from imin_nI (by omega) (by omega)]
    refine y_astR (t := 0) (n := 1) (j := hh) (y := (nI (minTo T ph a hh (i + 1)))) (cs' := (mC p (lo.set hh (nI (minTo T ph a hh (i + 1)))) be c t fo)) rfl (Or.inl ⟨rfl, rfl⟩) hl rfl rfl (xidx_nI (by omega)) (by omega) rfl rfl ?_
    refine y_go (g' := (68, [.ref p, .int (nI ph), .int (nI P), .int (nI a), .int (nI tp), .int (nI hh), .int (nI (i + 1 + 1)), .int (nI (T (hh - (i + 1) * ph) + (i + 1) * a))], _, _)) rfl (by rw [← nI_1 (i + 1)]; rfl) ?_
    refine y_go rfl rfl ?_
    refine ih (i + 1) (by omega) _ _ ⟨by rw [List.length_set]; exact hlen, fun j hj => ?_⟩
    rw [gd_set (by omega)]
    try dsimp only
    by_cases hjh : hh = j
    · rw [if_pos hjh, if_pos hjh.symm]
    · have := e_lo.2 j hj
      dsimp only at this
      rw [if_neg hjh, if_neg (fun q => hjh q.symm), this, if_neg (fun q => hjh q.symm)]
theorem l_ext2 {S : List Int32} {d : Nat} {h : xH} {p : Nat} (hl : p + 3 ≤ h.length) (hB : h.length ≤ 1000000) (k0 : Nat × Nat) (be : List Int32) (c t fo : Int32) (ph P a tp : Nat) (hp1 : 1 ≤ ph) (hp2 : ph ≤ 12) (hP : P ≤ 99) (ha : a ≤ 20) (htp : tp ≤ 211) (T : Nat → Nat) (hT : ∀ j, j ≤ tp → T j ≤ 2000000) {Q : xR → Prop} (k : ∀ (x6 x7 : Value) (lo : List Int32), loR lo (extF T ph P a) tp → yW S d 44 (77, [.ref p, .int (nI ph), .int (nI P), .int (nI a), .int (nI tp), .int (nI 0), x6, x7], [], ((put h p (mC p lo be c t fo)), k0)) Q) : ∀ (i : Nat), i ≤ tp → ∀ (x6 x7 : Value) (lo : List Int32), loR lo (fun j => if i < j then extF T ph P a j else T j) tp → yW S d 44 (4, [.ref p, .int (nI ph), .int (nI P), .int (nI a), .int (nI tp), .int (nI i), x6, x7], [], ((put h p (mC p lo be c t fo)), k0)) Q := by
  intro i
  induction i with
  | zero =>
    intro hi x6 x7 lo e_lo
    refine y_go rfl rfl ?_
    refine y_if_le rfl (fun _ => ?_) (fun c => absurd c (by decide))
    refine k _ _ _ (loR_congr e_lo fun j hj => ?_)
    try dsimp only
    by_cases hz : 0 < j
    · rw [if_pos hz]
    · obtain rfl : j = 0 := by omega
      rw [if_neg hz]; unfold extF; rw [Nat.zero_div, Nat.min_zero]; rfl
  | succ i ih =>
    intro hi x6 x7 lo e_lo
    refine y_go rfl rfl ?_
    refine y_if_le rfl (fun c => absurd (nI_lt (a := 0) (by omega) (by omega)) c) (fun _ => ?_)
    refine y_go rfl rfl ?_
    refine y_go (g' := (12, [.ref p, .int (nI ph), .int (nI P), .int (nI a), .int (nI tp), .int (nI (i + 1)), .int 1, x7], _, _)) rfl rfl ?_
    refine l_ext hl hB k0 be c t fo ph P a tp hp1 hp2 hP ha htp (fun j => if i + 1 < j then extF T ph P a j else T j) (fun j hj => ?_) (i + 1) (by omega) hi (fun x7 lo e_lo => ?_) (min P ((i + 1) / ph)) 0 (by omega) _ _ (loR_congr e_lo fun j hj => ?_)
    · try dsimp only
      split
      · exact Nat.le_trans (extF_le _ _ _ _ _) (hT j hj)
      · exact hT j hj
    · refine y_go (g' := (74, [.ref p, .int (nI ph), .int (nI P), .int (nI a), .int (nI tp), .int (nI i), .int (nI (min P ((i + 1) / ph) + 1)), x7], _, _)) rfl (by rw [← nI_dec i]; rfl) ?_
      refine y_go rfl rfl ?_
      refine ih (by omega) _ _ _ (loR_congr e_lo fun j hj => ?_)
      try dsimp only
      by_cases hz : j = i + 1
      · rw [if_pos hz, if_pos (by omega), hz]; unfold extF; exact minTo_congr (fun z hz9 => by rw [if_neg (by omega)]) _ _ _
      · rw [if_neg hz]; by_cases hw : i + 1 < j
        · rw [if_pos hw, if_pos (by omega)]
        · rw [if_neg hw, if_neg (by omega)]
    · try dsimp only
      by_cases hz : j = i + 1
      · rw [if_pos hz, hz]; simp only [minTo]
      · rw [if_neg hz]
theorem s_extendTable {S : List Int32} {d : Nat} (hd : 1 ≤ d) {h : xH} {p : Nat} (hl : p + 3 ≤ h.length) (hB : h.length ≤ 1000000) (k0 : Nat × Nat) (be : List Int32) (c t fo : Int32) (ph P a tp : Nat) (hp1 : 1 ≤ ph) (hp2 : ph ≤ 12) (hP : P ≤ 99) (ha : a ≤ 20) (htp : tp ≤ 211) (T : Nat → Nat) (hT : ∀ j, j ≤ tp → T j ≤ 2000000) {lo : List Int32} (hlo : loR lo T tp) : yT S d 44 [.ref p, .int (nI ph), .int (nI P), .int (nI a), .int (nI tp)] ((put h p (mC p lo be c t fo)), k0) (fun r => ∃ lo, loR lo (extF T ph P a) tp ∧ r = (.inl none, ((put h p (mC p lo be c t fo)), k0))) := by
  obtain ⟨d, rfl⟩ : ∃ e, d = e + 1 := ⟨d - 1, by omega⟩
  refine yT_e (Nat.le_of_ble_eq_true rfl) ?_
  show yW S d 44 (0, [.ref p, .int (nI ph), .int (nI P), .int (nI a), .int (nI tp), xno, xno, xno], [], ((put h p (mC p lo be c t fo)), k0)) _
  refine y_go rfl rfl ?_
  refine y_go (g' := (4, [.ref p, .int (nI ph), .int (nI P), .int (nI a), .int (nI tp), .int (nI tp), xno, xno], _, _)) rfl rfl ?_
  refine l_ext2 hl hB k0 be c t fo ph P a tp hp1 hp2 hP ha htp T hT (fun x6 x7 lo e_lo => ?_) tp (Nat.le_refl _) _ _ _ (loR_congr hlo fun j hj => ?_)
  · exact y_end rfl rfl ⟨_, e_lo, rfl⟩
  · try dsimp only
    rw [if_neg (by omega)]
/-- the least of the numbers from u on -/
def mr (T : Nat → Nat) (u : Nat) : Nat → Nat
  | 0 => 1000000
  | k + 1 => min (mr T u k) (T (u + k))
theorem mr_le (T : Nat → Nat) (u : Nat) : ∀ k, mr T u k ≤ 1000000
  | 0 => Nat.le_refl _
  | k + 1 => Nat.le_trans (Nat.min_le_left _ _) (mr_le T u k)
def T0 (j : Nat) : Nat := if j = 0 then 0 else 1000000
def T3 (W C O a b e : Nat) : Nat → Nat := extF (extF (extF T0 3 W a) 8 C b) 12 O e
def tabM (W C O a b e u : Nat) : Nat := mr (T3 W C O a b e) u 12
def tabR (W C O a b e u : Nat) : Int32 := if tabM W C O a b e u = 1000000 then -4 else nI (tabM W C O a b e u)
theorem T0_le (j : Nat) : T0 j ≤ 2000000 := by unfold T0; split <;> omega
def iniR (lo : List Int32) (i : Nat) : Prop := lo.length = 212 ∧ (∀ j, j < i → gd lo j = nI (T0 j)) ∧ 1 ≤ i
theorem l_init {S : List Int32} {d : Nat} {h : xH} {p : Nat} (hl : p + 3 ≤ h.length) (hB : h.length ≤ 1000000) (k0 : Nat × Nat) (be : List Int32) (c t fo : Int32) {q1 q2 : Nat} (u : Nat) (hu : u ≤ 200) {Q : xR → Prop} (k : ∀ (x6 : Value) (lo : List Int32), iniR lo (u + 11 + 1) → yW S d 43 (38, [.ref p, .ref q1, .ref q2, .int (nI u), .int (nI (u + 11)), .int (nI (u + 11 + 1)), x6], [], ((put h p (mC p lo be c t fo)), k0)) Q) : ∀ (n i : Nat), i + n = (u + 11 + 1) → ∀ (x6 : Value) (lo : List Int32), iniR lo i → yW S d 43 (16, [.ref p, .ref q1, .ref q2, .int (nI u), .int (nI (u + 11)), .int (nI i), x6], [], ((put h p (mC p lo be c t fo)), k0)) Q := by
  intro n
  induction n with
  | zero =>
    intro i hi x6 lo e_lo
    obtain rfl : i = (u + 11 + 1) := by omega
    refine y_go rfl rfl ?_
    refine y_go rfl rfl ?_
    refine y_ic_gt rfl (fun _ => ?_) (fun c => absurd (nI_lt (a := u + 11) (b := (u + 11 + 1)) (by omega) (by omega)) c)
    exact k _ _ e_lo
  | succ n ih =>
    intro i hi x6 lo e_lo
    have hlt : i < (u + 11 + 1) := by omega
    refine y_go rfl rfl ?_
    refine y_go rfl rfl ?_
    refine y_ic_gt rfl (fun c => absurd c (nI_nlt (a := u + 11) (b := i) (by omega) (by omega))) (fun _ => ?_)
    refine y_go rfl rfl ?_
    refine y_getR (w := .ref (p + 1)) (j := 0) rfl hl rfl rfl rfl rfl ?_
    refine y_go rfl rfl ?_
    refine y_go rfl rfl ?_
    refine y_astR (t := 0) (n := 1) (j := i) (y := 1000000) (cs' := (mC p (lo.set i 1000000) be c t fo)) rfl (Or.inl ⟨rfl, rfl⟩) hl rfl rfl (xidx_nI (by omega)) (by rw [e_lo.1]; omega) rfl rfl ?_
    refine y_go (g' := (35, [.ref p, .ref q1, .ref q2, .int (nI u), .int (nI (u + 11)), .int (nI (i + 1)), x6], _, _)) rfl (by rw [← nI_1 i]; rfl) ?_
    refine y_go rfl rfl ?_
    exact ih (i + 1) (by omega) _ _ (⟨by rw [List.length_set]; exact e_lo.1, fun j hj => by
        have h1 := e_lo.2.2
        rw [gd_set (by rw [e_lo.1]; omega)]
        by_cases hz : i = j
        · rw [if_pos hz]; unfold T0; rw [if_neg (by omega)]; rfl
        · rw [if_neg hz]; exact e_lo.2.1 j (by omega), by omega⟩)
theorem l_min {S : List Int32} {d : Nat} {h : xH} {p : Nat} (hl : p + 3 ≤ h.length) (hB : h.length ≤ 1000000) (k0 : Nat × Nat) (be : List Int32) (c t fo : Int32) {q1 q2 : Nat} (u : Nat) (hu : u ≤ 200) (lo : List Int32) (T : Nat → Nat) (hT : ∀ j, j ≤ u + 11 → T j ≤ 2000000) (hlo : loR lo T (u + 11)) {Q : xR → Prop} (k : ∀ (x5 : Int32), x5 = nI (mr T u ((u + 11 + 1) - u)) ∧ u ≤ (u + 11 + 1) → yW S d 43 (107, [.ref p, .ref q1, .ref q2, .int (nI u), .int (nI (u + 11)), .int x5, .int (nI (u + 11 + 1))], [], ((put h p (mC p lo be c t fo)), k0)) Q) : ∀ (n i : Nat), i + n = (u + 11 + 1) → ∀ (x5 : Int32), x5 = nI (mr T u (i - u)) ∧ u ≤ i → yW S d 43 (80, [.ref p, .ref q1, .ref q2, .int (nI u), .int (nI (u + 11)), .int x5, .int (nI i)], [], ((put h p (mC p lo be c t fo)), k0)) Q := by
  intro n
  induction n with
  | zero =>
    intro i hi x5 e_x5
    obtain rfl : i = (u + 11 + 1) := by omega
    refine y_go rfl rfl ?_
    refine y_go rfl rfl ?_
    refine y_ic_gt rfl (fun _ => ?_) (fun c => absurd (nI_lt (a := u + 11) (b := (u + 11 + 1)) (by omega) (by omega)) c)
    exact k _ e_x5
  | succ n ih =>
    intro i hi x5 e_x5
    have hlt : i < (u + 11 + 1) := by omega
    refine y_go rfl rfl ?_
    refine y_go rfl rfl ?_
    refine y_ic_gt rfl (fun c => absurd c (nI_nlt (a := u + 11) (b := i) (by omega) (by omega))) (fun _ => ?_)
    refine y_go rfl rfl ?_
    refine y_go rfl rfl ?_
    refine y_getR (w := .ref (p + 1)) (j := 0) rfl hl rfl rfl rfl rfl ?_
    refine y_go rfl rfl ?_
    refine y_aldR (t := 0) (n := 1) (j := i) (l := lo) rfl (Or.inl ⟨rfl, rfl⟩) hl rfl rfl (xidx_nI (by omega)) (xgd (by rw [hlo.1]; omega)) ?_
    refine y_min rfl (Nat.le_of_ble_eq_true rfl) rfl ?_
    refine y_go (g' := (101, [.ref p, .ref q1, .ref q2, .int (nI u), .int (nI (u + 11)), .int (imin x5 (gd lo i)), .int (nI i)], _, _)) rfl rfl ?_
    refine y_go (g' := (104, [.ref p, .ref q1, .ref q2, .int (nI u), .int (nI (u + 11)), .int (imin x5 (gd lo i)), .int (nI (i + 1))], _, _)) rfl (by rw [← nI_1 i]; rfl) ?_
    refine y_go rfl rfl ?_
    exact ih (i + 1) (by omega) _ (by
      obtain ⟨e5, e6⟩ := e_x5
      refine ⟨?_, by omega⟩
      have hz := mr_le T u (i - u)
      have hy := hT i (by omega)
      rw [e5, hlo.2 i (by omega), imin_nI (by omega) (by omega), show i + 1 - u = (i - u) + 1 by omega]
      show _ = nI (min _ (T (u + (i - u))))
      rw [show u + (i - u) = i by omega])
theorem s_cheapest {S : List Int32} {d : Nat} (hd : 2 ≤ d) {h : xH} {p : Nat} (hl : p + 3 ≤ h.length) (hB : h.length ≤ 1000000) (k0 : Nat × Nat) (be : List Int32) (c t fo : Int32) {q1 q2 : Nat} (u : Nat) (hu : u ≤ 200) (W C O a b e : Nat) (hs1 : h[q1]? = some (.inr (.inl (0, [nI W, nI C, nI O])))) (hs2 : h[q2]? = some (.inr (.inl (0, [nI a, nI b, nI e])))) (hq1 : q1 < p ∨ p + 3 ≤ q1) (hq2 : q2 < p ∨ p + 3 ≤ q2) (hW : W ≤ 99) (hC : C ≤ 99) (hO : O ≤ 99) (ha : a ≤ 20) (hb : b ≤ 20) (he : e ≤ 20) {lo : List Int32} (hlo : lo.length = 212) : yT S d 43 [.ref p, .ref q1, .ref q2, .int (nI u)] ((put h p (mC p lo be c t fo)), k0) (fun r => ∃ lo, lo.length = 212 ∧ r = (.inl (some (.int (tabR W C O a b e u))), ((put h p (mC p lo be c t fo)), k0))) := by
  obtain ⟨d, rfl⟩ : ∃ e, d = e + 1 := ⟨d - 1, by omega⟩
  refine yT_e (Nat.le_of_ble_eq_true rfl) ?_
  show yW S d 43 (0, [.ref p, .ref q1, .ref q2, .int (nI u), xno, xno, xno], [], ((put h p (mC p lo be c t fo)), k0)) _
  refine y_go rfl rfl ?_
  refine y_go rfl rfl ?_
  refine y_go rfl rfl ?_
  rw [show (nI u) + 11 = nI (u + 11) from nI_add u 11]
  refine y_go (g' := (6, [.ref p, .ref q1, .ref q2, .int (nI u), .int (nI (u + 11)), xno, xno], _, _)) rfl rfl ?_
  refine y_go rfl rfl ?_
  refine y_getR (w := .ref (p + 1)) (j := 0) rfl hl rfl rfl rfl rfl ?_
  refine y_go rfl rfl ?_
  refine y_go rfl rfl ?_
  refine y_astR (t := 0) (n := 1) (j := 0) (y := 0) (cs' := (mC p (lo.set 0 0) be c t fo)) rfl (Or.inl ⟨rfl, rfl⟩) hl rfl rfl (by decide) (by omega) rfl rfl ?_
  refine y_go rfl rfl ?_
  refine y_go (g' := (16, [.ref p, .ref q1, .ref q2, .int (nI u), .int (nI (u + 11)), .int 1, xno], _, _)) rfl rfl ?_
  refine l_init hl hB k0 be c t fo u hu (fun x6 lo e_lo => ?_) (u + 11) 1 (by omega) _ _ ⟨by rw [List.length_set]; exact hlo, fun j hj => ?_, Nat.le_refl _⟩
  · have hlo3 : loR lo T0 (u + 11) := ⟨e_lo.1, fun j hj => e_lo.2.1 j (by omega)⟩
    refine y_go rfl rfl ?_
    refine y_go (g' := (41, [.ref p, .ref q1, .ref q2, .int (nI u), .int (nI (u + 11)), .int 0, x6], _, _)) rfl rfl ?_
    refine y_go rfl rfl ?_
    refine y_go rfl rfl ?_
    refine y_ic_ge rfl (fun c => absurd (by decide) c) (fun _ => ?_)
    refine y_go rfl rfl ?_
    refine y_go rfl rfl ?_
    refine y_go rfl rfl ?_
    refine y_aldc (t := 0) (j := 0) (w := .int 3) rfl (Or.inl ⟨rfl, rfl⟩) (xnone hl hB (by decide)) xct_heats (by decide) rfl ?_
    refine y_go rfl rfl ?_
    refine y_go rfl rfl ?_
    refine y_ald (t := 0) (j := 0) (l := [nI W, nI C, nI O]) (x := (nI W)) rfl (Or.inl ⟨rfl, rfl⟩) (xso hl hs1 hq1) (by decide) rfl ?_
    refine y_go rfl rfl ?_
    refine y_go rfl rfl ?_
    refine y_ald (t := 0) (j := 0) (l := [nI a, nI b, nI e]) (x := (nI a)) rfl (Or.inl ⟨rfl, rfl⟩) (xso hl hs2 hq2) (by decide) rfl ?_
    refine y_go rfl rfl ?_
    refine y_V0e rfl (Nat.le_of_ble_eq_true rfl) (Nat.le_of_ble_eq_true rfl) rfl rfl (xrcvR (n := 0) hl rfl rfl) (s_extendTable (by omega) hl hB k0 be c t fo 3 W a (u + 11) (by decide) (by decide) hW ha (by omega) T0 (fun j hj => T0_le j) hlo3) (fun lo hlo3 => ?_)
    refine y_go (g' := (70, [.ref p, .ref q1, .ref q2, .int (nI u), .int (nI (u + 11)), .int 1, x6], _, _)) rfl rfl ?_
    refine y_go rfl rfl ?_
    refine y_go rfl rfl ?_
    refine y_go rfl rfl ?_
    refine y_ic_ge rfl (fun c => absurd (by decide) c) (fun _ => ?_)
    refine y_go rfl rfl ?_
    refine y_go rfl rfl ?_
    refine y_go rfl rfl ?_
    refine y_aldc (t := 0) (j := 1) (w := .int 8) rfl (Or.inl ⟨rfl, rfl⟩) (xnone hl hB (by decide)) xct_heats (by decide) rfl ?_
    refine y_go rfl rfl ?_
    refine y_go rfl rfl ?_
    refine y_ald (t := 0) (j := 1) (l := [nI W, nI C, nI O]) (x := (nI C)) rfl (Or.inl ⟨rfl, rfl⟩) (xso hl hs1 hq1) (by decide) rfl ?_
    refine y_go rfl rfl ?_
    refine y_go rfl rfl ?_
    refine y_ald (t := 0) (j := 1) (l := [nI a, nI b, nI e]) (x := (nI b)) rfl (Or.inl ⟨rfl, rfl⟩) (xso hl hs2 hq2) (by decide) rfl ?_
    refine y_go rfl rfl ?_
    refine y_V0e rfl (Nat.le_of_ble_eq_true rfl) (Nat.le_of_ble_eq_true rfl) rfl rfl (xrcvR (n := 0) hl rfl rfl) (s_extendTable (by omega) hl hB k0 be c t fo 8 C b (u + 11) (by decide) (by decide) hC hb (by omega) (extF T0 3 W a) (fun j hj => Nat.le_trans (extF_le _ _ _ _ _) (T0_le j)) hlo3) (fun lo hlo3 => ?_)
    refine y_go (g' := (70, [.ref p, .ref q1, .ref q2, .int (nI u), .int (nI (u + 11)), .int 2, x6], _, _)) rfl rfl ?_
    refine y_go rfl rfl ?_
    refine y_go rfl rfl ?_
    refine y_go rfl rfl ?_
    refine y_ic_ge rfl (fun c => absurd (by decide) c) (fun _ => ?_)
    refine y_go rfl rfl ?_
    refine y_go rfl rfl ?_
    refine y_go rfl rfl ?_
    refine y_aldc (t := 0) (j := 2) (w := .int 12) rfl (Or.inl ⟨rfl, rfl⟩) (xnone hl hB (by decide)) xct_heats (by decide) rfl ?_
    refine y_go rfl rfl ?_
    refine y_go rfl rfl ?_
    refine y_ald (t := 0) (j := 2) (l := [nI W, nI C, nI O]) (x := (nI O)) rfl (Or.inl ⟨rfl, rfl⟩) (xso hl hs1 hq1) (by decide) rfl ?_
    refine y_go rfl rfl ?_
    refine y_go rfl rfl ?_
    refine y_ald (t := 0) (j := 2) (l := [nI a, nI b, nI e]) (x := (nI e)) rfl (Or.inl ⟨rfl, rfl⟩) (xso hl hs2 hq2) (by decide) rfl ?_
    refine y_go rfl rfl ?_
    refine y_V0e rfl (Nat.le_of_ble_eq_true rfl) (Nat.le_of_ble_eq_true rfl) rfl rfl (xrcvR (n := 0) hl rfl rfl) (s_extendTable (by omega) hl hB k0 be c t fo 12 O e (u + 11) (by decide) (by decide) hO he (by omega) (extF (extF T0 3 W a) 8 C b) (fun j hj => Nat.le_trans (extF_le _ _ _ _ _) (Nat.le_trans (extF_le _ _ _ _ _) (T0_le j))) hlo3) (fun lo hlo3 => ?_)
    refine y_go (g' := (70, [.ref p, .ref q1, .ref q2, .int (nI u), .int (nI (u + 11)), .int 3, x6], _, _)) rfl rfl ?_
    refine y_go rfl rfl ?_
    refine y_go rfl rfl ?_
    refine y_go rfl rfl ?_
    refine y_ic_ge rfl (fun _ => ?_) (fun c => absurd c (by decide))
    refine y_go rfl rfl ?_
    refine y_go (g' := (77, [.ref p, .ref q1, .ref q2, .int (nI u), .int (nI (u + 11)), .int 1000000, x6], _, _)) rfl rfl ?_
    refine y_go rfl rfl ?_
    refine y_go (g' := (80, [.ref p, .ref q1, .ref q2, .int (nI u), .int (nI (u + 11)), .int 1000000, .int (nI u)], _, _)) rfl rfl ?_
    have hT3 : ∀ j, j ≤ u + 11 → T3 W C O a b e j ≤ 2000000 := fun j hj => Nat.le_trans (extF_le _ _ _ _ _) (Nat.le_trans (extF_le _ _ _ _ _) (Nat.le_trans (extF_le _ _ _ _ _) (T0_le j)))
    refine l_min hl hB k0 be c t fo u hu lo (T3 W C O a b e) hT3 hlo3 (fun x5 e5 => ?_) 12 u (by omega) _ ⟨by rw [Nat.sub_self]; rfl, Nat.le_refl _⟩
    have e6 : x5 = nI (tabM W C O a b e u) := by rw [e5.1, show u + 11 + 1 - u = 12 by omega]; rfl
    have e7 : tabM W C O a b e u ≤ 1000000 := mr_le _ _ _
    subst e6
    refine y_go rfl rfl ?_
    refine y_go rfl rfl ?_
    refine y_ic_ne rfl (fun c111 => ?_) (fun c111 => ?_)
    · replace c111 : ¬ tabM W C O a b e u = 1000000 := fun q => c111 ((nI_eq (a := tabM W C O a b e u) (b := 1000000) (by omega) (by decide)).mpr q)
      refine y_go rfl rfl ?_
      exact y_ireturn rfl rfl rfl ⟨_, hlo3.1, by unfold tabR; rw [if_neg c111]⟩
    · replace c111 : tabM W C O a b e u = 1000000 := (nI_eq (a := tabM W C O a b e u) (b := 1000000) (by omega) (by decide)).mp c111
      refine y_go rfl rfl ?_
      refine y_go rfl rfl ?_
      exact y_ireturn rfl rfl rfl ⟨_, hlo3.1, by unfold tabR; rw [if_pos c111]⟩
  · obtain rfl : j = 0 := by omega
    rw [gd_set (by omega), if_pos rfl]; rfl
