/-! THE PROGRAM: numbers. -/
theorem rdNl_b (N : List Nat) : ∀ (f n g p : Nat), f + g ≤ 3 → p ≤ 60 → N.length ≤ 60 → n < 10 ^ g → (rdNl N f n g p).2.1 ≤ 3 ∧ (rdNl N f n g p).2.2 ≤ 60 ∧ (rdNl N f n g p).1 < 1000
  | 0, n, g, p, h1, h2, h3, h4 => ⟨by show g ≤ 3; omega, h2, Nat.lt_of_lt_of_le h4 (by
      have : 10 ^ g ≤ 10 ^ 3 := Nat.pow_le_pow_right (by decide) (by omega)
      omega)⟩
  | f + 1, n, g, p, h1, h2, h3, h4 => by
    have q : (n : Nat) < 1000 := Nat.lt_of_lt_of_le h4 (by
      have : 10 ^ g ≤ 10 ^ 3 := Nat.pow_le_pow_right (by decide) (by omega)
      omega)
    simp only [rdNl]
    split
    · split
      · rename_i h5 h6
        have h7 := isD_1 h6
        exact rdNl_b N f _ (g + 1) (p + 1) (by omega) (by omega) h3 (by rw [Nat.pow_succ]; omega)
      · exact ⟨by show g ≤ 3; omega, h2, q⟩
    · exact ⟨by show g ≤ 3; omega, h2, q⟩
theorem l_num {S : List Int32} {d : Nat} (hd : 1 ≤ d) {h : xH} (hl : 113 + 6 ≤ h.length) (k0 : Nat × Nat) (N : List Nat) (hN : N.length ≤ 60) (tx : List Int32) (ht : tx.length = 60) (hT : ∀ i, i < N.length → gd tx i = nI (gn N i)) (hB : ∀ i, i < N.length → gn N i < 128) (cm : List (Option Nat)) (fi se : List Int32) (cnt : Nat) (vc v0 v1 : Nat) {Q : xR → Prop} (R : Nat × (Nat × Nat)) (k : yW S d 57 (69, [.ref 113, .int (nI R.1), .int (nI R.2.1)], [], (put h 113 (prC (nI N.length) (nI R.2.2) (nI cnt) (nI vc) tx cm fi se [nI v0, nI v1]), k0)) Q) : ∀ (f n g p : Nat), f + g = 3 → p ≤ 60 → rdNl N f n g p = R → yW S d 57 (4, [.ref 113, .int (nI n), .int (nI g)], [], (put h 113 (prC (nI N.length) (nI p) (nI cnt) (nI vc) tx cm fi se [nI v0, nI v1]), k0)) Q := by
  intro f
  induction f with
  | zero =>
    intro n g p hg hp6 e
    subst e
    obtain rfl : g = 3 := by omega
    refine y_go rfl rfl ?_
    refine y_go rfl rfl ?_
    refine y_ic_ge rfl (fun _ => ?_) (fun c => absurd c (nI_nlt (a := 3) (b := 3) (by omega) (by decide)))
    exact k
  | succ f ih =>
    intro n g p hg hp6 e
    by_cases hp : p < N.length
    · cases hd1 : isD (gn N p) with
      | true =>
        have hgg := isD_1 hd1
        refine y_go rfl rfl ?_
        refine y_go rfl rfl ?_
        refine y_ic_ge rfl (fun c => absurd (nI_lt (a := g) (b := 3) (by omega) (by decide)) c) (fun _ => ?_)
        refine y_go rfl rfl ?_
        refine y_getR (w := .int (nI p)) (j := 0) rfl hl rfl rfl rfl rfl ?_
        refine y_go rfl rfl ?_
        refine y_getR (w := .int (nI N.length)) (j := 0) rfl hl rfl rfl rfl rfl ?_
        refine y_ic_ge rfl (fun c => absurd (nI_lt (a := p) (b := N.length) (by omega) (by omega)) c) (fun _ => ?_)
        refine y_go rfl rfl ?_
        refine y_getR (w := .ref 114) (j := 0) rfl hl rfl rfl rfl rfl ?_
        refine y_go rfl rfl ?_
        refine y_getR (w := .int (nI p)) (j := 0) rfl hl rfl rfl rfl rfl ?_
        refine y_aldR (t := 1) (n := 1) (j := p) (l := tx) (x := nI (gn N p)) rfl (Or.inr (Or.inl ⟨rfl, rfl⟩)) hl rfl rfl (xidx_nI (by omega)) ((xgd (by omega)).trans (congrArg some (hT _ hp))) ?_
        refine y_S1 rfl rfl (Nat.le_of_ble_eq_true rfl) (Nat.le_of_ble_eq_true rfl) rfl rfl (s_isDigit (by omega) _ (hB _ hp) _) ?_
        refine y_if_eq rfl (fun c => absurd c (by rw [hd1]; decide)) (fun _ => ?_)
        refine y_go rfl rfl ?_
        refine y_go rfl rfl ?_
        refine y_go rfl rfl ?_
        refine y_go rfl rfl ?_
        refine y_getR (w := .ref 114) (j := 0) rfl hl rfl rfl rfl rfl ?_
        refine y_go rfl rfl ?_
        refine y_getR (w := .int (nI p)) (j := 0) rfl hl rfl rfl rfl rfl ?_
        refine y_aldR (t := 1) (n := 1) (j := p) (l := tx) (x := nI (gn N p)) rfl (Or.inr (Or.inl ⟨rfl, rfl⟩)) hl rfl rfl (xidx_nI (by omega)) ((xgd (by omega)).trans (congrArg some (hT _ hp))) ?_
        refine y_go rfl rfl ?_
        refine y_go rfl rfl ?_
        rw [show nI (gn N p) - 48 = nI (gn N p - 48) from nI_sub (a := gn N p) (b := 48) hgg.1]
        refine y_go rfl rfl ?_
        rw [show (10 * (nI n)) + (nI (gn N p - 48)) = nI (10 * n + (gn N p - 48)) by rw [show (10 : Int32) = nI 10 from rfl, nI_mul, nI_add]]
        refine y_go (g' := (53, [.ref 113, .int (nI (10 * n + (gn N p - 48))), .int (nI g)], _, _)) rfl rfl ?_
        refine y_go (g' := (56, [.ref 113, .int (nI (10 * n + (gn N p - 48))), .int (nI (g + 1))], _, _)) rfl (by rw [← nI_1 g]; rfl) ?_
        refine y_go rfl rfl ?_
        refine y_go rfl rfl ?_
        refine y_getR (w := .int (nI p)) (j := 0) rfl hl rfl rfl rfl rfl ?_
        refine y_go rfl rfl ?_
        refine y_go rfl rfl ?_
        rw [show nI p + 1 = nI (p + 1) from nI_1 p]
        refine y_putR (j := 0) (cs' := (prC (nI N.length) (nI (p + 1)) (nI cnt) (nI vc) tx cm fi se ([nI v0, nI v1]))) rfl hl rfl rfl (Nat.le_of_ble_eq_true rfl) (xf_int rfl) rfl ?_
        refine y_go rfl rfl ?_
        exact ih _ _ _ (by omega) (by omega) (by rw [← e]; exact ((if_pos hp).trans (if_pos hd1)).symm)
      | false =>
        refine y_go rfl rfl ?_
        refine y_go rfl rfl ?_
        refine y_ic_ge rfl (fun c => absurd (nI_lt (a := g) (b := 3) (by omega) (by decide)) c) (fun _ => ?_)
        refine y_go rfl rfl ?_
        refine y_getR (w := .int (nI p)) (j := 0) rfl hl rfl rfl rfl rfl ?_
        refine y_go rfl rfl ?_
        refine y_getR (w := .int (nI N.length)) (j := 0) rfl hl rfl rfl rfl rfl ?_
        refine y_ic_ge rfl (fun c => absurd (nI_lt (a := p) (b := N.length) (by omega) (by omega)) c) (fun _ => ?_)
        refine y_go rfl rfl ?_
        refine y_getR (w := .ref 114) (j := 0) rfl hl rfl rfl rfl rfl ?_
        refine y_go rfl rfl ?_
        refine y_getR (w := .int (nI p)) (j := 0) rfl hl rfl rfl rfl rfl ?_
        refine y_aldR (t := 1) (n := 1) (j := p) (l := tx) (x := nI (gn N p)) rfl (Or.inr (Or.inl ⟨rfl, rfl⟩)) hl rfl rfl (xidx_nI (by omega)) ((xgd (by omega)).trans (congrArg some (hT _ hp))) ?_
        refine y_S1 rfl rfl (Nat.le_of_ble_eq_true rfl) (Nat.le_of_ble_eq_true rfl) rfl rfl (s_isDigit (by omega) _ (hB _ hp) _) ?_
        refine y_if_eq rfl (fun _ => ?_) (fun c => absurd (by rw [hd1]; rfl) c)
        have e2 : R = (n, g, p) := by rw [← e]; exact (if_pos hp).trans (if_neg (fun q => by rw [hd1] at q; cases q))
        subst e2
        exact k
    · refine y_go rfl rfl ?_
      refine y_go rfl rfl ?_
      refine y_ic_ge rfl (fun c => absurd (nI_lt (a := g) (b := 3) (by omega) (by decide)) c) (fun _ => ?_)
      refine y_go rfl rfl ?_
      refine y_getR (w := .int (nI p)) (j := 0) rfl hl rfl rfl rfl rfl ?_
      refine y_go rfl rfl ?_
      refine y_getR (w := .int (nI N.length)) (j := 0) rfl hl rfl rfl rfl rfl ?_
      refine y_ic_ge rfl (fun _ => ?_) (fun c => absurd c (nI_nlt (a := p) (b := N.length) (by omega) (by omega)))
      have e2 : R = (n, g, p) := by rw [← e]; exact if_neg hp
      subst e2
      exact k
theorem s_readNum {S : List Int32} {d : Nat} (hd : 3 ≤ d) {h : xH} (hl : 113 + 6 ≤ h.length) (k0 : Nat × Nat) (N : List Nat) (hN : N.length ≤ 60) (tx : List Int32) (ht : tx.length = 60) (hT : ∀ i, i < N.length → gd tx i = nI (gn N i)) (hB : ∀ i, i < N.length → gn N i < 128) (cm : List (Option Nat)) (fi se : List Int32) (cnt : Nat) (pos vc v0 v1 : Nat) (hpos : pos ≤ 60) (hvc : vc ≤ 2) : yT S d 57 [.ref 113] (put h 113 (prC (nI N.length) (nI pos) (nI cnt) (nI vc) tx cm fi se [nI v0, nI v1]), k0) (· = (.inl (some (.int (if (rdN N (pos, vc, v0, v1)).1 = true then 1 else 0))), (put h 113 (prC (nI N.length) (nI (rdN N (pos, vc, v0, v1)).2.1) (nI cnt) (nI (rdN N (pos, vc, v0, v1)).2.2.1) tx cm fi se [nI (rdN N (pos, vc, v0, v1)).2.2.2.1, nI (rdN N (pos, vc, v0, v1)).2.2.2.2]), k0))) := by
  obtain ⟨d, rfl⟩ : ∃ e, d = e + 1 := ⟨d - 1, by omega⟩
  refine yT_eq (Nat.le_of_ble_eq_true rfl) ?_
  show yW S d 57 (0, [.ref 113, xno, xno], [], (put h 113 (prC (nI N.length) (nI pos) (nI cnt) (nI vc) tx cm fi se [nI v0, nI v1]), k0)) _
  refine y_go rfl rfl ?_
  refine y_go (g' := (2, [.ref 113, .int 0, xno], _, _)) rfl rfl ?_
  refine y_go rfl rfl ?_
  refine y_go (g' := (4, [.ref 113, .int 0, .int 0], _, _)) rfl rfl ?_
  have hb := rdNl_b N 3 0 0 pos (by decide) hpos hN (by decide)
  refine l_num (by omega) hl k0 N hN tx ht hT hB cm fi se cnt vc v0 v1 (rdNl N 3 0 0 pos) ?_ 3 0 0 pos rfl hpos rfl
  refine y_go rfl rfl ?_
  refine y_go rfl rfl ?_
  refine y_V0 rfl (Nat.le_of_ble_eq_true rfl) (Nat.le_of_ble_eq_true rfl) rfl rfl (xrcvR (n := 0) hl rfl rfl) (s_addValue (by omega) hl k0 _ _ _ tx cm fi se vc v0 v1 (rdNl N 3 0 0 pos).1 hvc) ?_
  by_cases hz : 0 < (rdNl N 3 0 0 pos).2.1
  · refine y_go rfl rfl ?_
    refine y_if_le rfl (fun c => absurd (nI_lt (a := 0) (by omega) (by omega)) c) (fun _ => ?_)
    refine y_go rfl rfl ?_
    refine y_go rfl rfl ?_
    exact y_ireturn rfl rfl (by first | rfl | (split <;> rfl)) (by rw [show (rdN N (pos, vc, v0, v1)).1 = true from decide_eq_true hz]; rfl)
  · refine y_go rfl rfl ?_
    refine y_if_le rfl (fun _ => ?_) (fun c => absurd c (nI_nlt (a := 0) (b := (rdNl N 3 0 0 pos).2.1) (by omega) (by omega)))
    refine y_go rfl rfl ?_
    exact y_ireturn rfl rfl (by first | rfl | (split <;> rfl)) (by rw [show (rdN N (pos, vc, v0, v1)).1 = false from decide_eq_false hz]; rfl)
