/-! THE PROGRAM: characters and numbers. -/
def gn (N : List Nat) (i : Nat) : Nat := N.getD i 0
/-- position, number of values, values -/
abbrev pV : Type := Nat × (Nat × (Nat × Nat))
def isD (c : Nat) : Bool := decide (48 ≤ c) && decide (c ≤ 57)
def addV (v : Nat) (s : Nat × (Nat × Nat)) : Nat × (Nat × Nat) := if s.1 = 0 then (1, v, s.2.2) else if s.1 = 1 then (2, s.2.1, v) else s
def rdC (N : List Nat) (w : Nat) (s : pV) : Bool × pV :=
  if s.1 < N.length then (if w = 35 then (if isD (gn N s.1) = true then (true, (s.1 + 1, addV (gn N s.1 - 48) s.2)) else (false, s)) else if w = 64 then (if gn N s.1 = 119 ∨ gn N s.1 = 99 ∨ gn N s.1 = 111 then (true, (s.1 + 1, addV (gn N s.1) s.2)) else (false, s)) else if gn N s.1 = w then (true, (s.1 + 1, s.2)) else (false, s)) else (false, s)
/-- number, digits, position -/
def rdNl (N : List Nat) : Nat → Nat → Nat → Nat → Nat × (Nat × Nat)
  | 0, n, g, p => (n, g, p)
  | f + 1, n, g, p => if p < N.length then (if isD (gn N p) = true then rdNl N f (10 * n + (gn N p - 48)) (g + 1) (p + 1) else (n, g, p)) else (n, g, p)
def rdN (N : List Nat) (s : pV) : Bool × pV := (decide (0 < (rdNl N 3 0 0 s.1).2.1), ((rdNl N 3 0 0 s.1).2.2, addV (rdNl N 3 0 0 s.1).1 s.2))
theorem isD_f {c : Nat} (h : ¬ (48 ≤ c ∧ c ≤ 57)) : isD c = false := by
  unfold isD
  cases h1 : decide (48 ≤ c) with
  | false => rfl
  | true => cases h2 : decide (c ≤ 57) with
    | false => rfl
    | true => exact absurd ⟨of_decide_eq_true h1, of_decide_eq_true h2⟩ h
theorem isD_t {c : Nat} (h : 48 ≤ c ∧ c ≤ 57) : isD c = true := by
  unfold isD; rw [decide_eq_true h.1, decide_eq_true h.2]; rfl
theorem isD_1 {c : Nat} (h : isD c = true) : 48 ≤ c ∧ c ≤ 57 := by
  by_cases q : 48 ≤ c ∧ c ≤ 57
  · exact q
  · rw [isD_f q] at h; cases h
theorem s_isDigit {S : List Int32} {d : Nat} (hd : 1 ≤ d) (t : Nat) (hc : t < 128) (s : xS) : yT S d 58 [.int (nI t)] s (· = (.inl (some (.int (if isD t = true then 1 else 0))), s)) := by
  obtain ⟨d, rfl⟩ : ∃ e, d = e + 1 := ⟨d - 1, by omega⟩
  refine yT_eq (Nat.le_of_ble_eq_true rfl) ?_
  show yW S d 58 (0, [.int (nI t)], [], s) _
  by_cases h1 : 48 ≤ t
  · by_cases h2 : t ≤ 57
    · refine y_go rfl rfl ?_
      refine y_go rfl rfl ?_
      refine y_ic_lt rfl (fun c => absurd c (nI_nlt (a := t) (b := 48) h1 (by omega))) (fun _ => ?_)
      refine y_go rfl rfl ?_
      refine y_go rfl rfl ?_
      refine y_ic_gt rfl (fun c => absurd c (nI_nlt (a := 57) (b := t) h2 (by decide))) (fun _ => ?_)
      refine y_go rfl rfl ?_
      refine y_go rfl rfl ?_
      exact y_ireturn rfl rfl (by first | rfl | (split <;> rfl)) (by rw [isD_t ⟨h1, h2⟩]; rfl)
    · refine y_go rfl rfl ?_
      refine y_go rfl rfl ?_
      refine y_ic_lt rfl (fun c => absurd c (nI_nlt (a := t) (b := 48) h1 (by omega))) (fun _ => ?_)
      refine y_go rfl rfl ?_
      refine y_go rfl rfl ?_
      refine y_ic_gt rfl (fun _ => ?_) (fun c => absurd (nI_lt (a := 57) (b := t) (by omega) (by omega)) c)
      refine y_go rfl rfl ?_
      exact y_ireturn rfl rfl (by first | rfl | (split <;> rfl)) (by rw [isD_f (by omega)]; rfl)
  · refine y_go rfl rfl ?_
    refine y_go rfl rfl ?_
    refine y_ic_lt rfl (fun _ => ?_) (fun c => absurd (nI_lt (a := t) (b := 48) (by omega) (by decide)) c)
    refine y_go rfl rfl ?_
    exact y_ireturn rfl rfl (by first | rfl | (split <;> rfl)) (by rw [isD_f (by omega)]; rfl)
theorem s_addValue {S : List Int32} {d : Nat} (hd : 1 ≤ d) {h : xH} (hl : 113 + 6 ≤ h.length) (k0 : Nat × Nat) (len ps cnt : Int32) (tx : List Int32) (cm : List (Option Nat)) (fi se : List Int32) (vc v0 v1 v : Nat) (hvc : vc ≤ 2) : yT S d 59 [.ref 113, .int (nI v)] (put h 113 (prC len ps cnt (nI vc) tx cm fi se [nI v0, nI v1]), k0) (· = (.inl none, (put h 113 (prC len ps cnt (nI (addV v (vc, v0, v1)).1) tx cm fi se [nI (addV v (vc, v0, v1)).2.1, nI (addV v (vc, v0, v1)).2.2]), k0))) := by
  obtain ⟨d, rfl⟩ : ∃ e, d = e + 1 := ⟨d - 1, by omega⟩
  refine yT_eq (Nat.le_of_ble_eq_true rfl) ?_
  show yW S d 59 (0, [.ref 113, .int (nI v)], [], (put h 113 (prC len ps cnt (nI vc) tx cm fi se [nI v0, nI v1]), k0)) _
  rcases (by omega : vc = 0 ∨ vc = 1 ∨ vc = 2) with rfl | rfl | rfl
  · refine y_go rfl rfl ?_
    refine y_getR (w := .int (nI 0)) (j := 0) rfl hl rfl rfl rfl rfl ?_
    refine y_go rfl rfl ?_
    refine y_ic_ge rfl (fun c => absurd (by decide) c) (fun _ => ?_)
    refine y_go rfl rfl ?_
    refine y_getR (w := .ref 118) (j := 0) rfl hl rfl rfl rfl rfl ?_
    refine y_go rfl rfl ?_
    refine y_getR (w := .int (nI 0)) (j := 0) rfl hl rfl rfl rfl rfl ?_
    refine y_go rfl rfl ?_
    refine y_astR (t := 0) (n := 5) (j := 0) (y := (nI v)) (cs' := (prC len ps cnt (nI 0) tx cm fi se ([nI v, nI v1]))) rfl (Or.inl ⟨rfl, rfl⟩) hl rfl rfl (by decide) (Nat.le_of_ble_eq_true rfl) rfl rfl ?_
    refine y_go rfl rfl ?_
    refine y_go rfl rfl ?_
    refine y_getR (w := .int (nI 0)) (j := 0) rfl hl rfl rfl rfl rfl ?_
    refine y_go rfl rfl ?_
    refine y_go rfl rfl ?_
    rw [show nI 0 + 1 = nI 1 from nI_1 0]
    refine y_putR (j := 0) (cs' := (prC len ps cnt (nI 1) tx cm fi se ([nI v, nI v1]))) rfl hl rfl rfl (Nat.le_of_ble_eq_true rfl) (xf_int rfl) rfl ?_
    exact y_end rfl rfl rfl
  · refine y_go rfl rfl ?_
    refine y_getR (w := .int (nI 1)) (j := 0) rfl hl rfl rfl rfl rfl ?_
    refine y_go rfl rfl ?_
    refine y_ic_ge rfl (fun c => absurd (by decide) c) (fun _ => ?_)
    refine y_go rfl rfl ?_
    refine y_getR (w := .ref 118) (j := 0) rfl hl rfl rfl rfl rfl ?_
    refine y_go rfl rfl ?_
    refine y_getR (w := .int (nI 1)) (j := 0) rfl hl rfl rfl rfl rfl ?_
    refine y_go rfl rfl ?_
    refine y_astR (t := 0) (n := 5) (j := 1) (y := (nI v)) (cs' := (prC len ps cnt (nI 1) tx cm fi se ([nI v0, nI v]))) rfl (Or.inl ⟨rfl, rfl⟩) hl rfl rfl (by decide) (Nat.le_of_ble_eq_true rfl) rfl rfl ?_
    refine y_go rfl rfl ?_
    refine y_go rfl rfl ?_
    refine y_getR (w := .int (nI 1)) (j := 0) rfl hl rfl rfl rfl rfl ?_
    refine y_go rfl rfl ?_
    refine y_go rfl rfl ?_
    rw [show nI 1 + 1 = nI 2 from nI_1 1]
    refine y_putR (j := 0) (cs' := (prC len ps cnt (nI 2) tx cm fi se ([nI v0, nI v]))) rfl hl rfl rfl (Nat.le_of_ble_eq_true rfl) (xf_int rfl) rfl ?_
    exact y_end rfl rfl rfl
  · refine y_go rfl rfl ?_
    refine y_getR (w := .int (nI 2)) (j := 0) rfl hl rfl rfl rfl rfl ?_
    refine y_go rfl rfl ?_
    refine y_ic_ge rfl (fun _ => ?_) (fun c => absurd c (by decide))
    exact y_end rfl rfl rfl
theorem xkind_neg {c : Nat} (hc : c < 128) (h : ¬ (c = 119 ∨ c = 99 ∨ c = 111)) : xkind (nI c) < 0 := by
  unfold xkind
  rw [if_neg (show ¬ nI c = 119 from fun q => h (Or.inl ((nI_eq (a := c) (b := 119) (by omega) (by decide)).mp q))), if_neg (show ¬ nI c = 99 from fun q => h (Or.inr (Or.inl ((nI_eq (a := c) (b := 99) (by omega) (by decide)).mp q)))), if_neg (show ¬ nI c = 111 from fun q => h (Or.inr (Or.inr ((nI_eq (a := c) (b := 111) (by omega) (by decide)).mp q))))]
  decide
theorem s_readChar {S : List Int32} {d : Nat} (hd : 3 ≤ d) {h : xH} (hl : 113 + 6 ≤ h.length) (k0 : Nat × Nat) (N : List Nat) (hN : N.length ≤ 60) (tx : List Int32) (ht : tx.length = 60) (hT : ∀ i, i < N.length → gd tx i = nI (gn N i)) (hB : ∀ i, i < N.length → gn N i < 128) (cm : List (Option Nat)) (fi se : List Int32) (cnt : Nat) (pos vc v0 v1 : Nat) (hpos : pos ≤ 60) (hvc : vc ≤ 2) (w : Nat) (hw : w < 128) : yT S d 56 [.ref 113, .int (nI w)] (put h 113 (prC (nI N.length) (nI pos) (nI cnt) (nI vc) tx cm fi se [nI v0, nI v1]), k0) (· = (.inl (some (.int (if (rdC N w (pos, vc, v0, v1)).1 = true then 1 else 0))), (put h 113 (prC (nI N.length) (nI (rdC N w (pos, vc, v0, v1)).2.1) (nI cnt) (nI (rdC N w (pos, vc, v0, v1)).2.2.1) tx cm fi se [nI (rdC N w (pos, vc, v0, v1)).2.2.2.1, nI (rdC N w (pos, vc, v0, v1)).2.2.2.2]), k0))) := by
  obtain ⟨d, rfl⟩ : ∃ e, d = e + 1 := ⟨d - 1, by omega⟩
  refine yT_eq (Nat.le_of_ble_eq_true rfl) ?_
  show yW S d 56 (0, [.ref 113, .int (nI w), xno], [], (put h 113 (prC (nI N.length) (nI pos) (nI cnt) (nI vc) tx cm fi se [nI v0, nI v1]), k0)) _
  by_cases hp : pos < N.length
  · have hc := hB pos hp
    have e1 : (pos, vc, v0, v1).1 = pos := rfl
    by_cases h1 : w = 35
    · cases hd1 : isD (gn N pos) with
      | true =>
        have hg := isD_1 hd1
        refine y_go rfl rfl ?_
        refine y_getR (w := .int (nI pos)) (j := 0) rfl hl rfl rfl rfl rfl ?_
        refine y_go rfl rfl ?_
        refine y_getR (w := .int (nI N.length)) (j := 0) rfl hl rfl rfl rfl rfl ?_
        refine y_ic_lt rfl (fun _ => ?_) (fun c => absurd (nI_lt (a := pos) (b := N.length) (by omega) (by omega)) c)
        refine y_go rfl rfl ?_
        refine y_getR (w := .ref 114) (j := 0) rfl hl rfl rfl rfl rfl ?_
        refine y_go rfl rfl ?_
        refine y_getR (w := .int (nI pos)) (j := 0) rfl hl rfl rfl rfl rfl ?_
        refine y_aldR (t := 1) (n := 1) (j := pos) (l := tx) (x := nI (gn N pos)) rfl (Or.inr (Or.inl ⟨rfl, rfl⟩)) hl rfl rfl (xidx_nI (by omega)) ((xgd (by omega)).trans (congrArg some (hT _ hp))) ?_
        refine y_go (g' := (23, [.ref 113, .int (nI w), .int (nI (gn N pos))], _, _)) rfl rfl ?_
        refine y_go rfl rfl ?_
        refine y_go rfl rfl ?_
        refine y_ic_ne rfl (fun c => absurd ((nI_eq (a := w) (b := 35) (by omega) (by omega)).mpr h1) c) (fun _ => ?_)
        refine y_go rfl rfl ?_
        refine y_S1 rfl rfl (Nat.le_of_ble_eq_true rfl) (Nat.le_of_ble_eq_true rfl) rfl rfl (s_isDigit (by omega) _ (hB _ hp) _) ?_
        refine y_if_ne rfl (fun _ => ?_) (fun c => absurd c (by rw [hd1]; decide))
        refine y_go rfl rfl ?_
        refine y_go rfl rfl ?_
        refine y_go rfl rfl ?_
        refine y_go rfl rfl ?_
        rw [show nI (gn N pos) - 48 = nI (gn N pos - 48) from nI_sub (a := gn N pos) (b := 48) hg.1]
        refine y_V0 rfl (Nat.le_of_ble_eq_true rfl) (Nat.le_of_ble_eq_true rfl) rfl rfl (xrcvR (n := 0) hl rfl rfl) (s_addValue (by omega) hl k0 _ _ _ tx cm fi se vc v0 v1 (gn N pos - 48) hvc) ?_
        refine y_go rfl rfl ?_
        refine y_go rfl rfl ?_
        refine y_go rfl rfl ?_
        refine y_getR (w := .int (nI pos)) (j := 0) rfl hl rfl rfl rfl rfl ?_
        refine y_go rfl rfl ?_
        refine y_go rfl rfl ?_
        rw [show nI pos + 1 = nI (pos + 1) from nI_1 pos]
        refine y_putR (j := 0) (cs' := (prC (nI N.length) (nI (pos + 1)) (nI cnt) (nI (addV (gn N pos - 48) (vc, v0, v1)).1) tx cm fi se ([nI (addV (gn N pos - 48) (vc, v0, v1)).2.1, nI (addV (gn N pos - 48) (vc, v0, v1)).2.2]))) rfl hl rfl rfl (Nat.le_of_ble_eq_true rfl) (xf_int rfl) rfl ?_
        refine y_go rfl rfl ?_
        exact y_ireturn rfl rfl (by first | rfl | (split <;> rfl)) (by rw [show (rdC N w (pos, vc, v0, v1)) = (true, (pos + 1, addV (gn N pos - 48) (vc, v0, v1))) from ((if_pos hp).trans ((if_pos h1).trans (if_pos hd1)))]; rfl)
      | false =>
        refine y_go rfl rfl ?_
        refine y_getR (w := .int (nI pos)) (j := 0) rfl hl rfl rfl rfl rfl ?_
        refine y_go rfl rfl ?_
        refine y_getR (w := .int (nI N.length)) (j := 0) rfl hl rfl rfl rfl rfl ?_
        refine y_ic_lt rfl (fun _ => ?_) (fun c => absurd (nI_lt (a := pos) (b := N.length) (by omega) (by omega)) c)
        refine y_go rfl rfl ?_
        refine y_getR (w := .ref 114) (j := 0) rfl hl rfl rfl rfl rfl ?_
        refine y_go rfl rfl ?_
        refine y_getR (w := .int (nI pos)) (j := 0) rfl hl rfl rfl rfl rfl ?_
        refine y_aldR (t := 1) (n := 1) (j := pos) (l := tx) (x := nI (gn N pos)) rfl (Or.inr (Or.inl ⟨rfl, rfl⟩)) hl rfl rfl (xidx_nI (by omega)) ((xgd (by omega)).trans (congrArg some (hT _ hp))) ?_
        refine y_go (g' := (23, [.ref 113, .int (nI w), .int (nI (gn N pos))], _, _)) rfl rfl ?_
        refine y_go rfl rfl ?_
        refine y_go rfl rfl ?_
        refine y_ic_ne rfl (fun c => absurd ((nI_eq (a := w) (b := 35) (by omega) (by omega)).mpr h1) c) (fun _ => ?_)
        refine y_go rfl rfl ?_
        refine y_S1 rfl rfl (Nat.le_of_ble_eq_true rfl) (Nat.le_of_ble_eq_true rfl) rfl rfl (s_isDigit (by omega) _ (hB _ hp) _) ?_
        refine y_if_ne rfl (fun c => absurd (by rw [hd1]; rfl) c) (fun _ => ?_)
        refine y_go rfl rfl ?_
        exact y_ireturn rfl rfl (by first | rfl | (split <;> rfl)) (by rw [show (rdC N w (pos, vc, v0, v1)) = (false, (pos, vc, v0, v1)) from ((if_pos hp).trans ((if_pos h1).trans (if_neg (fun q => by rw [hd1] at q; cases q))))]; rfl)
    · by_cases h2 : w = 64
      · by_cases h3 : gn N pos = 119 ∨ gn N pos = 99 ∨ gn N pos = 111
        · refine y_go rfl rfl ?_
          refine y_getR (w := .int (nI pos)) (j := 0) rfl hl rfl rfl rfl rfl ?_
          refine y_go rfl rfl ?_
          refine y_getR (w := .int (nI N.length)) (j := 0) rfl hl rfl rfl rfl rfl ?_
          refine y_ic_lt rfl (fun _ => ?_) (fun c => absurd (nI_lt (a := pos) (b := N.length) (by omega) (by omega)) c)
          refine y_go rfl rfl ?_
          refine y_getR (w := .ref 114) (j := 0) rfl hl rfl rfl rfl rfl ?_
          refine y_go rfl rfl ?_
          refine y_getR (w := .int (nI pos)) (j := 0) rfl hl rfl rfl rfl rfl ?_
          refine y_aldR (t := 1) (n := 1) (j := pos) (l := tx) (x := nI (gn N pos)) rfl (Or.inr (Or.inl ⟨rfl, rfl⟩)) hl rfl rfl (xidx_nI (by omega)) ((xgd (by omega)).trans (congrArg some (hT _ hp))) ?_
          refine y_go (g' := (23, [.ref 113, .int (nI w), .int (nI (gn N pos))], _, _)) rfl rfl ?_
          refine y_go rfl rfl ?_
          refine y_go rfl rfl ?_
          refine y_ic_ne rfl (fun _ => ?_) (fun c => absurd c (fun q => h1 ((nI_eq (a := w) (b := 35) (by omega) (by omega)).mp q)))
          refine y_go rfl rfl ?_
          refine y_go rfl rfl ?_
          refine y_ic_ne rfl (fun c => absurd ((nI_eq (a := w) (b := 64) (by omega) (by omega)).mpr h2) c) (fun _ => ?_)
          refine y_go rfl rfl ?_
          refine y_S1 rfl rfl (Nat.le_of_ble_eq_true rfl) (Nat.le_of_ble_eq_true rfl) rfl rfl (s_kindIndex (by omega) _ _) ?_
          refine y_if_ge rfl (fun _ => ?_) (fun c => absurd c (by rcases h3 with e | e | e <;> rw [e] <;> decide))
          refine y_go rfl rfl ?_
          refine y_go rfl rfl ?_
          refine y_V0 rfl (Nat.le_of_ble_eq_true rfl) (Nat.le_of_ble_eq_true rfl) rfl rfl (xrcvR (n := 0) hl rfl rfl) (s_addValue (by omega) hl k0 _ _ _ tx cm fi se vc v0 v1 (gn N pos) hvc) ?_
          refine y_go rfl rfl ?_
          refine y_go rfl rfl ?_
          refine y_go rfl rfl ?_
          refine y_getR (w := .int (nI pos)) (j := 0) rfl hl rfl rfl rfl rfl ?_
          refine y_go rfl rfl ?_
          refine y_go rfl rfl ?_
          rw [show nI pos + 1 = nI (pos + 1) from nI_1 pos]
          refine y_putR (j := 0) (cs' := (prC (nI N.length) (nI (pos + 1)) (nI cnt) (nI (addV (gn N pos) (vc, v0, v1)).1) tx cm fi se ([nI (addV (gn N pos) (vc, v0, v1)).2.1, nI (addV (gn N pos) (vc, v0, v1)).2.2]))) rfl hl rfl rfl (Nat.le_of_ble_eq_true rfl) (xf_int rfl) rfl ?_
          refine y_go rfl rfl ?_
          exact y_ireturn rfl rfl (by first | rfl | (split <;> rfl)) (by rw [show (rdC N w (pos, vc, v0, v1)) = (true, (pos + 1, addV (gn N pos) (vc, v0, v1))) from ((if_pos hp).trans ((if_neg h1).trans ((if_pos h2).trans (if_pos h3))))]; rfl)
        · refine y_go rfl rfl ?_
          refine y_getR (w := .int (nI pos)) (j := 0) rfl hl rfl rfl rfl rfl ?_
          refine y_go rfl rfl ?_
          refine y_getR (w := .int (nI N.length)) (j := 0) rfl hl rfl rfl rfl rfl ?_
          refine y_ic_lt rfl (fun _ => ?_) (fun c => absurd (nI_lt (a := pos) (b := N.length) (by omega) (by omega)) c)
          refine y_go rfl rfl ?_
          refine y_getR (w := .ref 114) (j := 0) rfl hl rfl rfl rfl rfl ?_
          refine y_go rfl rfl ?_
          refine y_getR (w := .int (nI pos)) (j := 0) rfl hl rfl rfl rfl rfl ?_
          refine y_aldR (t := 1) (n := 1) (j := pos) (l := tx) (x := nI (gn N pos)) rfl (Or.inr (Or.inl ⟨rfl, rfl⟩)) hl rfl rfl (xidx_nI (by omega)) ((xgd (by omega)).trans (congrArg some (hT _ hp))) ?_
          refine y_go (g' := (23, [.ref 113, .int (nI w), .int (nI (gn N pos))], _, _)) rfl rfl ?_
          refine y_go rfl rfl ?_
          refine y_go rfl rfl ?_
          refine y_ic_ne rfl (fun _ => ?_) (fun c => absurd c (fun q => h1 ((nI_eq (a := w) (b := 35) (by omega) (by omega)).mp q)))
          refine y_go rfl rfl ?_
          refine y_go rfl rfl ?_
          refine y_ic_ne rfl (fun c => absurd ((nI_eq (a := w) (b := 64) (by omega) (by omega)).mpr h2) c) (fun _ => ?_)
          refine y_go rfl rfl ?_
          refine y_S1 rfl rfl (Nat.le_of_ble_eq_true rfl) (Nat.le_of_ble_eq_true rfl) rfl rfl (s_kindIndex (by omega) _ _) ?_
          refine y_if_ge rfl (fun c => absurd (xkind_neg hc h3) c) (fun _ => ?_)
          refine y_go rfl rfl ?_
          exact y_ireturn rfl rfl (by first | rfl | (split <;> rfl)) (by rw [show (rdC N w (pos, vc, v0, v1)) = (false, (pos, vc, v0, v1)) from ((if_pos hp).trans ((if_neg h1).trans ((if_pos h2).trans (if_neg h3))))]; rfl)
      · by_cases h3 : gn N pos = w
        · refine y_go rfl rfl ?_
          refine y_getR (w := .int (nI pos)) (j := 0) rfl hl rfl rfl rfl rfl ?_
          refine y_go rfl rfl ?_
          refine y_getR (w := .int (nI N.length)) (j := 0) rfl hl rfl rfl rfl rfl ?_
          refine y_ic_lt rfl (fun _ => ?_) (fun c => absurd (nI_lt (a := pos) (b := N.length) (by omega) (by omega)) c)
          refine y_go rfl rfl ?_
          refine y_getR (w := .ref 114) (j := 0) rfl hl rfl rfl rfl rfl ?_
          refine y_go rfl rfl ?_
          refine y_getR (w := .int (nI pos)) (j := 0) rfl hl rfl rfl rfl rfl ?_
          refine y_aldR (t := 1) (n := 1) (j := pos) (l := tx) (x := nI (gn N pos)) rfl (Or.inr (Or.inl ⟨rfl, rfl⟩)) hl rfl rfl (xidx_nI (by omega)) ((xgd (by omega)).trans (congrArg some (hT _ hp))) ?_
          refine y_go (g' := (23, [.ref 113, .int (nI w), .int (nI (gn N pos))], _, _)) rfl rfl ?_
          refine y_go rfl rfl ?_
          refine y_go rfl rfl ?_
          refine y_ic_ne rfl (fun _ => ?_) (fun c => absurd c (fun q => h1 ((nI_eq (a := w) (b := 35) (by omega) (by omega)).mp q)))
          refine y_go rfl rfl ?_
          refine y_go rfl rfl ?_
          refine y_ic_ne rfl (fun _ => ?_) (fun c => absurd c (fun q => h2 ((nI_eq (a := w) (b := 64) (by omega) (by omega)).mp q)))
          refine y_go rfl rfl ?_
          refine y_go rfl rfl ?_
          refine y_ic_eq rfl (fun _ => ?_) (fun c => absurd ((nI_eq (a := gn N pos) (b := w) (by omega) (by omega)).mpr h3) c)
          refine y_go rfl rfl ?_
          refine y_go rfl rfl ?_
          refine y_getR (w := .int (nI pos)) (j := 0) rfl hl rfl rfl rfl rfl ?_
          refine y_go rfl rfl ?_
          refine y_go rfl rfl ?_
          rw [show nI pos + 1 = nI (pos + 1) from nI_1 pos]
          refine y_putR (j := 0) (cs' := (prC (nI N.length) (nI (pos + 1)) (nI cnt) (nI vc) tx cm fi se ([nI v0, nI v1]))) rfl hl rfl rfl (Nat.le_of_ble_eq_true rfl) (xf_int rfl) rfl ?_
          refine y_go rfl rfl ?_
          exact y_ireturn rfl rfl (by first | rfl | (split <;> rfl)) (by rw [show (rdC N w (pos, vc, v0, v1)) = (true, (pos + 1, (vc, v0, v1))) from ((if_pos hp).trans ((if_neg h1).trans ((if_neg h2).trans (if_pos h3))))]; rfl)
        · refine y_go rfl rfl ?_
          refine y_getR (w := .int (nI pos)) (j := 0) rfl hl rfl rfl rfl rfl ?_
          refine y_go rfl rfl ?_
          refine y_getR (w := .int (nI N.length)) (j := 0) rfl hl rfl rfl rfl rfl ?_
          refine y_ic_lt rfl (fun _ => ?_) (fun c => absurd (nI_lt (a := pos) (b := N.length) (by omega) (by omega)) c)
          refine y_go rfl rfl ?_
          refine y_getR (w := .ref 114) (j := 0) rfl hl rfl rfl rfl rfl ?_
          refine y_go rfl rfl ?_
          refine y_getR (w := .int (nI pos)) (j := 0) rfl hl rfl rfl rfl rfl ?_
          refine y_aldR (t := 1) (n := 1) (j := pos) (l := tx) (x := nI (gn N pos)) rfl (Or.inr (Or.inl ⟨rfl, rfl⟩)) hl rfl rfl (xidx_nI (by omega)) ((xgd (by omega)).trans (congrArg some (hT _ hp))) ?_
          refine y_go (g' := (23, [.ref 113, .int (nI w), .int (nI (gn N pos))], _, _)) rfl rfl ?_
          refine y_go rfl rfl ?_
          refine y_go rfl rfl ?_
          refine y_ic_ne rfl (fun _ => ?_) (fun c => absurd c (fun q => h1 ((nI_eq (a := w) (b := 35) (by omega) (by omega)).mp q)))
          refine y_go rfl rfl ?_
          refine y_go rfl rfl ?_
          refine y_ic_ne rfl (fun _ => ?_) (fun c => absurd c (fun q => h2 ((nI_eq (a := w) (b := 64) (by omega) (by omega)).mp q)))
          refine y_go rfl rfl ?_
          refine y_go rfl rfl ?_
          refine y_ic_eq rfl (fun c => absurd c (fun q => h3 ((nI_eq (a := gn N pos) (b := w) (by omega) (by omega)).mp q))) (fun _ => ?_)
          refine y_go rfl rfl ?_
          exact y_ireturn rfl rfl (by first | rfl | (split <;> rfl)) (by rw [show (rdC N w (pos, vc, v0, v1)) = (false, (pos, vc, v0, v1)) from ((if_pos hp).trans ((if_neg h1).trans ((if_neg h2).trans (if_neg h3))))]; rfl)
  · refine y_go rfl rfl ?_
    refine y_getR (w := .int (nI pos)) (j := 0) rfl hl rfl rfl rfl rfl ?_
    refine y_go rfl rfl ?_
    refine y_getR (w := .int (nI N.length)) (j := 0) rfl hl rfl rfl rfl rfl ?_
    refine y_ic_lt rfl (fun c => absurd c (nI_nlt (a := pos) (b := N.length) (by omega) (by omega))) (fun _ => ?_)
    refine y_go rfl rfl ?_
    exact y_ireturn rfl rfl (by first | rfl | (split <;> rfl)) (by rw [show (rdC N w (pos, vc, v0, v1)) = (false, (pos, vc, v0, v1)) from (if_neg hp)]; rfl)
