/-! COURSES: which can lie above one another; how many walls. -/
theorem s_canLie {S : List Int32} {d : Nat} (hd : 1 ≤ d) (x y : Int32) (s : xS) : yT S d 2 [.int x, .int y] s (· = (.inl (some (.int (if x &&& y = 0 then 1 else 0))), s)) := by
  obtain ⟨d, rfl⟩ : ∃ e, d = e + 1 := ⟨d - 1, by omega⟩
  refine yT_eq (Nat.le_of_ble_eq_true rfl) ?_
  show yW S d 2 (0, [.int x, .int y], [], s) _
  refine y_go rfl rfl ?_
  refine y_go rfl rfl ?_
  refine y_go rfl rfl ?_
  refine y_if_ne rfl (fun c3 => ?_) (fun c3 => ?_)
  · refine y_go rfl rfl ?_
    exact y_ireturn rfl rfl rfl (by simp [c3])
  · refine y_go rfl rfl ?_
    refine y_go rfl rfl ?_
    exact y_ireturn rfl rfl rfl (by simp [c3])
/-- the sum over those of the first i that can lie beside the course u -/
def lieTo (J : List Int32) (X : Nat → Int64) (u : Nat) : Nat → Int64
  | 0 => 0
  | i + 1 => if gd J u &&& gd J i = 0 then lieTo J X u i + X i else lieTo J X u i
theorem lieTo_congr {J : List Int32} {X Y : Nat → Int64} {u : Nat} : ∀ {n : Nat}, (∀ i, i < n → X i = Y i) → lieTo J X u n = lieTo J Y u n
  | 0, _ => rfl
  | n + 1, h => by simp only [lieTo]; rw [lieTo_congr (fun i hi => h i (by omega)), h n (by omega)]
theorem l_ways1 {S : List Int32} {d : Nat} (hd : 1 ≤ d) {h : xH} {p : Nat} (hl : p + 35 ≤ h.length) (k0 : Nat × Nat) (J : Nat → List Int32) (ct : List Int32) (X : List Int64) (U : List Int32) (G : Nat → xC) (a1 a2 b1 b2 : Nat) (Y : List Int64) (V : List Int32) (M : Nat → List Int64) (ha : (a1 = 22 ∧ a2 = 23) ∨ (a1 = 23 ∧ a2 = 22)) (hb : (b1 = 24 ∧ b2 = 25) ∨ (b1 = 25 ∧ b2 = 24)) (g0 : G 0 = cO p a1 a2 b1 b2) (g1 : G 1 = rowsC 6 (p + 2) 19) (gJ : ∀ w, w < 19 → G (2 + w) = intC (J w)) (gct : G 21 = intC ct) (gX : G a1 = lngC X) (gY : G a2 = lngC Y) (lX : X.length = 65) (lY : Y.length = 65) (gU : G b1 = intC U) (gV : G b2 = intC V) (lU : U.length = 65) (lV : V.length = 65) (g26 : G 26 = rowsC 7 (p + 27) 8) (gM : ∀ r, r < 8 → G (27 + r) = lngC (M r) ∧ (M r).length = 65) (w cn : Nat) (hw : w < 19) (hn : cn ≤ 65) (hJ : (J w).length = 65) (u : Nat) (hu : u < cn) (Z : List Int64) {Q : xR → Prop} (k : ∀ (x4 : Int64), x4 = lieTo (J w) (gdL X) u cn → yW S d 4 (50, [.ref p, .ref (p + 2 + w), .int (nI cn), .int (nI u), .long x4, xno, .int (nI cn)], [], ((put h p (rg 35 (up G a2 (.inr (.inr (.inl (3, Z))))))), k0)) Q) : ∀ (n i : Nat), i + n = cn → ∀ (x4 : Int64), x4 = lieTo (J w) (gdL X) u i → yW S d 4 (13, [.ref p, .ref (p + 2 + w), .int (nI cn), .int (nI u), .long x4, xno, .int (nI i)], [], ((put h p (rg 35 (up G a2 (.inr (.inr (.inl (3, Z))))))), k0)) Q := by
  intro n
  induction n with
  | zero =>
    intro i hi x4 e_x4
    obtain rfl : i = cn := by omega
    refine y_go rfl rfl ?_
    refine y_go rfl rfl ?_
    refine y_ic_ge rfl (fun _ => ?_) (fun c => absurd c (nI_nlt (a := i) (b := i) (Nat.le_refl _) (by first | decide | omega)))
    exact k _ e_x4
  | succ n ih =>
    intro i hi x4 e_x4
    have hlt : i < cn := by omega
    refine y_go rfl rfl ?_
    refine y_go rfl rfl ?_
    refine y_ic_ge rfl (fun c => absurd (nI_lt (a := i) (b := cn) hlt (by first | decide | omega)) c) (fun _ => ?_)
    refine y_go rfl rfl ?_
    refine y_go rfl rfl ?_
    refine y_aldG (t := 0) (z := u) (j := (2 + w)) (l := (J w)) rfl (Or.inl ⟨rfl, rfl⟩) hl (by omega) (by first | rfl | omega) (up_ne (by omega) (gJ w hw)) (xidx_nI (by omega)) (xgd (by first | omega | (simp only [List.length_set]; omega))) ?_
    refine y_go rfl rfl ?_
    refine y_go rfl rfl ?_
    refine y_aldG (t := 0) (z := i) (j := (2 + w)) (l := (J w)) rfl (Or.inl ⟨rfl, rfl⟩) hl (by omega) (by first | rfl | omega) (up_ne (by omega) (gJ w hw)) (xidx_nI (by omega)) (xgd (by first | omega | (simp only [List.length_set]; omega))) ?_
    refine y_S1 rfl rfl (Nat.le_of_ble_eq_true rfl) (Nat.le_of_ble_eq_true rfl) rfl rfl (s_canLie (by omega) _ _ _) ?_
    refine y_if_eq rfl (fun c29 => ?_) (fun c29 => ?_)
    · replace c29 : ¬ ((gd (J w) u) &&& (gd (J w) i) = 0) := xi_a c29
      refine y_go (g' := (47, [.ref p, .ref (p + 2 + w), .int (nI cn), .int (nI u), .long x4, xno, .int (nI (i + 1))], _, _)) rfl (by rw [← nI_1 i]; rfl) ?_
      refine y_go rfl rfl ?_
      exact ih (i + 1) (by omega) _ (by simp [lieTo, e_x4, c29])
    · replace c29 : (gd (J w) u) &&& (gd (J w) i) = 0 := xi_b c29
      refine y_go rfl rfl ?_
      refine y_go rfl rfl ?_
      refine y_getG (w := .ref (p + a1)) (j := 0) rfl hl (by omega) (by first | rfl | omega) (up_ne (by omega) g0) rfl rfl ?_
      refine y_go rfl rfl ?_
      refine y_laldG (z := i) (j := a1) (l := X) rfl hl (by omega) (by first | rfl | omega) (up_ne (by omega) gX) (xidx_nI (by omega)) (xgdL (by first | omega | (simp only [List.length_set]; omega))) ?_
      refine y_go rfl rfl ?_
      refine y_go (g' := (44, [.ref p, .ref (p + 2 + w), .int (nI cn), .int (nI u), .long (x4 + (gdL X i)), xno, .int (nI i)], _, _)) rfl rfl ?_
      refine y_go (g' := (47, [.ref p, .ref (p + 2 + w), .int (nI cn), .int (nI u), .long (x4 + (gdL X i)), xno, .int (nI (i + 1))], _, _)) rfl (by rw [← nI_1 i]; rfl) ?_
      refine y_go rfl rfl ?_
      exact ih (i + 1) (by omega) _ (by simp [lieTo, e_x4, c29])
theorem gdL_set {l : List Int64} {i j : Nat} {x : Int64} (h : i < l.length) : gdL (l.set i x) j = if i = j then x else gdL l j := by
  unfold gdL
  simp only [List.getD_eq_getElem?_getD, List.getElem?_set]
  by_cases e : i = j
  · subst e
    simp [h]
  · simp [e]
/-- the ways above the first i courses are counted -/
def wayR (J : List Int32) (X : List Int64) (n : Nat) (Z : List Int64) (i : Nat) : Prop := Z.length = 65 ∧ ∀ j, j < i → gdL Z j = lieTo J (gdL X) j n
theorem l_ways2 {S : List Int32} {d : Nat} (hd : 1 ≤ d) {h : xH} {p : Nat} (hl : p + 35 ≤ h.length) (k0 : Nat × Nat) (J : Nat → List Int32) (ct : List Int32) (X : List Int64) (U : List Int32) (G : Nat → xC) (a1 a2 b1 b2 : Nat) (Y : List Int64) (V : List Int32) (M : Nat → List Int64) (ha : (a1 = 22 ∧ a2 = 23) ∨ (a1 = 23 ∧ a2 = 22)) (hb : (b1 = 24 ∧ b2 = 25) ∨ (b1 = 25 ∧ b2 = 24)) (g0 : G 0 = cO p a1 a2 b1 b2) (g1 : G 1 = rowsC 6 (p + 2) 19) (gJ : ∀ w, w < 19 → G (2 + w) = intC (J w)) (gct : G 21 = intC ct) (gX : G a1 = lngC X) (gY : G a2 = lngC Y) (lX : X.length = 65) (lY : Y.length = 65) (gU : G b1 = intC U) (gV : G b2 = intC V) (lU : U.length = 65) (lV : V.length = 65) (g26 : G 26 = rowsC 7 (p + 27) 8) (gM : ∀ r, r < 8 → G (27 + r) = lngC (M r) ∧ (M r).length = 65) (w cn : Nat) (hw : w < 19) (hn : cn ≤ 65) (hJ : (J w).length = 65) {Q : xR → Prop} (k : ∀ (x4 : Value) (x5 : Value) (x6 : Value) (Z : List Int64), wayR (J w) X cn Z cn → yW S d 4 (64, [.ref p, .ref (p + 2 + w), .int (nI cn), .int (nI cn), x4, x5, x6], [], ((put h p (rg 35 (up G a2 (.inr (.inr (.inl (3, Z))))))), k0)) Q) : ∀ (n i : Nat), i + n = cn → ∀ (x4 : Value) (x5 : Value) (x6 : Value) (Z : List Int64), wayR (J w) X cn Z i → yW S d 4 (2, [.ref p, .ref (p + 2 + w), .int (nI cn), .int (nI i), x4, x5, x6], [], ((put h p (rg 35 (up G a2 (.inr (.inr (.inl (3, Z))))))), k0)) Q := by
  intro n
  induction n with
  | zero =>
    intro i hi x4 x5 x6 Z e_Z
    obtain rfl : i = cn := by omega
    refine y_go rfl rfl ?_
    refine y_go rfl rfl ?_
    refine y_ic_ge rfl (fun _ => ?_) (fun c => absurd c (nI_nlt (a := i) (b := i) (Nat.le_refl _) (by first | decide | omega)))
    exact k _ _ _ _ e_Z
  | succ n ih =>
    intro i hi x4 x5 x6 Z e_Z
    have hlt : i < cn := by omega
    refine y_go rfl rfl ?_
    refine y_go rfl rfl ?_
    refine y_ic_ge rfl (fun c => absurd (nI_lt (a := i) (b := cn) hlt (by first | decide | omega)) c) (fun _ => ?_)
    refine y_go rfl rfl ?_
    refine y_go (g' := (10, [.ref p, .ref (p + 2 + w), .int (nI cn), .int (nI i), .long 0, xno, x6], _, _)) rfl rfl ?_
    refine y_go rfl rfl ?_
    refine y_go (g' := (13, [.ref p, .ref (p + 2 + w), .int (nI cn), .int (nI i), .long 0, xno, .int 0], _, _)) rfl rfl ?_
    refine l_ways1 (by omega) hl k0 J ct X U G a1 a2 b1 b2 Y V M ha hb g0 g1 gJ gct gX gY lX lY gU gV lU lV g26 gM w cn hw hn hJ i (by omega) Z (fun x4 e4 => ?_) cn 0 (by omega) _ rfl
    refine y_go rfl rfl ?_
    refine y_getG (w := .ref (p + a2)) (j := 0) rfl hl (by omega) (by first | rfl | omega) (up_ne (by omega) g0) rfl rfl ?_
    refine y_go rfl rfl ?_
    refine y_go rfl rfl ?_
    refine y_lastG (z := i) (j := a2) (l := Z) rfl hl (by omega) (by first | rfl | omega) up_eq (xidx_nI (by omega)) (by rw [e_Z.1]; omega) ?_
    rw [up_up]
    refine y_go (g' := (61, [.ref p, .ref (p + 2 + w), .int (nI cn), .int (nI (i + 1)), .long x4, xno, .int (nI cn)], _, _)) rfl (by rw [← nI_1 i]; rfl) ?_
    refine y_go rfl rfl ?_
    exact ih (i + 1) (by omega) _ _ _ (Z.set i x4) (⟨by rw [List.length_set]; exact e_Z.1, fun j hj => by
        rw [gdL_set (l := Z) (i := i) (x := x4) (by rw [e_Z.1]; omega)]
        by_cases hz : i = j
        · rw [if_pos hz, e4, hz]
        · rw [if_neg hz]; exact e_Z.2 j (by omega)⟩)
