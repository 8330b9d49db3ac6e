/-! COURSES: the fewest bricks. -/
def bc1 (x : Int32) : Int32 := x - ((x.toUInt32 >>> (Int32.toUInt32 1 &&& Int32.toUInt32 31)).toInt32 &&& 1431655765)
def bc2 (x : Int32) : Int32 := (x &&& 858993459) + ((x.toUInt32 >>> (Int32.toUInt32 2 &&& Int32.toUInt32 31)).toInt32 &&& 858993459)
def bc3 (x : Int32) : Int32 := (x + (x.toUInt32 >>> (Int32.toUInt32 4 &&& Int32.toUInt32 31)).toInt32) &&& 252645135
def bc4 (x : Int32) : Int32 := x + (x.toUInt32 >>> (Int32.toUInt32 8 &&& Int32.toUInt32 31)).toInt32
def bc5 (x : Int32) : Int32 := x + (x.toUInt32 >>> (Int32.toUInt32 16 &&& Int32.toUInt32 31)).toInt32
def brk (x : Int32) : Int32 := (bc5 (bc4 (bc3 (bc2 (bc1 x)))) &&& 63) + 1
theorem s_bitCount {S : List Int32} {d : Nat} (hd : 1 ≤ d) (x : Int32) (s : xS) : yT S d 176 [.int x] s (· = (.inl (some (.int (bc5 (bc4 (bc3 (bc2 (bc1 x)))) &&& 63))), s)) := by
  obtain ⟨d, rfl⟩ : ∃ e, d = e + 1 := ⟨d - 1, by omega⟩
  refine yT_eq (Nat.le_of_ble_eq_true rfl) ?_
  show yW S d 176 (0, [.int x], [], s) _
  refine y_go rfl rfl ?_
  refine y_go rfl rfl ?_
  refine y_go rfl rfl ?_
  refine y_go rfl rfl ?_
  refine y_go rfl rfl ?_
  refine y_go rfl rfl ?_
  refine y_go rfl rfl ?_
  show yW S d 176 (9, [.int x], [.int (bc1 x)], s) _
  refine y_go (g' := (10, [.int (bc1 x)], _, _)) rfl rfl ?_
  refine y_go rfl rfl ?_
  refine y_go rfl rfl ?_
  refine y_go rfl rfl ?_
  refine y_go rfl rfl ?_
  refine y_go rfl rfl ?_
  refine y_go rfl rfl ?_
  refine y_go rfl rfl ?_
  refine y_go rfl rfl ?_
  refine y_go rfl rfl ?_
  show yW S d 176 (23, [.int (bc1 x)], [.int (bc2 (bc1 x))], s) _
  refine y_go (g' := (24, [.int (bc2 (bc1 x))], _, _)) rfl rfl ?_
  refine y_go rfl rfl ?_
  refine y_go rfl rfl ?_
  refine y_go rfl rfl ?_
  refine y_go rfl rfl ?_
  refine y_go rfl rfl ?_
  refine y_go rfl rfl ?_
  refine y_go rfl rfl ?_
  show yW S d 176 (33, [.int (bc2 (bc1 x))], [.int (bc3 (bc2 (bc1 x)))], s) _
  refine y_go (g' := (34, [.int (bc3 (bc2 (bc1 x)))], _, _)) rfl rfl ?_
  refine y_go rfl rfl ?_
  refine y_go rfl rfl ?_
  refine y_go rfl rfl ?_
  refine y_go rfl rfl ?_
  refine y_go rfl rfl ?_
  show yW S d 176 (40, [.int (bc3 (bc2 (bc1 x)))], [.int (bc4 (bc3 (bc2 (bc1 x))))], s) _
  refine y_go (g' := (41, [.int (bc4 (bc3 (bc2 (bc1 x))))], _, _)) rfl rfl ?_
  refine y_go rfl rfl ?_
  refine y_go rfl rfl ?_
  refine y_go rfl rfl ?_
  refine y_go rfl rfl ?_
  refine y_go rfl rfl ?_
  show yW S d 176 (47, [.int (bc4 (bc3 (bc2 (bc1 x))))], [.int (bc5 (bc4 (bc3 (bc2 (bc1 x)))))], s) _
  refine y_go (g' := (48, [.int (bc5 (bc4 (bc3 (bc2 (bc1 x)))))], _, _)) rfl rfl ?_
  refine y_go rfl rfl ?_
  refine y_go rfl rfl ?_
  refine y_go rfl rfl ?_
  exact y_ireturn rfl rfl rfl rfl
theorem s_bricksIn {S : List Int32} {d : Nat} (hd : 2 ≤ d) (x : Int32) (s : xS) : yT S d 9 [.int x] s (· = (.inl (some (.int (brk x))), s)) := by
  obtain ⟨d, rfl⟩ : ∃ e, d = e + 1 := ⟨d - 1, by omega⟩
  refine yT_eq (Nat.le_of_ble_eq_true rfl) ?_
  show yW S d 9 (0, [.int x], [], s) _
  refine y_go rfl rfl ?_
  refine y_S1 rfl rfl (Nat.le_of_ble_eq_true rfl) (Nat.le_of_ble_eq_true rfl) rfl rfl (s_bitCount (by omega) _ _) ?_
  refine y_go rfl rfl ?_
  refine y_go rfl rfl ?_
  exact y_ireturn rfl rfl rfl rfl
/-- the least over those of the first i courses that can lie below the course u -/
def lsTo (J : List Int32) (F : Nat → Int32) (u : Nat) : Nat → Int32
  | 0 => 1000000
  | i + 1 => if F i < 1000000 then (if gd J u &&& gd J i = 0 then imin (lsTo J F u i) (F i + brk (gd J u)) else lsTo J F u i) else lsTo J F u i
theorem lsTo_congr {J : List Int32} {X Y : Nat → Int32} {u : Nat} : ∀ {n : Nat}, (∀ i, i < n → X i = Y i) → lsTo J X u n = lsTo J Y u n
  | 0, _ => rfl
  | n + 1, h => by simp only [lsTo]; rw [lsTo_congr (fun i hi => h i (by omega)), h n (by omega)]
/-- the fewest bricks of k more courses on one, the topmost being i -/
def fwy (J : List Int32) (n : Nat) : Nat → Nat → Int32
  | 0, i => brk (gd J i)
  | k + 1, i => lsTo J (fwy J n k) i n
def minL (X : Nat → Int32) : Nat → Int32
  | 0 => 1000000
  | i + 1 => imin (minL X i) (X i)
theorem minL_congr {X Y : Nat → Int32} : ∀ {n : Nat}, (∀ i, i < n → X i = Y i) → minL X n = minL Y n
  | 0, _ => rfl
  | n + 1, h => by simp only [minL]; rw [minL_congr (fun i hi => h i (by omega)), h n (by omega)]
/-- the answer -/
def lbk (J : List Int32) (n k : Nat) : Int32 := if minL (fwy J n k) n = 1000000 then -5 else minL (fwy J n k) n
def lesR (J : List Int32) (U : List Int32) (n : Nat) (Z : List Int32) (i : Nat) : Prop := Z.length = 65 ∧ ∀ j, j < i → gd Z j = lsTo J (gd U) j n
theorem l_few1 {S : List Int32} {d : Nat} (hd : 3 ≤ d) {h : xH} {p : Nat} (hl : p + 35 ≤ h.length) (k0 : Nat × Nat) (J : Nat → List Int32) (ct : List Int32) (X : List Int64) (U : List Int32) (G : Nat → xC) (a1 a2 b1 b2 : Nat) (Y : List Int64) (V : List Int32) (M : Nat → List Int64) (ha : (a1 = 22 ∧ a2 = 23) ∨ (a1 = 23 ∧ a2 = 22)) (hb : (b1 = 24 ∧ b2 = 25) ∨ (b1 = 25 ∧ b2 = 24)) (g0 : G 0 = cO p a1 a2 b1 b2) (g1 : G 1 = rowsC 6 (p + 2) 19) (gJ : ∀ w, w < 19 → G (2 + w) = intC (J w)) (gct : G 21 = intC ct) (gX : G a1 = lngC X) (gY : G a2 = lngC Y) (lX : X.length = 65) (lY : Y.length = 65) (gU : G b1 = intC U) (gV : G b2 = intC V) (lU : U.length = 65) (lV : V.length = 65) (g26 : G 26 = rowsC 7 (p + 27) 8) (gM : ∀ r, r < 8 → G (27 + r) = lngC (M r) ∧ (M r).length = 65) (w cn : Nat) (hw : w < 19) (hn : cn ≤ 65) (hJ : (J w).length = 65) (u : Nat) (hu : u < cn) (Z : List Int32) {Q : xR → Prop} (k : ∀ (x4 : Int32), (x4 = lsTo (J w) (gd U) u cn) → yW S d 8 (72, [.ref p, .ref (p + 2 + w), .int (nI cn), .int (nI u), .int x4, .int (nI cn)], [], ((put h p (rg 35 (up G b2 (.inr (.inl (0, Z)))))), k0)) Q) : ∀ (n i : Nat), i + n = cn → ∀ (x4 : Int32), (x4 = lsTo (J w) (gd U) u i) → yW S d 8 (14, [.ref p, .ref (p + 2 + w), .int (nI cn), .int (nI u), .int x4, .int (nI i)], [], ((put h p (rg 35 (up G b2 (.inr (.inl (0, Z)))))), k0)) Q := by
  intro n
  induction n with
  | zero =>
    intro i hi x4 e_I
    obtain rfl : i = cn := by omega
    refine y_go rfl rfl ?_
    refine y_go rfl rfl ?_
    refine y_ic_ge rfl (fun _ => ?_) (fun c => absurd c (nI_nlt (a := i) (b := i) (Nat.le_refl _) (by first | decide | omega)))
    exact k _ e_I
  | succ n ih =>
    intro i hi x4 e_I
    have hlt : i < cn := by omega
    refine y_go rfl rfl ?_
    refine y_go rfl rfl ?_
    refine y_ic_ge rfl (fun c => absurd (nI_lt (a := i) (b := cn) hlt (by first | decide | omega)) c) (fun _ => ?_)
    refine y_go rfl rfl ?_
    refine y_getG (w := .ref (p + b1)) (j := 0) rfl hl (by omega) (by first | rfl | omega) (up_ne (by omega) g0) rfl rfl ?_
    refine y_go rfl rfl ?_
    refine y_aldG (t := 0) (z := i) (j := b1) (l := U) rfl (Or.inl ⟨rfl, rfl⟩) hl (by omega) (by first | rfl | omega) (up_ne (by omega) gU) (xidx_nI (by omega)) (xgd (by first | omega | (simp only [List.length_set]; omega))) ?_
    refine y_go rfl rfl ?_
    refine y_ic_ge rfl (fun c29 => ?_) (fun c29 => ?_)
    · refine y_go (g' := (69, [.ref p, .ref (p + 2 + w), .int (nI cn), .int (nI u), .int x4, .int (nI (i + 1))], _, _)) rfl (by rw [← nI_1 i]; rfl) ?_
      refine y_go rfl rfl ?_
      exact ih (i + 1) (by omega) _ (by simp [lsTo, e_I, c29])
    · refine y_go rfl rfl ?_
      refine y_go rfl rfl ?_
      refine y_aldG (t := 0) (z := u) (j := (2 + w)) (l := (J w)) rfl (Or.inl ⟨rfl, rfl⟩) hl (by omega) (by first | rfl | omega) (up_ne (by omega) (gJ w hw)) (xidx_nI (by omega)) (xgd (by first | omega | (simp only [List.length_set]; omega))) ?_
      refine y_go rfl rfl ?_
      refine y_go rfl rfl ?_
      refine y_aldG (t := 0) (z := i) (j := (2 + w)) (l := (J w)) rfl (Or.inl ⟨rfl, rfl⟩) hl (by omega) (by first | rfl | omega) (up_ne (by omega) (gJ w hw)) (xidx_nI (by omega)) (xgd (by first | omega | (simp only [List.length_set]; omega))) ?_
      refine y_S1 rfl rfl (Nat.le_of_ble_eq_true rfl) (Nat.le_of_ble_eq_true rfl) rfl rfl (s_canLie (by omega) _ _ _) ?_
      refine y_if_eq rfl (fun c42 => ?_) (fun c42 => ?_)
      · replace c42 : ¬ ((gd (J w) u) &&& (gd (J w) i) = 0) := xi_a c42
        refine y_go (g' := (69, [.ref p, .ref (p + 2 + w), .int (nI cn), .int (nI u), .int x4, .int (nI (i + 1))], _, _)) rfl (by rw [← nI_1 i]; rfl) ?_
        refine y_go rfl rfl ?_
        exact ih (i + 1) (by omega) _ (by simp [lsTo, e_I, c29, c42])
      · replace c42 : (gd (J w) u) &&& (gd (J w) i) = 0 := xi_b c42
        refine y_go rfl rfl ?_
        refine y_go rfl rfl ?_
        refine y_getG (w := .ref (p + b1)) (j := 0) rfl hl (by omega) (by first | rfl | omega) (up_ne (by omega) g0) rfl rfl ?_
        refine y_go rfl rfl ?_
        refine y_aldG (t := 0) (z := i) (j := b1) (l := U) rfl (Or.inl ⟨rfl, rfl⟩) hl (by omega) (by first | rfl | omega) (up_ne (by omega) gU) (xidx_nI (by omega)) (xgd (by first | omega | (simp only [List.length_set]; omega))) ?_
        refine y_go rfl rfl ?_
        refine y_go rfl rfl ?_
        refine y_aldG (t := 0) (z := u) (j := (2 + w)) (l := (J w)) rfl (Or.inl ⟨rfl, rfl⟩) hl (by omega) (by first | rfl | omega) (up_ne (by omega) (gJ w hw)) (xidx_nI (by omega)) (xgd (by first | omega | (simp only [List.length_set]; omega))) ?_
        refine y_S1 rfl rfl (Nat.le_of_ble_eq_true rfl) (Nat.le_of_ble_eq_true rfl) rfl rfl (s_bricksIn (by omega) _ _) ?_
        refine y_go rfl rfl ?_
        refine y_min rfl (Nat.le_of_ble_eq_true rfl) rfl ?_
        refine y_go (g' := (66, [.ref p, .ref (p + 2 + w), .int (nI cn), .int (nI u), .int (imin x4 ((gd U i) + (brk (gd (J w) u)))), .int (nI i)], _, _)) rfl rfl ?_
        refine y_go (g' := (69, [.ref p, .ref (p + 2 + w), .int (nI cn), .int (nI u), .int (imin x4 ((gd U i) + (brk (gd (J w) u)))), .int (nI (i + 1))], _, _)) rfl (by rw [← nI_1 i]; rfl) ?_
        refine y_go rfl rfl ?_
        exact ih (i + 1) (by omega) _ (by simp [lsTo, e_I, c29, c42])
theorem l_few2 {S : List Int32} {d : Nat} (hd : 3 ≤ d) {h : xH} {p : Nat} (hl : p + 35 ≤ h.length) (k0 : Nat × Nat) (J : Nat → List Int32) (ct : List Int32) (X : List Int64) (U : List Int32) (G : Nat → xC) (a1 a2 b1 b2 : Nat) (Y : List Int64) (V : List Int32) (M : Nat → List Int64) (ha : (a1 = 22 ∧ a2 = 23) ∨ (a1 = 23 ∧ a2 = 22)) (hb : (b1 = 24 ∧ b2 = 25) ∨ (b1 = 25 ∧ b2 = 24)) (g0 : G 0 = cO p a1 a2 b1 b2) (g1 : G 1 = rowsC 6 (p + 2) 19) (gJ : ∀ w, w < 19 → G (2 + w) = intC (J w)) (gct : G 21 = intC ct) (gX : G a1 = lngC X) (gY : G a2 = lngC Y) (lX : X.length = 65) (lY : Y.length = 65) (gU : G b1 = intC U) (gV : G b2 = intC V) (lU : U.length = 65) (lV : V.length = 65) (g26 : G 26 = rowsC 7 (p + 27) 8) (gM : ∀ r, r < 8 → G (27 + r) = lngC (M r) ∧ (M r).length = 65) (w cn : Nat) (hw : w < 19) (hn : cn ≤ 65) (hJ : (J w).length = 65) {Q : xR → Prop} (k : ∀ (x4 : Value) (x5 : Value) (Z : List Int32), (lesR (J w) U cn Z cn) → yW S d 8 (86, [.ref p, .ref (p + 2 + w), .int (nI cn), .int (nI cn), x4, x5], [], ((put h p (rg 35 (up G b2 (.inr (.inl (0, Z)))))), k0)) Q) : ∀ (n i : Nat), i + n = cn → ∀ (x4 : Value) (x5 : Value) (Z : List Int32), (lesR (J w) U cn Z i) → yW S d 8 (2, [.ref p, .ref (p + 2 + w), .int (nI cn), .int (nI i), x4, x5], [], ((put h p (rg 35 (up G b2 (.inr (.inl (0, Z)))))), k0)) Q := by
  intro n
  induction n with
  | zero =>
    intro i hi x4 x5 Z e_I
    obtain rfl : i = cn := by omega
    refine y_go rfl rfl ?_
    refine y_go rfl rfl ?_
    refine y_ic_ge rfl (fun _ => ?_) (fun c => absurd c (nI_nlt (a := i) (b := i) (Nat.le_refl _) (by first | decide | omega)))
    exact k _ _ _ e_I
  | succ n ih =>
    intro i hi x4 x5 Z e_I
    have hlt : i < cn := by omega
    refine y_go rfl rfl ?_
    refine y_go rfl rfl ?_
    refine y_ic_ge rfl (fun c => absurd (nI_lt (a := i) (b := cn) hlt (by first | decide | omega)) c) (fun _ => ?_)
    refine y_go rfl rfl ?_
    refine y_go (g' := (11, [.ref p, .ref (p + 2 + w), .int (nI cn), .int (nI i), .int 1000000, x5], _, _)) rfl rfl ?_
    refine y_go rfl rfl ?_
    refine y_go (g' := (14, [.ref p, .ref (p + 2 + w), .int (nI cn), .int (nI i), .int 1000000, .int 0], _, _)) rfl rfl ?_
    refine l_few1 (by omega) hl k0 J ct X U G a1 a2 b1 b2 Y V M ha hb g0 g1 gJ gct gX gY lX lY gU gV lU lV g26 gM w cn hw hn hJ i (by omega) Z (fun x4 e4 => ?_) cn 0 (by omega) _ rfl
    refine y_go rfl rfl ?_
    refine y_getG (w := .ref (p + b2)) (j := 0) rfl hl (by omega) (by first | rfl | omega) (up_ne (by omega) g0) rfl rfl ?_
    refine y_go rfl rfl ?_
    refine y_go rfl rfl ?_
    refine y_astG (t := 0) (z := i) (j := b2) (l := Z) (y := x4) rfl (Or.inl ⟨rfl, rfl⟩) hl (by omega) (by first | rfl | omega) up_eq (xidx_nI (by omega)) (by rw [e_I.1]; omega) rfl ?_
    rw [up_up]
    refine y_go (g' := (83, [.ref p, .ref (p + 2 + w), .int (nI cn), .int (nI (i + 1)), .int x4, .int (nI cn)], _, _)) rfl (by rw [← nI_1 i]; rfl) ?_
    refine y_go rfl rfl ?_
    exact ih (i + 1) (by omega) _ _ (Z.set i x4) (⟨by rw [List.length_set]; exact e_I.1, fun j hj => by
        rw [gd_set (l := Z) (i := i) (x := x4) (by rw [e_I.1]; omega)]
        by_cases hz : i = j
        · rw [if_pos hz, e4, hz]
        · rw [if_neg hz]; exact e_I.2 j (by omega)⟩)
theorem s_addFewest {S : List Int32} {d : Nat} (hd : 4 ≤ d) {h : xH} {p : Nat} (hl : p + 35 ≤ h.length) (k0 : Nat × Nat) (J : Nat → List Int32) (ct : List Int32) (X : List Int64) (U : List Int32) (G : Nat → xC) (hC : cgX p J ct X U G) (w cn : Nat) (hw : w < 19) (hn : cn ≤ 65) (hJ : (J w).length = 65) : yT S d 8 [.ref p, .ref (p + 2 + w), .int (nI cn)] ((put h p (rg 35 G)), k0) (fun r => ∃ z : (Nat → xC) × List Int32, (lesR (J w) U cn z.2 cn ∧ cgX p J ct X z.2 z.1) ∧ r = (.inl none, (put h p (rg 35 z.1), k0))) := by
  obtain ⟨d, rfl⟩ : ∃ e, d = e + 1 := ⟨d - 1, by omega⟩
  have hG := hC
  obtain ⟨a1, a2, b1, b2, Y, V, M, ha, hb, g0, g1, gJ, gct, gX, gY, lX, lY, gU, gV, lU, lV, g26, gM⟩ := hG
  refine yT_e (Nat.le_of_ble_eq_true rfl) ?_
  show yW S d 8 (0, [.ref p, .ref (p + 2 + w), .int (nI cn), xno, xno, xno], [], ((put h p (rg 35 G)), k0)) _
  refine y_go rfl rfl ?_
  refine y_go (g' := (2, [.ref p, .ref (p + 2 + w), .int (nI cn), .int 0, xno, xno], _, _)) rfl rfl ?_
  rw [show rg 35 G = rg 35 (up G b2 (intC V)) from by rw [up_self gV]]
  refine l_few2 (by omega) hl k0 J ct X U G a1 a2 b1 b2 Y V M ha hb g0 g1 gJ gct gX gY lX lY gU gV lU lV g26 gM w cn hw hn hJ (fun x4 x5 Z e_Z => ?_) cn 0 (by omega) _ _ _ ⟨lV, fun j hj => absurd hj (by omega)⟩
  refine y_go rfl rfl ?_
  refine y_getG (w := .ref (p + b1)) (j := 0) rfl hl (by omega) (by first | rfl | omega) (up_ne (by omega) g0) rfl rfl ?_
  refine y_go (g' := (91, [.ref p, .ref (p + 2 + w), .int (nI cn), .ref (p + b1), x4, x5], _, _)) rfl rfl ?_
  refine y_go rfl rfl ?_
  refine y_go rfl rfl ?_
  refine y_getG (w := .ref (p + b2)) (j := 0) rfl hl (by omega) (by first | rfl | omega) (up_ne (by omega) g0) rfl rfl ?_
  refine y_putG (j := 0) (c' := (.inl (4, [.ref (p + 1), .ref (p + 21), .ref (p + a1), .ref (p + a2), .ref (p + b2), .ref (p + b2), .ref (p + 26)]))) rfl hl (by omega) (by first | rfl | omega) (up_ne (by omega) g0) (Nat.le_of_ble_eq_true rfl) (by first | exact xf_ref rfl | exact xf_obj rfl) rfl ?_
  refine y_go rfl rfl ?_
  refine y_go rfl rfl ?_
  refine y_putG (j := 0) (c' := (.inl (4, [.ref (p + 1), .ref (p + 21), .ref (p + a1), .ref (p + a2), .ref (p + b2), .ref (p + b1), .ref (p + 26)]))) rfl hl (by omega) (by first | rfl | omega) up_eq (Nat.le_of_ble_eq_true rfl) (by first | exact xf_ref rfl | exact xf_obj rfl) rfl ?_
  rw [up_up]
  exact y_end rfl rfl (by
    have hF : cgX p J ct X Z (up (up G b2 (intC Z)) 0 (cO p a1 a2 b2 b1)) := ⟨a1, a2, b2, b1, Y, U, M, ha, by omega, up_eq, up_ne (by omega) (up_ne (by omega) g1), fun w hw => up_ne (by omega) (up_ne (by omega) (gJ w hw)), up_ne (by omega) (up_ne (by omega) gct), up_ne (by omega) (up_ne (by omega) gX), up_ne (by omega) (up_ne (by omega) gY), lX, lY, up_ne (by omega) up_eq, up_ne (by omega) (up_ne (by omega) gU), e_Z.1, lU, up_ne (by omega) (up_ne (by omega) g26), fun r hr => ⟨up_ne (by omega) (up_ne (by omega) (gM r hr).1), (gM r hr).2⟩⟩
    exact ⟨(_, Z), ⟨e_Z, hF⟩, rfl⟩)
theorem l_lb1 {S : List Int32} {d : Nat} (hd : 3 ≤ d) {h : xH} {p : Nat} (hl : p + 35 ≤ h.length) (k0 : Nat × Nat) (J : Nat → List Int32) (ct : List Int32) (X : List Int64) (U : List Int32) (G : Nat → xC) (a1 a2 b1 b2 : Nat) (Y : List Int64) (V : List Int32) (M : Nat → List Int64) (ha : (a1 = 22 ∧ a2 = 23) ∨ (a1 = 23 ∧ a2 = 22)) (hb : (b1 = 24 ∧ b2 = 25) ∨ (b1 = 25 ∧ b2 = 24)) (g0 : G 0 = cO p a1 a2 b1 b2) (g1 : G 1 = rowsC 6 (p + 2) 19) (gJ : ∀ w, w < 19 → G (2 + w) = intC (J w)) (gct : G 21 = intC ct) (gX : G a1 = lngC X) (gY : G a2 = lngC Y) (lX : X.length = 65) (lY : Y.length = 65) (gU : G b1 = intC U) (gV : G b2 = intC V) (lU : U.length = 65) (lV : V.length = 65) (g26 : G 26 = rowsC 7 (p + 27) 8) (gM : ∀ r, r < 8 → G (27 + r) = lngC (M r) ∧ (M r).length = 65) (w cn : Nat) (hw : w < 19) (hn : cn ≤ 65) (hJ : (J w).length = 65) (kc : Nat) (hkc : kc ≤ 8) {Q : xR → Prop} (k : ∀ (Z : List Int32), (Z.length = 65 ∧ ∀ j, j < cn → gd Z j = brk (gd (J w) j)) → yW S d 7 (41, [.ref p, .int (nI w), .int (nI kc), .int (nI cn), .int (nI cn), xno], [], ((put h p (rg 35 (up G b1 (.inr (.inl (0, Z)))))), k0)) Q) : ∀ (n i : Nat), i + n = cn → ∀ (Z : List Int32), (Z.length = 65 ∧ ∀ j, j < i → gd Z j = brk (gd (J w) j)) → yW S d 7 (10, [.ref p, .int (nI w), .int (nI kc), .int (nI cn), .int (nI i), xno], [], ((put h p (rg 35 (up G b1 (.inr (.inl (0, Z)))))), k0)) Q := by
  intro n
  induction n with
  | zero =>
    intro i hi Z e_I
    obtain rfl : i = cn := by omega
    refine y_go rfl rfl ?_
    refine y_go rfl rfl ?_
    refine y_ic_ge rfl (fun _ => ?_) (fun c => absurd c (nI_nlt (a := i) (b := i) (Nat.le_refl _) (by first | decide | omega)))
    exact k _ e_I
  | succ n ih =>
    intro i hi Z e_I
    have hlt : i < cn := by omega
    refine y_go rfl rfl ?_
    refine y_go rfl rfl ?_
    refine y_ic_ge rfl (fun c => absurd (nI_lt (a := i) (b := cn) hlt (by first | decide | omega)) c) (fun _ => ?_)
    refine y_go rfl rfl ?_
    refine y_getG (w := .ref (p + b1)) (j := 0) rfl hl (by omega) (by first | rfl | omega) (up_ne (by omega) g0) rfl rfl ?_
    refine y_go rfl rfl ?_
    refine y_go rfl rfl ?_
    refine y_getG (w := .ref (p + 1)) (j := 0) rfl hl (by omega) (by first | rfl | omega) (up_ne (by omega) g0) rfl rfl ?_
    refine y_go rfl rfl ?_
    refine y_aaldG (z := w) (j := 1) rfl hl (by omega) (by first | rfl | omega) (up_ne (by omega) g1) (xidx_nI (by omega)) (rows_at (by first | omega | (simp only [List.length_set]; omega))) ?_
    refine y_go rfl rfl ?_
    refine y_aldG (t := 0) (z := i) (j := (2 + w)) (l := (J w)) rfl (Or.inl ⟨rfl, rfl⟩) hl (by omega) (by first | rfl | omega) (up_ne (by omega) (gJ w hw)) (xidx_nI (by omega)) (xgd (by first | omega | (simp only [List.length_set]; omega))) ?_
    refine y_S1 rfl rfl (Nat.le_of_ble_eq_true rfl) (Nat.le_of_ble_eq_true rfl) rfl rfl (s_bricksIn (by omega) _ _) ?_
    refine y_astG (t := 0) (z := i) (j := b1) (l := Z) (y := (brk (gd (J w) i))) rfl (Or.inl ⟨rfl, rfl⟩) hl (by omega) (by first | rfl | omega) up_eq (xidx_nI (by omega)) (by rw [e_I.1]; omega) rfl ?_
    rw [up_up]
    refine y_go (g' := (38, [.ref p, .int (nI w), .int (nI kc), .int (nI cn), .int (nI (i + 1)), xno], _, _)) rfl (by rw [← nI_1 i]; rfl) ?_
    refine y_go rfl rfl ?_
    exact ih (i + 1) (by omega) (Z.set i (brk (gd (J w) i))) (⟨by rw [List.length_set]; exact e_I.1, fun j hj => by
        rw [gd_set (l := Z) (i := i) (x := brk (gd (J w) i)) (by rw [e_I.1]; omega)]
        by_cases hz : i = j
        · rw [if_pos hz, hz]
        · rw [if_neg hz]; exact e_I.2 j (by omega)⟩)
theorem l_lb2 {S : List Int32} {d : Nat} (hd : 4 ≤ d) {h : xH} {p : Nat} (hl : p + 35 ≤ h.length) (k0 : Nat × Nat) (J : Nat → List Int32) (ct : List Int32) (X : List Int64) (w cn : Nat) (hw : w < 19) (hn : cn ≤ 65) (hJ : (J w).length = 65) (kc : Nat) (hkc : kc ≤ 8) {Q : xR → Prop} (k : ∀ (G : Nat → xC) (U : List Int32), (2 ≤ (kc + 1) ∧ cgX p J ct X U G ∧ ∀ j, j < cn → gd U j = fwy (J w) cn ((kc + 1) - 2) j) → yW S d 7 (67, [.ref p, .int (nI w), .int (nI kc), .int (nI cn), .int (nI (kc + 1)), xno], [], ((put h p (rg 35 G)), k0)) Q) : ∀ (n i : Nat), i + n = (kc + 1) → ∀ (G : Nat → xC) (U : List Int32), (2 ≤ i ∧ cgX p J ct X U G ∧ ∀ j, j < cn → gd U j = fwy (J w) cn (i - 2) j) → yW S d 7 (44, [.ref p, .int (nI w), .int (nI kc), .int (nI cn), .int (nI i), xno], [], ((put h p (rg 35 G)), k0)) Q := by
  intro n
  induction n with
  | zero =>
    intro i hi G U e_I
    obtain rfl : i = (kc + 1) := by omega
    obtain ⟨h2, hC, hwy⟩ := id e_I
    have hG := hC
    obtain ⟨a1, a2, b1, b2, Y, V, M, ha, hb, g0, g1, gJ, gct, gX, gY, lX, lY, gU, gV, lU, lV, g26, gM⟩ := hG
    refine y_go rfl rfl ?_
    refine y_go rfl rfl ?_
    refine y_ic_gt rfl (fun _ => ?_) (fun c => absurd (nI_lt (a := kc) (b := (kc + 1)) (by omega) (by omega)) c)
    exact k _ _ e_I
  | succ n ih =>
    intro i hi G U e_I
    have hlt : i < (kc + 1) := by omega
    obtain ⟨h2, hC, hwy⟩ := id e_I
    have hG := hC
    obtain ⟨a1, a2, b1, b2, Y, V, M, ha, hb, g0, g1, gJ, gct, gX, gY, lX, lY, gU, gV, lU, lV, g26, gM⟩ := hG
    refine y_go rfl rfl ?_
    refine y_go rfl rfl ?_
    refine y_ic_gt rfl (fun c => absurd c (nI_nlt (a := kc) (b := i) (by omega) (by omega))) (fun _ => ?_)
    refine y_go rfl rfl ?_
    refine y_go rfl rfl ?_
    refine y_getG (w := .ref (p + 1)) (j := 0) rfl hl (by omega) (by first | rfl | omega) g0 rfl rfl ?_
    refine y_go rfl rfl ?_
    refine y_aaldG (z := w) (j := 1) rfl hl (by omega) (by first | rfl | omega) g1 (xidx_nI (by omega)) (rows_at (by first | omega | (simp only [List.length_set]; omega))) ?_
    refine y_go rfl rfl ?_
    refine y_V0e rfl (Nat.le_of_ble_eq_true rfl) (Nat.le_of_ble_eq_true rfl) rfl rfl (xrcvG (j := 0) hl (by omega) rfl g0) (s_addFewest (by omega) hl k0 J ct X U G hC w cn hw hn hJ) (fun z hz => ?_)
    refine y_go (g' := (64, [.ref p, .int (nI w), .int (nI kc), .int (nI cn), .int (nI (i + 1)), xno], _, _)) rfl (by rw [← nI_1 i]; rfl) ?_
    refine y_go rfl rfl ?_
    exact ih (i + 1) (by omega) z.1 z.2 (⟨by omega, hz.2, fun j hj => by
        rw [hz.1.2 j hj, show i + 1 - 2 = (i - 2) + 1 by omega]
        exact lsTo_congr fun q hq => hwy q hq⟩)
theorem l_lb3 {S : List Int32} {d : Nat} (hd : 1 ≤ d) {h : xH} {p : Nat} (hl : p + 35 ≤ h.length) (k0 : Nat × Nat) (J : Nat → List Int32) (ct : List Int32) (X : List Int64) (U : List Int32) (G : Nat → xC) (a1 a2 b1 b2 : Nat) (Y : List Int64) (V : List Int32) (M : Nat → List Int64) (ha : (a1 = 22 ∧ a2 = 23) ∨ (a1 = 23 ∧ a2 = 22)) (hb : (b1 = 24 ∧ b2 = 25) ∨ (b1 = 25 ∧ b2 = 24)) (g0 : G 0 = cO p a1 a2 b1 b2) (g1 : G 1 = rowsC 6 (p + 2) 19) (gJ : ∀ w, w < 19 → G (2 + w) = intC (J w)) (gct : G 21 = intC ct) (gX : G a1 = lngC X) (gY : G a2 = lngC Y) (lX : X.length = 65) (lY : Y.length = 65) (gU : G b1 = intC U) (gV : G b2 = intC V) (lU : U.length = 65) (lV : V.length = 65) (g26 : G 26 = rowsC 7 (p + 27) 8) (gM : ∀ r, r < 8 → G (27 + r) = lngC (M r) ∧ (M r).length = 65) (w cn : Nat) (hw : w < 19) (hn : cn ≤ 65) (hJ : (J w).length = 65) (kc : Nat) (hkc : kc ≤ 8) {Q : xR → Prop} (k : ∀ (x4 : Int32), (x4 = minL (gd U) cn) → yW S d 7 (100, [.ref p, .int (nI w), .int (nI kc), .int (nI cn), .int x4, .int (nI cn)], [], ((put h p (rg 35 G)), k0)) Q) : ∀ (n i : Nat), i + n = cn → ∀ (x4 : Int32), (x4 = minL (gd U) i) → yW S d 7 (74, [.ref p, .int (nI w), .int (nI kc), .int (nI cn), .int x4, .int (nI i)], [], ((put h p (rg 35 G)), k0)) Q := by
  intro n
  induction n with
  | zero =>
    intro i hi x4 e_I
    obtain rfl : i = cn := by omega
    refine y_go rfl rfl ?_
    refine y_go rfl rfl ?_
    refine y_ic_ge rfl (fun _ => ?_) (fun c => absurd c (nI_nlt (a := i) (b := i) (Nat.le_refl _) (by first | decide | omega)))
    exact k _ e_I
  | succ n ih =>
    intro i hi x4 e_I
    have hlt : i < cn := by omega
    refine y_go rfl rfl ?_
    refine y_go rfl rfl ?_
    refine y_ic_ge rfl (fun c => absurd (nI_lt (a := i) (b := cn) hlt (by first | decide | omega)) c) (fun _ => ?_)
    refine y_go rfl rfl ?_
    refine y_go rfl rfl ?_
    refine y_getG (w := .ref (p + b1)) (j := 0) rfl hl (by omega) (by first | rfl | omega) g0 rfl rfl ?_
    refine y_go rfl rfl ?_
    refine y_aldG (t := 0) (z := i) (j := b1) (l := U) rfl (Or.inl ⟨rfl, rfl⟩) hl (by omega) (by first | rfl | omega) gU (xidx_nI (by omega)) (xgd (by first | omega | (simp only [List.length_set]; omega))) ?_
    refine y_min rfl (Nat.le_of_ble_eq_true rfl) rfl ?_
    refine y_go (g' := (94, [.ref p, .int (nI w), .int (nI kc), .int (nI cn), .int (imin x4 (gd U i)), .int (nI i)], _, _)) rfl rfl ?_
    refine y_go (g' := (97, [.ref p, .int (nI w), .int (nI kc), .int (nI cn), .int (imin x4 (gd U i)), .int (nI (i + 1))], _, _)) rfl (by rw [← nI_1 i]; rfl) ?_
    refine y_go rfl rfl ?_
    exact ih (i + 1) (by omega) _ (by rw [e_I]; rfl)
theorem s_leastBricks {S : List Int32} {d : Nat} (hd : 5 ≤ d) {h : xH} {p : Nat} (hl : p + 35 ≤ h.length) (k0 : Nat × Nat) (J : Nat → List Int32) (ct : List Int32) (G : Nat → xC) (hG : cg p J ct G) (w cn : Nat) (hw : w < 19) (hn : cn ≤ 65) (hJ : (J w).length = 65) (kc : Nat) (hkc : kc ≤ 8) (hk1 : 1 ≤ kc) (lct : ct.length = 19) (hct : gd ct w = nI cn) : yT S d 7 [.ref p, .int (nI w), .int (nI kc)] ((put h p (rg 35 G)), k0) (fun r => ∃ z : Nat → xC, cg p J ct z ∧ r = (.inl (some (.int (lbk (J w) cn (kc - 1)))), (put h p (rg 35 z), k0))) := by
  obtain ⟨d, rfl⟩ : ∃ e, d = e + 1 := ⟨d - 1, by omega⟩
  obtain ⟨X, U, hC⟩ := hG
  have hG := hC
  obtain ⟨a1, a2, b1, b2, Y, V, M, ha, hb, g0, g1, gJ, gct, gX, gY, lX, lY, gU, gV, lU, lV, g26, gM⟩ := hG
  refine yT_e (Nat.le_of_ble_eq_true rfl) ?_
  show yW S d 7 (0, [.ref p, .int (nI w), .int (nI kc), xno, xno, xno], [], ((put h p (rg 35 G)), k0)) _
  refine y_go rfl rfl ?_
  refine y_getG (w := .ref (p + 21)) (j := 0) rfl hl (by omega) (by first | rfl | omega) g0 rfl rfl ?_
  refine y_go rfl rfl ?_
  refine y_aldG (t := 0) (z := w) (j := 21) (l := ct) rfl (Or.inl ⟨rfl, rfl⟩) hl (by omega) (by first | rfl | omega) gct (xidx_nI (by omega)) (xgd (by first | omega | (simp only [List.length_set]; omega))) ?_
  rw [hct]
  refine y_go (g' := (7, [.ref p, .int (nI w), .int (nI kc), .int (nI cn), xno, xno], _, _)) rfl rfl ?_
  refine y_go rfl rfl ?_
  refine y_go (g' := (10, [.ref p, .int (nI w), .int (nI kc), .int (nI cn), .int 0, xno], _, _)) rfl rfl ?_
  rw [show rg 35 G = rg 35 (up G b1 (intC U)) from by rw [up_self gU]]
  refine l_lb1 (by omega) hl k0 J ct X U G a1 a2 b1 b2 Y V M ha hb g0 g1 gJ gct gX gY lX lY gU gV lU lV g26 gM w cn hw hn hJ kc hkc (fun Z e_Z => ?_) cn 0 (by omega) _ ⟨lU, fun j hj => absurd hj (by omega)⟩
  clear hC
  have hC : cgX p J ct X Z (up G b1 (intC Z)) := ⟨a1, a2, b1, b2, Y, V, M, ha, hb, up_ne (by omega) g0, up_ne (by omega) g1, fun w hw => up_ne (by omega) (gJ w hw), up_ne (by omega) gct, up_ne (by omega) gX, up_ne (by omega) gY, lX, lY, up_eq, up_ne (by omega) gV, e_Z.1, lV, up_ne (by omega) g26, fun r hr => ⟨up_ne (by omega) (gM r hr).1, (gM r hr).2⟩⟩
  refine y_go rfl rfl ?_
  refine y_go (g' := (44, [.ref p, .int (nI w), .int (nI kc), .int (nI cn), .int 2, xno], _, _)) rfl rfl ?_
  refine l_lb2 (by omega) hl k0 J ct X w cn hw hn hJ kc hkc (fun G U e_I => ?_) (kc - 1) 2 (by omega) _ _ ⟨Nat.le_refl _, hC, fun j hj => e_Z.2 j hj⟩
  obtain ⟨h2, hC, hwy⟩ := e_I
  have hG := hC
  obtain ⟨a1, a2, b1, b2, Y, V, M, ha, hb, g0, g1, gJ, gct, gX, gY, lX, lY, gU, gV, lU, lV, g26, gM⟩ := hG
  refine y_go rfl rfl ?_
  refine y_go (g' := (71, [.ref p, .int (nI w), .int (nI kc), .int (nI cn), .int 1000000, xno], _, _)) rfl rfl ?_
  refine y_go rfl rfl ?_
  refine y_go (g' := (74, [.ref p, .int (nI w), .int (nI kc), .int (nI cn), .int 1000000, .int 0], _, _)) rfl rfl ?_
  refine l_lb3 (by omega) hl k0 J ct X U G a1 a2 b1 b2 Y V M ha hb g0 g1 gJ gct gX gY lX lY gU gV lU lV g26 gM w cn hw hn hJ kc hkc (fun x4 e_I => ?_) cn 0 (by omega) _ rfl
  have e7 : x4 = minL (fwy (J w) cn (kc - 1)) cn := e_I.trans (minL_congr hwy)
  subst e7
  refine y_go rfl rfl ?_
  refine y_go rfl rfl ?_
  refine y_ic_ne rfl (fun c104 => ?_) (fun c104 => ?_)
  · refine y_go rfl rfl ?_
    exact y_ireturn rfl rfl rfl ⟨G, ⟨_, _, hC⟩, by unfold lbk; rw [if_neg c104]⟩
  · refine y_go rfl rfl ?_
    refine y_go rfl rfl ?_
    exact y_ireturn rfl rfl rfl ⟨G, ⟨_, _, hC⟩, by unfold lbk; rw [if_pos c104]⟩
