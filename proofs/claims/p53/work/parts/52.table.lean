/-! COURSES: a further course upon the ways; the number of walls by the table. -/
theorem up_self {α : Type} {G : Nat → α} {i : Nat} {c : α} (h : G i = c) : up G i c = G := funext fun j => by
  unfold up
  by_cases e : j = i
  · rw [if_pos e, e, h]
  · rw [if_neg e]
/-- how many ways there are with k further courses upon the course i -/
def wy (J : List Int32) (n : Nat) : Nat → Nat → Int64
  | 0, _ => 1
  | k + 1, i => lieTo J (wy J n k) i n
def sumL (X : Nat → Int64) : Nat → Int64
  | 0 => 0
  | i + 1 => sumL X i + X i
theorem sumL_congr {X Y : Nat → Int64} : ∀ {n : Nat}, (∀ i, i < n → X i = Y i) → sumL X n = sumL Y n
  | 0, _ => rfl
  | n + 1, h => by simp only [sumL]; rw [sumL_congr (fun i hi => h i (by omega)), h n (by omega)]
theorem s_addWays {S : List Int32} {d : Nat} (hd : 2 ≤ d) {h : xH} {p : Nat} (hl : p + 35 ≤ h.length) (k0 : Nat × Nat) (J : Nat → List Int32) (ct : List Int32) (X : List Int64) (U : List Int32) (G : Nat → xC) (hC : cgX p J ct X U G) (w cn : Nat) (hw : w < 19) (hn : cn ≤ 65) (hJ : (J w).length = 65) : yT S d 4 [.ref p, .ref (p + 2 + w), .int (nI cn)] ((put h p (rg 35 G)), k0) (fun r => ∃ z : (Nat → xC) × List Int64, (wayR (J w) X cn z.2 cn ∧ cgX p J ct z.2 U z.1) ∧ r = (.inl none, (put h p (rg 35 z.1), k0))) := by
  obtain ⟨d, rfl⟩ : ∃ e, d = e + 1 := ⟨d - 1, by omega⟩
  have hG := hC
  obtain ⟨a1, a2, b1, b2, Y, V, M, ha, hb, g0, g1, gJ, gct, gX, gY, lX, lY, gU, gV, lU, lV, g26, gM⟩ := hG
  refine yT_e (Nat.le_of_ble_eq_true rfl) ?_
  show yW S d 4 (0, [.ref p, .ref (p + 2 + w), .int (nI cn), xno, xno, xno, xno], [], ((put h p (rg 35 G)), k0)) _
  refine y_go rfl rfl ?_
  refine y_go (g' := (2, [.ref p, .ref (p + 2 + w), .int (nI cn), .int 0, xno, xno, xno], _, _)) rfl rfl ?_
  rw [show rg 35 G = rg 35 (up G a2 (lngC Y)) from by rw [up_self gY]]
  refine l_ways2 (by omega) hl k0 J ct X U G a1 a2 b1 b2 Y V M ha hb g0 g1 gJ gct gX gY lX lY gU gV lU lV g26 gM w cn hw hn hJ (fun x4 x5 x6 Z e_Z => ?_) cn 0 (by omega) _ _ _ _ ⟨lY, fun j hj => absurd hj (by omega)⟩
  refine y_go rfl rfl ?_
  refine y_getG (w := .ref (p + a1)) (j := 0) rfl hl (by omega) (by first | rfl | omega) (up_ne (by omega) g0) rfl rfl ?_
  refine y_go (g' := (69, [.ref p, .ref (p + 2 + w), .int (nI cn), .ref (p + a1), x4, x5, x6], _, _)) rfl rfl ?_
  refine y_go rfl rfl ?_
  refine y_go rfl rfl ?_
  refine y_getG (w := .ref (p + a2)) (j := 0) rfl hl (by omega) (by first | rfl | omega) (up_ne (by omega) g0) rfl rfl ?_
  refine y_putG (j := 0) (c' := (.inl (4, [.ref (p + 1), .ref (p + 21), .ref (p + a2), .ref (p + a2), .ref (p + b1), .ref (p + b2), .ref (p + 26)]))) rfl hl (by omega) (by first | rfl | omega) (up_ne (by omega) g0) (Nat.le_of_ble_eq_true rfl) (by first | exact xf_ref rfl | exact xf_obj rfl) rfl ?_
  refine y_go rfl rfl ?_
  refine y_go rfl rfl ?_
  refine y_putG (j := 0) (c' := (.inl (4, [.ref (p + 1), .ref (p + 21), .ref (p + a2), .ref (p + a1), .ref (p + b1), .ref (p + b2), .ref (p + 26)]))) rfl hl (by omega) (by first | rfl | omega) up_eq (Nat.le_of_ble_eq_true rfl) (by first | exact xf_ref rfl | exact xf_obj rfl) rfl ?_
  rw [up_up]
  exact y_end rfl rfl (by
    have hF : cgX p J ct Z U (up (up G a2 (lngC Z)) 0 (cO p a2 a1 b1 b2)) := ⟨a2, a1, b1, b2, X, V, M, by omega, hb, up_eq, up_ne (by omega) (up_ne (by omega) g1), fun w hw => up_ne (by omega) (up_ne (by omega) (gJ w hw)), up_ne (by omega) (up_ne (by omega) gct), up_ne (by omega) up_eq, up_ne (by omega) (up_ne (by omega) gX), e_Z.1, lX, up_ne (by omega) (up_ne (by omega) gU), up_ne (by omega) (up_ne (by omega) gV), lU, lV, up_ne (by omega) (up_ne (by omega) g26), fun r hr => ⟨up_ne (by omega) (up_ne (by omega) (gM r hr).1), (gM r hr).2⟩⟩
    exact ⟨(_, Z), ⟨e_Z, hF⟩, rfl⟩)
theorem l_tab1 {S : List Int32} {d : Nat} (hd : 1 ≤ d) {h : xH} {p : Nat} (hl : p + 35 ≤ h.length) (k0 : Nat × Nat) (J : Nat → List Int32) (ct : List Int32) (X : List Int64) (U : List Int32) (G : Nat → xC) (a1 a2 b1 b2 : Nat) (Y : List Int64) (V : List Int32) (M : Nat → List Int64) (ha : (a1 = 22 ∧ a2 = 23) ∨ (a1 = 23 ∧ a2 = 22)) (hb : (b1 = 24 ∧ b2 = 25) ∨ (b1 = 25 ∧ b2 = 24)) (g0 : G 0 = cO p a1 a2 b1 b2) (g1 : G 1 = rowsC 6 (p + 2) 19) (gJ : ∀ w, w < 19 → G (2 + w) = intC (J w)) (gct : G 21 = intC ct) (gX : G a1 = lngC X) (gY : G a2 = lngC Y) (lX : X.length = 65) (lY : Y.length = 65) (gU : G b1 = intC U) (gV : G b2 = intC V) (lU : U.length = 65) (lV : V.length = 65) (g26 : G 26 = rowsC 7 (p + 27) 8) (gM : ∀ r, r < 8 → G (27 + r) = lngC (M r) ∧ (M r).length = 65) (w cn : Nat) (hw : w < 19) (hn : cn ≤ 65) (hJ : (J w).length = 65) (kc : Nat) (hkc : kc ≤ 8) {Q : xR → Prop} (k : ∀ (Z : List Int64), (Z.length = 65 ∧ ∀ j, j < cn → gdL Z j = 1) → yW S d 3 (30, [.ref p, .int (nI w), .int (nI kc), .int (nI cn), .int (nI cn), xno, xno], [], ((put h p (rg 35 (up G a1 (.inr (.inr (.inl (3, Z))))))), k0)) Q) : ∀ (n i : Nat), i + n = cn → ∀ (Z : List Int64), (Z.length = 65 ∧ ∀ j, j < i → gdL Z j = 1) → yW S d 3 (10, [.ref p, .int (nI w), .int (nI kc), .int (nI cn), .int (nI i), xno, xno], [], ((put h p (rg 35 (up G a1 (.inr (.inr (.inl (3, Z))))))), k0)) Q := by
  intro n
  induction n with
  | zero =>
    intro i hi Z e_I
    obtain rfl : i = cn := by omega
    refine y_go rfl rfl ?_
    refine y_go rfl rfl ?_
    refine y_ic_ge rfl (fun _ => ?_) (fun c => absurd c (nI_nlt (a := i) (b := i) (Nat.le_refl _) (by first | decide | omega)))
    exact k _ e_I
  | succ n ih =>
    intro i hi Z e_I
    have hlt : i < cn := by omega
    refine y_go rfl rfl ?_
    refine y_go rfl rfl ?_
    refine y_ic_ge rfl (fun c => absurd (nI_lt (a := i) (b := cn) hlt (by first | decide | omega)) c) (fun _ => ?_)
    refine y_go rfl rfl ?_
    refine y_getG (w := .ref (p + a1)) (j := 0) rfl hl (by omega) (by first | rfl | omega) (up_ne (by omega) g0) rfl rfl ?_
    refine y_go rfl rfl ?_
    refine y_go rfl rfl ?_
    refine y_lastG (z := i) (j := a1) (l := Z) rfl hl (by omega) (by first | rfl | omega) up_eq (xidx_nI (by omega)) (by rw [e_I.1]; omega) ?_
    rw [up_up]
    refine y_go (g' := (27, [.ref p, .int (nI w), .int (nI kc), .int (nI cn), .int (nI (i + 1)), xno, xno], _, _)) rfl (by rw [← nI_1 i]; rfl) ?_
    refine y_go rfl rfl ?_
    exact ih (i + 1) (by omega) (Z.set i 1) (⟨by rw [List.length_set]; exact e_I.1, fun j hj => by
        rw [gdL_set (l := Z) (i := i) (x := 1) (by rw [e_I.1]; omega)]
        by_cases hz : i = j
        · rw [if_pos hz]
        · rw [if_neg hz]; exact e_I.2 j (by omega)⟩)
theorem l_tab2 {S : List Int32} {d : Nat} (hd : 2 ≤ d) {h : xH} {p : Nat} (hl : p + 35 ≤ h.length) (k0 : Nat × Nat) (J : Nat → List Int32) (ct : List Int32) (U : List Int32) (w cn : Nat) (hw : w < 19) (hn : cn ≤ 65) (hJ : (J w).length = 65) (kc : Nat) (hkc : kc ≤ 8) {Q : xR → Prop} (k : ∀ (G : Nat → xC) (X : List Int64), (2 ≤ (kc + 1) ∧ cgX p J ct X U G ∧ ∀ j, j < cn → gdL X j = wy (J w) cn ((kc + 1) - 2) j) → yW S d 3 (56, [.ref p, .int (nI w), .int (nI kc), .int (nI cn), .int (nI (kc + 1)), xno, xno], [], ((put h p (rg 35 G)), k0)) Q) : ∀ (n i : Nat), i + n = (kc + 1) → ∀ (G : Nat → xC) (X : List Int64), (2 ≤ i ∧ cgX p J ct X U G ∧ ∀ j, j < cn → gdL X j = wy (J w) cn (i - 2) j) → yW S d 3 (33, [.ref p, .int (nI w), .int (nI kc), .int (nI cn), .int (nI i), xno, xno], [], ((put h p (rg 35 G)), k0)) Q := by
  intro n
  induction n with
  | zero =>
    intro i hi G X e_I
    obtain rfl : i = (kc + 1) := by omega
    obtain ⟨h2, hC, hwy⟩ := id e_I
    have hG := hC
    obtain ⟨a1, a2, b1, b2, Y, V, M, ha, hb, g0, g1, gJ, gct, gX, gY, lX, lY, gU, gV, lU, lV, g26, gM⟩ := hG
    refine y_go rfl rfl ?_
    refine y_go rfl rfl ?_
    refine y_ic_gt rfl (fun _ => ?_) (fun c => absurd (nI_lt (a := kc) (b := (kc + 1)) (by omega) (by omega)) c)
    exact k _ _ e_I
  | succ n ih =>
    intro i hi G X e_I
    have hlt : i < (kc + 1) := by omega
    obtain ⟨h2, hC, hwy⟩ := id e_I
    have hG := hC
    obtain ⟨a1, a2, b1, b2, Y, V, M, ha, hb, g0, g1, gJ, gct, gX, gY, lX, lY, gU, gV, lU, lV, g26, gM⟩ := hG
    refine y_go rfl rfl ?_
    refine y_go rfl rfl ?_
    refine y_ic_gt rfl (fun c => absurd c (nI_nlt (a := kc) (b := i) (by omega) (by omega))) (fun _ => ?_)
    refine y_go rfl rfl ?_
    refine y_go rfl rfl ?_
    refine y_getG (w := .ref (p + 1)) (j := 0) rfl hl (by omega) (by first | rfl | omega) g0 rfl rfl ?_
    refine y_go rfl rfl ?_
    refine y_aaldG (z := w) (j := 1) rfl hl (by omega) (by first | rfl | omega) g1 (xidx_nI (by omega)) (rows_at (by first | omega | (simp only [List.length_set]; omega))) ?_
    refine y_go rfl rfl ?_
    refine y_V0e rfl (Nat.le_of_ble_eq_true rfl) (Nat.le_of_ble_eq_true rfl) rfl rfl (xrcvG (j := 0) hl (by omega) rfl g0) (s_addWays (by omega) hl k0 J ct X U G hC w cn hw hn hJ) (fun z hz => ?_)
    refine y_go (g' := (53, [.ref p, .int (nI w), .int (nI kc), .int (nI cn), .int (nI (i + 1)), xno, xno], _, _)) rfl (by rw [← nI_1 i]; rfl) ?_
    refine y_go rfl rfl ?_
    exact ih (i + 1) (by omega) z.1 z.2 (⟨by omega, hz.2, fun j hj => by
        rw [hz.1.2 j hj, show i + 1 - 2 = (i - 2) + 1 by omega]
        exact lieTo_congr fun q hq => hwy q hq⟩)
theorem l_tab3 {S : List Int32} {d : Nat} (hd : 1 ≤ d) {h : xH} {p : Nat} (hl : p + 35 ≤ h.length) (k0 : Nat × Nat) (J : Nat → List Int32) (ct : List Int32) (X : List Int64) (U : List Int32) (G : Nat → xC) (a1 a2 b1 b2 : Nat) (Y : List Int64) (V : List Int32) (M : Nat → List Int64) (ha : (a1 = 22 ∧ a2 = 23) ∨ (a1 = 23 ∧ a2 = 22)) (hb : (b1 = 24 ∧ b2 = 25) ∨ (b1 = 25 ∧ b2 = 24)) (g0 : G 0 = cO p a1 a2 b1 b2) (g1 : G 1 = rowsC 6 (p + 2) 19) (gJ : ∀ w, w < 19 → G (2 + w) = intC (J w)) (gct : G 21 = intC ct) (gX : G a1 = lngC X) (gY : G a2 = lngC Y) (lX : X.length = 65) (lY : Y.length = 65) (gU : G b1 = intC U) (gV : G b2 = intC V) (lU : U.length = 65) (lV : V.length = 65) (g26 : G 26 = rowsC 7 (p + 27) 8) (gM : ∀ r, r < 8 → G (27 + r) = lngC (M r) ∧ (M r).length = 65) (w cn : Nat) (hw : w < 19) (hn : cn ≤ 65) (hJ : (J w).length = 65) (kc : Nat) (hkc : kc ≤ 8) {Q : xR → Prop} (k : ∀ (x4 : Int64), (x4 = sumL (gdL X) cn) → yW S d 3 (86, [.ref p, .int (nI w), .int (nI kc), .int (nI cn), .long x4, xno, .int (nI cn)], [], ((put h p (rg 35 G)), k0)) Q) : ∀ (n i : Nat), i + n = cn → ∀ (x4 : Int64), (x4 = sumL (gdL X) i) → yW S d 3 (62, [.ref p, .int (nI w), .int (nI kc), .int (nI cn), .long x4, xno, .int (nI i)], [], ((put h p (rg 35 G)), k0)) Q := by
  intro n
  induction n with
  | zero =>
    intro i hi x4 e_I
    obtain rfl : i = cn := by omega
    refine y_go rfl rfl ?_
    refine y_go rfl rfl ?_
    refine y_ic_ge rfl (fun _ => ?_) (fun c => absurd c (nI_nlt (a := i) (b := i) (Nat.le_refl _) (by first | decide | omega)))
    exact k _ e_I
  | succ n ih =>
    intro i hi x4 e_I
    have hlt : i < cn := by omega
    refine y_go rfl rfl ?_
    refine y_go rfl rfl ?_
    refine y_ic_ge rfl (fun c => absurd (nI_lt (a := i) (b := cn) hlt (by first | decide | omega)) c) (fun _ => ?_)
    refine y_go rfl rfl ?_
    refine y_go rfl rfl ?_
    refine y_getG (w := .ref (p + a1)) (j := 0) rfl hl (by omega) (by first | rfl | omega) g0 rfl rfl ?_
    refine y_go rfl rfl ?_
    refine y_laldG (z := i) (j := a1) (l := X) rfl hl (by omega) (by first | rfl | omega) gX (xidx_nI (by omega)) (xgdL (by first | omega | (simp only [List.length_set]; omega))) ?_
    refine y_go rfl rfl ?_
    refine y_go (g' := (80, [.ref p, .int (nI w), .int (nI kc), .int (nI cn), .long (x4 + (gdL X i)), xno, .int (nI i)], _, _)) rfl rfl ?_
    refine y_go (g' := (83, [.ref p, .int (nI w), .int (nI kc), .int (nI cn), .long (x4 + (gdL X i)), xno, .int (nI (i + 1))], _, _)) rfl (by rw [← nI_1 i]; rfl) ?_
    refine y_go rfl rfl ?_
    exact ih (i + 1) (by omega) _ (by rw [e_I]; rfl)
theorem s_byTable {S : List Int32} {d : Nat} (hd : 3 ≤ d) {h : xH} {p : Nat} (hl : p + 35 ≤ h.length) (k0 : Nat × Nat) (J : Nat → List Int32) (ct : List Int32) (G : Nat → xC) (hG : cg p J ct G) (w cn : Nat) (hw : w < 19) (hn : cn ≤ 65) (hJ : (J w).length = 65) (kc : Nat) (hkc : kc ≤ 8) (hk1 : 1 ≤ kc) (lct : ct.length = 19) (hct : gd ct w = nI cn) : yT S d 3 [.ref p, .int (nI w), .int (nI kc)] ((put h p (rg 35 G)), k0) (fun r => ∃ z : Nat → xC, cg p J ct z ∧ r = (.inl (some (.long (sumL (wy (J w) cn (kc - 1)) cn))), (put h p (rg 35 z), k0))) := by
  obtain ⟨d, rfl⟩ : ∃ e, d = e + 1 := ⟨d - 1, by omega⟩
  obtain ⟨X, U, hC⟩ := hG
  have hG := hC
  obtain ⟨a1, a2, b1, b2, Y, V, M, ha, hb, g0, g1, gJ, gct, gX, gY, lX, lY, gU, gV, lU, lV, g26, gM⟩ := hG
  refine yT_e (Nat.le_of_ble_eq_true rfl) ?_
  show yW S d 3 (0, [.ref p, .int (nI w), .int (nI kc), xno, xno, xno, xno], [], ((put h p (rg 35 G)), k0)) _
  refine y_go rfl rfl ?_
  refine y_getG (w := .ref (p + 21)) (j := 0) rfl hl (by omega) (by first | rfl | omega) g0 rfl rfl ?_
  refine y_go rfl rfl ?_
  refine y_aldG (t := 0) (z := w) (j := 21) (l := ct) rfl (Or.inl ⟨rfl, rfl⟩) hl (by omega) (by first | rfl | omega) gct (xidx_nI (by omega)) (xgd (by first | omega | (simp only [List.length_set]; omega))) ?_
  rw [hct]
  refine y_go (g' := (7, [.ref p, .int (nI w), .int (nI kc), .int (nI cn), xno, xno, xno], _, _)) rfl rfl ?_
  refine y_go rfl rfl ?_
  refine y_go (g' := (10, [.ref p, .int (nI w), .int (nI kc), .int (nI cn), .int 0, xno, xno], _, _)) rfl rfl ?_
  rw [show rg 35 G = rg 35 (up G a1 (lngC X)) from by rw [up_self gX]]
  refine l_tab1 (by omega) hl k0 J ct X U G a1 a2 b1 b2 Y V M ha hb g0 g1 gJ gct gX gY lX lY gU gV lU lV g26 gM w cn hw hn hJ kc hkc (fun Z e_Z => ?_) cn 0 (by omega) _ ⟨lX, fun j hj => absurd hj (by omega)⟩
  clear hC
  have hC : cgX p J ct Z U (up G a1 (lngC Z)) := ⟨a1, a2, b1, b2, Y, V, M, ha, hb, up_ne (by omega) g0, up_ne (by omega) g1, fun w hw => up_ne (by omega) (gJ w hw), up_ne (by omega) gct, up_eq, up_ne (by omega) gY, e_Z.1, lY, up_ne (by omega) gU, up_ne (by omega) gV, lU, lV, up_ne (by omega) g26, fun r hr => ⟨up_ne (by omega) (gM r hr).1, (gM r hr).2⟩⟩
  refine y_go rfl rfl ?_
  refine y_go (g' := (33, [.ref p, .int (nI w), .int (nI kc), .int (nI cn), .int 2, xno, xno], _, _)) rfl rfl ?_
  refine l_tab2 (by omega) hl k0 J ct U w cn hw hn hJ kc hkc (fun G X e_I => ?_) (kc - 1) 2 (by omega) _ _ ⟨Nat.le_refl _, hC, fun j hj => e_Z.2 j hj⟩
  obtain ⟨h2, hC, hwy⟩ := e_I
  have hG := hC
  obtain ⟨a1, a2, b1, b2, Y, V, M, ha, hb, g0, g1, gJ, gct, gX, gY, lX, lY, gU, gV, lU, lV, g26, gM⟩ := hG
  refine y_go rfl rfl ?_
  refine y_go (g' := (59, [.ref p, .int (nI w), .int (nI kc), .int (nI cn), .long 0, xno, xno], _, _)) rfl rfl ?_
  refine y_go rfl rfl ?_
  refine y_go (g' := (62, [.ref p, .int (nI w), .int (nI kc), .int (nI cn), .long 0, xno, .int 0], _, _)) rfl rfl ?_
  refine l_tab3 (by omega) hl k0 J ct X U G a1 a2 b1 b2 Y V M ha hb g0 g1 gJ gct gX gY lX lY gU gV lU lV g26 gM w cn hw hn hJ kc hkc (fun x4 e_I => ?_) cn 0 (by omega) _ rfl
  refine y_go rfl rfl ?_
  exact y_end rfl rfl ⟨G, ⟨_, _, hC⟩, by rw [e_I, sumL_congr hwy]; rfl⟩
