/-! COURSES: the number of walls by the memory. -/
/-- as cgX, the rows 1 .. kc - 1 of the memory being unknown or right -/
def cgM (p : Nat) (J : Nat → List Int32) (ct : List Int32) (L : List Int32) (n kc : Nat) (G : Nat → xC) : Prop :=
  ∃ (X : List Int64) (U : List Int32) (a1 a2 b1 b2 : Nat) (Y : List Int64) (V : List Int32) (M : Nat → List Int64), ((a1 = 22 ∧ a2 = 23) ∨ (a1 = 23 ∧ a2 = 22)) ∧ ((b1 = 24 ∧ b2 = 25) ∨ (b1 = 25 ∧ b2 = 24)) ∧ G 0 = cO p a1 a2 b1 b2 ∧ G 1 = rowsC 6 (p + 2) 19 ∧ (∀ w, w < 19 → G (2 + w) = intC (J w)) ∧ G 21 = intC ct ∧
    G a1 = lngC X ∧ G a2 = lngC Y ∧ X.length = 65 ∧ Y.length = 65 ∧ G b1 = intC U ∧ G b2 = intC V ∧ U.length = 65 ∧ V.length = 65 ∧ G 26 = rowsC 7 (p + 27) 8 ∧ (∀ r, r < 8 → G (27 + r) = lngC (M r) ∧ (M r).length = 65) ∧ ∀ r j, 1 ≤ r → r < kc → j < n → gdL (M r) j = -1 ∨ gdL (M r) j = wy L n r j
theorem cgM_cg {p : Nat} {J : Nat → List Int32} {ct : List Int32} {L : List Int32} {n kc : Nat} {G : Nat → xC} (hG : cgM p J ct L n kc G) : cg p J ct G := by
  obtain ⟨X, U, a1, a2, b1, b2, Y, V, M, ha, hb, g0, g1, gJ, gct, gX, gY, lX, lY, gU, gV, lU, lV, g26, gM, hmem⟩ := hG
  exact ⟨X, U, a1, a2, b1, b2, Y, V, M, ha, hb, g0, g1, gJ, gct, gX, gY, lX, lY, gU, gV, lU, lV, g26, gM⟩
theorem lg0 {x : Int64} (h : ¬ lg_cmp x (-1) = 0) : ¬ x = -1 := fun q => h (by subst q; decide)
theorem l_above {S : List Int32} {d : Nat} (hd : 1 ≤ d) {h : xH} {p : Nat} (hl : p + 35 ≤ h.length) (k0 : Nat × Nat) (J : Nat → List Int32) (ct : List Int32) (w cn : Nat) (hw : w < 19) (hn : cn ≤ 65) (hJ : (J w).length = 65) (kc : Nat) (hkc : kc ≤ 8) (k1 : Nat) (hk1 : k1 + 1 < kc) (ihk : ∀ (u : Nat), u < cn → ∀ (G : Nat → xC), cgM p J ct (J w) cn kc G → yT S d 6 [.ref (p + 2 + w), .int (nI cn), .int (nI u), .int (nI k1), .ref (p + 26)] (put h p (rg 35 G), k0) (fun r => ∃ z : Nat → xC, cgM p J ct (J w) cn kc z ∧ r = (.inl (some (.long (wy (J w) cn k1 u))), (put h p (rg 35 z), k0)))) (u : Nat) (hu : u < cn) {Q : xR → Prop} (k : ∀ (G : Nat → xC) (x5 : Int64), (cgM p J ct (J w) cn kc G ∧ x5 = lieTo (J w) (wy (J w) cn k1) u cn) → yW S d 6 (73, [.ref (p + 2 + w), .int (nI cn), .int (nI u), .int (nI (k1 + 1)), .ref (p + 26), .long x5, xno, .int (nI cn)], [], ((put h p (rg 35 G)), k0)) Q) : ∀ (n i : Nat), i + n = cn → ∀ (G : Nat → xC) (x5 : Int64), (cgM p J ct (J w) cn kc G ∧ x5 = lieTo (J w) (wy (J w) cn k1) u i) → yW S d 6 (31, [.ref (p + 2 + w), .int (nI cn), .int (nI u), .int (nI (k1 + 1)), .ref (p + 26), .long x5, xno, .int (nI i)], [], ((put h p (rg 35 G)), k0)) Q := by
  intro n
  induction n with
  | zero =>
    intro i hi G x5 e_I
    obtain rfl : i = cn := by omega
    obtain ⟨hC, e_J⟩ := id e_I
    have hG := hC
    obtain ⟨X, U, a1, a2, b1, b2, Y, V, M, ha, hb, g0, g1, gJ, gct, gX, gY, lX, lY, gU, gV, lU, lV, g26, gM, hmem⟩ := hG
    refine y_go rfl rfl ?_
    refine y_go rfl rfl ?_
    refine y_ic_ge rfl (fun _ => ?_) (fun c => absurd c (nI_nlt (a := i) (b := i) (Nat.le_refl _) (by first | decide | omega)))
    exact k _ _ e_I
  | succ n ih =>
    intro i hi G x5 e_I
    have hlt : i < cn := by omega
    obtain ⟨hC, e_J⟩ := id e_I
    have hG := hC
    obtain ⟨X, U, a1, a2, b1, b2, Y, V, M, ha, hb, g0, g1, gJ, gct, gX, gY, lX, lY, gU, gV, lU, lV, g26, gM, hmem⟩ := hG
    refine y_go rfl rfl ?_
    refine y_go rfl rfl ?_
    refine y_ic_ge rfl (fun c => absurd (nI_lt (a := i) (b := cn) hlt (by first | decide | omega)) c) (fun _ => ?_)
    refine y_go rfl rfl ?_
    refine y_go rfl rfl ?_
    refine y_aldG (t := 0) (z := i) (j := (2 + w)) (l := (J w)) rfl (Or.inl ⟨rfl, rfl⟩) hl (by omega) (by first | rfl | omega) (gJ w hw) (xidx_nI (by omega)) (xgd (by first | omega | (simp only [List.length_set]; omega))) ?_
    refine y_go rfl rfl ?_
    refine y_go rfl rfl ?_
    refine y_aldG (t := 0) (z := u) (j := (2 + w)) (l := (J w)) rfl (Or.inl ⟨rfl, rfl⟩) hl (by omega) (by first | rfl | omega) (gJ w hw) (xidx_nI (by omega)) (xgd (by first | omega | (simp only [List.length_set]; omega))) ?_
    refine y_S1 rfl rfl (Nat.le_of_ble_eq_true rfl) (Nat.le_of_ble_eq_true rfl) rfl rfl (s_canLie (by omega) _ _ _) ?_
    refine y_if_eq rfl (fun c47 => ?_) (fun c47 => ?_)
    · replace c47 : ¬ ((gd (J w) i) &&& (gd (J w) u) = 0) := xi_a c47
      refine y_go (g' := (70, [.ref (p + 2 + w), .int (nI cn), .int (nI u), .int (nI (k1 + 1)), .ref (p + 26), .long x5, xno, .int (nI (i + 1))], _, _)) rfl (by rw [← nI_1 i]; rfl) ?_
      refine y_go rfl rfl ?_
      exact ih (i + 1) (by omega) G _ (⟨hC, by
        have c := c47
        rw [Int32.and_comm] at c
        simp only [lieTo]; rw [if_neg c, e_J]⟩)
    · replace c47 : (gd (J w) i) &&& (gd (J w) u) = 0 := xi_b c47
      refine y_go rfl rfl ?_
      refine y_go rfl rfl ?_
      refine y_go rfl rfl ?_
      refine y_go rfl rfl ?_
      refine y_go rfl rfl ?_
      refine y_go rfl rfl ?_
      refine y_go rfl rfl ?_
      refine y_go rfl rfl ?_
      rw [show nI (k1 + 1) - 1 = nI k1 from nI_sub (a := k1 + 1) (b := 1) (by omega)]
      refine y_S1e rfl rfl (Nat.le_of_ble_eq_true rfl) (Nat.le_of_ble_eq_true rfl) rfl rfl (ihk i hlt G hC) (fun z hz => ?_)
      refine y_go rfl rfl ?_
      refine y_go (g' := (67, [.ref (p + 2 + w), .int (nI cn), .int (nI u), .int (nI (k1 + 1)), .ref (p + 26), .long (x5 + (wy (J w) cn k1 i)), xno, .int (nI i)], _, _)) rfl rfl ?_
      refine y_go (g' := (70, [.ref (p + 2 + w), .int (nI cn), .int (nI u), .int (nI (k1 + 1)), .ref (p + 26), .long (x5 + (wy (J w) cn k1 i)), xno, .int (nI (i + 1))], _, _)) rfl (by rw [← nI_1 i]; rfl) ?_
      refine y_go rfl rfl ?_
      exact ih (i + 1) (by omega) z _ (⟨hz, by
        have c := c47
        rw [Int32.and_comm] at c
        simp only [lieTo]; rw [if_pos c, e_J]⟩)
theorem s_above {S : List Int32} {h : xH} {p : Nat} (hl : p + 35 ≤ h.length) (k0 : Nat × Nat) (J : Nat → List Int32) (ct : List Int32) (w cn : Nat) (hw : w < 19) (hn : cn ≤ 65) (hJ : (J w).length = 65) (kc : Nat) (hkc : kc ≤ 8) : ∀ (k : Nat), k < kc → ∀ {d : Nat} (hd : k + 2 ≤ d) (u : Nat) (hu : u < cn) (G : Nat → xC) (hC : cgM p J ct (J w) cn kc G), yT S d 6 [.ref (p + 2 + w), .int (nI cn), .int (nI u), .int (nI k), .ref (p + 26)] (put h p (rg 35 G), k0) (fun r => ∃ z : Nat → xC, cgM p J ct (J w) cn kc z ∧ r = (.inl (some (.long (wy (J w) cn k u))), (put h p (rg 35 z), k0))) := by
  intro k
  induction k with
  | zero =>
    intro hk d hd u hu G hC
    obtain ⟨d, rfl⟩ : ∃ e, d = e + 1 := ⟨d - 1, by omega⟩
    refine yT_e (Nat.le_of_ble_eq_true rfl) ?_
    show yW S d 6 (0, [.ref (p + 2 + w), .int (nI cn), .int (nI u), .int (nI 0), .ref (p + 26), xno, xno, xno], [], ((put h p (rg 35 G)), k0)) _
    refine y_go rfl rfl ?_
    refine y_if_le rfl (fun _ => ?_) (fun c => absurd c (by decide))
    refine y_go rfl rfl ?_
    exact y_end rfl rfl ⟨G, hC, rfl⟩
  | succ k1 ih =>
    intro hk d hd u hu G hC
    obtain ⟨d, rfl⟩ : ∃ e, d = e + 1 := ⟨d - 1, by omega⟩
    have hG := hC
    obtain ⟨X, U, a1, a2, b1, b2, Y, V, M, ha, hb, g0, g1, gJ, gct, gX, gY, lX, lY, gU, gV, lU, lV, g26, gM, hmem⟩ := hG
    refine yT_e (Nat.le_of_ble_eq_true rfl) ?_
    show yW S d 6 (0, [.ref (p + 2 + w), .int (nI cn), .int (nI u), .int (nI (k1 + 1)), .ref (p + 26), xno, xno, xno], [], ((put h p (rg 35 G)), k0)) _
    refine y_go rfl rfl ?_
    refine y_if_le rfl (fun c => absurd (nI_lt (a := 0) (by omega) (by omega)) c) (fun _ => ?_)
    refine y_go rfl rfl ?_
    refine y_go rfl rfl ?_
    refine y_ic_lt rfl (fun _ => ?_) (fun c => absurd (nI_lt (a := k1 + 1) (b := 8) (by omega) (by decide)) c)
    refine y_go rfl rfl ?_
    refine y_go rfl rfl ?_
    refine y_aaldG (z := (k1 + 1)) (j := 26) rfl hl (by omega) (by first | rfl | omega) g26 (xidx_nI (by omega)) (rows_at (by first | omega | (simp only [List.length_set]; omega))) ?_
    refine y_go rfl rfl ?_
    refine y_laldG (z := u) (j := (27 + (k1 + 1))) (l := (M (k1 + 1))) rfl hl (by omega) (by first | rfl | omega) (gM (k1 + 1) (by omega)).1 (xidx_nI (by omega)) (xgdL (by rw [(gM (k1 + 1) (by omega)).2]; omega)) ?_
    refine y_go rfl rfl ?_
    refine y_go rfl rfl ?_
    refine y_if_ne rfl (fun c22 => ?_) (fun c22 => ?_)
    · refine y_go rfl rfl ?_
      refine y_go rfl rfl ?_
      refine y_aaldG (z := (k1 + 1)) (j := 26) rfl hl (by omega) (by first | rfl | omega) g26 (xidx_nI (by omega)) (rows_at (by first | omega | (simp only [List.length_set]; omega))) ?_
      refine y_go rfl rfl ?_
      refine y_laldG (z := u) (j := (27 + (k1 + 1))) (l := (M (k1 + 1))) rfl hl (by omega) (by first | rfl | omega) (gM (k1 + 1) (by omega)).1 (xidx_nI (by omega)) (xgdL (by rw [(gM (k1 + 1) (by omega)).2]; omega)) ?_
      exact y_end rfl rfl ⟨G, hC, by rw [(hmem (k1 + 1) u (by omega) hk hu).resolve_left (lg0 c22)]⟩
    · refine y_go rfl rfl ?_
      refine y_go (g' := (28, [.ref (p + 2 + w), .int (nI cn), .int (nI u), .int (nI (k1 + 1)), .ref (p + 26), .long 0, xno, xno], _, _)) rfl rfl ?_
      refine y_go rfl rfl ?_
      refine y_go (g' := (31, [.ref (p + 2 + w), .int (nI cn), .int (nI u), .int (nI (k1 + 1)), .ref (p + 26), .long 0, xno, .int 0], _, _)) rfl rfl ?_
      refine l_above (by omega) hl k0 J ct w cn hw hn hJ kc hkc k1 (by omega) (fun u hu G hC => ih (by omega) (by omega) u hu G hC) u hu (fun G x5 e_I => ?_) cn 0 (by omega) _ _ ⟨hC, rfl⟩
      obtain ⟨hC, e_J⟩ := e_I
      have hG := hC
      obtain ⟨X, U, a1, a2, b1, b2, Y, V, M, ha, hb, g0, g1, gJ, gct, gX, gY, lX, lY, gU, gV, lU, lV, g26, gM, hmem⟩ := hG
      have lZ : ((M (k1 + 1)).set u x5).length = 65 := by rw [List.length_set]; exact (gM (k1 + 1) (by omega)).2
      have hF : cgM p J ct (J w) cn kc (up G (27 + (k1 + 1)) (lngC ((M (k1 + 1)).set u x5))) := by
        refine ⟨X, U, a1, a2, b1, b2, Y, V, up M (k1 + 1) ((M (k1 + 1)).set u x5), ha, hb, up_ne (by omega) g0, up_ne (by omega) g1, fun w hw => up_ne (by omega) (gJ w hw), up_ne (by omega) gct, up_ne (by omega) gX, up_ne (by omega) gY, lX, lY, up_ne (by omega) gU, up_ne (by omega) gV, lU, lV, up_ne (by omega) g26, fun r hr => ?_, ?_⟩
        · by_cases hz : r = (k1 + 1)
          · subst hz; exact ⟨up_eq.trans (congrArg lngC up_eq.symm), (congrArg List.length up_eq).trans lZ⟩
          · exact ⟨(up_ne (by omega) (gM r hr).1).trans (congrArg lngC (up_ne hz rfl).symm), (congrArg List.length (up_ne hz rfl)).trans (gM r hr).2⟩
        · intro r j h1 h2 h3
          by_cases hz : r = (k1 + 1)
          · have h9 : up M (k1 + 1) ((M (k1 + 1)).set u x5) r = ((M (k1 + 1)).set u x5) := by rw [hz]; exact up_eq
            rw [h9, hz]
            rw [gdL_set (by rw [(gM (k1 + 1) (by omega)).2]; omega)]
            by_cases hy : u = j
            · rw [if_pos hy, e_J, hy]; exact Or.inr rfl
            · rw [if_neg hy]; exact hmem (k1 + 1) j (by omega) (by omega) h3
          · rw [show up M (k1 + 1) ((M (k1 + 1)).set u x5) r = M r from up_ne hz rfl]
            exact hmem r j h1 (by omega) h3
      refine y_go rfl rfl ?_
      refine y_go rfl rfl ?_
      refine y_aaldG (z := (k1 + 1)) (j := 26) rfl hl (by omega) (by first | rfl | omega) g26 (xidx_nI (by omega)) (rows_at (by first | omega | (simp only [List.length_set]; omega))) ?_
      refine y_go rfl rfl ?_
      refine y_go rfl rfl ?_
      refine y_lastG (z := u) (j := (27 + (k1 + 1))) (l := (M (k1 + 1))) rfl hl (by omega) (by first | rfl | omega) (gM (k1 + 1) (by omega)).1 (xidx_nI (by omega)) (by rw [(gM (k1 + 1) (by omega)).2]; omega) ?_
      refine y_go rfl rfl ?_
      refine y_go rfl rfl ?_
      refine y_aaldG (z := (k1 + 1)) (j := 26) rfl hl (by omega) (by first | rfl | omega) (up_ne (by omega) g26) (xidx_nI (by omega)) (rows_at (by first | omega | (simp only [List.length_set]; omega))) ?_
      refine y_go rfl rfl ?_
      refine y_laldG (z := u) (j := (27 + (k1 + 1))) (l := ((M (k1 + 1)).set u x5)) rfl hl (by omega) (by first | rfl | omega) up_eq (xidx_nI (by omega)) (xgdL (by rw [List.length_set, (gM (k1 + 1) (by omega)).2]; omega)) ?_
      exact y_end rfl rfl ⟨_, hF, by rw [gdL_set (by rw [(gM (k1 + 1) (by omega)).2]; omega), if_pos rfl, e_J]; rfl⟩
theorem l_mem1 {S : List Int32} {d : Nat} (hd : 1 ≤ d) {h : xH} {p : Nat} (hl : p + 35 ≤ h.length) (k0 : Nat × Nat) (J : Nat → List Int32) (ct : List Int32) (X : List Int64) (U : List Int32) (G : Nat → xC) (a1 a2 b1 b2 : Nat) (Y : List Int64) (V : List Int32) (M : Nat → List Int64) (ha : (a1 = 22 ∧ a2 = 23) ∨ (a1 = 23 ∧ a2 = 22)) (hb : (b1 = 24 ∧ b2 = 25) ∨ (b1 = 25 ∧ b2 = 24)) (g0 : G 0 = cO p a1 a2 b1 b2) (g1 : G 1 = rowsC 6 (p + 2) 19) (gJ : ∀ w, w < 19 → G (2 + w) = intC (J w)) (gct : G 21 = intC ct) (gX : G a1 = lngC X) (gY : G a2 = lngC Y) (lX : X.length = 65) (lY : Y.length = 65) (gU : G b1 = intC U) (gV : G b2 = intC V) (lU : U.length = 65) (lV : V.length = 65) (g26 : G 26 = rowsC 7 (p + 27) 8) (gM : ∀ r, r < 8 → G (27 + r) = lngC (M r) ∧ (M r).length = 65) (w cn : Nat) (hw : w < 19) (hn : cn ≤ 65) (hJ : (J w).length = 65) (kc : Nat) (hkc : kc ≤ 8) (r : Nat) (hr : r < kc) {Q : xR → Prop} (k : ∀ (Z : List Int64), (Z.length = 65 ∧ ∀ j, j < cn → gdL Z j = -1) → yW S d 5 (44, [.ref p, .int (nI w), .int (nI kc), .int (nI cn), .int (nI r), .int (nI cn), xno], [], ((put h p (rg 35 (up G (27 + r) (.inr (.inr (.inl (3, Z))))))), k0)) Q) : ∀ (n i : Nat), i + n = cn → ∀ (Z : List Int64), (Z.length = 65 ∧ ∀ j, j < i → gdL Z j = -1) → yW S d 5 (19, [.ref p, .int (nI w), .int (nI kc), .int (nI cn), .int (nI r), .int (nI i), xno], [], ((put h p (rg 35 (up G (27 + r) (.inr (.inr (.inl (3, Z))))))), k0)) Q := by
  intro n
  induction n with
  | zero =>
    intro i hi Z e_I
    obtain rfl : i = cn := by omega
    refine y_go rfl rfl ?_
    refine y_go rfl rfl ?_
    refine y_ic_ge rfl (fun _ => ?_) (fun c => absurd c (nI_nlt (a := i) (b := i) (Nat.le_refl _) (by first | decide | omega)))
    exact k _ e_I
  | succ n ih =>
    intro i hi Z e_I
    have hlt : i < cn := by omega
    refine y_go rfl rfl ?_
    refine y_go rfl rfl ?_
    refine y_ic_ge rfl (fun c => absurd (nI_lt (a := i) (b := cn) hlt (by first | decide | omega)) c) (fun _ => ?_)
    refine y_go rfl rfl ?_
    refine y_getG (w := .ref (p + 26)) (j := 0) rfl hl (by omega) (by first | rfl | omega) (up_ne (by omega) g0) rfl rfl ?_
    refine y_go rfl rfl ?_
    refine y_aaldG (z := r) (j := 26) rfl hl (by omega) (by first | rfl | omega) (up_ne (by omega) g26) (xidx_nI (by omega)) (rows_at (by first | omega | (simp only [List.length_set]; omega))) ?_
    refine y_go rfl rfl ?_
    refine y_go rfl rfl ?_
    refine y_lastG (z := i) (j := (27 + r)) (l := Z) rfl hl (by omega) (by first | rfl | omega) up_eq (xidx_nI (by omega)) (by rw [e_I.1]; omega) ?_
    rw [up_up]
    refine y_go (g' := (41, [.ref p, .int (nI w), .int (nI kc), .int (nI cn), .int (nI r), .int (nI (i + 1)), xno], _, _)) rfl (by rw [← nI_1 i]; rfl) ?_
    refine y_go rfl rfl ?_
    exact ih (i + 1) (by omega) (Z.set i (-1)) (⟨by rw [List.length_set]; exact e_I.1, fun j hj => by
        rw [gdL_set (l := Z) (i := i) (x := -1) (by rw [e_I.1]; omega)]
        by_cases hz : i = j
        · rw [if_pos hz]
        · rw [if_neg hz]; exact e_I.2 j (by omega)⟩)
theorem l_mem2 {S : List Int32} {d : Nat} (hd : 1 ≤ d) {h : xH} {p : Nat} (hl : p + 35 ≤ h.length) (k0 : Nat × Nat) (J : Nat → List Int32) (ct : List Int32) (w cn : Nat) (hw : w < 19) (hn : cn ≤ 65) (hJ : (J w).length = 65) (kc : Nat) (hkc : kc ≤ 8) {Q : xR → Prop} (k : ∀ (x5 : Value) (G : Nat → xC), (1 ≤ kc ∧ cgM p J ct (J w) cn kc G) → yW S d 5 (50, [.ref p, .int (nI w), .int (nI kc), .int (nI cn), .int (nI kc), x5, xno], [], ((put h p (rg 35 G)), k0)) Q) : ∀ (n i : Nat), i + n = kc → ∀ (x5 : Value) (G : Nat → xC), (1 ≤ i ∧ cgM p J ct (J w) cn i G) → yW S d 5 (10, [.ref p, .int (nI w), .int (nI kc), .int (nI cn), .int (nI i), x5, xno], [], ((put h p (rg 35 G)), k0)) Q := by
  intro n
  induction n with
  | zero =>
    intro i hi x5 G e_I
    obtain rfl : i = kc := by omega
    obtain ⟨h2, hC⟩ := id e_I
    have hG := hC
    obtain ⟨X, U, a1, a2, b1, b2, Y, V, M, ha, hb, g0, g1, gJ, gct, gX, gY, lX, lY, gU, gV, lU, lV, g26, gM, hmem⟩ := hG
    refine y_go rfl rfl ?_
    refine y_go rfl rfl ?_
    refine y_ic_ge rfl (fun _ => ?_) (fun c => absurd c (nI_nlt (a := i) (b := i) (Nat.le_refl _) (by first | decide | omega)))
    exact k _ _ e_I
  | succ n ih =>
    intro i hi x5 G e_I
    have hlt : i < kc := by omega
    obtain ⟨h2, hC⟩ := id e_I
    have hG := hC
    obtain ⟨X, U, a1, a2, b1, b2, Y, V, M, ha, hb, g0, g1, gJ, gct, gX, gY, lX, lY, gU, gV, lU, lV, g26, gM, hmem⟩ := hG
    refine y_go rfl rfl ?_
    refine y_go rfl rfl ?_
    refine y_ic_ge rfl (fun c => absurd (nI_lt (a := i) (b := kc) hlt (by first | decide | omega)) c) (fun _ => ?_)
    refine y_go rfl rfl ?_
    refine y_go (g' := (19, [.ref p, .int (nI w), .int (nI kc), .int (nI cn), .int (nI i), .int 0, xno], _, _)) rfl rfl ?_
    rw [show rg 35 G = rg 35 (up G (27 + i) (lngC (M i))) from by rw [up_self (gM i (by omega)).1]]
    refine l_mem1 (by omega) hl k0 J ct X U G a1 a2 b1 b2 Y V M ha hb g0 g1 gJ gct gX gY lX lY gU gV lU lV g26 gM w cn hw hn hJ kc hkc i hlt (fun Z e_Z => ?_) cn 0 (by omega) _ ⟨(gM i (by omega)).2, fun j hj => absurd hj (by omega)⟩
    have lZ := e_Z.1
    have hF : cgM p J ct (J w) cn (i + 1) (up G (27 + i) (lngC Z)) := by
      refine ⟨X, U, a1, a2, b1, b2, Y, V, up M i Z, ha, hb, up_ne (by omega) g0, up_ne (by omega) g1, fun w hw => up_ne (by omega) (gJ w hw), up_ne (by omega) gct, up_ne (by omega) gX, up_ne (by omega) gY, lX, lY, up_ne (by omega) gU, up_ne (by omega) gV, lU, lV, up_ne (by omega) g26, fun r hr => ?_, ?_⟩
      · by_cases hz : r = i
        · subst hz; exact ⟨up_eq.trans (congrArg lngC up_eq.symm), (congrArg List.length up_eq).trans lZ⟩
        · exact ⟨(up_ne (by omega) (gM r hr).1).trans (congrArg lngC (up_ne hz rfl).symm), (congrArg List.length (up_ne hz rfl)).trans (gM r hr).2⟩
      · intro r j h1 h2 h3
        by_cases hz : r = i
        · have h9 : up M i Z r = Z := by rw [hz]; exact up_eq
          rw [h9, hz]
          exact Or.inl (e_Z.2 j h3)
        · rw [show up M i Z r = M r from up_ne hz rfl]
          exact hmem r j h1 (by omega) h3
    refine y_go (g' := (47, [.ref p, .int (nI w), .int (nI kc), .int (nI cn), .int (nI (i + 1)), .int (nI cn), xno], _, _)) rfl (by rw [← nI_1 i]; rfl) ?_
    refine y_go rfl rfl ?_
    exact ih (i + 1) (by omega) _ (up G (27 + i) (lngC Z)) (⟨by omega, hF⟩)
theorem l_mem3 {S : List Int32} {d : Nat} (hd : 10 ≤ d) {h : xH} {p : Nat} (hl : p + 35 ≤ h.length) (k0 : Nat × Nat) (J : Nat → List Int32) (ct : List Int32) (w cn : Nat) (hw : w < 19) (hn : cn ≤ 65) (hJ : (J w).length = 65) (kc : Nat) (hkc : kc ≤ 8) (hk1 : 1 ≤ kc) {Q : xR → Prop} (k : ∀ (G : Nat → xC) (x4 : Int64), (cgM p J ct (J w) cn kc G ∧ x4 = sumL (wy (J w) cn (kc - 1)) cn) → yW S d 5 (92, [.ref p, .int (nI w), .int (nI kc), .int (nI cn), .long x4, xno, .int (nI cn)], [], ((put h p (rg 35 G)), k0)) Q) : ∀ (n i : Nat), i + n = cn → ∀ (G : Nat → xC) (x4 : Int64), (cgM p J ct (J w) cn kc G ∧ x4 = sumL (wy (J w) cn (kc - 1)) i) → yW S d 5 (56, [.ref p, .int (nI w), .int (nI kc), .int (nI cn), .long x4, xno, .int (nI i)], [], ((put h p (rg 35 G)), k0)) Q := by
  intro n
  induction n with
  | zero =>
    intro i hi G x4 e_I
    obtain rfl : i = cn := by omega
    obtain ⟨hC, e_J⟩ := id e_I
    have hG := hC
    obtain ⟨X, U, a1, a2, b1, b2, Y, V, M, ha, hb, g0, g1, gJ, gct, gX, gY, lX, lY, gU, gV, lU, lV, g26, gM, hmem⟩ := hG
    refine y_go rfl rfl ?_
    refine y_go rfl rfl ?_
    refine y_ic_ge rfl (fun _ => ?_) (fun c => absurd c (nI_nlt (a := i) (b := i) (Nat.le_refl _) (by first | decide | omega)))
    exact k _ _ e_I
  | succ n ih =>
    intro i hi G x4 e_I
    have hlt : i < cn := by omega
    obtain ⟨hC, e_J⟩ := id e_I
    have hG := hC
    obtain ⟨X, U, a1, a2, b1, b2, Y, V, M, ha, hb, g0, g1, gJ, gct, gX, gY, lX, lY, gU, gV, lU, lV, g26, gM, hmem⟩ := hG
    refine y_go rfl rfl ?_
    refine y_go rfl rfl ?_
    refine y_ic_ge rfl (fun c => absurd (nI_lt (a := i) (b := cn) hlt (by first | decide | omega)) c) (fun _ => ?_)
    refine y_go rfl rfl ?_
    refine y_go rfl rfl ?_
    refine y_getG (w := .ref (p + 1)) (j := 0) rfl hl (by omega) (by first | rfl | omega) g0 rfl rfl ?_
    refine y_go rfl rfl ?_
    refine y_aaldG (z := w) (j := 1) rfl hl (by omega) (by first | rfl | omega) g1 (xidx_nI (by omega)) (rows_at (by first | omega | (simp only [List.length_set]; omega))) ?_
    refine y_go rfl rfl ?_
    refine y_go rfl rfl ?_
    refine y_go rfl rfl ?_
    refine y_go rfl rfl ?_
    refine y_go rfl rfl ?_
    refine y_go rfl rfl ?_
    refine y_getG (w := .ref (p + 26)) (j := 0) rfl hl (by omega) (by first | rfl | omega) g0 rfl rfl ?_
    rw [show nI kc - 1 = nI (kc - 1) from nI_sub (a := kc) (b := 1) hk1]
    refine y_S1e rfl rfl (Nat.le_of_ble_eq_true rfl) (Nat.le_of_ble_eq_true rfl) rfl rfl (s_above hl k0 J ct w cn hw hn hJ kc hkc (kc - 1) (by omega) (by omega) i hlt G hC) (fun z hz => ?_)
    refine y_go rfl rfl ?_
    refine y_go (g' := (86, [.ref p, .int (nI w), .int (nI kc), .int (nI cn), .long (x4 + (wy (J w) cn (kc - 1) i)), xno, .int (nI i)], _, _)) rfl rfl ?_
    refine y_go (g' := (89, [.ref p, .int (nI w), .int (nI kc), .int (nI cn), .long (x4 + (wy (J w) cn (kc - 1) i)), xno, .int (nI (i + 1))], _, _)) rfl (by rw [← nI_1 i]; rfl) ?_
    refine y_go rfl rfl ?_
    exact ih (i + 1) (by omega) z _ (⟨hz, by rw [e_J]; rfl⟩)
theorem s_byMemory {S : List Int32} {d : Nat} (hd : 11 ≤ d) {h : xH} {p : Nat} (hl : p + 35 ≤ h.length) (k0 : Nat × Nat) (J : Nat → List Int32) (ct : List Int32) (G : Nat → xC) (hG : cg p J ct G) (w cn : Nat) (hw : w < 19) (hn : cn ≤ 65) (hJ : (J w).length = 65) (kc : Nat) (hkc : kc ≤ 8) (hk1 : 1 ≤ kc) (lct : ct.length = 19) (hct : gd ct w = nI cn) : yT S d 5 [.ref p, .int (nI w), .int (nI kc)] ((put h p (rg 35 G)), k0) (fun r => ∃ z : Nat → xC, cg p J ct z ∧ r = (.inl (some (.long (sumL (wy (J w) cn (kc - 1)) cn))), (put h p (rg 35 z), k0))) := by
  obtain ⟨d, rfl⟩ : ∃ e, d = e + 1 := ⟨d - 1, by omega⟩
  obtain ⟨X, U, hC⟩ := hG
  have hG := hC
  obtain ⟨a1, a2, b1, b2, Y, V, M, ha, hb, g0, g1, gJ, gct, gX, gY, lX, lY, gU, gV, lU, lV, g26, gM⟩ := hG
  have hM : cgM p J ct (J w) cn 1 G := ⟨X, U, a1, a2, b1, b2, Y, V, M, ha, hb, g0, g1, gJ, gct, gX, gY, lX, lY, gU, gV, lU, lV, g26, gM, fun r j h1 h2 => absurd h1 (by omega)⟩
  refine yT_e (Nat.le_of_ble_eq_true rfl) ?_
  show yW S d 5 (0, [.ref p, .int (nI w), .int (nI kc), xno, xno, xno, xno], [], ((put h p (rg 35 G)), k0)) _
  refine y_go rfl rfl ?_
  refine y_getG (w := .ref (p + 21)) (j := 0) rfl hl (by omega) (by first | rfl | omega) g0 rfl rfl ?_
  refine y_go rfl rfl ?_
  refine y_aldG (t := 0) (z := w) (j := 21) (l := ct) rfl (Or.inl ⟨rfl, rfl⟩) hl (by omega) (by first | rfl | omega) gct (xidx_nI (by omega)) (xgd (by first | omega | (simp only [List.length_set]; omega))) ?_
  rw [hct]
  refine y_go (g' := (7, [.ref p, .int (nI w), .int (nI kc), .int (nI cn), xno, xno, xno], _, _)) rfl rfl ?_
  refine y_go rfl rfl ?_
  refine y_go (g' := (10, [.ref p, .int (nI w), .int (nI kc), .int (nI cn), .int 1, xno, xno], _, _)) rfl rfl ?_
  refine l_mem2 (by omega) hl k0 J ct w cn hw hn hJ kc hkc (fun x5 G e_I => ?_) (kc - 1) 1 (by omega) _ _ ⟨Nat.le_refl _, hM⟩
  obtain ⟨h2, hC⟩ := e_I
  refine y_go rfl rfl ?_
  refine y_go (g' := (53, [.ref p, .int (nI w), .int (nI kc), .int (nI cn), .long 0, xno, xno], _, _)) rfl rfl ?_
  refine y_go rfl rfl ?_
  refine y_go (g' := (56, [.ref p, .int (nI w), .int (nI kc), .int (nI cn), .long 0, xno, .int 0], _, _)) rfl rfl ?_
  refine l_mem3 (by omega) hl k0 J ct w cn hw hn hJ kc hkc hk1 (fun G x4 e_I => ?_) cn 0 (by omega) _ _ ⟨hC, rfl⟩
  obtain ⟨hC, e_J⟩ := e_I
  refine y_go rfl rfl ?_
  exact y_end rfl rfl ⟨G, cgM_cg hC, by rw [e_J]⟩
