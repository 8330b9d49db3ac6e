/-! THE PROGRAM: a character is added; the text is cleared. -/
theorem xnar_c : ∀ c, c < 128 → xnar 1 (nI c) = nI c := by decide +kernel
theorem s_addChar {S : List Int32} {d : Nat} (hd : 1 ≤ d) {h : xH} (hl : 113 + 6 ≤ h.length) (k0 : Nat × Nat) (ps cnt vc : Int32) (tx : List Int32) (cm : List (Option Nat)) (fi se va : List Int32) (ht : tx.length = 60) (n : Nat) (hn : n < 60) (c : Nat) (hc : c < 128) : yT S d 50 [.ref 113, .int (nI c)] (put h 113 (prC (nI n) ps cnt vc tx cm fi se va), k0) (· = (.inl (some (.int (nI (n + 1)))), (put h 113 (prC (nI (n + 1)) ps cnt vc (tx.set n (nI c)) cm fi se va), k0))) := by
  obtain ⟨d, rfl⟩ : ∃ e, d = e + 1 := ⟨d - 1, by omega⟩
  refine yT_eq (Nat.le_of_ble_eq_true rfl) ?_
  show yW S d 50 (0, [.ref 113, .int (nI c)], [], (put h 113 (prC (nI n) ps cnt vc tx cm fi se va), k0)) _
  refine y_go rfl rfl ?_
  refine y_getR (w := .int (nI n)) (j := 0) rfl hl rfl rfl rfl rfl ?_
  refine y_go rfl rfl ?_
  refine y_ic_lt rfl (fun _ => ?_) (fun c => absurd (nI_lt (a := n) (b := 60) hn (by decide)) c)
  refine y_go rfl rfl ?_
  refine y_getR (w := .ref 114) (j := 0) rfl hl rfl rfl rfl rfl ?_
  refine y_go rfl rfl ?_
  refine y_getR (w := .int (nI n)) (j := 0) rfl hl rfl rfl rfl rfl ?_
  refine y_go rfl rfl ?_
  refine y_astR (t := 1) (n := 1) (j := n) (y := (nI c)) (cs' := (prC (nI n) ps cnt vc (tx.set n (nI c)) cm fi se va)) rfl (Or.inr (Or.inl ⟨rfl, rfl⟩)) hl rfl rfl (xidx_nI (by omega)) (by first | omega | (simp only [List.length_set]; omega)) (xnar_c c hc) rfl ?_
  refine y_go rfl rfl ?_
  refine y_go rfl rfl ?_
  refine y_getR (w := .int (nI n)) (j := 0) rfl hl rfl rfl rfl rfl ?_
  refine y_go rfl rfl ?_
  refine y_go rfl rfl ?_
  rw [show nI n + 1 = nI (n + 1) from nI_1 n]
  refine y_putR (j := 0) (cs' := (prC (nI (n + 1)) ps cnt vc (tx.set n (nI c)) cm fi se va)) rfl hl rfl rfl (Nat.le_of_ble_eq_true rfl) (xf_int rfl) rfl ?_
  refine y_go rfl rfl ?_
  refine y_getR (w := .int (nI (n + 1))) (j := 0) rfl hl rfl rfl rfl rfl ?_
  exact y_ireturn rfl rfl (by first | rfl | (split <;> rfl)) rfl
theorem s_clearText {S : List Int32} {d : Nat} (hd : 1 ≤ d) {h : xH} (hl : 113 + 6 ≤ h.length) (k0 : Nat × Nat) (ps cnt vc : Int32) (tx : List Int32) (cm : List (Option Nat)) (fi se va : List Int32) (len : Int32) : yT S d 51 [.ref 113] (put h 113 (prC len ps cnt vc tx cm fi se va), k0) (· = (.inl none, (put h 113 (prC 0 ps cnt vc tx cm fi se va), k0))) := by
  obtain ⟨d, rfl⟩ : ∃ e, d = e + 1 := ⟨d - 1, by omega⟩
  refine yT_eq (Nat.le_of_ble_eq_true rfl) ?_
  show yW S d 51 (0, [.ref 113], [], (put h 113 (prC len ps cnt vc tx cm fi se va), k0)) _
  refine y_go rfl rfl ?_
  refine y_go rfl rfl ?_
  refine y_putR (j := 0) (cs' := (prC 0 ps cnt vc tx cm fi se va)) rfl hl rfl rfl (Nat.le_of_ble_eq_true rfl) (xf_int rfl) rfl ?_
  exact y_end rfl rfl rfl
theorem w_Pl {S : List Int32} {d m : Nat} {args : List Value} {o : Option Value} {k1 : Nat × Nat} {e f sv : Int32} {K B F V : kK} {ol sz : Nat} {R : Nat → kK} {M : List xC} {G : Nat → xC} {P : List xC} {vp : Nat} {ml ln : Int32} {D : List Int32} {h : xH} {P2 : List xC} (h6 : P2.length = 6) {k0 : Nat × Nat} (hW : W0 e f sv K B F V ol sz R M G P vp ml ln D h) (hT : yT S d m args (put h 113 P, k0) (· = (.inl o, (put h 113 P2, k1)))) : yT S d m args (h, k0) (fun r => ∃ h2, W0 e f sv K B F V ol sz R M G P2 vp ml ln D h2 ∧ r = (.inl o, (h2, k1))) := by
  obtain ⟨wl, wl2, wlM, wlP, wvp, w0, wK, wB, wF, wV, wH, wM, wG, wP, wL, wD, wR⟩ := id hW
  rw [W_self (p := 113) (cs := P) wP (by rw [wlP]; decide)] at hT
  exact yT_mono hT fun r hr => ⟨_, W_P h6 hW, hr⟩
theorem q_append {S : List Int32} {d : Nat} (hd : 8 ≤ d) {e f sv : Int32} {K V : kK} {ol sz : Nat} {R : Nat → kK} {T : List Int32} {h : xH} (hW2 : W2 e f sv K V ol sz R T h) (k0 : Nat × Nat) (hT : T.length < 60) (c : Nat) (hc : c < 128) : yT S d 100 [.ref 0, .int (nI c)] (h, k0) (fun r => ∃ h2, W2 e f sv K V ol sz R (T ++ [nI c]) h2 ∧ r = (.inl (some (.int (nI (T.length + 1)))), (h2, k0))) := by
  have hW2c := hW2
  obtain ⟨B, F, P, vp, ml, ln, D, ⟨M, G, hM, hG, hW⟩, kB, kF, kV, kK2, hR, hol, hsz, hP, hL⟩ := hW2
  obtain ⟨wl, wl2, wlM, wlP, wvp, w0, wK, wB, wF, wV, wH, wM, wG, wP, wL, wD, wR⟩ := id hW
  have lK : 1 + 6 ≤ h.length := has_len wK (by show 0 < 6; decide)
  obtain ⟨d, rfl⟩ : ∃ e, d = e + 1 := ⟨d - 1, by omega⟩
  obtain ⟨pos, cnt, vc, tx, cm, fi, se, v0, v1, rfl, p1, p2, p3, p4, p5, p6, p7, p8, p9, p10, p11⟩ := hP
  have lP : 113 + 6 ≤ h.length := has_len wP (by show 0 < 6; decide)
  refine yT_x rfl (Nat.le_of_ble_eq_true rfl) ?_
  show yW S d 100 (0, [.ref 0, .int (nI c)], [], (h, k0)) _
  refine y_go rfl rfl ?_
  refine y_getf (w := .ref 113) rfl rfl (has_at w0 (i := 0) rfl) rfl ?_
  refine y_go rfl rfl ?_
  refine y_V1e rfl (Nat.le_of_ble_eq_true rfl) (Nat.le_of_ble_eq_true rfl) rfl rfl (xrcv_of (has_at wP (i := 0) rfl)) (w_Pl rfl hW (s_addChar (by omega) lP k0 _ _ _ tx cm fi se _ p1 T.length hT c hc)) (fun h3 hz => ?_)
  have hP2 : prOK (T ++ [nI c]) (prC (nI (T.length + 1)) (nI pos) (nI cnt) (nI vc) (tx.set T.length (nI c)) cm fi se [nI v0, nI v1]) := by
    refine ⟨pos, cnt, vc, tx.set T.length (nI c), cm, fi, se, v0, v1, by rw [List.length_append]; rfl, by rw [List.length_set]; exact p1, by rw [List.length_append, List.length_singleton]; omega, fun i hi => ?_, p4, p5, p6, p7, p8, p9, p10, p11⟩
    rw [List.length_append, List.length_singleton] at hi
    rw [gd_set (by omega)]
    by_cases e : T.length = i
    · subst e; rw [if_pos rfl]; unfold gd; rw [List.getD_eq_getElem?_getD, List.getElem?_append_right (Nat.le_refl _), Nat.sub_self]; rfl
    · rw [if_neg e, p3 i (by omega)]; unfold gd; rw [List.getD_eq_getElem?_getD, List.getD_eq_getElem?_getD, List.getElem?_append_left (by omega)]
  refine y_S1 rfl rfl (Nat.le_of_ble_eq_true rfl) (Nat.le_of_ble_eq_true rfl) rfl rfl (s_ans0 (by omega) (xcode_pos (nI_pos (by omega))) _) ?_
  exact y_ireturn rfl rfl rfl ⟨h3, ⟨_, _, _, _, _, _, _, ⟨_, _, hM, hG, hz⟩, kB, kF, kV, kK2, hR, hol, hsz, hP2, hL⟩, rfl⟩
