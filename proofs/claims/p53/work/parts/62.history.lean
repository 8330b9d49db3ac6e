/-! THE WORLD: commands are carried out; the history. -/
theorem xrcv_k {k q : Nat} {s : xS} (hn : s.1[q]? = none) (hc : (xco q == some k) = true) : xrcv k s (.ref q) = true := by
  have e : xrcv k s (.ref q) = (match s.1[q]? with | some (.inl (c, _)) => c == k | some _ => false | none => xco q == some k) := rfl
  rw [e, hn]; exact hc
theorem xnoh {h : xH} {q : Nat} (hl : h.length ≤ 1000000) (hq : 1000000 ≤ q) : h[q]? = none := List.getElem?_eq_none (by omega)
theorem nI_mod {a b : Nat} (ha : a < 2 ^ 31) (hb : b < 2 ^ 31) : nI a - nI a / nI b * nI b = nI (a % b) := by
  rw [nI_div ha hb, nI_mul, nI_sub (Nat.div_mul_le_self a b), Nat.mod_eq_sub_mul_div, Nat.mul_comm]
theorem rows6 {z : Nat} (h : z < 8) : ((List.range 8).map (fun z => some (27 + 6 * z)))[z]? = some (some (27 + 6 * z)) := by rw [List.getElem?_map, List.getElem?_range h]; rfl
theorem s_ord0 {S : List Int32} {d : Nat} (hd : 1 ≤ d) (s : xS) : yT S d 179 [.ref 1000000] s (· = (.inl (some (.int 0)), s)) := by
  obtain ⟨d, rfl⟩ : ∃ e, d = e + 1 := ⟨d - 1, by omega⟩
  refine yT_eq (Nat.le_of_ble_eq_true rfl) ?_
  show yW S d 179 (0, [.ref 1000000], [], s) _
  refine y_go rfl rfl ?_
  refine y_getc rfl (w := .int 0) (by decide +kernel) ?_
  exact y_ireturn rfl rfl rfl rfl
theorem s_ord1 {S : List Int32} {d : Nat} (hd : 1 ≤ d) (s : xS) : yT S d 179 [.ref 1000001] s (· = (.inl (some (.int 1)), s)) := by
  obtain ⟨d, rfl⟩ : ∃ e, d = e + 1 := ⟨d - 1, by omega⟩
  refine yT_eq (Nat.le_of_ble_eq_true rfl) ?_
  show yW S d 179 (0, [.ref 1000001], [], s) _
  refine y_go rfl rfl ?_
  refine y_getc rfl (w := .int 1) (by decide +kernel) ?_
  exact y_ireturn rfl rfl rfl rfl
theorem s_ord2 {S : List Int32} {d : Nat} (hd : 1 ≤ d) (s : xS) : yT S d 179 [.ref 1000002] s (· = (.inl (some (.int 2)), s)) := by
  obtain ⟨d, rfl⟩ : ∃ e, d = e + 1 := ⟨d - 1, by omega⟩
  refine yT_eq (Nat.le_of_ble_eq_true rfl) ?_
  show yW S d 179 (0, [.ref 1000002], [], s) _
  refine y_go rfl rfl ?_
  refine y_getc rfl (w := .int 2) (by decide +kernel) ?_
  exact y_ireturn rfl rfl rfl rfl
theorem s_ord3 {S : List Int32} {d : Nat} (hd : 1 ≤ d) (s : xS) : yT S d 179 [.ref 1000003] s (· = (.inl (some (.int 3)), s)) := by
  obtain ⟨d, rfl⟩ : ∃ e, d = e + 1 := ⟨d - 1, by omega⟩
  refine yT_eq (Nat.le_of_ble_eq_true rfl) ?_
  show yW S d 179 (0, [.ref 1000003], [], s) _
  refine y_go rfl rfl ?_
  refine y_getc rfl (w := .int 3) (by decide +kernel) ?_
  exact y_ireturn rfl rfl rfl rfl
theorem s_ord4 {S : List Int32} {d : Nat} (hd : 1 ≤ d) (s : xS) : yT S d 179 [.ref 1000004] s (· = (.inl (some (.int 4)), s)) := by
  obtain ⟨d, rfl⟩ : ∃ e, d = e + 1 := ⟨d - 1, by omega⟩
  refine yT_eq (Nat.le_of_ble_eq_true rfl) ?_
  show yW S d 179 (0, [.ref 1000004], [], s) _
  refine y_go rfl rfl ?_
  refine y_getc rfl (w := .int 4) (by decide +kernel) ?_
  exact y_ireturn rfl rfl rfl rfl
theorem s_ord5 {S : List Int32} {d : Nat} (hd : 1 ≤ d) (s : xS) : yT S d 179 [.ref 1000005] s (· = (.inl (some (.int 5)), s)) := by
  obtain ⟨d, rfl⟩ : ∃ e, d = e + 1 := ⟨d - 1, by omega⟩
  refine yT_eq (Nat.le_of_ble_eq_true rfl) ?_
  show yW S d 179 (0, [.ref 1000005], [], s) _
  refine y_go rfl rfl ?_
  refine y_getc rfl (w := .int 5) (by decide +kernel) ?_
  exact y_ireturn rfl rfl rfl rfl
theorem s_ord6 {S : List Int32} {d : Nat} (hd : 1 ≤ d) (s : xS) : yT S d 179 [.ref 1000006] s (· = (.inl (some (.int 6)), s)) := by
  obtain ⟨d, rfl⟩ : ∃ e, d = e + 1 := ⟨d - 1, by omega⟩
  refine yT_eq (Nat.le_of_ble_eq_true rfl) ?_
  show yW S d 179 (0, [.ref 1000006], [], s) _
  refine y_go rfl rfl ?_
  refine y_getc rfl (w := .int 6) (by decide +kernel) ?_
  exact y_ireturn rfl rfl rfl rfl
theorem s_ord7 {S : List Int32} {d : Nat} (hd : 1 ≤ d) (s : xS) : yT S d 179 [.ref 1000007] s (· = (.inl (some (.int 7)), s)) := by
  obtain ⟨d, rfl⟩ : ∃ e, d = e + 1 := ⟨d - 1, by omega⟩
  refine yT_eq (Nat.le_of_ble_eq_true rfl) ?_
  show yW S d 179 (0, [.ref 1000007], [], s) _
  refine y_go rfl rfl ?_
  refine y_getc rfl (w := .int 7) (by decide +kernel) ?_
  exact y_ireturn rfl rfl rfl rfl
theorem s_ord8 {S : List Int32} {d : Nat} (hd : 1 ≤ d) (s : xS) : yT S d 179 [.ref 1000008] s (· = (.inl (some (.int 8)), s)) := by
  obtain ⟨d, rfl⟩ : ∃ e, d = e + 1 := ⟨d - 1, by omega⟩
  refine yT_eq (Nat.le_of_ble_eq_true rfl) ?_
  show yW S d 179 (0, [.ref 1000008], [], s) _
  refine y_go rfl rfl ?_
  refine y_getc rfl (w := .int 8) (by decide +kernel) ?_
  exact y_ireturn rfl rfl rfl rfl
theorem s_ord9 {S : List Int32} {d : Nat} (hd : 1 ≤ d) (s : xS) : yT S d 179 [.ref 1000009] s (· = (.inl (some (.int 9)), s)) := by
  obtain ⟨d, rfl⟩ : ∃ e, d = e + 1 := ⟨d - 1, by omega⟩
  refine yT_eq (Nat.le_of_ble_eq_true rfl) ?_
  show yW S d 179 (0, [.ref 1000009], [], s) _
  refine y_go rfl rfl ?_
  refine y_getc rfl (w := .int 9) (by decide +kernel) ?_
  exact y_ireturn rfl rfl rfl rfl
theorem w_carry0 {S : List Int32} {d : Nat} (hd : 8 ≤ d) {e f sv : Int32} {K B F V : kK} {ol sz : Nat} {R : Nat → kK} {M : List xC} {G : Nat → xC} {P : List xC} {vp : Nat} {ml ln : Int32} {D : List Int32} {h : xH} (hW : W0 e f sv K B F V ol sz R M G P vp ml ln D h) (hM : mxOK M) (hG : cg 78 xJ xCt G) (hK : kv K) (hp : kp K) (k0 : Nat × Nat) (a b : Nat) (ha : a ≤ 1000) (hb : b ≤ 1000) : yT S d 116 [.ref 0, .ref 1000000, .int (nI a), .int (nI b)] (h, k0) (fun r => ∃ h2, W1 e f sv (cmdX 0 a b K).2 B F V ol sz R P vp ml ln D h2 ∧ r = (.inl (some (.int (cmdX 0 a b K).1)), (h2, k0))) := by
  obtain ⟨wl, wl2, wlM, wlP, wvp, w0, wK, wB, wF, wV, wH, wM, wG, wP, wL, wD, wR⟩ := id hW
  obtain ⟨d, rfl⟩ : ∃ e, d = e + 1 := ⟨d - 1, by omega⟩
  refine yT_e (Nat.le_of_ble_eq_true rfl) ?_
  show yW S d 116 (0, [.ref 0, .ref 1000000, .int (nI a), .int (nI b)], [], (h, k0)) _
  refine y_go rfl rfl ?_
  refine y_go rfl rfl ?_
  refine y_V1 rfl (Nat.le_of_ble_eq_true rfl) (Nat.le_of_ble_eq_true rfl) rfl rfl (xrcv_k (xnoh wl (by decide)) (by decide +kernel)) (s_ord0 (by omega) _) ?_
  refine y_aldc (t := 0) (j := 0) (w := .int 1) rfl (Or.inl ⟨rfl, rfl⟩) (xnoh wl (by decide)) xct_swm (by decide) rfl ?_
  refine y_go rfl rfl ?_
  refine y_go rfl rfl ?_
  refine y_getf (w := .ref 1) rfl rfl (has_at w0 (i := 0) rfl) rfl ?_
  refine y_go rfl rfl ?_
  refine y_go rfl rfl ?_
  refine y_V1e rfl (Nat.le_of_ble_eq_true rfl) (Nat.le_of_ble_eq_true rfl) rfl rfl (xrcv_of (has_at wK (i := 0) rfl)) (w_K hW (k_0 (by omega) (has_len wK (by show 0 < 6; decide)) K hK k0 a b)) (fun h2 hz => ?_)
  exact y_ireturn rfl rfl rfl ⟨_, ⟨M, G, hM, hG, hz⟩, rfl⟩
theorem w_carry1 {S : List Int32} {d : Nat} (hd : 8 ≤ d) {e f sv : Int32} {K B F V : kK} {ol sz : Nat} {R : Nat → kK} {M : List xC} {G : Nat → xC} {P : List xC} {vp : Nat} {ml ln : Int32} {D : List Int32} {h : xH} (hW : W0 e f sv K B F V ol sz R M G P vp ml ln D h) (hM : mxOK M) (hG : cg 78 xJ xCt G) (hK : kv K) (hp : kp K) (k0 : Nat × Nat) (a b : Nat) (ha : a ≤ 1000) (hb : b ≤ 1000) : yT S d 116 [.ref 0, .ref 1000001, .int (nI a), .int (nI b)] (h, k0) (fun r => ∃ h2, W1 e f sv (cmdX 1 a b K).2 B F V ol sz R P vp ml ln D h2 ∧ r = (.inl (some (.int (cmdX 1 a b K).1)), (h2, k0))) := by
  obtain ⟨wl, wl2, wlM, wlP, wvp, w0, wK, wB, wF, wV, wH, wM, wG, wP, wL, wD, wR⟩ := id hW
  obtain ⟨d, rfl⟩ : ∃ e, d = e + 1 := ⟨d - 1, by omega⟩
  refine yT_e (Nat.le_of_ble_eq_true rfl) ?_
  show yW S d 116 (0, [.ref 0, .ref 1000001, .int (nI a), .int (nI b)], [], (h, k0)) _
  refine y_go rfl rfl ?_
  refine y_go rfl rfl ?_
  refine y_V1 rfl (Nat.le_of_ble_eq_true rfl) (Nat.le_of_ble_eq_true rfl) rfl rfl (xrcv_k (xnoh wl (by decide)) (by decide +kernel)) (s_ord1 (by omega) _) ?_
  refine y_aldc (t := 0) (j := 1) (w := .int 2) rfl (Or.inl ⟨rfl, rfl⟩) (xnoh wl (by decide)) xct_swm (by decide) rfl ?_
  refine y_go rfl rfl ?_
  refine y_go rfl rfl ?_
  refine y_getf (w := .ref 1) rfl rfl (has_at w0 (i := 0) rfl) rfl ?_
  refine y_go rfl rfl ?_
  refine y_V1e rfl (Nat.le_of_ble_eq_true rfl) (Nat.le_of_ble_eq_true rfl) rfl rfl (xrcv_of (has_at wK (i := 0) rfl)) (w_K hW (k_1 (by omega) (has_len wK (by show 0 < 6; decide)) K hK k0 a b)) (fun h2 hz => ?_)
  exact y_ireturn rfl rfl rfl ⟨_, ⟨M, G, hM, hG, hz⟩, rfl⟩
theorem w_carry2 {S : List Int32} {d : Nat} (hd : 8 ≤ d) {e f sv : Int32} {K B F V : kK} {ol sz : Nat} {R : Nat → kK} {M : List xC} {G : Nat → xC} {P : List xC} {vp : Nat} {ml ln : Int32} {D : List Int32} {h : xH} (hW : W0 e f sv K B F V ol sz R M G P vp ml ln D h) (hM : mxOK M) (hG : cg 78 xJ xCt G) (hK : kv K) (hp : kp K) (k0 : Nat × Nat) (a b : Nat) (ha : a ≤ 1000) (hb : b ≤ 1000) : yT S d 116 [.ref 0, .ref 1000002, .int (nI a), .int (nI b)] (h, k0) (fun r => ∃ h2, W1 e f sv (cmdX 2 a b K).2 B F V ol sz R P vp ml ln D h2 ∧ r = (.inl (some (.int (cmdX 2 a b K).1)), (h2, k0))) := by
  obtain ⟨wl, wl2, wlM, wlP, wvp, w0, wK, wB, wF, wV, wH, wM, wG, wP, wL, wD, wR⟩ := id hW
  obtain ⟨d, rfl⟩ : ∃ e, d = e + 1 := ⟨d - 1, by omega⟩
  refine yT_e (Nat.le_of_ble_eq_true rfl) ?_
  show yW S d 116 (0, [.ref 0, .ref 1000002, .int (nI a), .int (nI b)], [], (h, k0)) _
  refine y_go rfl rfl ?_
  refine y_go rfl rfl ?_
  refine y_V1 rfl (Nat.le_of_ble_eq_true rfl) (Nat.le_of_ble_eq_true rfl) rfl rfl (xrcv_k (xnoh wl (by decide)) (by decide +kernel)) (s_ord2 (by omega) _) ?_
  refine y_aldc (t := 0) (j := 2) (w := .int 3) rfl (Or.inl ⟨rfl, rfl⟩) (xnoh wl (by decide)) xct_swm (by decide) rfl ?_
  refine y_go rfl rfl ?_
  refine y_go rfl rfl ?_
  refine y_getf (w := .ref 1) rfl rfl (has_at w0 (i := 0) rfl) rfl ?_
  refine y_go rfl rfl ?_
  refine y_V1e rfl (Nat.le_of_ble_eq_true rfl) (Nat.le_of_ble_eq_true rfl) rfl rfl (xrcv_of (has_at wK (i := 0) rfl)) (w_K hW (k_2 (by omega) (has_len wK (by show 0 < 6; decide)) K hK k0 a b)) (fun h2 hz => ?_)
  exact y_ireturn rfl rfl rfl ⟨_, ⟨M, G, hM, hG, hz⟩, rfl⟩
theorem w_carry3 {S : List Int32} {d : Nat} (hd : 8 ≤ d) {e f sv : Int32} {K B F V : kK} {ol sz : Nat} {R : Nat → kK} {M : List xC} {G : Nat → xC} {P : List xC} {vp : Nat} {ml ln : Int32} {D : List Int32} {h : xH} (hW : W0 e f sv K B F V ol sz R M G P vp ml ln D h) (hM : mxOK M) (hG : cg 78 xJ xCt G) (hK : kv K) (hp : kp K) (k0 : Nat × Nat) (a b : Nat) (ha : a ≤ 1000) (hb : b ≤ 1000) : yT S d 116 [.ref 0, .ref 1000003, .int (nI a), .int (nI b)] (h, k0) (fun r => ∃ h2, W1 e f sv (cmdX 3 a b K).2 B F V ol sz R P vp ml ln D h2 ∧ r = (.inl (some (.int (cmdX 3 a b K).1)), (h2, k0))) := by
  obtain ⟨wl, wl2, wlM, wlP, wvp, w0, wK, wB, wF, wV, wH, wM, wG, wP, wL, wD, wR⟩ := id hW
  obtain ⟨d, rfl⟩ : ∃ e, d = e + 1 := ⟨d - 1, by omega⟩
  refine yT_e (Nat.le_of_ble_eq_true rfl) ?_
  show yW S d 116 (0, [.ref 0, .ref 1000003, .int (nI a), .int (nI b)], [], (h, k0)) _
  refine y_go rfl rfl ?_
  refine y_go rfl rfl ?_
  refine y_V1 rfl (Nat.le_of_ble_eq_true rfl) (Nat.le_of_ble_eq_true rfl) rfl rfl (xrcv_k (xnoh wl (by decide)) (by decide +kernel)) (s_ord3 (by omega) _) ?_
  refine y_aldc (t := 0) (j := 3) (w := .int 4) rfl (Or.inl ⟨rfl, rfl⟩) (xnoh wl (by decide)) xct_swm (by decide) rfl ?_
  refine y_go rfl rfl ?_
  refine y_go rfl rfl ?_
  refine y_getf (w := .ref 1) rfl rfl (has_at w0 (i := 0) rfl) rfl ?_
  refine y_V1e rfl (Nat.le_of_ble_eq_true rfl) (Nat.le_of_ble_eq_true rfl) rfl rfl (xrcv_of (has_at wK (i := 0) rfl)) (w_K hW (k_3 (by omega) (has_len wK (by show 0 < 6; decide)) K hK k0 a b)) (fun h2 hz => ?_)
  exact y_ireturn rfl rfl rfl ⟨_, ⟨M, G, hM, hG, hz⟩, rfl⟩
theorem w_carry4 {S : List Int32} {d : Nat} (hd : 8 ≤ d) {e f sv : Int32} {K B F V : kK} {ol sz : Nat} {R : Nat → kK} {M : List xC} {G : Nat → xC} {P : List xC} {vp : Nat} {ml ln : Int32} {D : List Int32} {h : xH} (hW : W0 e f sv K B F V ol sz R M G P vp ml ln D h) (hM : mxOK M) (hG : cg 78 xJ xCt G) (hK : kv K) (hp : kp K) (k0 : Nat × Nat) (a b : Nat) (ha : a ≤ 1000) (hb : b ≤ 1000) : yT S d 116 [.ref 0, .ref 1000004, .int (nI a), .int (nI b)] (h, k0) (fun r => ∃ h2, W1 e f sv (cmdX 4 a b K).2 B F V ol sz R P vp ml ln D h2 ∧ r = (.inl (some (.int (cmdX 4 a b K).1)), (h2, k0))) := by
  obtain ⟨wl, wl2, wlM, wlP, wvp, w0, wK, wB, wF, wV, wH, wM, wG, wP, wL, wD, wR⟩ := id hW
  obtain ⟨d, rfl⟩ : ∃ e, d = e + 1 := ⟨d - 1, by omega⟩
  refine yT_e (Nat.le_of_ble_eq_true rfl) ?_
  show yW S d 116 (0, [.ref 0, .ref 1000004, .int (nI a), .int (nI b)], [], (h, k0)) _
  refine y_go rfl rfl ?_
  refine y_go rfl rfl ?_
  refine y_V1 rfl (Nat.le_of_ble_eq_true rfl) (Nat.le_of_ble_eq_true rfl) rfl rfl (xrcv_k (xnoh wl (by decide)) (by decide +kernel)) (s_ord4 (by omega) _) ?_
  refine y_aldc (t := 0) (j := 4) (w := .int 5) rfl (Or.inl ⟨rfl, rfl⟩) (xnoh wl (by decide)) xct_swm (by decide) rfl ?_
  refine y_go rfl rfl ?_
  refine y_go rfl rfl ?_
  refine y_getf (w := .ref 1) rfl rfl (has_at w0 (i := 0) rfl) rfl ?_
  refine y_go rfl rfl ?_
  refine y_V1e rfl (Nat.le_of_ble_eq_true rfl) (Nat.le_of_ble_eq_true rfl) rfl rfl (xrcv_of (has_at wK (i := 0) rfl)) (w_K hW (k_4 (by omega) (has_len wK (by show 0 < 6; decide)) K hK k0 a b)) (fun h2 hz => ?_)
  exact y_ireturn rfl rfl rfl ⟨_, ⟨M, G, hM, hG, hz⟩, rfl⟩
theorem w_carry5 {S : List Int32} {d : Nat} (hd : 8 ≤ d) {e f sv : Int32} {K B F V : kK} {ol sz : Nat} {R : Nat → kK} {M : List xC} {G : Nat → xC} {P : List xC} {vp : Nat} {ml ln : Int32} {D : List Int32} {h : xH} (hW : W0 e f sv K B F V ol sz R M G P vp ml ln D h) (hM : mxOK M) (hG : cg 78 xJ xCt G) (hK : kv K) (hp : kp K) (k0 : Nat × Nat) (a b : Nat) (ha : a ≤ 1000) (hb : b ≤ 1000) : yT S d 116 [.ref 0, .ref 1000005, .int (nI a), .int (nI b)] (h, k0) (fun r => ∃ h2, W1 e f sv (cmdX 5 a b K).2 B F V ol sz R P vp ml ln D h2 ∧ r = (.inl (some (.int (cmdX 5 a b K).1)), (h2, k0))) := by
  obtain ⟨wl, wl2, wlM, wlP, wvp, w0, wK, wB, wF, wV, wH, wM, wG, wP, wL, wD, wR⟩ := id hW
  obtain ⟨d, rfl⟩ : ∃ e, d = e + 1 := ⟨d - 1, by omega⟩
  refine yT_e (Nat.le_of_ble_eq_true rfl) ?_
  show yW S d 116 (0, [.ref 0, .ref 1000005, .int (nI a), .int (nI b)], [], (h, k0)) _
  refine y_go rfl rfl ?_
  refine y_go rfl rfl ?_
  refine y_V1 rfl (Nat.le_of_ble_eq_true rfl) (Nat.le_of_ble_eq_true rfl) rfl rfl (xrcv_k (xnoh wl (by decide)) (by decide +kernel)) (s_ord5 (by omega) _) ?_
  refine y_aldc (t := 0) (j := 5) (w := .int 6) rfl (Or.inl ⟨rfl, rfl⟩) (xnoh wl (by decide)) xct_swm (by decide) rfl ?_
  refine y_go rfl rfl ?_
  refine y_go rfl rfl ?_
  refine y_getf (w := .ref 1) rfl rfl (has_at w0 (i := 0) rfl) rfl ?_
  refine y_go rfl rfl ?_
  refine y_go rfl rfl ?_
  refine y_V1e rfl (Nat.le_of_ble_eq_true rfl) (Nat.le_of_ble_eq_true rfl) rfl rfl (xrcv_of (has_at wK (i := 0) rfl)) (w_K hW (k_5 (by omega) (has_len wK (by show 0 < 6; decide)) K hK k0 a b)) (fun h2 hz => ?_)
  exact y_ireturn rfl rfl rfl ⟨_, ⟨M, G, hM, hG, hz⟩, rfl⟩
theorem w_carry6 {S : List Int32} {d : Nat} (hd : 8 ≤ d) {e f sv : Int32} {K B F V : kK} {ol sz : Nat} {R : Nat → kK} {M : List xC} {G : Nat → xC} {P : List xC} {vp : Nat} {ml ln : Int32} {D : List Int32} {h : xH} (hW : W0 e f sv K B F V ol sz R M G P vp ml ln D h) (hM : mxOK M) (hG : cg 78 xJ xCt G) (hK : kv K) (hp : kp K) (k0 : Nat × Nat) (a b : Nat) (ha : a ≤ 1000) (hb : b ≤ 1000) : yT S d 116 [.ref 0, .ref 1000006, .int (nI a), .int (nI b)] (h, k0) (fun r => ∃ h2, W1 e f sv (cmdX 6 a b K).2 B F V ol sz R P vp ml ln D h2 ∧ r = (.inl (some (.int (cmdX 6 a b K).1)), (h2, k0))) := by
  obtain ⟨wl, wl2, wlM, wlP, wvp, w0, wK, wB, wF, wV, wH, wM, wG, wP, wL, wD, wR⟩ := id hW
  obtain ⟨d, rfl⟩ : ∃ e, d = e + 1 := ⟨d - 1, by omega⟩
  refine yT_e (Nat.le_of_ble_eq_true rfl) ?_
  show yW S d 116 (0, [.ref 0, .ref 1000006, .int (nI a), .int (nI b)], [], (h, k0)) _
  refine y_go rfl rfl ?_
  refine y_go rfl rfl ?_
  refine y_V1 rfl (Nat.le_of_ble_eq_true rfl) (Nat.le_of_ble_eq_true rfl) rfl rfl (xrcv_k (xnoh wl (by decide)) (by decide +kernel)) (s_ord6 (by omega) _) ?_
  refine y_aldc (t := 0) (j := 6) (w := .int 7) rfl (Or.inl ⟨rfl, rfl⟩) (xnoh wl (by decide)) xct_swm (by decide) rfl ?_
  refine y_go rfl rfl ?_
  refine y_go rfl rfl ?_
  refine y_getf (w := .ref 1) rfl rfl (has_at w0 (i := 0) rfl) rfl ?_
  refine y_go rfl rfl ?_
  refine y_go rfl rfl ?_
  refine y_V1e rfl (Nat.le_of_ble_eq_true rfl) (Nat.le_of_ble_eq_true rfl) rfl rfl (xrcv_of (has_at wK (i := 0) rfl)) (w_K hW (k_6 (by omega) (has_len wK (by show 0 < 6; decide)) K hK k0 a b)) (fun h2 hz => ?_)
  exact y_ireturn rfl rfl rfl ⟨_, ⟨M, G, hM, hG, hz⟩, rfl⟩
theorem w_carry7 {S : List Int32} {d : Nat} (hd : 8 ≤ d) {e f sv : Int32} {K B F V : kK} {ol sz : Nat} {R : Nat → kK} {M : List xC} {G : Nat → xC} {P : List xC} {vp : Nat} {ml ln : Int32} {D : List Int32} {h : xH} (hW : W0 e f sv K B F V ol sz R M G P vp ml ln D h) (hM : mxOK M) (hG : cg 78 xJ xCt G) (hK : kv K) (hp : kp K) (k0 : Nat × Nat) (a b : Nat) (ha : a ≤ 1000) (hb : b ≤ 1000) : yT S d 116 [.ref 0, .ref 1000007, .int (nI a), .int (nI b)] (h, k0) (fun r => ∃ h2, W1 e f sv (cmdX 7 a b K).2 B F V ol sz R P vp ml ln D h2 ∧ r = (.inl (some (.int (cmdX 7 a b K).1)), (h2, k0))) := by
  obtain ⟨wl, wl2, wlM, wlP, wvp, w0, wK, wB, wF, wV, wH, wM, wG, wP, wL, wD, wR⟩ := id hW
  obtain ⟨d, rfl⟩ : ∃ e, d = e + 1 := ⟨d - 1, by omega⟩
  refine yT_e (Nat.le_of_ble_eq_true rfl) ?_
  show yW S d 116 (0, [.ref 0, .ref 1000007, .int (nI a), .int (nI b)], [], (h, k0)) _
  refine y_go rfl rfl ?_
  refine y_go rfl rfl ?_
  refine y_V1 rfl (Nat.le_of_ble_eq_true rfl) (Nat.le_of_ble_eq_true rfl) rfl rfl (xrcv_k (xnoh wl (by decide)) (by decide +kernel)) (s_ord7 (by omega) _) ?_
  refine y_aldc (t := 0) (j := 7) (w := .int 8) rfl (Or.inl ⟨rfl, rfl⟩) (xnoh wl (by decide)) xct_swm (by decide) rfl ?_
  refine y_go rfl rfl ?_
  refine y_go rfl rfl ?_
  refine y_getf (w := .ref 1) rfl rfl (has_at w0 (i := 0) rfl) rfl ?_
  refine y_go rfl rfl ?_
  refine y_go rfl rfl ?_
  refine y_getf (w := .ref 75) rfl rfl (has_at w0 (i := 0) rfl) rfl ?_
  refine y_V1e rfl (Nat.le_of_ble_eq_true rfl) (Nat.le_of_ble_eq_true rfl) rfl rfl (xrcv_of (has_at wK (i := 0) rfl)) (w_feed (by omega) hW hM hp a ha) (fun h2 hz => ?_)
  exact y_ireturn rfl rfl rfl (by obtain ⟨M2, hM2, hz2⟩ := hz; exact ⟨_, ⟨M2, G, hM2, hG, hz2⟩, rfl⟩)
theorem w_carry8 {S : List Int32} {d : Nat} (hd : 8 ≤ d) {e f sv : Int32} {K B F V : kK} {ol sz : Nat} {R : Nat → kK} {M : List xC} {G : Nat → xC} {P : List xC} {vp : Nat} {ml ln : Int32} {D : List Int32} {h : xH} (hW : W0 e f sv K B F V ol sz R M G P vp ml ln D h) (hM : mxOK M) (hG : cg 78 xJ xCt G) (hK : kv K) (hp : kp K) (k0 : Nat × Nat) (a b : Nat) (ha : a ≤ 1000) (hb : b ≤ 1000) : yT S d 116 [.ref 0, .ref 1000008, .int (nI a), .int (nI b)] (h, k0) (fun r => ∃ h2, W1 e f sv (cmdX 8 a b K).2 B F V ol sz R P vp ml ln D h2 ∧ r = (.inl (some (.int (cmdX 8 a b K).1)), (h2, k0))) := by
  obtain ⟨wl, wl2, wlM, wlP, wvp, w0, wK, wB, wF, wV, wH, wM, wG, wP, wL, wD, wR⟩ := id hW
  obtain ⟨d, rfl⟩ : ∃ e, d = e + 1 := ⟨d - 1, by omega⟩
  refine yT_e (Nat.le_of_ble_eq_true rfl) ?_
  show yW S d 116 (0, [.ref 0, .ref 1000008, .int (nI a), .int (nI b)], [], (h, k0)) _
  by_cases hr : 1 ≤ a ∧ a ≤ 48
  · refine y_go rfl rfl ?_
    refine y_go rfl rfl ?_
    refine y_V1 rfl (Nat.le_of_ble_eq_true rfl) (Nat.le_of_ble_eq_true rfl) rfl rfl (xrcv_k (xnoh wl (by decide)) (by decide +kernel)) (s_ord8 (by omega) _) ?_
    refine y_aldc (t := 0) (j := 8) (w := .int 9) rfl (Or.inl ⟨rfl, rfl⟩) (xnoh wl (by decide)) xct_swm (by decide) rfl ?_
    refine y_go rfl rfl ?_
    refine y_go rfl rfl ?_
    refine y_go rfl rfl ?_
    refine y_go rfl rfl ?_
    refine y_S1 rfl rfl (Nat.le_of_ble_eq_true rfl) (Nat.le_of_ble_eq_true rfl) rfl rfl (s_isOutside (by omega) _ _ _ _) ?_
    refine y_if_eq rfl (fun _ => ?_) (fun c => absurd (if_neg (fun q => xout (u := a) (l := 1) (m := 48) (by omega) (by decide) (by decide) q hr)) c)
    refine y_go rfl rfl ?_
    refine y_getf (w := .ref 1) rfl rfl (has_at w0 (i := 0) rfl) rfl ?_
    refine y_go rfl rfl ?_
    refine y_V1e rfl (Nat.le_of_ble_eq_true rfl) (Nat.le_of_ble_eq_true rfl) rfl rfl (xrcv_of (has_at wK (i := 0) rfl)) (w_K hW (s_letHoursPass (by omega) (has_len wK (by show 0 < 6; decide)) K hK k0 a (by omega))) (fun h2 hz => ?_)
    exact y_ireturn rfl rfl rfl ⟨_, ⟨M, G, hM, hG, by rw [show cmdX 8 a b K = ((hoursK K a).1 12 - K.1 12, hoursK K a) from if_pos hr]; exact hz⟩, by rw [show cmdX 8 a b K = ((hoursK K a).1 12 - K.1 12, hoursK K a) from if_pos hr]⟩
  · refine y_go rfl rfl ?_
    refine y_go rfl rfl ?_
    refine y_V1 rfl (Nat.le_of_ble_eq_true rfl) (Nat.le_of_ble_eq_true rfl) rfl rfl (xrcv_k (xnoh wl (by decide)) (by decide +kernel)) (s_ord8 (by omega) _) ?_
    refine y_aldc (t := 0) (j := 8) (w := .int 9) rfl (Or.inl ⟨rfl, rfl⟩) (xnoh wl (by decide)) xct_swm (by decide) rfl ?_
    refine y_go rfl rfl ?_
    refine y_go rfl rfl ?_
    refine y_go rfl rfl ?_
    refine y_go rfl rfl ?_
    refine y_S1 rfl rfl (Nat.le_of_ble_eq_true rfl) (Nat.le_of_ble_eq_true rfl) rfl rfl (s_isOutside (by omega) _ _ _ _) ?_
    refine y_if_eq rfl (fun c => absurd c (by rw [if_pos (show nI a < 1 ∨ 48 < nI a from xin (u := a) (l := 1) (m := 48) (by omega) (by decide) (by decide) hr)]; decide)) (fun _ => ?_)
    refine y_go rfl rfl ?_
    refine y_go rfl rfl ?_
    exact y_ireturn rfl rfl rfl ⟨_, ⟨M, G, hM, hG, by rw [show cmdX 8 a b K = (-2, K) from if_neg hr]; exact hW⟩, by rw [show cmdX 8 a b K = (-2, K) from if_neg hr]⟩
theorem w_carry9 {S : List Int32} {d : Nat} (hd : 8 ≤ d) {e f sv : Int32} {K B F V : kK} {ol sz : Nat} {R : Nat → kK} {M : List xC} {G : Nat → xC} {P : List xC} {vp : Nat} {ml ln : Int32} {D : List Int32} {h : xH} (hW : W0 e f sv K B F V ol sz R M G P vp ml ln D h) (hM : mxOK M) (hG : cg 78 xJ xCt G) (hK : kv K) (hp : kp K) (k0 : Nat × Nat) (a b : Nat) (ha : a ≤ 1000) (hb : b ≤ 1000) : yT S d 116 [.ref 0, .ref 1000009, .int (nI a), .int (nI b)] (h, k0) (fun r => ∃ h2, W1 e f sv (cmdX 9 a b K).2 B F V ol sz R P vp ml ln D h2 ∧ r = (.inl (some (.int (cmdX 9 a b K).1)), (h2, k0))) := by
  obtain ⟨wl, wl2, wlM, wlP, wvp, w0, wK, wB, wF, wV, wH, wM, wG, wP, wL, wD, wR⟩ := id hW
  obtain ⟨d, rfl⟩ : ∃ e, d = e + 1 := ⟨d - 1, by omega⟩
  refine yT_e (Nat.le_of_ble_eq_true rfl) ?_
  show yW S d 116 (0, [.ref 0, .ref 1000009, .int (nI a), .int (nI b)], [], (h, k0)) _
  refine y_go rfl rfl ?_
  refine y_go rfl rfl ?_
  refine y_V1 rfl (Nat.le_of_ble_eq_true rfl) (Nat.le_of_ble_eq_true rfl) rfl rfl (xrcv_k (xnoh wl (by decide)) (by decide +kernel)) (s_ord9 (by omega) _) ?_
  refine y_aldc (t := 0) (j := 9) (w := .int 10) rfl (Or.inl ⟨rfl, rfl⟩) (xnoh wl (by decide)) xct_swm (by decide) rfl ?_
  refine y_go rfl rfl ?_
  refine y_go rfl rfl ?_
  refine y_getf (w := .ref 1) rfl rfl (has_at w0 (i := 0) rfl) rfl ?_
  refine y_go rfl rfl ?_
  refine y_go rfl rfl ?_
  refine y_go rfl rfl ?_
  refine y_getf (w := .ref 78) rfl rfl (has_at w0 (i := 0) rfl) rfl ?_
  refine y_V1e rfl (Nat.le_of_ble_eq_true rfl) (Nat.le_of_ble_eq_true rfl) rfl rfl (xrcv_of (has_at wK (i := 0) rfl)) (w_wall (by omega) hW hG a b ha hb) (fun h2 hz => ?_)
  exact y_ireturn rfl rfl rfl (by obtain ⟨G2, hG2, hz2⟩ := hz; exact ⟨_, ⟨M, G2, hM, hG2, hz2⟩, rfl⟩)
theorem w_carry {S : List Int32} {d : Nat} (hd : 8 ≤ d) {e f sv : Int32} {K B F V : kK} {ol sz : Nat} {R : Nat → kK} {M : List xC} {G : Nat → xC} {P : List xC} {vp : Nat} {ml ln : Int32} {D : List Int32} {h : xH} (hW : W0 e f sv K B F V ol sz R M G P vp ml ln D h) (hM : mxOK M) (hG : cg 78 xJ xCt G) (hK : kv K) (hp : kp K) (k0 : Nat × Nat) (a b : Nat) (ha : a ≤ 1000) (hb : b ≤ 1000) (c : Nat) (hc : c < 10) : yT S d 116 [.ref 0, .ref (1000000 + c), .int (nI a), .int (nI b)] (h, k0) (fun r => ∃ h2, W1 e f sv (cmdX c a b K).2 B F V ol sz R P vp ml ln D h2 ∧ r = (.inl (some (.int (cmdX c a b K).1)), (h2, k0))) := by
  match c, hc with
  | 0, _ => exact w_carry0 hd hW hM hG hK hp k0 a b ha hb
  | 1, _ => exact w_carry1 hd hW hM hG hK hp k0 a b ha hb
  | 2, _ => exact w_carry2 hd hW hM hG hK hp k0 a b ha hb
  | 3, _ => exact w_carry3 hd hW hM hG hK hp k0 a b ha hb
  | 4, _ => exact w_carry4 hd hW hM hG hK hp k0 a b ha hb
  | 5, _ => exact w_carry5 hd hW hM hG hK hp k0 a b ha hb
  | 6, _ => exact w_carry6 hd hW hM hG hK hp k0 a b ha hb
  | 7, _ => exact w_carry7 hd hW hM hG hK hp k0 a b ha hb
  | 8, _ => exact w_carry8 hd hW hM hG hK hp k0 a b ha hb
  | 9, _ => exact w_carry9 hd hW hM hG hK hp k0 a b ha hb
theorem w_cpB {S : List Int32} {d : Nat} (hd : 1 ≤ d) {e f sv : Int32} {K B F V : kK} {ol sz : Nat} {R : Nat → kK} {M : List xC} {G : Nat → xC} {P : List xC} {vp : Nat} {ml ln : Int32} {D : List Int32} {h : xH} (hW : W0 e f sv K B F V ol sz R M G P vp ml ln D h) (hx : kv B) (hy : kv K) (k0 : Nat × Nat) : yT S d 15 [.ref 7, .ref 1] (h, k0) (fun r => ∃ h2, W0 e f sv K K F V ol sz R M G P vp ml ln D h2 ∧ r = (.inl none, (h2, k0))) := by
  obtain ⟨wl, wl2, wlM, wlP, wvp, w0, wK, wB, wF, wV, wH, wM, wG, wP, wL, wD, wR⟩ := id hW
  exact w_B hW (s_copyFrom hd (has_len wB (by show 0 < 6; decide)) hx (by decide) hy wK k0)
theorem w_cpF {S : List Int32} {d : Nat} (hd : 1 ≤ d) {e f sv : Int32} {K B F V : kK} {ol sz : Nat} {R : Nat → kK} {M : List xC} {G : Nat → xC} {P : List xC} {vp : Nat} {ml ln : Int32} {D : List Int32} {h : xH} (hW : W0 e f sv K B F V ol sz R M G P vp ml ln D h) (hx : kv F) (hy : kv K) (k0 : Nat × Nat) : yT S d 15 [.ref 13, .ref 1] (h, k0) (fun r => ∃ h2, W0 e f sv K B K V ol sz R M G P vp ml ln D h2 ∧ r = (.inl none, (h2, k0))) := by
  obtain ⟨wl, wl2, wlM, wlP, wvp, w0, wK, wB, wF, wV, wH, wM, wG, wP, wL, wD, wR⟩ := id hW
  exact w_F hW (s_copyFrom hd (has_len wF (by show 0 < 6; decide)) hx (by decide) hy wK k0)
theorem w_cpV {S : List Int32} {d : Nat} (hd : 1 ≤ d) {e f sv : Int32} {K B F V : kK} {ol sz : Nat} {R : Nat → kK} {M : List xC} {G : Nat → xC} {P : List xC} {vp : Nat} {ml ln : Int32} {D : List Int32} {h : xH} (hW : W0 e f sv K B F V ol sz R M G P vp ml ln D h) (hx : kv V) (hy : kv K) (k0 : Nat × Nat) : yT S d 15 [.ref 19, .ref 1] (h, k0) (fun r => ∃ h2, W0 e f sv K B F K ol sz R M G P vp ml ln D h2 ∧ r = (.inl none, (h2, k0))) := by
  obtain ⟨wl, wl2, wlM, wlP, wvp, w0, wK, wB, wF, wV, wH, wM, wG, wP, wL, wD, wR⟩ := id hW
  exact w_V hW (s_copyFrom hd (has_len wV (by show 0 < 6; decide)) hx (by decide) hy wK k0)
theorem w_cpKB {S : List Int32} {d : Nat} (hd : 1 ≤ d) {e f sv : Int32} {K B F V : kK} {ol sz : Nat} {R : Nat → kK} {M : List xC} {G : Nat → xC} {P : List xC} {vp : Nat} {ml ln : Int32} {D : List Int32} {h : xH} (hW : W0 e f sv K B F V ol sz R M G P vp ml ln D h) (hx : kv K) (hy : kv B) (k0 : Nat × Nat) : yT S d 15 [.ref 1, .ref 7] (h, k0) (fun r => ∃ h2, W0 e f sv B B F V ol sz R M G P vp ml ln D h2 ∧ r = (.inl none, (h2, k0))) := by
  obtain ⟨wl, wl2, wlM, wlP, wvp, w0, wK, wB, wF, wV, wH, wM, wG, wP, wL, wD, wR⟩ := id hW
  exact w_K hW (s_copyFrom hd (has_len wK (by show 0 < 6; decide)) hx (by decide) hy wB k0)
theorem w_cpKV {S : List Int32} {d : Nat} (hd : 1 ≤ d) {e f sv : Int32} {K B F V : kK} {ol sz : Nat} {R : Nat → kK} {M : List xC} {G : Nat → xC} {P : List xC} {vp : Nat} {ml ln : Int32} {D : List Int32} {h : xH} (hW : W0 e f sv K B F V ol sz R M G P vp ml ln D h) (hx : kv K) (hy : kv V) (k0 : Nat × Nat) : yT S d 15 [.ref 1, .ref 19] (h, k0) (fun r => ∃ h2, W0 e f sv V B F V ol sz R M G P vp ml ln D h2 ∧ r = (.inl none, (h2, k0))) := by
  obtain ⟨wl, wl2, wlM, wlP, wvp, w0, wK, wB, wF, wV, wH, wM, wG, wP, wL, wD, wR⟩ := id hW
  exact w_K hW (s_copyFrom hd (has_len wK (by show 0 < 6; decide)) hx (by decide) hy wV k0)
theorem w_cpKR {S : List Int32} {d : Nat} (hd : 1 ≤ d) {e f sv : Int32} {K B F V : kK} {ol sz : Nat} {R : Nat → kK} {M : List xC} {G : Nat → xC} {P : List xC} {vp : Nat} {ml ln : Int32} {D : List Int32} {h : xH} (hW : W0 e f sv K B F V ol sz R M G P vp ml ln D h) (j : Nat) (hj : j < 8) (hx : kv K) (hy : kv (R j)) (k0 : Nat × Nat) : yT S d 15 [.ref 1, .ref (27 + 6 * j)] (h, k0) (fun r => ∃ h2, W0 e f sv (R j) B F V ol sz R M G P vp ml ln D h2 ∧ r = (.inl none, (h2, k0))) := by
  obtain ⟨wl, wl2, wlM, wlP, wvp, w0, wK, wB, wF, wV, wH, wM, wG, wP, wL, wD, wR⟩ := id hW
  exact w_K hW (s_copyFrom hd (has_len wK (by show 0 < 6; decide)) hx (Or.inr (by show 1 + 6 ≤ 27 + 6 * j; omega)) hy (wR j hj) k0)
theorem w_cpR {S : List Int32} {d : Nat} (hd : 1 ≤ d) {e f sv : Int32} {K B F V : kK} {ol sz : Nat} {R : Nat → kK} {M : List xC} {G : Nat → xC} {P : List xC} {vp : Nat} {ml ln : Int32} {D : List Int32} {h : xH} (hW : W0 e f sv K B F V ol sz R M G P vp ml ln D h) (k0 : Nat × Nat) (j : Nat) (hj : j < 8) (hx : kv (R j)) (hy : kv B) : yT S d 15 [.ref (27 + 6 * j), .ref 7] (h, k0) (fun r => ∃ h2, W0 e f sv K B F V ol sz (up R j B) M G P vp ml ln D h2 ∧ r = (.inl none, (h2, k0))) := by
  obtain ⟨wl, wl2, wlM, wlP, wvp, w0, wK, wB, wF, wV, wH, wM, wG, wP, wL, wD, wR⟩ := id hW
  have hT := s_copyFrom (S := S) hd (p := 27 + 6 * j) (has_len (wR j hj) (by show 0 < 6; decide)) hx (q := 7) (Or.inl (by show 7 + 6 ≤ 27 + 6 * j; omega)) hy wB k0
  rw [W_self (wR j hj) (by show 0 < 6; decide)] at hT
  exact yT_mono hT fun r hr => ⟨_, W_R hj hW, hr⟩
theorem w_remember {S : List Int32} {d : Nat} (hd : 2 ≤ d) {e f sv : Int32} {K B F V : kK} {ol sz : Nat} {R : Nat → kK} {M : List xC} {G : Nat → xC} {P : List xC} {vp : Nat} {ml ln : Int32} {D : List Int32} {h : xH} (hW : W0 e f sv K B F V ol sz R M G P vp ml ln D h) (k0 : Nat × Nat) (h1 : ol < 8) (h2 : sz ≤ 8) (hR : ∀ i, i < 8 → kv (R i)) (hB : kv B) : yT S d 11 [.ref 25, .ref 7] (h, k0) (fun r => ∃ h2, W0 e f sv K B F V (if sz < 8 then ol else (ol + 1) % 8) (if sz < 8 then sz + 1 else sz) (up R ((ol + sz) % 8) B) M G P vp ml ln D h2 ∧ r = (.inl none, (h2, k0))) := by
  obtain ⟨wl, wl2, wlM, wlP, wvp, w0, wK, wB, wF, wV, wH, wM, wG, wP, wL, wD, wR⟩ := id hW
  obtain ⟨d, rfl⟩ : ∃ e, d = e + 1 := ⟨d - 1, by omega⟩
  refine yT_e (Nat.le_of_ble_eq_true rfl) ?_
  show yW S d 11 (0, [.ref 25, .ref 7], [], (h, k0)) _
  refine y_go rfl rfl ?_
  refine y_getf (w := .ref 26) rfl rfl (has_at wH (i := 0) rfl) rfl ?_
  refine y_go rfl rfl ?_
  refine y_getf (w := .int (nI ol)) rfl rfl (has_at wH (i := 0) rfl) rfl ?_
  refine y_go rfl rfl ?_
  refine y_getf (w := .int (nI sz)) rfl rfl (has_at wH (i := 0) rfl) rfl ?_
  refine y_go rfl rfl ?_
  refine y_go rfl rfl ?_
  rw [show nI ol + nI sz = nI (ol + sz) from nI_add ol sz]
  refine y_div rfl (by decide) (Or.inr ⟨rfl, nI_mod (a := ol + sz) (b := 8) (by omega) (by decide)⟩) ?_
  have hj : (ol + sz) % 8 < 8 := Nat.mod_lt _ (by decide)
  refine y_aald (j := (ol + sz) % 8) rfl (has_at wH (i := 1) rfl) (xidx_nI (by omega)) (rows6 hj) ?_
  refine y_go rfl rfl ?_
  refine y_V0e rfl (Nat.le_of_ble_eq_true rfl) (Nat.le_of_ble_eq_true rfl) rfl rfl (xrcv_of (has_at (wR _ hj) (i := 0) rfl)) (w_cpR (by omega) hW k0 _ hj (hR _ hj) hB) (fun h3 hz => ?_)
  have wH3 : has h3 25 (hiC ol sz) := by obtain ⟨wl, wl2, wlM, wlP, wvp, w0, wK, wB, wF, wV, wH, wM, wG, wP, wL, wD, wR⟩ := id hz; exact wH
  have hlh : 25 + 2 ≤ h3.length := has_len wH3 (by show 0 < 2; decide)
  have hs3 := W_self wH3 (by show 0 < 2; decide)
  suffices hg : yW S d 11 (21, [.ref 25, .ref 7], [], (put h3 25 (hiX (nI ol) (nI sz)), k0)) (fun r => ∃ h2, W0 e f sv K B F V (if sz < 8 then ol else (ol + 1) % 8) (if sz < 8 then sz + 1 else sz) (up R ((ol + sz) % 8) B) M G P vp ml ln D h2 ∧ r = (.inl none, (h2, k0))) by rw [hs3] at hg; exact hg
  refine y_go rfl rfl ?_
  refine y_getR (w := .int (nI sz)) (j := 0) rfl hlh rfl rfl rfl rfl ?_
  refine y_go rfl rfl ?_
  by_cases hs : sz < 8
  · refine y_ic_ge rfl (fun c => absurd (nI_lt hs (by decide)) c) (fun _ => ?_)
    refine y_go rfl rfl ?_
    refine y_go rfl rfl ?_
    refine y_getR (w := .int (nI sz)) (j := 0) rfl hlh rfl rfl rfl rfl ?_
    refine y_go rfl rfl ?_
    refine y_go rfl rfl ?_
    rw [show nI sz + 1 = nI (sz + 1) from nI_1 sz]
    refine y_putR (j := 0) (cs' := (hiX (nI ol) (nI (sz + 1)))) rfl hlh rfl rfl (Nat.le_of_ble_eq_true rfl) (xf_int rfl) rfl ?_
    refine y_go rfl rfl ?_
    exact y_end rfl rfl ⟨_, (by rw [if_pos hs, if_pos hs]; exact W_H hz), rfl⟩
  · refine y_ic_ge rfl (fun _ => ?_) (fun c => absurd c (nI_nlt (a := sz) (b := 8) (by omega) (by omega)))
    refine y_go rfl rfl ?_
    refine y_go rfl rfl ?_
    refine y_getR (w := .int (nI ol)) (j := 0) rfl hlh rfl rfl rfl rfl ?_
    refine y_go rfl rfl ?_
    refine y_go rfl rfl ?_
    refine y_go rfl rfl ?_
    rw [show nI ol + 1 = nI (ol + 1) from nI_1 ol]
    refine y_div rfl (by decide) (Or.inr ⟨rfl, nI_mod (a := ol + 1) (b := 8) (by omega) (by decide)⟩) ?_
    refine y_putR (j := 0) (cs' := (hiX (nI ((ol + 1) % 8)) (nI sz))) rfl hlh rfl rfl (Nat.le_of_ble_eq_true rfl) (xf_int rfl) rfl ?_
    exact y_end rfl rfl ⟨_, (by rw [if_neg hs, if_neg hs]; exact W_H hz), rfl⟩
theorem w_takeBack0 {S : List Int32} {d : Nat} (hd : 2 ≤ d) {e f sv : Int32} {K B F V : kK} {ol sz : Nat} {R : Nat → kK} {M : List xC} {G : Nat → xC} {P : List xC} {vp : Nat} {ml ln : Int32} {D : List Int32} {h : xH} (hW : W0 e f sv K B F V ol sz R M G P vp ml ln D h) (k0 : Nat × Nat) (h0 : sz = 0) : yT S d 12 [.ref 25, .ref 1] (h, k0) (· = (.inl (some (.int (-3))), (h, k0))) := by
  subst h0
  obtain ⟨wl, wl2, wlM, wlP, wvp, w0, wK, wB, wF, wV, wH, wM, wG, wP, wL, wD, wR⟩ := id hW
  obtain ⟨d, rfl⟩ : ∃ e, d = e + 1 := ⟨d - 1, by omega⟩
  refine yT_eq (Nat.le_of_ble_eq_true rfl) ?_
  show yW S d 12 (0, [.ref 25, .ref 1], [], (h, k0)) _
  refine y_go rfl rfl ?_
  refine y_getf (w := .int (nI 0)) rfl rfl (has_at wH (i := 0) rfl) rfl ?_
  refine y_if_ne rfl (fun c => absurd (rfl) c) (fun _ => ?_)
  refine y_go rfl rfl ?_
  exact y_ireturn rfl rfl rfl rfl
theorem w_takeBack {S : List Int32} {d : Nat} (hd : 2 ≤ d) {e f sv : Int32} {K B F V : kK} {ol sz : Nat} {R : Nat → kK} {M : List xC} {G : Nat → xC} {P : List xC} {vp : Nat} {ml ln : Int32} {D : List Int32} {h : xH} (hW : W0 e f sv K B F V ol sz R M G P vp ml ln D h) (k0 : Nat × Nat) (h1 : ol < 8) (h2 : sz ≤ 8) (hR : ∀ i, i < 8 → kv (R i)) (hK : kv K) (s1 : Nat) (hs : sz = s1 + 1) : yT S d 12 [.ref 25, .ref 1] (h, k0) (fun r => ∃ h2, W0 e f sv (R ((ol + s1) % 8)) B F V ol s1 R M G P vp ml ln D h2 ∧ r = (.inl (some (.int (nI s1))), (h2, k0))) := by
  subst hs
  obtain ⟨wl, wl2, wlM, wlP, wvp, w0, wK, wB, wF, wV, wH, wM, wG, wP, wL, wD, wR⟩ := id hW
  obtain ⟨d, rfl⟩ : ∃ e, d = e + 1 := ⟨d - 1, by omega⟩
  refine yT_e (Nat.le_of_ble_eq_true rfl) ?_
  show yW S d 12 (0, [.ref 25, .ref 1], [], (h, k0)) _
  refine y_go rfl rfl ?_
  refine y_getf (w := .int (nI (s1 + 1))) rfl rfl (has_at wH (i := 0) rfl) rfl ?_
  refine y_if_ne rfl (fun _ => ?_) (fun c => absurd c (fun q => absurd ((nI_eq (a := s1 + 1) (b := 0) (by omega) (by decide)).mp q) (by omega)))
  have hlh : 25 + 2 ≤ h.length := has_len wH (by show 0 < 2; decide)
  have hs3 := W_self wH (by show 0 < 2; decide)
  suffices hg : yW S d 12 (10, [.ref 25, .ref 1], [], (put h 25 (hiX (nI ol) (nI (s1 + 1))), k0)) (fun r => ∃ h2, W0 e f sv (R ((ol + s1) % 8)) B F V ol s1 R M G P vp ml ln D h2 ∧ r = (.inl (some (.int (nI s1))), (h2, k0))) by rw [hs3] at hg; exact hg
  refine y_go rfl rfl ?_
  refine y_go rfl rfl ?_
  refine y_getR (w := .int (nI (s1 + 1))) (j := 0) rfl hlh rfl rfl rfl rfl ?_
  refine y_go rfl rfl ?_
  refine y_go rfl rfl ?_
  rw [show nI (s1 + 1) - 1 = nI s1 from nI_sub (a := s1 + 1) (b := 1) (by omega)]
  refine y_putR (j := 0) (cs' := (hiX (nI ol) (nI s1))) rfl hlh rfl rfl (Nat.le_of_ble_eq_true rfl) (xf_int rfl) rfl ?_
  have hW2 := W_H (ol2 := ol) (sz2 := s1) hW
  generalize hg : put h 25 (hiX (nI ol) (nI s1)) = h3
  rw [show put h 25 (hiC ol s1) = h3 from hg] at hW2
  clear hg hs3 hlh wl wl2 wlM wlP wvp w0 wK wB wF wV wH wM wG wP wL wD wR
  obtain ⟨wl, wl2, wlM, wlP, wvp, w0, wK, wB, wF, wV, wH, wM, wG, wP, wL, wD, wR⟩ := id hW2
  refine y_go rfl rfl ?_
  refine y_go rfl rfl ?_
  refine y_getf (w := .ref 26) rfl rfl (has_at wH (i := 0) rfl) rfl ?_
  refine y_go rfl rfl ?_
  refine y_getf (w := .int (nI ol)) rfl rfl (has_at wH (i := 0) rfl) rfl ?_
  refine y_go rfl rfl ?_
  refine y_getf (w := .int (nI s1)) rfl rfl (has_at wH (i := 0) rfl) rfl ?_
  refine y_go rfl rfl ?_
  refine y_go rfl rfl ?_
  rw [show nI ol + nI s1 = nI (ol + s1) from nI_add ol s1]
  refine y_div rfl (by decide) (Or.inr ⟨rfl, nI_mod (a := ol + s1) (b := 8) (by omega) (by decide)⟩) ?_
  have hj : (ol + s1) % 8 < 8 := Nat.mod_lt _ (by decide)
  refine y_aald (j := (ol + s1) % 8) rfl (has_at wH (i := 1) rfl) (xidx_nI (by omega)) (rows6 hj) ?_
  refine y_V0e rfl (Nat.le_of_ble_eq_true rfl) (Nat.le_of_ble_eq_true rfl) rfl rfl (xrcv_of (has_at wK (i := 0) rfl)) (w_cpKR (by omega) hW2 _ hj hK (hR _ hj) k0) (fun h4 hz => ?_)
  clear wl wl2 wlM wlP wvp w0 wK wB wF wV wH wM wG wP wL wD wR
  obtain ⟨wl, wl2, wlM, wlP, wvp, w0, wK, wB, wF, wV, wH, wM, wG, wP, wL, wD, wR⟩ := id hz
  refine y_go rfl rfl ?_
  refine y_getf (w := .int (nI s1)) rfl rfl (has_at wH (i := 0) rfl) rfl ?_
  exact y_ireturn rfl rfl rfl ⟨_, hz, rfl⟩
theorem w_forget {S : List Int32} {d : Nat} (hd : 1 ≤ d) {e f sv : Int32} {K B F V : kK} {ol sz : Nat} {R : Nat → kK} {M : List xC} {G : Nat → xC} {P : List xC} {vp : Nat} {ml ln : Int32} {D : List Int32} {h : xH} (hW : W0 e f sv K B F V ol sz R M G P vp ml ln D h) (k0 : Nat × Nat) : yT S d 13 [.ref 25] (h, k0) (fun r => ∃ h2, W0 e f sv K B F V ol 0 R M G P vp ml ln D h2 ∧ r = (.inl none, (h2, k0))) := by
  obtain ⟨wl, wl2, wlM, wlP, wvp, w0, wK, wB, wF, wV, wH, wM, wG, wP, wL, wD, wR⟩ := id hW
  obtain ⟨d, rfl⟩ : ∃ e, d = e + 1 := ⟨d - 1, by omega⟩
  refine yT_e (Nat.le_of_ble_eq_true rfl) ?_
  have hlh : 25 + 2 ≤ h.length := has_len wH (by show 0 < 2; decide)
  have hs3 := W_self wH (by show 0 < 2; decide)
  suffices hg : yW S d 13 (0, [.ref 25], [], (put h 25 (hiX (nI ol) (nI sz)), k0)) (fun r => ∃ h2, W0 e f sv K B F V ol 0 R M G P vp ml ln D h2 ∧ r = (.inl none, (h2, k0))) by rw [hs3] at hg; exact hg
  refine y_go rfl rfl ?_
  refine y_go rfl rfl ?_
  refine y_putR (j := 0) (cs' := (hiX (nI ol) 0)) rfl hlh rfl rfl (Nat.le_of_ble_eq_true rfl) (xf_int rfl) rfl ?_
  exact y_end rfl rfl ⟨_, W_H (sz2 := 0) hW, rfl⟩
