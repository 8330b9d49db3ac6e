/-! THE WORLD: the courses as they are made; commands. -/
def xJT : List (List Int32) := [[0, 0, 0, 0, 0, 0, 0, 0, 0, 0, 0, 0, 0, 0, 0, 0, 0, 0, 0, 0, 0, 0, 0, 0, 0, 0, 0, 0, 0, 0, 0, 0, 0, 0, 0, 0, 0, 0, 0, 0, 0, 0, 0, 0, 0, 0, 0, 0, 0, 0, 0, 0, 0, 0, 0, 0, 0, 0, 0, 0, 0, 0, 0, 0, 0], [0, 0, 0, 0, 0, 0, 0, 0, 0, 0, 0, 0, 0, 0, 0, 0, 0, 0, 0, 0, 0, 0, 0, 0, 0, 0, 0, 0, 0, 0, 0, 0, 0, 0, 0, 0, 0, 0, 0, 0, 0, 0, 0, 0, 0, 0, 0, 0, 0, 0, 0, 0, 0, 0, 0, 0, 0, 0, 0, 0, 0, 0, 0, 0, 0], [0, 0, 0, 0, 0, 0, 0, 0, 0, 0, 0, 0, 0, 0, 0, 0, 0, 0, 0, 0, 0, 0, 0, 0, 0, 0, 0, 0, 0, 0, 0, 0, 0, 0, 0, 0, 0, 0, 0, 0, 0, 0, 0, 0, 0, 0, 0, 0, 0, 0, 0, 0, 0, 0, 0, 0, 0, 0, 0, 0, 0, 0, 0, 0, 0], [0, 0, 0, 0, 0, 0, 0, 0, 0, 0, 0, 0, 0, 0, 0, 0, 0, 0, 0, 0, 0, 0, 0, 0, 0, 0, 0, 0, 0, 0, 0, 0, 0, 0, 0, 0, 0, 0, 0, 0, 0, 0, 0, 0, 0, 0, 0, 0, 0, 0, 0, 0, 0, 0, 0, 0, 0, 0, 0, 0, 0, 0, 0, 0, 0], [4, 0, 0, 0, 0, 0, 0, 0, 0, 0, 0, 0, 0, 0, 0, 0, 0, 0, 0, 0, 0, 0, 0, 0, 0, 0, 0, 0, 0, 0, 0, 0, 0, 0, 0, 0, 0, 0, 0, 0, 0, 0, 0, 0, 0, 0, 0, 0, 0, 0, 0, 0, 0, 0, 0, 0, 0, 0, 0, 0, 0, 0, 0, 0, 0], [8, 4, 0, 0, 0, 0, 0, 0, 0, 0, 0, 0, 0, 0, 0, 0, 0, 0, 0, 0, 0, 0, 0, 0, 0, 0, 0, 0, 0, 0, 0, 0, 0, 0, 0, 0, 0, 0, 0, 0, 0, 0, 0, 0, 0, 0, 0, 0, 0, 0, 0, 0, 0, 0, 0, 0, 0, 0, 0, 0, 0, 0, 0, 0, 0], [20, 8, 0, 0, 0, 0, 0, 0, 0, 0, 0, 0, 0, 0, 0, 0, 0, 0, 0, 0, 0, 0, 0, 0, 0, 0, 0, 0, 0, 0, 0, 0, 0, 0, 0, 0, 0, 0, 0, 0, 0, 0, 0, 0, 0, 0, 0, 0, 0, 0, 0, 0, 0, 0, 0, 0, 0, 0, 0, 0, 0, 0, 0, 0, 0], [40, 36, 20, 0, 0, 0, 0, 0, 0, 0, 0, 0, 0, 0, 0, 0, 0, 0, 0, 0, 0, 0, 0, 0, 0, 0, 0, 0, 0, 0, 0, 0, 0, 0, 0, 0, 0, 0, 0, 0, 0, 0, 0, 0, 0, 0, 0, 0, 0, 0, 0, 0, 0, 0, 0, 0, 0, 0, 0, 0, 0, 0, 0, 0, 0], [84, 72, 40, 36, 0, 0, 0, 0, 0, 0, 0, 0, 0, 0, 0, 0, 0, 0, 0, 0, 0, 0, 0, 0, 0, 0, 0, 0, 0, 0, 0, 0, 0, 0, 0, 0, 0, 0, 0, 0, 0, 0, 0, 0, 0, 0, 0, 0, 0, 0, 0, 0, 0, 0, 0, 0, 0, 0, 0, 0, 0, 0, 0, 0, 0], [168, 164, 148, 84, 72, 0, 0, 0, 0, 0, 0, 0, 0, 0, 0, 0, 0, 0, 0, 0, 0, 0, 0, 0, 0, 0, 0, 0, 0, 0, 0, 0, 0, 0, 0, 0, 0, 0, 0, 0, 0, 0, 0, 0, 0, 0, 0, 0, 0, 0, 0, 0, 0, 0, 0, 0, 0, 0, 0, 0, 0, 0, 0, 0, 0], [340, 328, 296, 292, 168, 164, 148, 0, 0, 0, 0, 0, 0, 0, 0, 0, 0, 0, 0, 0, 0, 0, 0, 0, 0, 0, 0, 0, 0, 0, 0, 0, 0, 0, 0, 0, 0, 0, 0, 0, 0, 0, 0, 0, 0, 0, 0, 0, 0, 0, 0, 0, 0, 0, 0, 0, 0, 0, 0, 0, 0, 0, 0, 0, 0], [680, 676, 660, 596, 584, 340, 328, 296, 292, 0, 0, 0, 0, 0, 0, 0, 0, 0, 0, 0, 0, 0, 0, 0, 0, 0, 0, 0, 0, 0, 0, 0, 0, 0, 0, 0, 0, 0, 0, 0, 0, 0, 0, 0, 0, 0, 0, 0, 0, 0, 0, 0, 0, 0, 0, 0, 0, 0, 0, 0, 0, 0, 0, 0, 0], [1364, 1352, 1320, 1316, 1192, 1188, 1172, 680, 676, 660, 596, 584, 0, 0, 0, 0, 0, 0, 0, 0, 0, 0, 0, 0, 0, 0, 0, 0, 0, 0, 0, 0, 0, 0, 0, 0, 0, 0, 0, 0, 0, 0, 0, 0, 0, 0, 0, 0, 0, 0, 0, 0, 0, 0, 0, 0, 0, 0, 0, 0, 0, 0, 0, 0, 0], [2728, 2724, 2708, 2644, 2632, 2388, 2376, 2344, 2340, 1364, 1352, 1320, 1316, 1192, 1188, 1172, 0, 0, 0, 0, 0, 0, 0, 0, 0, 0, 0, 0, 0, 0, 0, 0, 0, 0, 0, 0, 0, 0, 0, 0, 0, 0, 0, 0, 0, 0, 0, 0, 0, 0, 0, 0, 0, 0, 0, 0, 0, 0, 0, 0, 0, 0, 0, 0, 0], [5460, 5448, 5416, 5412, 5288, 5284, 5268, 4776, 4772, 4756, 4692, 4680, 2728, 2724, 2708, 2644, 2632, 2388, 2376, 2344, 2340, 0, 0, 0, 0, 0, 0, 0, 0, 0, 0, 0, 0, 0, 0, 0, 0, 0, 0, 0, 0, 0, 0, 0, 0, 0, 0, 0, 0, 0, 0, 0, 0, 0, 0, 0, 0, 0, 0, 0, 0, 0, 0, 0, 0], [10920, 10916, 10900, 10836, 10824, 10580, 10568, 10536, 10532, 9556, 9544, 9512, 9508, 9384, 9380, 9364, 5460, 5448, 5416, 5412, 5288, 5284, 5268, 4776, 4772, 4756, 4692, 4680, 0, 0, 0, 0, 0, 0, 0, 0, 0, 0, 0, 0, 0, 0, 0, 0, 0, 0, 0, 0, 0, 0, 0, 0, 0, 0, 0, 0, 0, 0, 0, 0, 0, 0, 0, 0, 0], [21844, 21832, 21800, 21796, 21672, 21668, 21652, 21160, 21156, 21140, 21076, 21064, 19112, 19108, 19092, 19028, 19016, 18772, 18760, 18728, 18724, 10920, 10916, 10900, 10836, 10824, 10580, 10568, 10536, 10532, 9556, 9544, 9512, 9508, 9384, 9380, 9364, 0, 0, 0, 0, 0, 0, 0, 0, 0, 0, 0, 0, 0, 0, 0, 0, 0, 0, 0, 0, 0, 0, 0, 0, 0, 0, 0, 0], [43688, 43684, 43668, 43604, 43592, 43348, 43336, 43304, 43300, 42324, 42312, 42280, 42276, 42152, 42148, 42132, 38228, 38216, 38184, 38180, 38056, 38052, 38036, 37544, 37540, 37524, 37460, 37448, 21844, 21832, 21800, 21796, 21672, 21668, 21652, 21160, 21156, 21140, 21076, 21064, 19112, 19108, 19092, 19028, 19016, 18772, 18760, 18728, 18724, 0, 0, 0, 0, 0, 0, 0, 0, 0, 0, 0, 0, 0, 0, 0, 0], [87380, 87368, 87336, 87332, 87208, 87204, 87188, 86696, 86692, 86676, 86612, 86600, 84648, 84644, 84628, 84564, 84552, 84308, 84296, 84264, 84260, 76456, 76452, 76436, 76372, 76360, 76116, 76104, 76072, 76068, 75092, 75080, 75048, 75044, 74920, 74916, 74900, 43688, 43684, 43668, 43604, 43592, 43348, 43336, 43304, 43300, 42324, 42312, 42280, 42276, 42152, 42148, 42132, 38228, 38216, 38184, 38180, 38056, 38052, 38036, 37544, 37540, 37524, 37460, 37448]]
def xJ (w : Nat) : List Int32 := xJT.getD w []
def xCt : List Int32 := [1, 0, 1, 1, 1, 2, 2, 3, 4, 5, 7, 9, 12, 16, 21, 28, 37, 49, 65]
def xCn (w : Nat) : Nat := [1, 0, 1, 1, 1, 2, 2, 3, 4, 5, 7, 9, 12, 16, 21, 28, 37, 49, 65].getD w 0
theorem xJ_ok : ctOK xJ xCt xCn := ⟨rfl, by decide +kernel⟩
def mxOK (M : List xC) : Prop := ∃ (lo : List Int32) (x y z cc t fo : Int32), lo.length = 212 ∧ M = mC 75 lo [x, y, z] cc t fo
/-- the world with whatever the mixer and the courses hold -/
def W1 (e f sv : Int32) (K B F V : kK) (ol sz : Nat) (R : Nat → kK) (P : List xC) (vp : Nat) (ml ln : Int32) (D : List Int32) (h : xH) : Prop := ∃ M G, mxOK M ∧ cg 78 xJ xCt G ∧ W0 e f sv K B F V ol sz R M G P vp ml ln D h
def kap {α : Type} (F : (Nat → Int32) → List Int32 → List Int32 → List Int32 → List Int32 → List Int32 → α) (K : kK) : α := F K.1 K.2.1 K.2.2.1 K.2.2.2.1 K.2.2.2.2.1 K.2.2.2.2.2
def pN (K : kK) (i : Nat) : Nat := (gd K.2.2.2.2.1 i).toNatClampNeg
def rN (K : kK) (i : Nat) : Nat := (gd K.2.2.2.2.2 i).toNatClampNeg
/-- pieces and prices -/
def kp (K : kK) : Prop := ∃ W C O a b e : Nat, W ≤ 99 ∧ C ≤ 99 ∧ O ≤ 99 ∧ a ≤ 20 ∧ b ≤ 20 ∧ e ≤ 20 ∧ K.2.2.2.2.1 = [nI W, nI C, nI O] ∧ K.2.2.2.2.2 = [nI a, nI b, nI e]
def feedK (u : Nat) (K : kK) : Int32 × kK := feedX u K.1 K.2.1 K.2.2.1 K.2.2.2.1 (pN K 0) (pN K 1) (pN K 2) (rN K 0) (rN K 1) (rN K 2)
def passK (m : Nat) (K : kK) : Int32 × kK := if 1 ≤ m ∧ m ≤ 48 then ((hoursK K m).1 12 - K.1 12, hoursK K m) else (-2, K)
/-- the commands: load, take, light, out, draught, fuel, price, feed, pass, wall -/
def cmdX (c a b : Nat) (K : kK) : Int32 × kK := match c with
  | 0 => kap fillX K (nI a) (nI b)
  | 1 => kap emptyX K (nI a)
  | 2 => kap lightX K (nI a)
  | 3 => kap outX K
  | 4 => kap drghtX K (nI a)
  | 5 => kap addX K (nI a) (nI b)
  | 6 => kap priceX K (nI a) (nI b)
  | 7 => feedK a K
  | 8 => passK a K
  | _ => wallX xJ xCn a b K
theorem xct_swm : xct 1000092 = some (0, [.int 1, .int 2, .int 3, .int 4, .int 5, .int 6, .int 7, .int 8, .int 9, .int 10]) := by decide +kernel
theorem k_0 {S : List Int32} {d : Nat} (hd : 3 ≤ d) {h : xH} {p : Nat} (hl : p + 6 ≤ h.length) (K : kK) (hK : kv K) (k0 : Nat × Nat) (a b : Nat) : yT S d 25 [.ref p, .int (nI a), .int (nI b)] (put h p (kC p K), k0) (· = (.inl (some (.int (cmdX 0 a b K).1)), (put h p (kC p (cmdX 0 a b K).2), k0))) := by
  obtain ⟨f, ss, bs, ts, ps, rs⟩ := K
  obtain ⟨h1, h2, h3, h4, h5, -⟩ := hK
  exact s_fillChamber hd hl f ss bs ts ps rs k0 h1 h2 h3 h4 h5 _ _
theorem k_1 {S : List Int32} {d : Nat} (hd : 3 ≤ d) {h : xH} {p : Nat} (hl : p + 6 ≤ h.length) (K : kK) (hK : kv K) (k0 : Nat × Nat) (a b : Nat) : yT S d 26 [.ref p, .int (nI a)] (put h p (kC p K), k0) (· = (.inl (some (.int (cmdX 1 a b K).1)), (put h p (kC p (cmdX 1 a b K).2), k0))) := by
  obtain ⟨f, ss, bs, ts, ps, rs⟩ := K
  obtain ⟨h1, h2, h3, h4, h5, -⟩ := hK
  exact s_emptyChamber hd hl f ss bs ts ps rs k0 h1 h2 h3 h4 h5 _
theorem k_2 {S : List Int32} {d : Nat} (hd : 3 ≤ d) {h : xH} {p : Nat} (hl : p + 6 ≤ h.length) (K : kK) (hK : kv K) (k0 : Nat × Nat) (a b : Nat) : yT S d 27 [.ref p, .int (nI a)] (put h p (kC p K), k0) (· = (.inl (some (.int (cmdX 2 a b K).1)), (put h p (kC p (cmdX 2 a b K).2), k0))) := by
  obtain ⟨f, ss, bs, ts, ps, rs⟩ := K
  obtain ⟨h1, h2, h3, h4, h5, -⟩ := hK
  exact s_lightFire hd hl f ss bs ts ps rs k0 h1 h2 h3 h4 h5 _
theorem k_3 {S : List Int32} {d : Nat} (hd : 2 ≤ d) {h : xH} {p : Nat} (hl : p + 6 ≤ h.length) (K : kK) (hK : kv K) (k0 : Nat × Nat) (a b : Nat) : yT S d 28 [.ref p] (put h p (kC p K), k0) (· = (.inl (some (.int (cmdX 3 a b K).1)), (put h p (kC p (cmdX 3 a b K).2), k0))) := by
  obtain ⟨f, ss, bs, ts, ps, rs⟩ := K
  obtain ⟨h1, h2, h3, h4, h5, -⟩ := hK
  exact s_putFireOut hd hl f ss bs ts ps rs k0 h1 h2 h3 h4 h5
theorem k_4 {S : List Int32} {d : Nat} (hd : 2 ≤ d) {h : xH} {p : Nat} (hl : p + 6 ≤ h.length) (K : kK) (hK : kv K) (k0 : Nat × Nat) (a b : Nat) : yT S d 29 [.ref p, .int (nI a)] (put h p (kC p K), k0) (· = (.inl (some (.int (cmdX 4 a b K).1)), (put h p (kC p (cmdX 4 a b K).2), k0))) := by
  obtain ⟨f, ss, bs, ts, ps, rs⟩ := K
  obtain ⟨h1, h2, h3, h4, h5, -⟩ := hK
  exact s_changeDraught hd hl f ss bs ts ps rs k0 h1 h2 h3 h4 h5 _
theorem k_5 {S : List Int32} {d : Nat} (hd : 2 ≤ d) {h : xH} {p : Nat} (hl : p + 6 ≤ h.length) (K : kK) (hK : kv K) (k0 : Nat × Nat) (a b : Nat) : yT S d 30 [.ref p, .int (nI a), .int (nI b)] (put h p (kC p K), k0) (· = (.inl (some (.int (cmdX 5 a b K).1)), (put h p (kC p (cmdX 5 a b K).2), k0))) := by
  obtain ⟨f, ss, bs, ts, ps, rs⟩ := K
  obtain ⟨h1, h2, h3, h4, h5, -⟩ := hK
  exact s_addPieces hd hl f ss bs ts ps rs k0 h1 h2 h3 h4 h5 _ _
theorem k_6 {S : List Int32} {d : Nat} (hd : 2 ≤ d) {h : xH} {p : Nat} (hl : p + 6 ≤ h.length) (K : kK) (hK : kv K) (k0 : Nat × Nat) (a b : Nat) : yT S d 31 [.ref p, .int (nI a), .int (nI b)] (put h p (kC p K), k0) (· = (.inl (some (.int (cmdX 6 a b K).1)), (put h p (kC p (cmdX 6 a b K).2), k0))) := by
  obtain ⟨f, ss, bs, ts, ps, rs⟩ := K
  obtain ⟨h1, h2, h3, h4, h5, -⟩ := hK
  exact s_changePrice hd hl f ss bs ts ps rs k0 h1 h2 h3 h4 h5 _ _
theorem w_K {S : List Int32} {d m : Nat} {args : List Value} {o : Option Value} {k1 : Nat × Nat} {e f sv : Int32} {K B F V : kK} {ol sz : Nat} {R : Nat → kK} {M : List xC} {G : Nat → xC} {P : List xC} {vp : Nat} {ml ln : Int32} {D : List Int32} {h : xH}  {K2 : kK} {k0 : Nat × Nat} (hW : W0 e f sv K B F V ol sz R M G P vp ml ln D h) (hT : yT S d m args (put h 1 (kC 1 K), k0) (· = (.inl o, (put h 1 (kC 1 K2), k1)))) : yT S d m args (h, k0) (fun r => ∃ h2, W0 e f sv K2 B F V ol sz R M G P vp ml ln D h2 ∧ r = (.inl o, (h2, k1))) := by
  obtain ⟨wl, wl2, wlM, wlP, wvp, w0, wK, wB, wF, wV, wH, wM, wG, wP, wL, wD, wR⟩ := id hW
  rw [W_self (p := 1) (cs := (kC 1 K)) wK (by show 0 < 6; decide)] at hT
  exact yT_mono hT fun r hr => ⟨_, W_K hW, hr⟩
theorem w_Kr {S : List Int32} {d m : Nat} {args : List Value} {e f sv : Int32} {K B F V : kK} {ol sz : Nat} {R : Nat → kK} {M : List xC} {G : Nat → xC} {P : List xC} {vp : Nat} {ml ln : Int32} {D : List Int32} {h : xH} {k0 : Nat × Nat} (hW : W0 e f sv K B F V ol sz R M G P vp ml ln D h) {Q : xH → xR} (hT : yT S d m args (put h 1 (kC 1 K), k0) (· = Q (put h 1 (kC 1 K)))) : yT S d m args (h, k0) (· = Q h) := by
  obtain ⟨wl, wl2, wlM, wlP, wvp, w0, wK, wB, wF, wV, wH, wM, wG, wP, wL, wD, wR⟩ := id hW
  rw [W_self (p := 1) (cs := kC 1 K) wK (by show 0 < 6; decide)] at hT
  exact hT
theorem w_B {S : List Int32} {d m : Nat} {args : List Value} {o : Option Value} {k1 : Nat × Nat} {e f sv : Int32} {K B F V : kK} {ol sz : Nat} {R : Nat → kK} {M : List xC} {G : Nat → xC} {P : List xC} {vp : Nat} {ml ln : Int32} {D : List Int32} {h : xH}  {K2 : kK} {k0 : Nat × Nat} (hW : W0 e f sv K B F V ol sz R M G P vp ml ln D h) (hT : yT S d m args (put h 7 (kC 7 B), k0) (· = (.inl o, (put h 7 (kC 7 K2), k1)))) : yT S d m args (h, k0) (fun r => ∃ h2, W0 e f sv K K2 F V ol sz R M G P vp ml ln D h2 ∧ r = (.inl o, (h2, k1))) := by
  obtain ⟨wl, wl2, wlM, wlP, wvp, w0, wK, wB, wF, wV, wH, wM, wG, wP, wL, wD, wR⟩ := id hW
  rw [W_self (p := 7) (cs := (kC 7 B)) wB (by show 0 < 6; decide)] at hT
  exact yT_mono hT fun r hr => ⟨_, W_B hW, hr⟩
theorem w_Br {S : List Int32} {d m : Nat} {args : List Value} {e f sv : Int32} {K B F V : kK} {ol sz : Nat} {R : Nat → kK} {M : List xC} {G : Nat → xC} {P : List xC} {vp : Nat} {ml ln : Int32} {D : List Int32} {h : xH} {k0 : Nat × Nat} (hW : W0 e f sv K B F V ol sz R M G P vp ml ln D h) {Q : xH → xR} (hT : yT S d m args (put h 7 (kC 7 B), k0) (· = Q (put h 7 (kC 7 B)))) : yT S d m args (h, k0) (· = Q h) := by
  obtain ⟨wl, wl2, wlM, wlP, wvp, w0, wK, wB, wF, wV, wH, wM, wG, wP, wL, wD, wR⟩ := id hW
  rw [W_self (p := 7) (cs := kC 7 B) wB (by show 0 < 6; decide)] at hT
  exact hT
theorem w_F {S : List Int32} {d m : Nat} {args : List Value} {o : Option Value} {k1 : Nat × Nat} {e f sv : Int32} {K B F V : kK} {ol sz : Nat} {R : Nat → kK} {M : List xC} {G : Nat → xC} {P : List xC} {vp : Nat} {ml ln : Int32} {D : List Int32} {h : xH}  {K2 : kK} {k0 : Nat × Nat} (hW : W0 e f sv K B F V ol sz R M G P vp ml ln D h) (hT : yT S d m args (put h 13 (kC 13 F), k0) (· = (.inl o, (put h 13 (kC 13 K2), k1)))) : yT S d m args (h, k0) (fun r => ∃ h2, W0 e f sv K B K2 V ol sz R M G P vp ml ln D h2 ∧ r = (.inl o, (h2, k1))) := by
  obtain ⟨wl, wl2, wlM, wlP, wvp, w0, wK, wB, wF, wV, wH, wM, wG, wP, wL, wD, wR⟩ := id hW
  rw [W_self (p := 13) (cs := (kC 13 F)) wF (by show 0 < 6; decide)] at hT
  exact yT_mono hT fun r hr => ⟨_, W_F hW, hr⟩
theorem w_Fr {S : List Int32} {d m : Nat} {args : List Value} {e f sv : Int32} {K B F V : kK} {ol sz : Nat} {R : Nat → kK} {M : List xC} {G : Nat → xC} {P : List xC} {vp : Nat} {ml ln : Int32} {D : List Int32} {h : xH} {k0 : Nat × Nat} (hW : W0 e f sv K B F V ol sz R M G P vp ml ln D h) {Q : xH → xR} (hT : yT S d m args (put h 13 (kC 13 F), k0) (· = Q (put h 13 (kC 13 F)))) : yT S d m args (h, k0) (· = Q h) := by
  obtain ⟨wl, wl2, wlM, wlP, wvp, w0, wK, wB, wF, wV, wH, wM, wG, wP, wL, wD, wR⟩ := id hW
  rw [W_self (p := 13) (cs := kC 13 F) wF (by show 0 < 6; decide)] at hT
  exact hT
theorem w_V {S : List Int32} {d m : Nat} {args : List Value} {o : Option Value} {k1 : Nat × Nat} {e f sv : Int32} {K B F V : kK} {ol sz : Nat} {R : Nat → kK} {M : List xC} {G : Nat → xC} {P : List xC} {vp : Nat} {ml ln : Int32} {D : List Int32} {h : xH}  {K2 : kK} {k0 : Nat × Nat} (hW : W0 e f sv K B F V ol sz R M G P vp ml ln D h) (hT : yT S d m args (put h 19 (kC 19 V), k0) (· = (.inl o, (put h 19 (kC 19 K2), k1)))) : yT S d m args (h, k0) (fun r => ∃ h2, W0 e f sv K B F K2 ol sz R M G P vp ml ln D h2 ∧ r = (.inl o, (h2, k1))) := by
  obtain ⟨wl, wl2, wlM, wlP, wvp, w0, wK, wB, wF, wV, wH, wM, wG, wP, wL, wD, wR⟩ := id hW
  rw [W_self (p := 19) (cs := (kC 19 V)) wV (by show 0 < 6; decide)] at hT
  exact yT_mono hT fun r hr => ⟨_, W_V hW, hr⟩
theorem w_Vr {S : List Int32} {d m : Nat} {args : List Value} {e f sv : Int32} {K B F V : kK} {ol sz : Nat} {R : Nat → kK} {M : List xC} {G : Nat → xC} {P : List xC} {vp : Nat} {ml ln : Int32} {D : List Int32} {h : xH} {k0 : Nat × Nat} (hW : W0 e f sv K B F V ol sz R M G P vp ml ln D h) {Q : xH → xR} (hT : yT S d m args (put h 19 (kC 19 V), k0) (· = Q (put h 19 (kC 19 V)))) : yT S d m args (h, k0) (· = Q h) := by
  obtain ⟨wl, wl2, wlM, wlP, wvp, w0, wK, wB, wF, wV, wH, wM, wG, wP, wL, wD, wR⟩ := id hW
  rw [W_self (p := 19) (cs := kC 19 V) wV (by show 0 < 6; decide)] at hT
  exact hT
theorem nI_back {n : Nat} (h : n < 2 ^ 31) : (nI n).toNatClampNeg = n := nI_clamp h
theorem w_feed {S : List Int32} {d : Nat} (hd : 4 ≤ d) {e f sv : Int32} {K B F V : kK} {ol sz : Nat} {R : Nat → kK} {M : List xC} {G : Nat → xC} {P : List xC} {vp : Nat} {ml ln : Int32} {D : List Int32} {h : xH} {k0 : Nat × Nat} (hW : W0 e f sv K B F V ol sz R M G P vp ml ln D h) (hM : mxOK M) (hp : kp K) (u : Nat) (hu : u ≤ 1000) : yT S d 32 [.ref 1, .int (nI u), .ref 75] (h, k0) (fun r => ∃ h2, (∃ M2, mxOK M2 ∧ W0 e f sv (feedK u K).2 B F V ol sz R M2 G P vp ml ln D h2) ∧ r = (.inl (some (.int (feedK u K).1)), (h2, k0))) := by
  obtain ⟨wl, wl2, wlM, wlP, wvp, w0, wK, wB, wF, wV, wH, wM, wG, wP, wL, wD, wR⟩ := id hW
  obtain ⟨f', ss, bs, ts, ps, rs⟩ := K
  obtain ⟨wW, cC, oO, a, b, c, h1, h2, h3, h4, h5, h6, e1, e2⟩ := hp
  dsimp only at e1 e2
  subst e1 e2
  have ef : feedK u (f', ss, bs, ts, [nI wW, nI cC, nI oO], [nI a, nI b, nI c]) = feedX u f' ss bs ts wW cC oO a b c := by
    show feedX u f' ss bs ts (nI wW).toNatClampNeg (nI cC).toNatClampNeg (nI oO).toNatClampNeg (nI a).toNatClampNeg (nI b).toNatClampNeg (nI c).toNatClampNeg = _
    rw [nI_back (by omega), nI_back (by omega), nI_back (by omega), nI_back (by omega), nI_back (by omega), nI_back (by omega)]
  rw [ef]
  obtain ⟨lo, x, y, z, cc, t, fo, hlo, rfl⟩ := hM
  have l1 := has_len wK (by show 0 < 6; decide)
  have l2 := has_len wM (by show 0 < 3; decide)
  have hT := s_burn (S := S) (p := 1) (q := 75) hd l1 l2 wl (by decide) k0 f' ss bs ts lo wW cC oO a b c u h1 h2 h3 hu x y z cc t fo
  rw [W_self wM (by show 0 < 3; decide), W_self wK (by show 0 < 6; decide)] at hT
  refine yT_mono hT fun r hr => ?_
  obtain ⟨cs, ⟨x2, y2, z2, c2, t2, f2, rfl⟩, hr⟩ := hr
  exact ⟨_, ⟨_, ⟨lo, x2, y2, z2, c2, t2, f2, hlo, rfl⟩, W_K (W_M rfl hW)⟩, hr⟩
theorem w_wall {S : List Int32} {d : Nat} (hd : 6 ≤ d) {e f sv : Int32} {K B F V : kK} {ol sz : Nat} {R : Nat → kK} {M : List xC} {G : Nat → xC} {P : List xC} {vp : Nat} {ml ln : Int32} {D : List Int32} {h : xH} {k0 : Nat × Nat} (hW : W0 e f sv K B F V ol sz R M G P vp ml ln D h) (hG : cg 78 xJ xCt G) (w k : Nat) (hw : w ≤ 1000) (hk : k ≤ 1000) : yT S d 33 [.ref 1, .int (nI w), .int (nI k), .ref 78] (h, k0) (fun r => ∃ h2, (∃ G2, cg 78 xJ xCt G2 ∧ W0 e f sv (wallX xJ xCn w k K).2 B F V ol sz R M G2 P vp ml ln D h2) ∧ r = (.inl (some (.int (wallX xJ xCn w k K).1)), (h2, k0))) := by
  obtain ⟨wl, wl2, wlM, wlP, wvp, w0, wK, wB, wF, wV, wH, wM, wG, wP, wL, wD, wR⟩ := id hW
  obtain ⟨f', ss, bs, ts, ps, rs⟩ := K
  have l1 := has_len wK (by show 0 < 6; decide)
  have l2 := has_len wG (by rw [rg_len]; decide)
  rw [rg_len] at l2
  have hT := s_layWallF (S := S) (p := 1) (q := 78) hd l1 l2 (by decide) k0 xJ xCt xCn xJ_ok G hG w k hw hk f' ss bs ts ps rs
  rw [W_self wG (by rw [rg_len]; decide), W_self wK (by show 0 < 6; decide)] at hT
  refine yT_mono hT fun r hr => ?_
  obtain ⟨G2, hG2, hr⟩ := hr
  exact ⟨_, ⟨G2, hG2, W_K (W_G hW)⟩, hr⟩
