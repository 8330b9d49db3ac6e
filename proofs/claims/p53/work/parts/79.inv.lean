/-! WHAT ALWAYS HOLDS OF A KILN: chambers, temperatures, numbers. n: how often bricks were taken, at most. -/
theorem i_s1 {x y z b : Int32} (h : x = y - z) : x + b = y + b - z := by grind
theorem i_s2 {x y z b : Int32} (h : x = y - z) : x - b = y - (z + b) := by grind
theorem i_s3 {x y z b : Int32} (h : x = y + z) : x + b = y + b + z := by grind
theorem i_s4 {x y z b : Int32} (h : x = y + z) : x = y - b + (z + b) := by grind
theorem i_s5 (x g v b : Int32) : x - g + v + b = x + b - g + v := by grind
theorem i_s6 {x y : Int32} (h : x = y) : x + y - y = x := by grind
theorem i_s7 (x y : Int32) : x + y - x = y := by grind
theorem i_s8 (x y z : Int32) : x + y + z = x + (y + z) := by grind
theorem i_s9 (x g v : Int32) : x - g + v + g = x + v := by grind
def gsb (ss bs : List Int32) : Prop := ∀ j, j < 8 → ∃ b : Nat, gd bs j = nI b ∧ b ≤ 60 ∧ ((gd ss j = 101 ∧ b = 0) ∨ ((gd ss j = 103 ∨ gd ss j = 102) ∧ 0 < b))
def gtm (ts : List Int32) : Prop := ∀ j, j < 8 → ∃ t : Nat, gd ts j = nI t ∧ 20 ≤ t ∧ t ≤ 1100
def gnf (n : Nat) (f : Nat → Int32) (bs : List Int32) : Prop := (∃ h : Nat, f 2 = nI h ∧ h ≤ 999) ∧ (∃ q : Nat, f 3 = nI q ∧ q ≤ 5) ∧ f 15 = f 2 + f 16 ∧ sumTo (f 9) bs 8 = f 11 - f 13 ∧ ∃ s : Nat, f 9 = nI s ∧ s ≤ 60 * n
def GK (n : Nat) (K : kK) : Prop := kvp K ∧ gsb K.2.1 K.2.2.1 ∧ gtm K.2.2.2.1 ∧ gnf n K.1 K.2.2.1
theorem gnf_mono {n m : Nat} (hm : n ≤ m) {f : Nat → Int32} {bs : List Int32} (h : gnf n f bs) : gnf m f bs := by
  obtain ⟨h1, h2, h3, h4, s, h5, h6⟩ := h
  exact ⟨h1, h2, h3, h4, s, h5, by omega⟩
theorem GK_mono {n m : Nat} (hm : n ≤ m) {K : kK} (h : GK n K) : GK m K := ⟨h.1, h.2.1, h.2.2.1, gnf_mono hm h.2.2.2⟩
theorem cntTo_nI (l : List Int32) (w : Int32) : ∀ i, ∃ j : Nat, cntTo l w i = nI j ∧ j ≤ i
  | 0 => ⟨0, rfl, Nat.le_refl _⟩
  | i + 1 => by
    obtain ⟨j, h1, h2⟩ := cntTo_nI l w i
    simp only [cntTo]
    split
    · exact ⟨j + 1, by rw [h1, nI_1], by omega⟩
    · exact ⟨j, h1, by omega⟩
theorem sumTo_x (l : List Int32) (x b : Int32) : ∀ i, sumTo (x + b) l i = sumTo x l i + b
  | 0 => rfl
  | i + 1 => by
    simp only [sumTo]
    rw [sumTo_x l x b i]
    grind
theorem sumTo_set {l : List Int32} {a : Nat} (ha : a < l.length) (x v : Int32) : ∀ i, sumTo x (l.set a v) i = if a < i then sumTo x l i - gd l a + v else sumTo x l i
  | 0 => by rw [if_neg (by omega)]; rfl
  | i + 1 => by
    simp only [sumTo]
    rw [sumTo_set ha x v i, gd_set ha]
    by_cases h1 : a < i
    · rw [if_pos h1, if_neg (by omega), if_pos (by omega)]
      exact i_s5 _ _ _ _
    · rw [if_neg h1]
      by_cases h2 : a = i
      · subst h2
        rw [if_pos rfl, if_pos (by omega)]
        grind
      · rw [if_neg h2, if_neg (by omega)]
/-- refusals of a command -/
def rfL (c : Nat) : List Int32 := match c with
  | 0 => [-1, -2, -3, -4]
  | 1 => [-1, -3, -4]
  | 2 => [-1, -3, -4]
  | 3 => [-3]
  | 4 => [-2]
  | 5 => [-2, -3]
  | 6 => [-2]
  | 7 => [-2, -4, -3]
  | 8 => [-2]
  | _ => [-2, -5, -3]
theorem rfI {c : Nat} {v : Int32} (h : (rfL c).contains v = true) : v ∈ rfL c := by simpa using h
/-- a command is refused, and nothing has changed; or it answers a number that isn't negative -/
def cmP (n c : Nat) (K : kK) (r : Int32 × kK) : Prop := (r.1 ∈ rfL c ∧ r.2 = K) ∨ ((∃ j : Nat, r.1 = nI j ∧ j ≤ 60 * n + 100000) ∧ GK (n + 1) r.2)
theorem in7 {a : Nat} (ha : a ≤ 1000) (h : ¬ (nI a < 0 ∨ 7 < nI a)) : a < 8 := by
  rcases Nat.lt_or_ge a 8 with q | q
  · exact q
  · exact absurd (Or.inr (nI_lt (a := 7) (b := a) (by omega) (by omega))) h
theorem in_r {a l m : Nat} (ha : a ≤ 1000) (hl : l ≤ 1000) (hm : m ≤ 1000) (h : ¬ (nI a < nI l ∨ nI m < nI a)) : l ≤ a ∧ a ≤ m := by
  refine Classical.byContradiction fun q => h (xin (by omega) (by omega) (by omega) q)
theorem cm_0 {n : Nat} {K : kK} (hK : GK n K) {a b : Nat} (ha : a ≤ 1000) (hb : b ≤ 1000) : cmP n 0 K (cmdX 0 a b K) := by
  obtain ⟨f, ss, bs, ts, ps, rs⟩ := K
  obtain ⟨⟨⟨l1, l2, l3, l4, l5, hf⟩, hp⟩, hs, ht, hn⟩ := hK
  dsimp only at l1 l2 l3 l4 l5 hf hs ht hn
  show cmP n 0 _ (fillX f ss bs ts ps rs (nI a) (nI b))
  unfold fillX
  split
  · exact Or.inl ⟨rfI rfl, rfl⟩
  rename_i c1
  have ha8 := in7 ha c1
  rw [nI_back (by omega)]
  split
  · exact Or.inl ⟨rfI rfl, rfl⟩
  rename_i c2
  have hb2 := in_r (l := 1) (m := 60) hb (by omega) (by omega) c2
  split
  · rename_i c3
    split
    · exact Or.inl ⟨rfI rfl, rfl⟩
    · obtain ⟨j, e1, e2⟩ := cntTo_nI (ss.set a 103) 103 8
      refine Or.inr ⟨⟨j, e1, by omega⟩, ⟨⟨by rw [List.length_set]; exact l1, by rw [List.length_set]; exact l2, l3, l4, l5, hf⟩, hp⟩, fun i hi => ?_, ht, ?_⟩
      · show ∃ b2 : Nat, gd (bs.set a (nI b)) i = nI b2 ∧ b2 ≤ 60 ∧ ((gd (ss.set a 103) i = 101 ∧ b2 = 0) ∨ ((gd (ss.set a 103) i = 103 ∨ gd (ss.set a 103) i = 102) ∧ 0 < b2))
        rw [gd_set (by omega), gd_set (by omega)]
        by_cases e : a = i
        · rw [if_pos e, if_pos e]
          exact ⟨b, rfl, hb2.2, Or.inr ⟨Or.inl rfl, by omega⟩⟩
        · rw [if_neg e, if_neg e]; exact hs i hi
      · obtain ⟨h1, h2, h3, h4, s, h5, h6⟩ := hn
        refine ⟨h1, h2, h3, ?_, s, h5, by omega⟩
        show sumTo (f 9) (bs.set a (nI b)) 8 = f 11 + nI b - f 13
        rw [sumTo_set (by omega), if_pos ha8, h4]
        obtain ⟨b0, g1, g2, g3⟩ := hs a ha8
        have e0 : b0 = 0 := by
          rcases g3 with g3 | ⟨g3, -⟩
          · exact g3.2
          · rw [c3] at g3; rcases g3 with g3 | g3 <;> exact absurd g3 (by decide)
        subst e0
        rw [g1, nI_0]
        grind
  · exact Or.inl ⟨rfI rfl, rfl⟩
theorem cm_1 {n : Nat} {K : kK} (hK : GK n K) (hn0 : n ≤ 1000000) {a b : Nat} (ha : a ≤ 1000) : cmP n 1 K (cmdX 1 a b K) := by
  obtain ⟨f, ss, bs, ts, ps, rs⟩ := K
  obtain ⟨⟨⟨l1, l2, l3, l4, l5, hf⟩, hp⟩, hs, ht, hn⟩ := hK
  dsimp only at l1 l2 l3 l4 l5 hf hs ht hn
  show cmP n 1 _ (emptyX f ss bs ts ps rs (nI a))
  unfold emptyX
  split
  · exact Or.inl ⟨rfI rfl, rfl⟩
  rename_i c1
  have ha8 := in7 ha c1
  rw [nI_back (by omega)]
  split
  · rename_i c3
    split
    · exact Or.inl ⟨rfI rfl, rfl⟩
    · obtain ⟨b0, g1, g2, g3⟩ := hs a ha8
      obtain ⟨h1, h2, h3, h4, s, h5, h6⟩ := hn
      refine Or.inr ⟨⟨s + b0, ?_, by omega⟩, ⟨⟨by rw [List.length_set]; exact l1, by rw [List.length_set]; exact l2, l3, l4, l5, hf⟩, hp⟩, fun i hi => ?_, ht, ?_⟩
      · show f 9 + gd bs a = nI (s + b0)
        rw [h5, g1, nI_add]
      · show ∃ b2 : Nat, gd (bs.set a 0) i = nI b2 ∧ b2 ≤ 60 ∧ ((gd (ss.set a 101) i = 101 ∧ b2 = 0) ∨ ((gd (ss.set a 101) i = 103 ∨ gd (ss.set a 101) i = 102) ∧ 0 < b2))
        rw [gd_set (by omega), gd_set (by omega)]
        by_cases e : a = i
        · rw [if_pos e, if_pos e]
          exact ⟨0, rfl, by omega, Or.inl ⟨rfl, rfl⟩⟩
        · rw [if_neg e, if_neg e]; exact hs i hi
      · refine ⟨h1, h2, h3, ?_, s + b0, ?_, by omega⟩
        · show sumTo (f 9 + gd bs a) (bs.set a 0) 8 = f 11 - f 13
          rw [sumTo_set (by omega), if_pos ha8, sumTo_x, h4]
          grind
        · show f 9 + gd bs a = nI (s + b0)
          rw [h5, g1, nI_add]
  · exact Or.inl ⟨rfI rfl, rfl⟩
theorem cm_2 {n : Nat} {K : kK} (hK : GK n K) {a b : Nat} (ha : a ≤ 1000) : cmP n 2 K (cmdX 2 a b K) := by
  obtain ⟨f, ss, bs, ts, ps, rs⟩ := K
  obtain ⟨⟨⟨l1, l2, l3, l4, l5, hf⟩, hp⟩, hs, ht, hn⟩ := hK
  dsimp only at l1 l2 l3 l4 l5 hf hs ht hn
  show cmP n 2 _ (lightX f ss bs ts ps rs (nI a))
  unfold lightX
  split
  · exact Or.inl ⟨rfI rfl, rfl⟩
  rename_i c1
  have ha8 := in7 ha c1
  split
  · split
    · obtain ⟨⟨h, h1, h1'⟩, h2, h3, h4, s, h5, h6⟩ := hn
      exact Or.inr ⟨⟨h, h1, by omega⟩, ⟨⟨l1, l2, l3, l4, l5, Or.inr ⟨a, ha8, rfl⟩⟩, hp⟩, hs, ht, ⟨h, h1, h1'⟩, h2, h3, h4, s, h5, by omega⟩
    · exact Or.inl ⟨rfI rfl, rfl⟩
  · exact Or.inl ⟨rfI rfl, rfl⟩
theorem cm_3 {n : Nat} {K : kK} (hK : GK n K) {a b : Nat} : cmP n 3 K (cmdX 3 a b K) := by
  obtain ⟨f, ss, bs, ts, ps, rs⟩ := K
  obtain ⟨⟨⟨l1, l2, l3, l4, l5, hf⟩, hp⟩, hs, ht, hn⟩ := hK
  dsimp only at l1 l2 l3 l4 l5 hf hs ht hn
  show cmP n 3 _ (outX f ss bs ts ps rs)
  unfold outX
  split
  · exact Or.inl ⟨rfI rfl, rfl⟩
  · rename_i c1
    rcases hf with hf | ⟨j, hj, hf⟩
    · exact absurd hf c1
    · obtain ⟨h1, h2, h3, h4, s, h5, h6⟩ := hn
      exact Or.inr ⟨⟨j, hf, by omega⟩, ⟨⟨l1, l2, l3, l4, l5, Or.inl rfl⟩, hp⟩, hs, ht, h1, h2, h3, h4, s, h5, by omega⟩
theorem cm_4 {n : Nat} {K : kK} (hK : GK n K) {a b : Nat} (ha : a ≤ 1000) : cmP n 4 K (cmdX 4 a b K) := by
  obtain ⟨f, ss, bs, ts, ps, rs⟩ := K
  obtain ⟨⟨⟨l1, l2, l3, l4, l5, hf⟩, hp⟩, hs, ht, hn⟩ := hK
  dsimp only at l1 l2 l3 l4 l5 hf hs ht hn
  show cmP n 4 _ (drghtX f ss bs ts ps rs (nI a))
  unfold drghtX
  split
  · exact Or.inl ⟨rfI rfl, rfl⟩
  · rename_i c1
    have hr := in_r (l := 0) (m := 5) ha (by omega) (by omega) c1
    obtain ⟨h1, ⟨q, h2, h2'⟩, h3, h4, s, h5, h6⟩ := hn
    exact Or.inr ⟨⟨q, h2, by omega⟩, ⟨⟨l1, l2, l3, l4, l5, hf⟩, hp⟩, hs, ht, h1, ⟨a, rfl, hr.2⟩, h3, h4, s, h5, by omega⟩
theorem xkind_cases (v : Int32) : xkind v = -1 ∨ xkind v = 0 ∨ xkind v = 1 ∨ xkind v = 2 := by
  unfold xkind
  split
  · exact Or.inr (Or.inl rfl)
  · split
    · exact Or.inr (Or.inr (Or.inl rfl))
    · split
      · exact Or.inr (Or.inr (Or.inr rfl))
      · exact Or.inl rfl
theorem cm_5 {n : Nat} {K : kK} (hK : GK n K) {a b : Nat} (hb : b ≤ 1000) : cmP n 5 K (cmdX 5 a b K) := by
  obtain ⟨f, ss, bs, ts, ps, rs⟩ := K
  obtain ⟨⟨⟨l1, l2, l3, l4, l5, hf⟩, hp⟩, hs, ht, hn⟩ := hK
  obtain ⟨W, C, O, x, y, z, w1, w2, w3, w4, w5, w6, e1, e2⟩ := hp
  dsimp only at l1 l2 l3 l4 l5 hf hs ht hn e1 e2
  subst e1 e2
  have hn2 := gnf_mono (m := n + 1) (by omega) hn
  show cmP n 5 _ (addX f ss bs ts [nI W, nI C, nI O] [nI x, nI y, nI z] (nI a) (nI b))
  unfold addX
  split
  · exact Or.inl ⟨rfI rfl, rfl⟩
  rename_i c1
  split
  · exact Or.inl ⟨rfI rfl, rfl⟩
  rename_i c2
  have hb2 := in_r (l := 1) (m := 50) hb (by omega) (by omega) c2
  have fin : ∀ (V : Nat), V ≤ 99 → ¬ (99 : Int32) < nI V + nI b → V + b ≤ 99 := fun V hV h => by
    rw [nI_add] at h
    exact Nat.le_of_not_lt fun q => h (nI_lt (a := 99) (b := V + b) q (by omega))
  split
  · exact Or.inl ⟨rfI rfl, rfl⟩
  · rename_i c3
    rcases xkind_cases (nI a) with e | e | e | e
    · exact absurd (by rw [e]; decide) c1
    · rw [e] at c3 ⊢
      have hv := fin W w1 c3
      refine Or.inr ⟨⟨W + b, nI_add W b, by omega⟩, ⟨⟨l1, l2, l3, rfl, rfl, hf⟩, ⟨W + b, C, O, x, y, z, hv, w2, w3, w4, w5, w6, ?_, rfl⟩⟩, hs, ht, hn2⟩
      show [nI W + nI b, nI C, nI O] = [nI (W + b), nI C, nI O]
      rw [nI_add]
    · rw [e] at c3 ⊢
      have hv := fin C w2 c3
      refine Or.inr ⟨⟨C + b, nI_add C b, by omega⟩, ⟨⟨l1, l2, l3, rfl, rfl, hf⟩, ⟨W, C + b, O, x, y, z, w1, hv, w3, w4, w5, w6, ?_, rfl⟩⟩, hs, ht, hn2⟩
      show [nI W, nI C + nI b, nI O] = [nI W, nI (C + b), nI O]
      rw [nI_add]
    · rw [e] at c3 ⊢
      have hv := fin O w3 c3
      refine Or.inr ⟨⟨O + b, nI_add O b, by omega⟩, ⟨⟨l1, l2, l3, rfl, rfl, hf⟩, ⟨W, C, O + b, x, y, z, w1, w2, hv, w4, w5, w6, ?_, rfl⟩⟩, hs, ht, hn2⟩
      show [nI W, nI C, nI O + nI b] = [nI W, nI C, nI (O + b)]
      rw [nI_add]
theorem cm_6 {n : Nat} {K : kK} (hK : GK n K) {a b : Nat} (hb : b ≤ 1000) : cmP n 6 K (cmdX 6 a b K) := by
  obtain ⟨f, ss, bs, ts, ps, rs⟩ := K
  obtain ⟨⟨⟨l1, l2, l3, l4, l5, hf⟩, hp⟩, hs, ht, hn⟩ := hK
  obtain ⟨W, C, O, x, y, z, w1, w2, w3, w4, w5, w6, e1, e2⟩ := hp
  dsimp only at l1 l2 l3 l4 l5 hf hs ht hn e1 e2
  subst e1 e2
  have hn2 := gnf_mono (m := n + 1) (by omega) hn
  show cmP n 6 _ (priceX f ss bs ts [nI W, nI C, nI O] [nI x, nI y, nI z] (nI a) (nI b))
  unfold priceX
  split
  · exact Or.inl ⟨rfI rfl, rfl⟩
  rename_i c1
  split
  · exact Or.inl ⟨rfI rfl, rfl⟩
  rename_i c2
  have hb2 := in_r (l := 1) (m := 20) hb (by omega) (by omega) c2
  rcases xkind_cases (nI a) with e | e | e | e
  · exact absurd (by rw [e]; decide) c1
  · rw [e]
    exact Or.inr ⟨⟨x, rfl, by omega⟩, ⟨⟨l1, l2, l3, rfl, rfl, hf⟩, ⟨W, C, O, b, y, z, w1, w2, w3, hb2.2, w5, w6, rfl, rfl⟩⟩, hs, ht, hn2⟩
  · rw [e]
    exact Or.inr ⟨⟨y, rfl, by omega⟩, ⟨⟨l1, l2, l3, rfl, rfl, hf⟩, ⟨W, C, O, x, b, z, w1, w2, w3, w4, hb2.2, w6, rfl, rfl⟩⟩, hs, ht, hn2⟩
  · rw [e]
    exact Or.inr ⟨⟨z, rfl, by omega⟩, ⟨⟨l1, l2, l3, rfl, rfl, hf⟩, ⟨W, C, O, x, y, b, w1, w2, w3, w4, w5, hb2.2, rfl, rfl⟩⟩, hs, ht, hn2⟩
