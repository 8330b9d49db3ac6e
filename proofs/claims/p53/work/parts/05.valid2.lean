/-- what the tables keep to -/
def xtok (i : Instr) (a b : Nat) (v : Value) : Prop := xvok 0 v ∧ match i with
  | .new _ => a < 1000 ∨ 2000 ≤ a
  | .newarray _ => a < 8
  | .anewarray _ => a < 8
  | .multianewarray _ _ => a < 8 ∧ 4 ≤ b ∧ b < 8
  | _ => True
def xtabs : Prop := (∀ m pc i nx a b v, xc m pc = some (i, nx, a, b, v) → xtok i a b v) ∧ xctok ∧ (∀ p b w, xcf p b = some w → xvok 0 w) ∧ ∀ a, ∀ v ∈ xdef a, xvok 0 v
theorem xnext_ok (hT : xtabs) {m : Nat} {i : Instr} {nx a b : Nat} {v : Value} (hi : xtok i a b v) {L st : List Value} {s : xS} {act : xA} (hs : xsok s) (hL : xlok s.1.length L) (hst : xlok s.1.length st) (h : xnext m i nx a b v L st s = some act) : xaok s act := by
  have hv : xvok s.1.length v := hi.1.mono (Nat.zero_le _)
  cases i
  case iconst => exact xgo_ok hs hL (xlok.cons hv hst) h
  case bipush => exact xgo_ok hs hL (xlok.cons hv hst) h
  case sipush => exact xgo_ok hs hL (xlok.cons hv hst) h
  case lconst => exact xgo_ok hs hL (xlok.cons hv hst) h
  case aconst_null => exact xgo_ok hs hL (xlok.cons hv hst) h
  case ldc => exact xgo_ok hs hL (xlok.cons hv hst) h
  case ldc_w => exact xgo_ok hs hL (xlok.cons hv hst) h
  case ldc2_w => exact xgo_ok hs hL (xlok.cons hv hst) h
  case getstatic => exact xgo_ok hs hL (xlok.cons hv hst) h
  case iload_n => exact xload_ok hs hL hst h
  case iload => exact xload_ok hs hL hst h
  case lload_n => exact xload_ok hs hL hst h
  case lload => exact xload_ok hs hL hst h
  case aload_n => exact xload_ok hs hL hst h
  case aload => exact xload_ok hs hL hst h
  case istore_n => exact xstore_ok hs hL hst h
  case istore => exact xstore_ok hs hL hst h
  case lstore_n => exact xstore_ok hs hL hst h
  case lstore => exact xstore_ok hs hL hst h
  case astore_n => exact xstore_ok hs hL hst h
  case astore => exact xstore_ok hs hL hst h
  case iinc =>
    simp only [xnext] at h
    split at h
    · exact xgo_ok hs (xlok.put (xvok.int _ _) _ hL) hst h
    · cases h
  case iadd => obtain ⟨x, y, r, rfl, h9⟩ := x2i_some h; exact xgo_ok hs hL (xlok.cons (xvok.int _ _) hst.tl.tl) h9
  case isub => obtain ⟨x, y, r, rfl, h9⟩ := x2i_some h; exact xgo_ok hs hL (xlok.cons (xvok.int _ _) hst.tl.tl) h9
  case imul => obtain ⟨x, y, r, rfl, h9⟩ := x2i_some h; exact xgo_ok hs hL (xlok.cons (xvok.int _ _) hst.tl.tl) h9
  case iand => obtain ⟨x, y, r, rfl, h9⟩ := x2i_some h; exact xgo_ok hs hL (xlok.cons (xvok.int _ _) hst.tl.tl) h9
  case ior => obtain ⟨x, y, r, rfl, h9⟩ := x2i_some h; exact xgo_ok hs hL (xlok.cons (xvok.int _ _) hst.tl.tl) h9
  case ishl => obtain ⟨x, y, r, rfl, h9⟩ := x2i_some h; exact xgo_ok hs hL (xlok.cons (xvok.int _ _) hst.tl.tl) h9
  case ishr => obtain ⟨x, y, r, rfl, h9⟩ := x2i_some h; exact xgo_ok hs hL (xlok.cons (xvok.int _ _) hst.tl.tl) h9
  case iushr => obtain ⟨x, y, r, rfl, h9⟩ := x2i_some h; exact xgo_ok hs hL (xlok.cons (xvok.int _ _) hst.tl.tl) h9
  case idiv =>
    obtain ⟨x, y, r, rfl, h9⟩ := x2i_some h
    split at h9
    · cases h9
    · exact xgo_ok hs hL (xlok.cons (xvok.int _ _) hst.tl.tl) h9
  case irem =>
    obtain ⟨x, y, r, rfl, h9⟩ := x2i_some h
    split at h9
    · cases h9
    · exact xgo_ok hs hL (xlok.cons (xvok.int _ _) hst.tl.tl) h9
  case ineg => obtain ⟨x, r, rfl, h9⟩ := x1i_some h; exact xgo_ok hs hL (xlok.cons (xvok.int _ _) hst.tl) h9
  case i2l => obtain ⟨x, r, rfl, h9⟩ := x1i_some h; exact xgo_ok hs hL (xlok.cons (xvok.long _ _) hst.tl) h9
  case i2b => obtain ⟨x, r, rfl, h9⟩ := x1i_some h; exact xgo_ok hs hL (xlok.cons (xvok.int _ _) hst.tl) h9
  case i2c => obtain ⟨x, r, rfl, h9⟩ := x1i_some h; exact xgo_ok hs hL (xlok.cons (xvok.int _ _) hst.tl) h9
  case i2d => obtain ⟨x, r, rfl, h9⟩ := x1i_some h; exact xgo_ok hs hL (xlok.cons (xvok.double _ _) hst.tl) h9
  case ladd => obtain ⟨x, y, r, rfl, h9⟩ := x2l_some h; exact xgo_ok hs hL (xlok.cons (xvok.long _ _) hst.tl.tl) h9
  case lmul => obtain ⟨x, y, r, rfl, h9⟩ := x2l_some h; exact xgo_ok hs hL (xlok.cons (xvok.long _ _) hst.tl.tl) h9
  case lcmp => obtain ⟨x, y, r, rfl, h9⟩ := x2l_some h; exact xgo_ok hs hL (xlok.cons (xvok.int _ _) hst.tl.tl) h9
  case ddiv =>
    obtain ⟨x, y, r, rfl, h9⟩ := x2d_some h
    split at h9
    · exact xgo_ok hs hL (xlok.cons (xvok.double _ _) hst.tl.tl) h9
    · cases h9
  case dcmp => obtain ⟨x, y, r, rfl, h9⟩ := x2d_some h; exact xgo_ok hs hL (xlok.cons (xvok.int _ _) hst.tl.tl) h9
  case dup =>
    simp only [xnext] at h
    split at h
    · split at h
      · exact xgo_ok hs hL (xlok.cons hst.hd hst) h
      · cases h
    · cases h
  case dup_x1 =>
    simp only [xnext] at h
    split at h
    · split at h
      · exact xgo_ok hs hL (xlok.cons hst.hd (xlok.cons hst.tl.hd (xlok.cons hst.hd hst.tl.tl))) h
      · cases h
    · cases h
  case dup2 =>
    simp only [xnext] at h
    split at h
    · split at h
      · exact xgo_ok hs hL (xlok.cons hst.hd (xlok.cons hst.tl.hd hst)) h
      · cases h
    · cases h
  case pop =>
    simp only [xnext] at h
    split at h
    · split at h
      · exact xgo_ok hs hL hst.tl h
      · cases h
    · cases h
  case ifCond =>
    obtain ⟨x, r, rfl, h9⟩ := x1i_some h
    rcases xif_some h with h9 | h9 <;> exact xgo_ok hs hL hst.tl h9
  case if_icmp =>
    obtain ⟨x, y, r, rfl, h9⟩ := x2i_some h
    rcases xif_some h with h9 | h9 <;> exact xgo_ok hs hL hst.tl.tl h9
  case goto => exact xgo_ok hs hL hst h
  case ifnonnull =>
    simp only [xnext] at h
    split at h
    · exact xgo_ok hs hL hst.tl h
    · cases h
  case tableswitch =>
    obtain ⟨x, r, rfl, h9⟩ := x1i_some h
    split at h9
    · exact xgo_ok hs hL hst.tl h9
    · split at h9
      · exact xgo_ok hs hL hst.tl h9
      · cases h9
  case lookupswitch =>
    obtain ⟨x, r, rfl, h9⟩ := x1i_some h
    split at h9
    · exact xgo_ok hs hL hst.tl h9
    · exact xgo_ok hs hL hst.tl h9
  case getfield =>
    simp only [xnext] at h
    split at h
    · split at h
      · split at h
        · rename_i w hw
          exact xgo_ok hs hL (xlok.cons ((hT.2.2.1 _ _ _ hw).mono (Nat.zero_le _)) hst.tl) h
        · cases h
      · split at h
        · rename_i c fs hp
          split at h
          · split at h
            · rename_i w hw
              exact xgo_ok hs hL (xlok.cons ((hs.at hp).2 w (List.mem_of_getElem? hw)) hst.tl) h
            · cases h
          · cases h
        · cases h
    · cases h
  case putfield =>
    simp only [xnext] at h
    split at h
    · split at h
      · rename_i c fs hp
        split at h
        · refine xgo_ok' (hs.set ?_) xle.set (by rw [xlen_set]; exact hL) (by rw [xlen_set]; exact hst.tl.tl) h
          rename_i hcd
          refine ⟨by rw [← hcd.1]; exact (hs.at hp).1, fun z hz => ?_⟩
          rcases List.mem_or_eq_of_mem_set hz with q | q
          · exact (hs.at hp).2 z q
          · rw [q]; exact hst.hd
        · cases h
      · cases h
    · cases h
  case iaload => exact xald_ok hT.2.1 hs hL hst h
  case caload => exact xald_ok hT.2.1 hs hL hst h
  case baload => exact xald_ok hT.2.1 hs hL hst h
  case iastore => exact xast_ok hs hL hst h
  case castore => exact xast_ok hs hL hst h
  case bastore => exact xast_ok hs hL hst h
  case laload =>
    simp only [xnext] at h
    split at h
    · split at h
      · cases h
      · split at h
        · split at h
          · exact xgo_ok hs hL (xlok.cons (xvok.long _ _) hst.tl.tl) h
          · cases h
        · cases h
    · cases h
  case lastore =>
    simp only [xnext] at h
    split at h
    · split at h
      · cases h
      · split at h
        · rename_i t l hp
          split at h
          · refine xgo_ok' (hs.set ?_) xle.set (by rw [xlen_set]; exact hL) (by rw [xlen_set]; exact hst.tl.tl.tl) h
            exact (show xcok s.1.length (.inr (.inr (.inl (t, l)))) from hs.at hp)
          · cases h
        · cases h
    · cases h
  case aaload =>
    simp only [xnext] at h
    split at h
    · split at h
      · cases h
      · split at h
        · rename_i t l hp
          split at h
          · rename_i w hw
            refine xgo_ok hs hL (xlok.cons ?_ hst.tl.tl) h
            intro q hq
            cases w with
            | none => cases hq
            | some w =>
              cases hq
              exact (hs.at hp).2.2 _ (List.mem_of_getElem? hw)
          · cases h
        · cases h
        · split at h
          · rename_i t' l hl
            split at h
            · split at h
              · rename_i w hw
                exact xgo_ok hs hL (xlok.cons ((hT.2.1 _ _ _ hl w (List.mem_of_getElem? hw)).mono (Nat.zero_le _)) hst.tl.tl) h
              · cases h
            · cases h
          · cases h
    · cases h
  case aastore =>
    simp only [xnext] at h
    split at h
    · split at h
      · cases h
      · split at h
        · rename_i w _ _ _ _ t l hp
          split at h
          · refine xgo_ok' (hs.set ?_) xle.set (by rw [xlen_set]; exact hL) (by rw [xlen_set]; exact hst.tl.tl.tl) h
            have hc := hs.at hp
            refine ⟨hc.1, hc.2.1, fun z hz => ?_⟩
            rcases List.mem_or_eq_of_mem_set hz with q | q
            · exact hc.2.2 z q
            · cases q; exact hst.hd _ rfl
          · cases h
        · cases h
    · cases h
  case arraylength =>
    simp only [xnext] at h
    split at h
    · split at h
      · split at h
        · exact xgo_ok hs hL (xlok.cons (xvok.int _ _) hst.tl) h
        · cases h
      · split at h
        · exact xgo_ok hs hL (xlok.cons (xvok.int _ _) hst.tl) h
        · cases h
    · cases h
  case new =>
    simp only [xnext] at h
    split at h
    · split at h
      · cases h
        exact ⟨hs, ⟨Nat.le_refl _, Nat.le_add_right _ _, Nat.le_add_right _ _⟩, fun _ q => by cases q⟩
      · cases h
    · split at h
      · refine xgo_ok' (hs.app (fun c hc => ?_)) ⟨?_, Nat.le_add_right _ _, Nat.le_add_right _ _⟩ ?_ ?_ h
        · rw [List.mem_singleton.mp hc]
          exact ⟨hi.2.resolve_right (by assumption), fun z hz => (hT.2.2.2 _ z hz).mono (Nat.zero_le _)⟩
        · simp
        · exact hL.mono (by simp)
        · refine xlok.cons (fun q hq => ?_) (hst.mono (by simp))
          cases hq
          left; simp
      · cases h
  case newarray =>
    obtain ⟨n, r, rfl, h9⟩ := x1i_some h
    split at h9
    · cases h9
    · refine xgo_ok' (hs.app (fun c hc => ?_)) ⟨?_, Nat.le_add_right _ _, Nat.le_add_right _ _⟩ ?_ ?_ h9
      · rw [List.mem_singleton.mp hc]
        exact xzero_ok hi.2
      · simp
      · exact hL.mono (by simp)
      · refine xlok.cons (fun q hq => ?_) (hst.tl.mono (by simp))
        cases hq
        left; simp
  case anewarray =>
    obtain ⟨n, r, rfl, h9⟩ := x1i_some h
    split at h9
    · cases h9
    · refine xgo_ok' (hs.app (fun c hc => ?_)) ⟨?_, Nat.le_add_right _ _, Nat.le_add_right _ _⟩ ?_ ?_ h9
      · rw [List.mem_singleton.mp hc]
        exact xzero_ok hi.2
      · simp
      · exact hL.mono (by simp)
      · refine xlok.cons (fun q hq => ?_) (hst.tl.mono (by simp))
        cases hq
        left; simp
  case multianewarray =>
    obtain ⟨n, k, r, rfl, h9⟩ := x2i_some h
    split at h9
    · cases h9
    · refine xgo_ok' (hs.app (fun c hc => ?_)) ⟨?_, ?_, ?_⟩ ?_ ?_ h9
      · rcases List.mem_cons.mp hc with rfl | hc
        · refine ⟨hi.2.2.1, hi.2.2.2, fun z hz => ?_⟩
          obtain ⟨j, hj, e⟩ := List.mem_map.mp hz
          cases e
          have := List.mem_range.mp hj
          left
          simp
          omega
        · rw [(List.mem_replicate.mp hc).2]
          exact xzero_ok hi.2.1
      · simp
      · simp only []; omega
      · simp only []; omega
      · exact hL.mono (by simp)
      · refine xlok.cons (fun q hq => ?_) (hst.tl.tl.mono (by simp))
        cases hq
        left; simp
  case invokevirtual => exact xcall_ok hL hst h
  case invokestatic =>
    simp only [xnext] at h
    split at h
    · exact xcopy_ok hs hL hst h
    · split at h
      · obtain ⟨x, y, r, rfl, h9⟩ := x2i_some h
        split at h9
        · cases h9
        · exact xgo_ok hs hL (xlok.cons (xvok.int _ _) hst.tl.tl) h9
      · split at h
        · obtain ⟨x, y, r, rfl, h9⟩ := x2i_some h
          split at h9
          · cases h9
          · exact xgo_ok hs hL (xlok.cons (xvok.int _ _) hst.tl.tl) h9
        · exact xcall_ok hL hst h
  case invokespecial =>
    simp only [xnext] at h
    split at h
    · split at h
      · split at h
        · cases h
        · exact xgo_ok hs hL hst.tl h
      · cases h
    · exact xcall_ok hL hst h
  case ireturn =>
    simp only [xnext] at h
    split at h
    · split at h
      · split at h
        · cases h
          exact ⟨hs, xle.rf s, fun _ q => by cases q; exact xvok.int _ _⟩
        · cases h
      · cases h
    · cases h
  case lreturn =>
    simp only [xnext] at h
    split at h
    · cases h
      exact ⟨hs, xle.rf s, fun _ q => by cases q; exact xvok.long _ _⟩
    · cases h
  case dreturn =>
    simp only [xnext] at h
    split at h
    · cases h
      exact ⟨hs, xle.rf s, fun _ q => by cases q; exact xvok.double _ _⟩
    · cases h
  case areturn =>
    simp only [xnext] at h
    split at h
    · cases h
      exact ⟨hs, xle.rf s, fun _ q => by cases q; exact hst.hd⟩
    · cases h
  case return_ =>
    simp only [xnext] at h
    split at h
    · cases h
      exact ⟨hs, xle.rf s, fun _ q => by cases q⟩
    · cases h
  all_goals exact absurd h (fun q => by cases q)
/-- a run keeps to it, if the callees do -/
def xEok (C : Nat → List Value → xS → xR → Prop) : Prop := ∀ m args s r, xsok s → xlok s.1.length args → C m args s r → xrok s r
theorem xrok.tr {s s' : xS} {r : xR} (h : xle s s') (hr : xrok s' r) : xrok s r := ⟨hr.1, h.tr hr.2.1, hr.2.2⟩
theorem xat_ok (hT : xtabs) {m : Nat} {g : xGo} {act : xA} (hg : xgok g) (h : xat m g = some act) : xaok g.2.2.2 act := by
  unfold xat at h
  split at h
  · rename_i i nx a b v hc
    exact xnext_ok hT (hT.1 _ _ _ _ _ _ _ hc) hg.1 hg.2.1 hg.2.2 h
  · cases h
theorem xrun_ok (hT : xtabs) {C : Nat → List Value → xS → xR → Prop} (hC : xEok C) {m : Nat} : ∀ (n : Nat) (g : xGo) (r : xR), xgok g → xrun C m n g r → xrok g.2.2.2 r
  | 0, _, _, _, h => h.elim
  | n + 1, g, r, hg, h => by
    simp only [xrun] at h
    cases hact : xat m g with
    | none => rw [hact] at h; exact h.elim
    | some act =>
      rw [hact] at h
      have ha := xat_ok hT hg hact
      match act, h, ha with
      | .inl g', h, ha => exact (xrun_ok hT hC n g' r ha.1 h).tr ha.2
      | .inr (.inl (a, args, nx, L, rest, s')), ⟨q, h1, h2⟩, ⟨e, k1, k2, k3⟩ =>
        subst e
        have hq := hC _ _ _ _ hg.1 k1 h1
        obtain ⟨o, s2⟩ := q
        have hle : g.2.2.2.1.length ≤ s2.1.length := hq.2.1.1
        cases o with
        | inl w => cases w with
          | none => exact (xrun_ok hT hC n _ r ⟨hq.1, k2.mono hle, k3.mono hle⟩ h2).tr hq.2.1
          | some w => exact (xrun_ok hT hC n _ r ⟨hq.1, k2.mono hle, xlok.cons (hq.2.2 w rfl) (k3.mono hle)⟩ h2).tr hq.2.1
        | inr E =>
          simp only [xcont] at h2
          cases hx : xh m g.1 E with
          | none =>
            rw [hx] at h2
            rw [h2]
            exact ⟨hq.1, hq.2.1, fun _ z => by cases z⟩
          | some z =>
            rw [hx] at h2
            exact (xrun_ok hT hC n _ r ⟨hq.1, (k2.mono hle).put (xvok.no _) _, xlok.nil _⟩ h2.2).tr hq.2.1
      | .inr (.inr r0), h, ha =>
        have e : r = r0 := h
        rw [e]; exact ha
theorem xE_ok (hT : xtabs) : ∀ d, xEok (xE d)
  | 0 => fun _ _ _ _ _ _ h => h.elim
  | d + 1 => fun m args s r hs ha ⟨_, _, n, h⟩ => xrun_ok hT (xE_ok hT d) n _ r ⟨hs, ha.entry, xlok.nil _⟩ h
