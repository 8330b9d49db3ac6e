/-! WHAT THE INTERPRETER KEEPS: references name cells that are there, arrays hold what their kind holds, nothing is unmade. -/
abbrev xvok (n : Nat) (v : Value) : Prop := ∀ a, v = .ref a → a < n ∨ xB ≤ a
/-- the kinds of arrays: what they hold -/
def xkt (t : Nat) : FieldType := match t with
  | 0 => .int
  | 1 => .char
  | 2 => .byte
  | 3 => .long
  | 4 => .object RX4
  | 5 => .object RX1
  | 6 => .array .int
  | 7 => .array .long
  | _ => .object "java/lang/String"
def xcok (n : Nat) : xC → Prop
  | .inl (c, fs) => c < 1000 ∧ ∀ v ∈ fs, xvok n v
  | .inr (.inl (t, l)) => t < 3 ∧ ∀ x ∈ l, fits (xkt t) (.int x) = true
  | .inr (.inr (.inl (t, _))) => t = 3
  | .inr (.inr (.inr (t, l))) => 4 ≤ t ∧ t < 8 ∧ ∀ a, some a ∈ l → a < n ∨ xB ≤ a
def xsok (s : xS) : Prop := ∀ c ∈ s.1, xcok s.1.length c
def xlok (n : Nat) (L : List Value) : Prop := ∀ v ∈ L, xvok n v
def xgok (g : xGo) : Prop := xsok g.2.2.2 ∧ xlok g.2.2.2.1.length g.2.1 ∧ xlok g.2.2.2.1.length g.2.2.1
/-- later: nothing unmade -/
def xle (s s' : xS) : Prop := s.1.length ≤ s'.1.length ∧ s.2.1 ≤ s'.2.1 ∧ s.2.2 ≤ s'.2.2
def xrok (s : xS) (r : xR) : Prop := xsok r.2 ∧ xle s r.2 ∧ ∀ v, r.1 = .inl (some v) → xvok r.2.1.length v
theorem xle.rf (s : xS) : xle s s := ⟨Nat.le_refl _, Nat.le_refl _, Nat.le_refl _⟩
theorem xle.tr {a b c : xS} (h : xle a b) (k : xle b c) : xle a c := ⟨Nat.le_trans h.1 k.1, Nat.le_trans h.2.1 k.2.1, Nat.le_trans h.2.2 k.2.2⟩
theorem xvok.mono {n n' : Nat} (h : n ≤ n') {v : Value} (hv : xvok n v) : xvok n' v := fun a ha => (hv a ha).imp (fun q => Nat.lt_of_lt_of_le q h) id
theorem xlok.mono {n n' : Nat} (h : n ≤ n') {L : List Value} (hv : xlok n L) : xlok n' L := fun v hm => (hv v hm).mono h
theorem xcok.mono {n n' : Nat} (h : n ≤ n') {c : xC} (hc : xcok n c) : xcok n' c := by
  match c, hc with
  | .inl (_, fs), hc => exact ⟨hc.1, fun v hv => (hc.2 v hv).mono h⟩
  | .inr (.inl (t, l)), hc => exact hc
  | .inr (.inr (.inl (t, _))), hc => exact hc
  | .inr (.inr (.inr (t, l))), hc => exact ⟨hc.1, hc.2.1, fun a ha => (hc.2.2 a ha).imp (fun q => Nat.lt_of_lt_of_le q h) id⟩
theorem xvok.int (n : Nat) (x : Int32) : xvok n (.int x) := fun a h => by cases h
theorem xvok.long (n : Nat) (x : Int64) : xvok n (.long x) := fun a h => by cases h
theorem xvok.double (n : Nat) (x : UInt64) : xvok n (.double x) := fun a h => by cases h
theorem xvok.no (n : Nat) : xvok n xno := fun a h => by cases h
theorem xlok.nil (n : Nat) : xlok n [] := fun _ h => by cases h
theorem xlok.cons {n : Nat} {v : Value} {L : List Value} (h : xvok n v) (hL : xlok n L) : xlok n (v :: L) := fun w hw => by
  rcases List.mem_cons.mp hw with rfl | q
  · exact h
  · exact hL w q
theorem xlok.hd {n : Nat} {v : Value} {L : List Value} (h : xlok n (v :: L)) : xvok n v := h v List.mem_cons_self
theorem xlok.tl {n : Nat} {v : Value} {L : List Value} (h : xlok n (v :: L)) : xlok n L := fun w hw => h w (List.mem_cons_of_mem _ hw)
theorem xlok.clr {n : Nat} : ∀ {L : List Value}, xlok n L → xlok n (xclr L)
  | [], h => h
  | _ :: _, h => xlok.cons (xvok.no n) h.tl
theorem xlok.put {n : Nat} {v : Value} (hv : xvok n v) : ∀ {L : List Value} (i : Nat), xlok n L → xlok n (xput L i v)
  | [], _, h => by simpa [xput] using h
  | w :: L, 0, h => by
    simp only [xput]
    refine xlok.cons hv ?_
    split
    · exact h.tl.clr
    · exact h.tl
  | w :: L, 1, h => by
    simp only [xput]
    refine xlok.cons ?_ (xlok.put hv 0 h.tl)
    split
    · exact xvok.no n
    · exact h.hd
  | w :: L, i + 2, h => by
    simp only [xput]
    exact xlok.cons h.hd (xlok.put hv (i + 1) h.tl)
theorem xlok.drop {n k : Nat} {L : List Value} (h : xlok n L) : xlok n (L.drop k) := fun v hv => h v (List.mem_of_mem_drop hv)
theorem xlok.args {n k : Nat} {L : List Value} (h : xlok n L) : xlok n (L.take k).reverse := fun v hv => h v (List.mem_of_mem_take (List.mem_reverse.mp hv))
theorem xlok.at {n : Nat} {L : List Value} (h : xlok n L) {i : Nat} {v : Value} (hi : L[i]? = some v) : xvok n v := h v (List.mem_of_getElem? hi)
theorem xlok.xa {n : Nat} : ∀ {L : List Value}, xlok n L → xlok n (xargs L)
  | [], h => h
  | v :: L, h => by
    simp only [xargs]
    refine xlok.cons h.hd ?_
    split
    · exact xlok.cons (xvok.no n) (xlok.xa h.tl)
    · exact xlok.xa h.tl
theorem xlok.entry {n k : Nat} {L : List Value} (h : xlok n L) : xlok n (xentry L k) := fun v hv => by
  rcases List.mem_append.mp hv with q | q
  · exact xlok.xa h v q
  · rw [(List.mem_replicate.mp q).2]
    exact xvok.no n
/-- a cell is written -/
theorem xsok.set {s : xS} (h : xsok s) {p : Nat} {c : xC} (hc : xcok s.1.length c) : xsok (xset s p c) := by
  intro c' hc'
  show xcok (s.1.set p c).length c'
  rw [List.length_set]
  rcases List.mem_or_eq_of_mem_set hc' with q | q
  · exact h c' q
  · rw [q]; exact hc
theorem xle.set {s : xS} {p : Nat} {c : xC} : xle s (xset s p c) := ⟨Nat.le_of_eq List.length_set.symm, Nat.le_refl _, Nat.le_refl _⟩
theorem xlen_set {s : xS} {p : Nat} {c : xC} : (xset s p c).1.length = s.1.length := List.length_set
theorem xsok.at {s : xS} (h : xsok s) {p : Nat} {c : xC} (hp : s.1[p]? = some c) : xcok s.1.length c := h c (List.mem_of_getElem? hp)
/-- cells are made -/
theorem xsok.app {s : xS} (h : xsok s) {l : List xC} {k n : Nat} (hl : ∀ c ∈ l, xcok (s.1.length + l.length) c) : xsok (s.1 ++ l, k, n) := by
  intro c hc
  show xcok (s.1 ++ l).length c
  rw [List.length_append]
  rcases List.mem_append.mp hc with q | q
  · exact (h c q).mono (Nat.le_add_right _ _)
  · exact hl c q
/-- an action's own goodness -/
def xaok (s : xS) : xA → Prop
  | .inl g => xgok g ∧ xle s g.2.2.2
  | .inr (.inl (_, args, _, L, rest, s')) => s' = s ∧ xlok s.1.length args ∧ xlok s.1.length L ∧ xlok s.1.length rest
  | .inr (.inr r) => xrok s r
theorem xgo_ok {s : xS} {nx : Nat} {L st : List Value} {act : xA} (hs : xsok s) (hL : xlok s.1.length L) (hst : xlok s.1.length st) (h : xgo nx L st s = some act) : xaok s act := by
  cases h
  exact ⟨⟨hs, hL, hst⟩, xle.rf s⟩
theorem xgo_ok' {s s' : xS} {nx : Nat} {L st : List Value} {act : xA} (hs : xsok s') (hle : xle s s') (hL : xlok s'.1.length L) (hst : xlok s'.1.length st) (h : xgo nx L st s' = some act) : xaok s act := by
  cases h
  exact ⟨⟨hs, hL, hst⟩, hle⟩
theorem x1i_some {st : List Value} {f : Int32 → List Value → Option xA} {act : xA} (h : x1i st f = some act) : ∃ x r, st = .int x :: r ∧ f x r = some act := by
  unfold x1i at h
  split at h
  · exact ⟨_, _, rfl, h⟩
  · cases h
theorem x2i_some {st : List Value} {f : Int32 → Int32 → List Value → Option xA} {act : xA} (h : x2i st f = some act) : ∃ x y r, st = .int y :: .int x :: r ∧ f x y r = some act := by
  unfold x2i at h
  split at h
  · exact ⟨_, _, _, rfl, h⟩
  · cases h
theorem x2l_some {st : List Value} {f : Int64 → Int64 → List Value → Option xA} {act : xA} (h : x2l st f = some act) : ∃ x y r, st = .long y :: .long x :: r ∧ f x y r = some act := by
  unfold x2l at h
  split at h
  · exact ⟨_, _, _, rfl, h⟩
  · cases h
theorem x2d_some {st : List Value} {f : UInt64 → UInt64 → List Value → Option xA} {act : xA} (h : x2d st f = some act) : ∃ x y r, st = .double y :: .double x :: r ∧ f x y r = some act := by
  unfold x2d at h
  split at h
  · exact ⟨_, _, _, rfl, h⟩
  · cases h
theorem xif_some {cd : ClassFile.Cond} {x y : Int32} {a b : Option xA} {act : xA} (h : xif cd x y a b = some act) : a = some act ∨ b = some act := by
  unfold xif at h
  cases cd <;> simp only at h <;> split at h <;> first | exact Or.inl h | exact Or.inr h
theorem xload_ok {s : xS} {t nx i : Nat} {L st : List Value} {act : xA} (hs : xsok s) (hL : xlok s.1.length L) (hst : xlok s.1.length st) (h : xload t nx i L st s = some act) : xaok s act := by
  unfold xload at h
  split at h
  · rename_i v hv
    split at h
    · exact xgo_ok hs hL (xlok.cons (hL.at hv) hst) h
    · cases h
  · cases h
theorem xstore_ok {s : xS} {t nx i : Nat} {L st : List Value} {act : xA} (hs : xsok s) (hL : xlok s.1.length L) (hst : xlok s.1.length st) (h : xstore t nx i L st s = some act) : xaok s act := by
  unfold xstore at h
  split at h
  · split at h
    · exact xgo_ok hs (xlok.put hst.hd _ hL) hst.tl h
    · cases h
  · cases h
/-- the constant arrays hold good values -/
def xctok : Prop := ∀ p t l, xct p = some (t, l) → ∀ v ∈ l, xvok 0 v
theorem xald_ok (hct : xctok) {s : xS} {t nx : Nat} {L st : List Value} {act : xA} (hs : xsok s) (hL : xlok s.1.length L) (hst : xlok s.1.length st) (h : xald t nx L st s = some act) : xaok s act := by
  unfold xald at h
  split at h
  · split at h
    · cases h
    · split at h
      · split at h
        · split at h
          · exact xgo_ok hs hL (xlok.cons (xvok.int _ _) hst.tl.tl) h
          · cases h
        · cases h
      · cases h
      · split at h
        · rename_i t' l hl
          split at h
          · split at h
            · rename_i w hw
              exact xgo_ok hs hL (xlok.cons ((hct _ _ _ hl w (List.mem_of_getElem? hw)).mono (Nat.zero_le _)) hst.tl.tl) h
            · cases h
          · cases h
        · cases h
  · cases h
theorem xnar_fits {t : Nat} (ht : t < 3) (x : Int32) : fits (xkt t) (.int (xnar t x)) = true := by
  match t, ht with
  | 0, _ => rfl
  | 1, _ =>
    show fits .char (.int (vp_nar .char x)) = true
    have := pk_fc x
    exact this
  | 2, _ =>
    show fits .byte (.int (vp_nar .byte x)) = true
    exact pk_fb x
theorem xast_ok {s : xS} {t nx : Nat} {L st : List Value} {act : xA} (hs : xsok s) (hL : xlok s.1.length L) (hst : xlok s.1.length st) (h : xast t nx L st s = some act) : xaok s act := by
  unfold xast at h
  split at h
  · split at h
    · cases h
    · split at h
      · rename_i t' l hp
        split at h
        · rename_i hc
          obtain ⟨rfl, hi⟩ := hc
          have hcell := hs.at hp
          refine xgo_ok' (hs.set ?_) xle.set (by rw [xlen_set]; exact hL) (by rw [xlen_set]; exact hst.tl.tl.tl) h
          refine ⟨hcell.1, fun x hx => ?_⟩
          rcases List.mem_or_eq_of_mem_set hx with q | q
          · exact hcell.2 x q
          · rw [q]; exact xnar_fits hcell.1 _
        · cases h
      · cases h
  · cases h
theorem xcall_ok {vir : Nat} {s : xS} {nx a b : Nat} {L st : List Value} {act : xA} (hL : xlok s.1.length L) (hst : xlok s.1.length st) (h : xcall vir nx a b L st s = some act) : xaok s act := by
  unfold xcall at h
  split at h
  · cases h
    exact ⟨rfl, hst.args, hL, hst.drop⟩
  · cases h
theorem xcopy_ok {s : xS} {nx : Nat} {L st : List Value} {act : xA} (hs : xsok s) (hL : xlok s.1.length L) (hst : xlok s.1.length st) (h : xcopy nx L st s = some act) : xaok s act := by
  unfold xcopy at h
  split at h
  · split at h
    · cases h
    · split at h
      · rename_i t f t' g hp hq
        split at h
        · rename_i hc
          obtain ⟨rfl, h1, h2⟩ := hc
          refine xgo_ok' (hs.set ?_) xle.set (by rw [xlen_set]; exact hL) (by rw [xlen_set]; exact hst.tl.tl.tl.tl.tl) h
          refine ⟨(hs.at hp).1, fun x hx => ?_⟩
          rcases List.mem_append.mp hx with q | q
          · exact (hs.at hq).2 x (List.mem_of_mem_take q)
          · rcases List.mem_append.mp q with q | q
            · exact (hs.at hp).2 x (List.mem_of_mem_drop (List.mem_of_mem_take q))
            · exact (hs.at hq).2 x (List.mem_of_mem_drop q)
        · cases h
      · cases h
  · cases h
theorem xzero_ok {n t k : Nat} (ht : t < 8) : xcok n (xzero t k) := by
  unfold xzero
  split
  · rename_i h
    refine ⟨h, fun x hx => ?_⟩
    rw [(List.mem_replicate.mp hx).2]
    match t, h with
    | 0, _ => rfl
    | 1, _ => rfl
    | 2, _ => rfl
  · split
    · rename_i h; exact h
    · refine ⟨by omega, ht, fun a ha => ?_⟩
      have := (List.mem_replicate.mp ha).2
      cases this
