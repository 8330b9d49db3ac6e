/-! STEPS: constants, locals, numbers, jumps. -/
section STEP2
variable {p : Program} {l : Launch} {e : Env} {R : Room} {s : State} {m : MethodId} {args : Array Value} {below : List Frame} {meth : Method} {c : Code} {H : Heap} {locs : List Loc} {cells slots : Nat} {Q : State → Prop}
variable {A : Nat → Prop} {D : va_G} {cA : Nat → ClassId} {sA ρ : Nat → Nat} {M : Nat} {ls : Array Slot} {L st : List Value} {σ : xS} {pc nx a b : Nat} {v : Value} {g : xGo}
theorem x_pin {t : Nat} (h : xload t nx a L st σ = some (.inl g)) : ∃ w, L[a]? = some w ∧ xsort w = t ∧ g = (nx, L, w :: st, σ) := by
  unfold xload at h
  split at h
  · rename_i w hw
    split at h
    · rename_i ht
      cases h
      exact ⟨w, hw, ht, rfl⟩
    · cases h
  · cases h
theorem x_pst {t : Nat} (h : xstore t nx a L st σ = some (.inl g)) : ∃ w r, st = w :: r ∧ xsort w = t ∧ a + (w.category - 1) < L.length ∧ g = (nx, xput L a w, r, σ) := by
  unfold xstore at h
  split at h
  · rename_i w r
    split at h
    · rename_i ht
      cases h
      exact ⟨w, r, rfl, ht.1, ht.2, rfl⟩
    · cases h
  · cases h
theorem x_s0 {w : Value} (h : xsort w = 0) : ∃ x, w = .int x := by cases w <;> first | exact ⟨_, rfl⟩ | cases h
theorem x_s1 {w : Value} (h : xsort w = 1) : ∃ x, w = .long x := by cases w <;> first | exact ⟨_, rfl⟩ | cases h
theorem x_s2 {w : Value} (h : xsort w = 2) : ∃ x, w = .ref x := by cases w <;> first | exact ⟨_, rfl⟩ | cases h
theorem x_st_iconst {n : Int} (F : x_F A D cA sA M p s m args meth c) (hat : x_at A D cA sA ρ M s H locs ls L σ) (ho : xok M pc (.iconst n) nx a b v) (h : xnext M (.iconst n) nx a b v L st σ = some (.inl g)) (hk : x_K A D cA sA ρ M p l e R s m args below meth c cells slots Q σ g) : W p l e R s m args below meth c H locs cells slots Q (F0 m pc ls (st.map (x_v ρ))) := by
  obtain ⟨⟨hd, rfl⟩, rfl⟩ := ho
  cases h
  exact lv_iconst F.1 F.2.1 hd rfl (hk.same rfl hat)
theorem x_st_bipush {n : Int} (F : x_F A D cA sA M p s m args meth c) (hat : x_at A D cA sA ρ M s H locs ls L σ) (ho : xok M pc (.bipush n) nx a b v) (h : xnext M (.bipush n) nx a b v L st σ = some (.inl g)) (hk : x_K A D cA sA ρ M p l e R s m args below meth c cells slots Q σ g) : W p l e R s m args below meth c H locs cells slots Q (F0 m pc ls (st.map (x_v ρ))) := by
  obtain ⟨hd, rfl, rfl⟩ := ho
  cases h
  exact lv_bipush F.1 F.2.1 hd rfl (hk.same rfl hat)
theorem x_st_sipush {n : Int} (F : x_F A D cA sA M p s m args meth c) (hat : x_at A D cA sA ρ M s H locs ls L σ) (ho : xok M pc (.sipush n) nx a b v) (h : xnext M (.sipush n) nx a b v L st σ = some (.inl g)) (hk : x_K A D cA sA ρ M p l e R s m args below meth c cells slots Q σ g) : W p l e R s m args below meth c H locs cells slots Q (F0 m pc ls (st.map (x_v ρ))) := by
  obtain ⟨hd, rfl, rfl⟩ := ho
  cases h
  exact lv_sipush F.1 F.2.1 hd rfl (hk.same rfl hat)
theorem x_st_lconst {n : Fin 2} (F : x_F A D cA sA M p s m args meth c) (hat : x_at A D cA sA ρ M s H locs ls L σ) (ho : xok M pc (.lconst n) nx a b v) (h : xnext M (.lconst n) nx a b v L st σ = some (.inl g)) (hk : x_K A D cA sA ρ M p l e R s m args below meth c cells slots Q σ g) : W p l e R s m args below meth c H locs cells slots Q (F0 m pc ls (st.map (x_v ρ))) := by
  obtain ⟨⟨hd, rfl⟩, rfl⟩ := ho
  cases h
  exact lv_lconst F.1 F.2.1 hd rfl (hk.same rfl hat)
theorem x_st_anull  (F : x_F A D cA sA M p s m args meth c) (hat : x_at A D cA sA ρ M s H locs ls L σ) (ho : xok M pc (.aconst_null) nx a b v) (h : xnext M (.aconst_null) nx a b v L st σ = some (.inl g)) (hk : x_K A D cA sA ρ M p l e R s m args below meth c cells slots Q σ g) : W p l e R s m args below meth c H locs cells slots Q (F0 m pc ls (st.map (x_v ρ))) := by
  obtain ⟨⟨hd, rfl⟩, rfl⟩ := ho
  cases h
  exact lv_null F.1 F.2.1 hd (hk.same rfl hat)
theorem x_st_ldc {k : Nat} (F : x_F A D cA sA M p s m args meth c) (hat : x_at A D cA sA ρ M s H locs ls L σ) (ho : xok M pc (.ldc k) nx a b v) (h : xnext M (.ldc k) nx a b v L st σ = some (.inl g)) (hk : x_K A D cA sA ρ M p l e R s m args below meth c cells slots Q σ g) : W p l e R s m args below meth c H locs cells slots Q (F0 m pc ls (st.map (x_v ρ))) := by
  obtain ⟨hd, rfl, ⟨n, rfl, hw⟩ | ⟨tx, q, rfl, hq, hm⟩⟩ := ho
  · cases h
    exact lv_ldc F.1 F.2.1 F.2.2.2.1 (F.2.2.2.2.2.2.2.1 _ hw) hd (hk.same rfl hat)
  · cases h
    have hZ := F.2.2.2.2.2.2.2.2.2.1.2.2.2.2.1 _ hm
    have := hk.same rfl hat
    refine va_ldcS F.1 F.2.1 F.2.2.2.1 hZ hd ?_
    have e : x_v ρ (.ref q) = .ref (sA q) := congrArg Value.ref (hat.2.2.2.2 q hq)
    rw [show (F0 m (pc + 2) ls (.ref (sA q) :: st.map (x_v ρ))) = F0 m (pc + 2) ls ((Value.ref q :: st).map (x_v ρ)) by rw [List.map_cons, e]]
    exact this
theorem x_st_ldc_w {k : Nat} (F : x_F A D cA sA M p s m args meth c) (hat : x_at A D cA sA ρ M s H locs ls L σ) (ho : xok M pc (.ldc_w k) nx a b v) (h : xnext M (.ldc_w k) nx a b v L st σ = some (.inl g)) (hk : x_K A D cA sA ρ M p l e R s m args below meth c cells slots Q σ g) : W p l e R s m args below meth c H locs cells slots Q (F0 m pc ls (st.map (x_v ρ))) := by
  obtain ⟨hd, rfl, n, rfl, hw⟩ := ho
  cases h
  exact lv_ldcw F.1 F.2.1 F.2.2.2.1 (F.2.2.2.2.2.2.2.1 _ hw) hd (hk.same rfl hat)
theorem x_st_ldc2_w {k : Nat} (F : x_F A D cA sA M p s m args meth c) (hat : x_at A D cA sA ρ M s H locs ls L σ) (ho : xok M pc (.ldc2_w k) nx a b v) (h : xnext M (.ldc2_w k) nx a b v L st σ = some (.inl g)) (hk : x_K A D cA sA ρ M p l e R s m args below meth c cells slots Q σ g) : W p l e R s m args below meth c H locs cells slots Q (F0 m pc ls (st.map (x_v ρ))) := by
  obtain ⟨hd, rfl, ⟨n, rfl, hw⟩ | ⟨n, rfl, hw⟩⟩ := ho
  · cases h
    exact lv_ldc2 F.1 F.2.1 F.2.2.2.1 (F.2.2.2.2.2.2.2.1 _ hw) hd (hk.same rfl hat)
  · cases h
    exact lv_ldc2d F.1 F.2.1 F.2.2.2.1 (F.2.2.2.2.2.2.2.1 _ hw) hd (hk.same rfl hat)
theorem x_st_getstatic {k : Nat} (F : x_F A D cA sA M p s m args meth c) (hat : x_at A D cA sA ρ M s H locs ls L σ) (ho : xok M pc (.getstatic k) nx a b v) (h : xnext M (.getstatic k) nx a b v L st σ = some (.inl g)) (hk : x_K A D cA sA ρ M p l e R s m args below meth c cells slots Q σ g) : W p l e R s m args below meth c H locs cells slots Q (F0 m pc ls (st.map (x_v ρ))) := by
  obtain ⟨hd, rfl, hv, C, n, d, hz, hl⟩ := ho
  cases h
  have hZ := F.2.2.2.2.2.2.2.2.2.1.1 _ hz
  have hthis := hk.same rfl hat
  have he : x_v ρ v = x_v sA v := by
    cases v with
    | ref q => exact congrArg Value.ref (hat.2.2.2.2 q (hv q rfl))
    | _ => rfl
  have hthis : W p l e R s m args below meth c H locs cells slots Q (F0 m (pc + 3) ls (x_v sA v :: st.map (x_v ρ))) := by rw [← he]; exact hthis
  rcases hl with hl | ⟨host, hl⟩
  · exact va_gets F.1 F.2.1 hZ hat.2.2.1 F.2.2.2.1 (F.2.2.2.2.2.2.2.1 _ hl) (fun _ h9 => h9) hd hthis
  · exact va_getsN F.1 F.2.1 hZ hat.2.2.1 F.2.2.2.1 ((F.2.2.2.2.2.2.2.2.2.1.2.2.2.2.2.1 _ hl).use rfl) (fun _ h9 => h9) hd hthis
theorem x_st_iload_n {k : Fin 4} (F : x_F A D cA sA M p s m args meth c) (hat : x_at A D cA sA ρ M s H locs ls L σ) (ho : xok M pc (.iload_n k) nx a b v) (h : xnext M (.iload_n k) nx a b v L st σ = some (.inl g)) (hk : x_K A D cA sA ρ M p l e R s m args below meth c cells slots Q σ g) : W p l e R s m args below meth c H locs cells slots Q (F0 m pc ls (st.map (x_v ρ))) := by
  obtain ⟨⟨hd, rfl⟩, rfl⟩ := ho
  obtain ⟨w, hw, ht, rfl⟩ := x_pin h
  have hl := x_load F hat hw ht (by decide)
  obtain ⟨x, rfl⟩ := x_s0 ht
  exact lv_iload_n F.1 F.2.1 hd rfl hl (hk.same rfl hat)
theorem x_st_iload {k : Nat} (F : x_F A D cA sA M p s m args meth c) (hat : x_at A D cA sA ρ M s H locs ls L σ) (ho : xok M pc (.iload k) nx a b v) (h : xnext M (.iload k) nx a b v L st σ = some (.inl g)) (hk : x_K A D cA sA ρ M p l e R s m args below meth c cells slots Q σ g) : W p l e R s m args below meth c H locs cells slots Q (F0 m pc ls (st.map (x_v ρ))) := by
  obtain ⟨hd, rfl, rfl⟩ := ho
  obtain ⟨w, hw, ht, rfl⟩ := x_pin h
  have hl := x_load F hat hw ht (by decide)
  obtain ⟨x, rfl⟩ := x_s0 ht
  exact lv_iload F.1 F.2.1 hd hl (hk.same rfl hat)
theorem x_st_lload_n {k : Fin 4} (F : x_F A D cA sA M p s m args meth c) (hat : x_at A D cA sA ρ M s H locs ls L σ) (ho : xok M pc (.lload_n k) nx a b v) (h : xnext M (.lload_n k) nx a b v L st σ = some (.inl g)) (hk : x_K A D cA sA ρ M p l e R s m args below meth c cells slots Q σ g) : W p l e R s m args below meth c H locs cells slots Q (F0 m pc ls (st.map (x_v ρ))) := by
  obtain ⟨⟨hd, rfl⟩, rfl⟩ := ho
  obtain ⟨w, hw, ht, rfl⟩ := x_pin h
  have hl := x_load F hat hw ht (by decide)
  obtain ⟨x, rfl⟩ := x_s1 ht
  exact lv_lload_n F.1 F.2.1 hd rfl hl (hk.same rfl hat)
theorem x_st_lload {k : Nat} (F : x_F A D cA sA M p s m args meth c) (hat : x_at A D cA sA ρ M s H locs ls L σ) (ho : xok M pc (.lload k) nx a b v) (h : xnext M (.lload k) nx a b v L st σ = some (.inl g)) (hk : x_K A D cA sA ρ M p l e R s m args below meth c cells slots Q σ g) : W p l e R s m args below meth c H locs cells slots Q (F0 m pc ls (st.map (x_v ρ))) := by
  obtain ⟨hd, rfl, rfl⟩ := ho
  obtain ⟨w, hw, ht, rfl⟩ := x_pin h
  have hl := x_load F hat hw ht (by decide)
  obtain ⟨x, rfl⟩ := x_s1 ht
  exact lv_lload F.1 F.2.1 hd hl (hk.same rfl hat)
theorem x_st_aload_n {k : Fin 4} (F : x_F A D cA sA M p s m args meth c) (hat : x_at A D cA sA ρ M s H locs ls L σ) (ho : xok M pc (.aload_n k) nx a b v) (h : xnext M (.aload_n k) nx a b v L st σ = some (.inl g)) (hk : x_K A D cA sA ρ M p l e R s m args below meth c cells slots Q σ g) : W p l e R s m args below meth c H locs cells slots Q (F0 m pc ls (st.map (x_v ρ))) := by
  obtain ⟨⟨hd, rfl⟩, rfl⟩ := ho
  obtain ⟨w, hw, ht, rfl⟩ := x_pin h
  have hl := x_load F hat hw ht (by decide)
  obtain ⟨x, rfl⟩ := x_s2 ht
  exact lv_aload_n F.1 F.2.1 hd rfl hl (hk.same rfl hat)
theorem x_st_aload {k : Nat} (F : x_F A D cA sA M p s m args meth c) (hat : x_at A D cA sA ρ M s H locs ls L σ) (ho : xok M pc (.aload k) nx a b v) (h : xnext M (.aload k) nx a b v L st σ = some (.inl g)) (hk : x_K A D cA sA ρ M p l e R s m args below meth c cells slots Q σ g) : W p l e R s m args below meth c H locs cells slots Q (F0 m pc ls (st.map (x_v ρ))) := by
  obtain ⟨hd, rfl, rfl⟩ := ho
  obtain ⟨w, hw, ht, rfl⟩ := x_pin h
  have hl := x_load F hat hw ht (by decide)
  obtain ⟨x, rfl⟩ := x_s2 ht
  exact lv_aload F.1 F.2.1 hd hl (hk.same rfl hat)
theorem x_st_istore_n {k : Fin 4} (F : x_F A D cA sA M p s m args meth c) (hat : x_at A D cA sA ρ M s H locs ls L σ) (ho : xok M pc (.istore_n k) nx a b v) (h : xnext M (.istore_n k) nx a b v L st σ = some (.inl g)) (hk : x_K A D cA sA ρ M p l e R s m args below meth c cells slots Q σ g) : W p l e R s m args below meth c H locs cells slots Q (F0 m pc ls (st.map (x_v ρ))) := by
  obtain ⟨⟨hd, rfl⟩, rfl⟩ := ho
  obtain ⟨w, r, rfl, ht, hlt, rfl⟩ := x_pst h
  obtain ⟨x, rfl⟩ := x_s0 ht
  rw [x_len hat] at hlt
  exact lv_istore_n F.1 F.2.1 hd rfl hat.2.2.2.1.2 hlt rfl (fun ls' hl' => hk.same rfl (x_put1 hat rfl hl'))
theorem x_st_istore {k : Nat} (F : x_F A D cA sA M p s m args meth c) (hat : x_at A D cA sA ρ M s H locs ls L σ) (ho : xok M pc (.istore k) nx a b v) (h : xnext M (.istore k) nx a b v L st σ = some (.inl g)) (hk : x_K A D cA sA ρ M p l e R s m args below meth c cells slots Q σ g) : W p l e R s m args below meth c H locs cells slots Q (F0 m pc ls (st.map (x_v ρ))) := by
  obtain ⟨hd, rfl, rfl⟩ := ho
  obtain ⟨w, r, rfl, ht, hlt, rfl⟩ := x_pst h
  obtain ⟨x, rfl⟩ := x_s0 ht
  rw [x_len hat] at hlt
  exact lv_istore F.1 F.2.1 hd hat.2.2.2.1.2 hlt rfl (fun ls' hl' => hk.same rfl (x_put1 hat rfl hl'))
theorem x_st_lstore_n {k : Fin 4} (F : x_F A D cA sA M p s m args meth c) (hat : x_at A D cA sA ρ M s H locs ls L σ) (ho : xok M pc (.lstore_n k) nx a b v) (h : xnext M (.lstore_n k) nx a b v L st σ = some (.inl g)) (hk : x_K A D cA sA ρ M p l e R s m args below meth c cells slots Q σ g) : W p l e R s m args below meth c H locs cells slots Q (F0 m pc ls (st.map (x_v ρ))) := by
  obtain ⟨⟨hd, rfl⟩, rfl⟩ := ho
  obtain ⟨w, r, rfl, ht, hlt, rfl⟩ := x_pst h
  obtain ⟨x, rfl⟩ := x_s1 ht
  rw [x_len hat] at hlt
  exact lv_lstore_n F.1 F.2.1 hd rfl hat.2.2.2.1.2 hlt rfl (fun ls' hl' => hk.same rfl (x_put2 hat rfl hl'))
theorem x_st_lstore {k : Nat} (F : x_F A D cA sA M p s m args meth c) (hat : x_at A D cA sA ρ M s H locs ls L σ) (ho : xok M pc (.lstore k) nx a b v) (h : xnext M (.lstore k) nx a b v L st σ = some (.inl g)) (hk : x_K A D cA sA ρ M p l e R s m args below meth c cells slots Q σ g) : W p l e R s m args below meth c H locs cells slots Q (F0 m pc ls (st.map (x_v ρ))) := by
  obtain ⟨hd, rfl, rfl⟩ := ho
  obtain ⟨w, r, rfl, ht, hlt, rfl⟩ := x_pst h
  obtain ⟨x, rfl⟩ := x_s1 ht
  rw [x_len hat] at hlt
  exact lv_lstore F.1 F.2.1 hd hat.2.2.2.1.2 hlt rfl (fun ls' hl' => hk.same rfl (x_put2 hat rfl hl'))
theorem x_st_astore_n {k : Fin 4} (F : x_F A D cA sA M p s m args meth c) (hat : x_at A D cA sA ρ M s H locs ls L σ) (ho : xok M pc (.astore_n k) nx a b v) (h : xnext M (.astore_n k) nx a b v L st σ = some (.inl g)) (hk : x_K A D cA sA ρ M p l e R s m args below meth c cells slots Q σ g) : W p l e R s m args below meth c H locs cells slots Q (F0 m pc ls (st.map (x_v ρ))) := by
  obtain ⟨⟨hd, rfl⟩, rfl⟩ := ho
  obtain ⟨w, r, rfl, ht, hlt, rfl⟩ := x_pst h
  obtain ⟨x, rfl⟩ := x_s2 ht
  rw [x_len hat] at hlt
  exact lv_astore_n F.1 F.2.1 hd rfl hat.2.2.2.1.2 hlt rfl (fun ls' hl' => hk.same rfl (x_put1 hat rfl hl'))
theorem x_st_astore {k : Nat} (F : x_F A D cA sA M p s m args meth c) (hat : x_at A D cA sA ρ M s H locs ls L σ) (ho : xok M pc (.astore k) nx a b v) (h : xnext M (.astore k) nx a b v L st σ = some (.inl g)) (hk : x_K A D cA sA ρ M p l e R s m args below meth c cells slots Q σ g) : W p l e R s m args below meth c H locs cells slots Q (F0 m pc ls (st.map (x_v ρ))) := by
  obtain ⟨hd, rfl, rfl⟩ := ho
  obtain ⟨w, r, rfl, ht, hlt, rfl⟩ := x_pst h
  obtain ⟨x, rfl⟩ := x_s2 ht
  rw [x_len hat] at hlt
  exact lv_astore F.1 F.2.1 hd hat.2.2.2.1.2 hlt rfl (fun ls' hl' => hk.same rfl (x_put1 hat rfl hl'))
theorem x_st_iinc {k : Nat} {n : Int} (F : x_F A D cA sA M p s m args meth c) (hat : x_at A D cA sA ρ M s H locs ls L σ) (ho : xok M pc (.iinc k n) nx a b v) (h : xnext M (.iinc k n) nx a b v L st σ = some (.inl g)) (hk : x_K A D cA sA ρ M p l e R s m args below meth c cells slots Q σ g) : W p l e R s m args below meth c H locs cells slots Q (F0 m pc ls (st.map (x_v ρ))) := by
  obtain ⟨hd, rfl, rfl, rfl⟩ := ho
  simp only [xnext] at h
  split at h
  · rename_i x k9 hx hk9
    cases hk9
    cases h
    have hlt : a < (xm M).2.2.1 := by rw [← x_len hat]; exact (List.getElem?_eq_some_iff.mp hx).1
    have hm : (a, Value.int x) ∈ xpr 0 (L.map (x_v ρ)) := (xpr_iff _ _ _ _).mpr ⟨Nat.zero_le _, by rw [Nat.sub_zero, List.getElem?_map, hx]; rfl, fun q => by cases q⟩
    obtain ⟨k8, hk8⟩ := List.getElem?_of_mem hm
    exact lv_iinc F.1 F.2.1 hd hat.2.2.2.1.2 hk8 rfl hlt rfl (fun ls' hl' => hk.same rfl (x_put1 hat rfl hl'))
  · cases h
theorem x_st_iadd  (F : x_F A D cA sA M p s m args meth c) (hat : x_at A D cA sA ρ M s H locs ls L σ) (ho : xok M pc (.iadd) nx a b v) (h : xnext M (.iadd) nx a b v L st σ = some (.inl g)) (hk : x_K A D cA sA ρ M p l e R s m args below meth c cells slots Q σ g) : W p l e R s m args below meth c H locs cells slots Q (F0 m pc ls (st.map (x_v ρ))) := by
  obtain ⟨hd, rfl⟩ := ho
  obtain ⟨x, y, r, rfl, h9⟩ := x2i_some h
  cases h9
  exact lv_iadd F.1 F.2.1 hd (hk.same rfl hat)
theorem x_st_isub  (F : x_F A D cA sA M p s m args meth c) (hat : x_at A D cA sA ρ M s H locs ls L σ) (ho : xok M pc (.isub) nx a b v) (h : xnext M (.isub) nx a b v L st σ = some (.inl g)) (hk : x_K A D cA sA ρ M p l e R s m args below meth c cells slots Q σ g) : W p l e R s m args below meth c H locs cells slots Q (F0 m pc ls (st.map (x_v ρ))) := by
  obtain ⟨hd, rfl⟩ := ho
  obtain ⟨x, y, r, rfl, h9⟩ := x2i_some h
  cases h9
  exact lv_isub F.1 F.2.1 hd (hk.same rfl hat)
theorem x_st_imul  (F : x_F A D cA sA M p s m args meth c) (hat : x_at A D cA sA ρ M s H locs ls L σ) (ho : xok M pc (.imul) nx a b v) (h : xnext M (.imul) nx a b v L st σ = some (.inl g)) (hk : x_K A D cA sA ρ M p l e R s m args below meth c cells slots Q σ g) : W p l e R s m args below meth c H locs cells slots Q (F0 m pc ls (st.map (x_v ρ))) := by
  obtain ⟨hd, rfl⟩ := ho
  obtain ⟨x, y, r, rfl, h9⟩ := x2i_some h
  cases h9
  exact lv_imul F.1 F.2.1 hd (hk.same rfl hat)
theorem x_st_iand  (F : x_F A D cA sA M p s m args meth c) (hat : x_at A D cA sA ρ M s H locs ls L σ) (ho : xok M pc (.iand) nx a b v) (h : xnext M (.iand) nx a b v L st σ = some (.inl g)) (hk : x_K A D cA sA ρ M p l e R s m args below meth c cells slots Q σ g) : W p l e R s m args below meth c H locs cells slots Q (F0 m pc ls (st.map (x_v ρ))) := by
  obtain ⟨hd, rfl⟩ := ho
  obtain ⟨x, y, r, rfl, h9⟩ := x2i_some h
  cases h9
  exact lv_iand F.1 F.2.1 hd (hk.same rfl hat)
theorem x_st_ior  (F : x_F A D cA sA M p s m args meth c) (hat : x_at A D cA sA ρ M s H locs ls L σ) (ho : xok M pc (.ior) nx a b v) (h : xnext M (.ior) nx a b v L st σ = some (.inl g)) (hk : x_K A D cA sA ρ M p l e R s m args below meth c cells slots Q σ g) : W p l e R s m args below meth c H locs cells slots Q (F0 m pc ls (st.map (x_v ρ))) := by
  obtain ⟨hd, rfl⟩ := ho
  obtain ⟨x, y, r, rfl, h9⟩ := x2i_some h
  cases h9
  exact lv_ior F.1 F.2.1 hd (hk.same rfl hat)
theorem x_st_ishl  (F : x_F A D cA sA M p s m args meth c) (hat : x_at A D cA sA ρ M s H locs ls L σ) (ho : xok M pc (.ishl) nx a b v) (h : xnext M (.ishl) nx a b v L st σ = some (.inl g)) (hk : x_K A D cA sA ρ M p l e R s m args below meth c cells slots Q σ g) : W p l e R s m args below meth c H locs cells slots Q (F0 m pc ls (st.map (x_v ρ))) := by
  obtain ⟨hd, rfl⟩ := ho
  obtain ⟨x, y, r, rfl, h9⟩ := x2i_some h
  cases h9
  exact lv_ishl F.1 F.2.1 hd (hk.same rfl hat)
theorem x_st_ishr  (F : x_F A D cA sA M p s m args meth c) (hat : x_at A D cA sA ρ M s H locs ls L σ) (ho : xok M pc (.ishr) nx a b v) (h : xnext M (.ishr) nx a b v L st σ = some (.inl g)) (hk : x_K A D cA sA ρ M p l e R s m args below meth c cells slots Q σ g) : W p l e R s m args below meth c H locs cells slots Q (F0 m pc ls (st.map (x_v ρ))) := by
  obtain ⟨hd, rfl⟩ := ho
  obtain ⟨x, y, r, rfl, h9⟩ := x2i_some h
  cases h9
  exact lv_ishr F.1 F.2.1 hd (hk.same rfl hat)
theorem x_st_iushr  (F : x_F A D cA sA M p s m args meth c) (hat : x_at A D cA sA ρ M s H locs ls L σ) (ho : xok M pc (.iushr) nx a b v) (h : xnext M (.iushr) nx a b v L st σ = some (.inl g)) (hk : x_K A D cA sA ρ M p l e R s m args below meth c cells slots Q σ g) : W p l e R s m args below meth c H locs cells slots Q (F0 m pc ls (st.map (x_v ρ))) := by
  obtain ⟨hd, rfl⟩ := ho
  obtain ⟨x, y, r, rfl, h9⟩ := x2i_some h
  cases h9
  exact lv_iushr F.1 F.2.1 hd rfl (hk.same rfl hat)
theorem x_st_idiv  (F : x_F A D cA sA M p s m args meth c) (hat : x_at A D cA sA ρ M s H locs ls L σ) (ho : xok M pc (.idiv) nx a b v) (h : xnext M (.idiv) nx a b v L st σ = some (.inl g)) (hk : x_K A D cA sA ρ M p l e R s m args below meth c cells slots Q σ g) : W p l e R s m args below meth c H locs cells slots Q (F0 m pc ls (st.map (x_v ρ))) := by
  obtain ⟨hd, rfl⟩ := ho
  obtain ⟨x, y, r, rfl, h9⟩ := x2i_some h
  split at h9
  · cases h9
  · rename_i hy
    cases h9
    exact lv_idiv F.1 F.2.1 hd hy (hk.same rfl hat)
theorem x_st_irem  (F : x_F A D cA sA M p s m args meth c) (hat : x_at A D cA sA ρ M s H locs ls L σ) (ho : xok M pc (.irem) nx a b v) (h : xnext M (.irem) nx a b v L st σ = some (.inl g)) (hk : x_K A D cA sA ρ M p l e R s m args below meth c cells slots Q σ g) : W p l e R s m args below meth c H locs cells slots Q (F0 m pc ls (st.map (x_v ρ))) := by
  obtain ⟨hd, rfl⟩ := ho
  obtain ⟨x, y, r, rfl, h9⟩ := x2i_some h
  split at h9
  · cases h9
  · rename_i hy
    cases h9
    exact lv_irem F.1 F.2.1 hd hy (hk.same rfl hat)
theorem x_st_ineg  (F : x_F A D cA sA M p s m args meth c) (hat : x_at A D cA sA ρ M s H locs ls L σ) (ho : xok M pc (.ineg) nx a b v) (h : xnext M (.ineg) nx a b v L st σ = some (.inl g)) (hk : x_K A D cA sA ρ M p l e R s m args below meth c cells slots Q σ g) : W p l e R s m args below meth c H locs cells slots Q (F0 m pc ls (st.map (x_v ρ))) := by
  obtain ⟨hd, rfl⟩ := ho
  obtain ⟨x, r, rfl, h9⟩ := x1i_some h
  cases h9
  exact lv_ineg F.1 F.2.1 hd (hk.same rfl hat)
theorem x_st_i2l  (F : x_F A D cA sA M p s m args meth c) (hat : x_at A D cA sA ρ M s H locs ls L σ) (ho : xok M pc (.i2l) nx a b v) (h : xnext M (.i2l) nx a b v L st σ = some (.inl g)) (hk : x_K A D cA sA ρ M p l e R s m args below meth c cells slots Q σ g) : W p l e R s m args below meth c H locs cells slots Q (F0 m pc ls (st.map (x_v ρ))) := by
  obtain ⟨hd, rfl⟩ := ho
  obtain ⟨x, r, rfl, h9⟩ := x1i_some h
  cases h9
  exact lv_i2l F.1 F.2.1 hd rfl (hk.same rfl hat)
theorem x_st_i2b  (F : x_F A D cA sA M p s m args meth c) (hat : x_at A D cA sA ρ M s H locs ls L σ) (ho : xok M pc (.i2b) nx a b v) (h : xnext M (.i2b) nx a b v L st σ = some (.inl g)) (hk : x_K A D cA sA ρ M p l e R s m args below meth c cells slots Q σ g) : W p l e R s m args below meth c H locs cells slots Q (F0 m pc ls (st.map (x_v ρ))) := by
  obtain ⟨hd, rfl⟩ := ho
  obtain ⟨x, r, rfl, h9⟩ := x1i_some h
  cases h9
  exact lv_i2b F.1 F.2.1 hd rfl (hk.same rfl hat)
theorem x_st_i2c  (F : x_F A D cA sA M p s m args meth c) (hat : x_at A D cA sA ρ M s H locs ls L σ) (ho : xok M pc (.i2c) nx a b v) (h : xnext M (.i2c) nx a b v L st σ = some (.inl g)) (hk : x_K A D cA sA ρ M p l e R s m args below meth c cells slots Q σ g) : W p l e R s m args below meth c H locs cells slots Q (F0 m pc ls (st.map (x_v ρ))) := by
  obtain ⟨hd, rfl⟩ := ho
  obtain ⟨x, r, rfl, h9⟩ := x1i_some h
  cases h9
  exact lv_i2c F.1 F.2.1 hd rfl (hk.same rfl hat)
theorem x_st_i2d  (F : x_F A D cA sA M p s m args meth c) (hat : x_at A D cA sA ρ M s H locs ls L σ) (ho : xok M pc (.i2d) nx a b v) (h : xnext M (.i2d) nx a b v L st σ = some (.inl g)) (hk : x_K A D cA sA ρ M p l e R s m args below meth c cells slots Q σ g) : W p l e R s m args below meth c H locs cells slots Q (F0 m pc ls (st.map (x_v ρ))) := by
  obtain ⟨hd, rfl⟩ := ho
  obtain ⟨x, r, rfl, h9⟩ := x1i_some h
  cases h9
  exact lv_i2d F.1 F.2.1 hd (hk.same rfl hat)
theorem x_st_ladd  (F : x_F A D cA sA M p s m args meth c) (hat : x_at A D cA sA ρ M s H locs ls L σ) (ho : xok M pc (.ladd) nx a b v) (h : xnext M (.ladd) nx a b v L st σ = some (.inl g)) (hk : x_K A D cA sA ρ M p l e R s m args below meth c cells slots Q σ g) : W p l e R s m args below meth c H locs cells slots Q (F0 m pc ls (st.map (x_v ρ))) := by
  obtain ⟨hd, rfl⟩ := ho
  obtain ⟨x, y, r, rfl, h9⟩ := x2l_some h
  cases h9
  exact lv_ladd F.1 F.2.1 hd (hk.same rfl hat)
theorem x_st_lmul  (F : x_F A D cA sA M p s m args meth c) (hat : x_at A D cA sA ρ M s H locs ls L σ) (ho : xok M pc (.lmul) nx a b v) (h : xnext M (.lmul) nx a b v L st σ = some (.inl g)) (hk : x_K A D cA sA ρ M p l e R s m args below meth c cells slots Q σ g) : W p l e R s m args below meth c H locs cells slots Q (F0 m pc ls (st.map (x_v ρ))) := by
  obtain ⟨hd, rfl⟩ := ho
  obtain ⟨x, y, r, rfl, h9⟩ := x2l_some h
  cases h9
  exact lv_lmul F.1 F.2.1 hd (hk.same rfl hat)
theorem x_st_lcmp  (F : x_F A D cA sA M p s m args meth c) (hat : x_at A D cA sA ρ M s H locs ls L σ) (ho : xok M pc (.lcmp) nx a b v) (h : xnext M (.lcmp) nx a b v L st σ = some (.inl g)) (hk : x_K A D cA sA ρ M p l e R s m args below meth c cells slots Q σ g) : W p l e R s m args below meth c H locs cells slots Q (F0 m pc ls (st.map (x_v ρ))) := by
  obtain ⟨hd, rfl⟩ := ho
  obtain ⟨x, y, r, rfl, h9⟩ := x2l_some h
  cases h9
  exact W.lcmp F.1 F.2.1 hd (hk.same rfl hat)
theorem x_st_ddiv  (F : x_F A D cA sA M p s m args meth c) (hat : x_at A D cA sA ρ M s H locs ls L σ) (ho : xok M pc (.ddiv) nx a b v) (h : xnext M (.ddiv) nx a b v L st σ = some (.inl g)) (hk : x_K A D cA sA ρ M p l e R s m args below meth c cells slots Q σ g) : W p l e R s m args below meth c H locs cells slots Q (F0 m pc ls (st.map (x_v ρ))) := by
  obtain ⟨hd, rfl⟩ := ho
  obtain ⟨x, y, r, rfl, h9⟩ := x2d_some h
  split at h9
  · rename_i hn
    cases h9
    exact lv_ddiv F.1 F.2.1 hd hn (hk.same rfl hat)
  · cases h9
theorem x_st_dcmp {op : ClassFile.CmpOp} (F : x_F A D cA sA M p s m args meth c) (hat : x_at A D cA sA ρ M s H locs ls L σ) (ho : xok M pc (.dcmp op) nx a b v) (h : xnext M (.dcmp op) nx a b v L st σ = some (.inl g)) (hk : x_K A D cA sA ρ M p l e R s m args below meth c cells slots Q σ g) : W p l e R s m args below meth c H locs cells slots Q (F0 m pc ls (st.map (x_v ρ))) := by
  obtain ⟨hd, rfl⟩ := ho
  obtain ⟨x, y, r, rfl, h9⟩ := x2d_some h
  cases h9
  exact lv_dcmp F.1 F.2.1 hd (hk.same rfl hat)
theorem x_st_dup  (F : x_F A D cA sA M p s m args meth c) (hat : x_at A D cA sA ρ M s H locs ls L σ) (ho : xok M pc (.dup) nx a b v) (h : xnext M (.dup) nx a b v L st σ = some (.inl g)) (hk : x_K A D cA sA ρ M p l e R s m args below meth c cells slots Q σ g) : W p l e R s m args below meth c H locs cells slots Q (F0 m pc ls (st.map (x_v ρ))) := by
  obtain ⟨hd, rfl⟩ := ho
  simp only [xnext] at h
  split at h
  · split at h
    · rename_i hc
      cases h
      exact lv_dup F.1 F.2.1 hd (by rw [x_v_cat]; exact hc) (hk.same rfl hat)
    · cases h
  · cases h
theorem x_st_pop  (F : x_F A D cA sA M p s m args meth c) (hat : x_at A D cA sA ρ M s H locs ls L σ) (ho : xok M pc (.pop) nx a b v) (h : xnext M (.pop) nx a b v L st σ = some (.inl g)) (hk : x_K A D cA sA ρ M p l e R s m args below meth c cells slots Q σ g) : W p l e R s m args below meth c H locs cells slots Q (F0 m pc ls (st.map (x_v ρ))) := by
  obtain ⟨hd, rfl⟩ := ho
  simp only [xnext] at h
  split at h
  · split at h
    · rename_i hc
      cases h
      exact lv_pop F.1 F.2.1 hd (by rw [x_v_cat]; exact hc) (hk.same rfl hat)
    · cases h
  · cases h
theorem x_st_dup_x1  (F : x_F A D cA sA M p s m args meth c) (hat : x_at A D cA sA ρ M s H locs ls L σ) (ho : xok M pc (.dup_x1) nx a b v) (h : xnext M (.dup_x1) nx a b v L st σ = some (.inl g)) (hk : x_K A D cA sA ρ M p l e R s m args below meth c cells slots Q σ g) : W p l e R s m args below meth c H locs cells slots Q (F0 m pc ls (st.map (x_v ρ))) := by
  obtain ⟨hd, rfl⟩ := ho
  simp only [xnext] at h
  split at h
  · split at h
    · rename_i hc
      cases h
      exact lv_dup_x1 F.1 F.2.1 hd (by rw [x_v_cat]; exact hc.1) (by rw [x_v_cat]; exact hc.2) (hk.same rfl hat)
    · cases h
  · cases h
theorem x_st_dup2  (F : x_F A D cA sA M p s m args meth c) (hat : x_at A D cA sA ρ M s H locs ls L σ) (ho : xok M pc (.dup2) nx a b v) (h : xnext M (.dup2) nx a b v L st σ = some (.inl g)) (hk : x_K A D cA sA ρ M p l e R s m args below meth c cells slots Q σ g) : W p l e R s m args below meth c H locs cells slots Q (F0 m pc ls (st.map (x_v ρ))) := by
  obtain ⟨hd, rfl⟩ := ho
  simp only [xnext] at h
  split at h
  · split at h
    · rename_i hc
      cases h
      exact lv_dup2_11 F.1 F.2.1 hd (by rw [x_v_cat]; exact hc.1) (by rw [x_v_cat]; exact hc.2) (hk.same rfl hat)
    · cases h
  · cases h
theorem x_st_ifCond {cd : ClassFile.Cond} {off : Int} (F : x_F A D cA sA M p s m args meth c) (hat : x_at A D cA sA ρ M s H locs ls L σ) (ho : xok M pc (.ifCond cd off) nx a b v) (h : xnext M (.ifCond cd off) nx a b v L st σ = some (.inl g)) (hk : x_K A D cA sA ρ M p l e R s m args below meth c cells slots Q σ g) : W p l e R s m args below meth c H locs cells slots Q (F0 m pc ls (st.map (x_v ρ))) := by
  obtain ⟨hd, rfl, ht⟩ := ho
  obtain ⟨x, r, rfl, h9⟩ := x1i_some h
  rcases x_if h9 with ⟨hc, h9⟩ | ⟨hc, h9⟩
  · cases h9
    exact x_ifW F.1 F.2.1 hd ht (fun _ => hk.same rfl hat) (fun q => by rw [hc] at q; cases q)
  · cases h9
    exact x_ifW F.1 F.2.1 hd ht (fun q => by rw [hc] at q; cases q) (fun _ => hk.same rfl hat)
theorem x_st_if_icmp {cd : ClassFile.Cond} {off : Int} (F : x_F A D cA sA M p s m args meth c) (hat : x_at A D cA sA ρ M s H locs ls L σ) (ho : xok M pc (.if_icmp cd off) nx a b v) (h : xnext M (.if_icmp cd off) nx a b v L st σ = some (.inl g)) (hk : x_K A D cA sA ρ M p l e R s m args below meth c cells slots Q σ g) : W p l e R s m args below meth c H locs cells slots Q (F0 m pc ls (st.map (x_v ρ))) := by
  obtain ⟨hd, rfl, ht⟩ := ho
  obtain ⟨x, y, r, rfl, h9⟩ := x2i_some h
  rcases x_if h9 with ⟨hc, h9⟩ | ⟨hc, h9⟩
  · cases h9
    exact x_icmpW F.1 F.2.1 hd ht (fun _ => hk.same rfl hat) (fun q => by rw [hc] at q; cases q)
  · cases h9
    exact x_icmpW F.1 F.2.1 hd ht (fun q => by rw [hc] at q; cases q) (fun _ => hk.same rfl hat)
theorem x_st_goto {off : Int} (F : x_F A D cA sA M p s m args meth c) (hat : x_at A D cA sA ρ M s H locs ls L σ) (ho : xok M pc (.goto off) nx a b v) (h : xnext M (.goto off) nx a b v L st σ = some (.inl g)) (hk : x_K A D cA sA ρ M p l e R s m args below meth c cells slots Q σ g) : W p l e R s m args below meth c H locs cells slots Q (F0 m pc ls (st.map (x_v ρ))) := by
  obtain ⟨hd, ht⟩ := ho
  cases h
  exact lv_goto F.1 F.2.1 hd ht (hk.same rfl hat)
theorem x_st_ifnonnull {off : Int} (F : x_F A D cA sA M p s m args meth c) (hat : x_at A D cA sA ρ M s H locs ls L σ) (ho : xok M pc (.ifnonnull off) nx a b v) (h : xnext M (.ifnonnull off) nx a b v L st σ = some (.inl g)) (hk : x_K A D cA sA ρ M p l e R s m args below meth c cells slots Q σ g) : W p l e R s m args below meth c H locs cells slots Q (F0 m pc ls (st.map (x_v ρ))) := by
  obtain ⟨hd, ht⟩ := ho
  simp only [xnext] at h
  split at h
  · cases h
    exact lv_ifnonnull F.1 F.2.1 hd ht (hk.same rfl hat)
  · cases h
theorem x_lookup {α : Type} : ∀ (l : List (Int32 × α)) (x : Int32) (t : α), l.lookup x = some t → (x, t) ∈ l
  | [], x, t, h => by cases h
  | (y, u) :: l, x, t, h => by
    rw [List.lookup_cons] at h
    split at h
    · rename_i q
      have e : x = y := by simpa using q
      cases h
      rw [e]; exact List.mem_cons_self
    · exact List.mem_cons_of_mem _ (x_lookup l x t h)
theorem x_lookupN {α : Type} : ∀ (l : List (Int32 × α)) (x : Int32), l.lookup x = none → ∀ q ∈ l, q.1 ≠ x
  | [], x, _, q, hq => by cases hq
  | (y, u) :: l, x, h, q, hq => by
    rw [List.lookup_cons] at h
    split at h
    · cases h
    · rename_i hxy
      rcases List.mem_cons.mp hq with rfl | hq
      · rintro rfl
        simp at hxy
      · exact x_lookupN l x h q hq
theorem x_off (pc : Nat) (d : Int) (x : Int32) : ∀ (ps : List (Int × Int)) (l : List (Int32 × Nat)), ps.map (fun q => (q.1, (pc : Int) + q.2)) = l.map (fun q => (q.1.toInt, (q.2 : Int))) →
    (∀ t, l.lookup x = some t → (pc : Int) + Op.lookupswitch.offset ps d x.toInt = (t : Int)) ∧ (l.lookup x = none → Op.lookupswitch.offset ps d x.toInt = d)
  | [], [], _ => ⟨fun t h => (nomatch h), fun _ => rfl⟩
  | [], _ :: _, h => by cases h
  | _ :: _, [], h => by cases h
  | (k, o) :: ps, (y, u) :: l, h => by
    simp only [List.map_cons, List.cons.injEq, Prod.mk.injEq] at h
    obtain ⟨⟨h1, h2⟩, h3⟩ := h
    have ih := x_off pc d x ps l h3
    by_cases hxy : x = y
    · subst hxy
      refine ⟨fun t ht => ?_, fun hn => ?_⟩
      · simp [List.lookup_cons] at ht
        simp [Op.lookupswitch.offset, h1, h2, ht]
      · simp [List.lookup_cons] at hn
    · have h4 : ¬ k = x.toInt := fun q => hxy (Int32.toInt_inj.mp (by rw [← q, h1]))
      have h5 : ((y, u) :: l).lookup x = l.lookup x := by
        rw [List.lookup_cons]
        have : (x == y) = false := by simpa using hxy
        rw [this]
      have h6 : Op.lookupswitch.offset ((k, o) :: ps) d x.toInt = Op.lookupswitch.offset ps d x.toInt := by
        simp [Op.lookupswitch.offset, h4]
      rw [h5, h6]
      exact ih
theorem x_st_tableswitch {d lo hi : Int} {offs : Array Int} (F : x_F A D cA sA M p s m args meth c) (hat : x_at A D cA sA ρ M s H locs ls L σ) (ho : xok M pc (.tableswitch d lo hi offs) nx a b v) (h : xnext M (.tableswitch d lo hi offs) nx a b v L st σ = some (.inl g)) (hk : x_K A D cA sA ρ M p l e R s m args below meth c cells slots Q σ g) : W p l e R s m args below meth c H locs cells slots Q (F0 m pc ls (st.map (x_v ρ))) := by
  obtain ⟨⟨len, hd⟩, hb, hall⟩ := ho
  obtain ⟨x, r, rfl, h9⟩ := x1i_some h
  split at h9
  · rename_i t hl
    cases h9
    obtain ⟨h1, h2, off, h3, h4⟩ := hall _ (x_lookup _ _ _ hl)
    exact lv_tableIn F.1 F.2.1 hd h1 h2 h3 h4 (hk.same rfl hat)
  · split at h9
    · rename_i hq
      cases h9
      exact lv_tableOut F.1 F.2.1 hd hq hb (hk.same rfl hat)
    · cases h9
theorem x_st_lookupswitch {d : Int} {ps : Array (Int × Int)} (F : x_F A D cA sA M p s m args meth c) (hat : x_at A D cA sA ρ M s H locs ls L σ) (ho : xok M pc (.lookupswitch d ps) nx a b v) (h : xnext M (.lookupswitch d ps) nx a b v L st σ = some (.inl g)) (hk : x_K A D cA sA ρ M p l e R s m args below meth c cells slots Q σ g) : W p l e R s m args below meth c H locs cells slots Q (F0 m pc ls (st.map (x_v ρ))) := by
  obtain ⟨⟨len, hd⟩, hb, hz, hm⟩ := ho
  obtain ⟨x, r, rfl, h9⟩ := x1i_some h
  have hx := x_off pc d x _ _ hm
  split at h9
  · rename_i t hl
    cases h9
    exact lv_lookup F.1 F.2.1 hd hz rfl (hx.1 t hl) (hk.same rfl hat)
  · rename_i hl
    cases h9
    exact lv_lookup F.1 F.2.1 hd hz (hx.2 hl) hb (hk.same rfl hat)
end STEP2
