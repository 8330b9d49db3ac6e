/-! WHAT STANDS BEHIND A CALL: the value returned, or what was thrown. -/
section BACK
variable {p : Program} {l : Launch} {e : Env} {R : Room} {s : State} {m : MethodId} {args : Array Value} {below : List Frame} {meth : Method} {c : Code} {H : Heap} {locs : List Loc} {cells slots : Nat} {Q : State → Prop}
variable {A : Nat → Prop} {D : va_G} {cA : Nat → ClassId} {sA ρ : Nat → Nat} {M : Nat} {ls : Array Slot} {L st : List Value} {σ : xS} {pc nx a b : Nat} {v : Value}
theorem x_back (hat : x_at A D cA sA ρ M s H locs ls L σ) (hL : xlok σ.1.length L) {q : xR} {mc ms : Nat} {st0 rest : List Value} {av : Array Value} (hr : vx_Run p l e R s m args below meth c H locs cells slots mc ms (F0 m pc ls st0) rest (x_Q A D cA sA ρ σ q av) (x_XC A D cA sA ρ σ q) A)
    (kk : ∀ (w : Option Value) (ρ' : Nat → Nat) (H1 : Heap) (locs1 : List Loc), q.1 = .inl w → x_ag σ.1.length ρ ρ' → x_at A D cA sA ρ' M s H1 locs1 ls L q.2 → W p l e R s m args below meth c H1 locs1 (cells + mc) (slots + ms) Q (F0 m (pc + 3) ls ((w.map (x_v ρ')).toList ++ rest)))
    (kx : ∀ (E : String) (ρ' : Nat → Nat) (H1 : Heap) (locs1 : List Loc) (ce : Cell) (q9 : Addr), q.1 = .inr E → x_ag σ.1.length ρ ρ' → x_at A D cA sA ρ' M s H1 locs1 ls L q.2 → H1[q9]? = some ce → ce.vm = .none → s.vm.findClass E = some ce.cls → vx_W p l e R s m args below meth c H1 locs1 (cells + mc) (slots + ms) Q (F0 m pc ls rest) q9) :
    W p l e R s m args below meth c H locs cells slots Q (F0 m pc ls st0) := by
  have key : ∀ (ρ' : Nat → Nat) (t T' : State) (L1 : List Loc), x_ag σ.1.length ρ ρ' → x_wd A D cA sA ρ' q.2 t.heap → T'.heap = t.heap → va_S A s.heap T'.heap (locs ++ L1) → x_at A D cA sA ρ' M s T'.heap (locs ++ L1) ls L q.2 := by
    intro ρ' t T' L1 hag hwd e1 hS
    refine ⟨by rw [e1]; exact hwd.1, hwd.2.1, hS, ?_, hwd.2.2⟩
    rw [x_l_ag hag hL]
    exact hat.2.2.2.1
  intro T hT X
  rcases hr T hT X with ⟨v, st₀, t, T', L1, h0, X', hL1, e1, e2, ⟨⟨w, ρ', ho, hw, hag, hwd⟩, hF⟩, st⟩ | ⟨q9, st₀, t, T', L1, E, ce, h0, X', hL1, e1, e2, ⟨⟨ρ', hE, hag, hwd⟩, hF⟩, hce, hcv, hcl, st⟩
  · cases ho
    obtain ⟨k1, k2, k3⟩ := vx_keep h0 e1 hat.2.2.1 (fun _ _ h => h) (fun _ h => h) hL1 hF
    obtain ⟨t2, a1, b1⟩ := kk w ρ' T'.heap (locs ++ L1) hw hag (key ρ' t T' L1 hag hwd e1 k3) T' rfl X'
    exact ⟨t2, st t2 a1, b1⟩
  · obtain ⟨k1, k2, k3⟩ := vx_keep h0 e1 hat.2.2.1 (fun _ _ h => h) (fun _ h => h) hL1 hF
    obtain ⟨t2, a1, b1⟩ := kx E ρ' T'.heap (locs ++ L1) ce q9 hE hag (key ρ' t T' L1 hag hwd e1 k3) (by rw [e1]; exact hce) hcv hcl T' rfl X'
    exact ⟨t2, st.trans a1, b1⟩
theorem x_L.of0 {ls' : Array Slot} {nL i : Nat} {w : Value} {M : List Value} (hM : M.length = nL) (h : lv_has ls' nL ((i, w) :: (xpr 0 M).filter (fun q => !(q.1 == i) && !(q.1 + 1 == i && q.2.category == 2)))) : x_L ls' nL (xput M i xno) := by
  refine ⟨(xput_len xno M i).trans hM, h.1, h.2.1, fun q hq => ?_⟩
  obtain ⟨j, w'⟩ := q
  obtain ⟨-, h1, h2⟩ := (xpr_iff _ _ _ _).mp hq
  rcases xput_get xno M i j w' h1 h2 with ⟨rfl, rfl⟩ | ⟨k1, k2, k3, -⟩
  · exact absurd rfl h2
  · refine h.2.2 _ (List.mem_cons_of_mem _ (List.mem_filter.mpr ⟨(xpr_iff _ _ _ _).mpr ⟨Nat.zero_le _, k1, h2⟩, ?_⟩))
    simp only [Bool.and_eq_true, Bool.not_eq_true', beq_eq_false_iff_ne, ne_eq, Bool.and_eq_false_imp, beq_iff_eq]
    exact ⟨k2, fun q1 => fun q2 => k3 ⟨q1, q2⟩⟩
/-- what the tables say of a handler -/
def xent (z : Nat × Nat × Nat × Nat) : ExceptionTableEntry := ⟨z.1, z.2.1, z.2.2.1, z.2.2.2⟩
def xh_at (m pc : Nat) (E : String) (nx k : Nat) : Prop := ∃ (pre : List (Nat × Nat × Nat × Nat)) (x : Nat × Nat × Nat × Nat) (suf : List (Nat × Nat × Nat × Nat)) (nm : String), (xm m).2.2.2.2 = pre ++ x :: suf ∧
  (∀ z ∈ pre, covers (xent z) pc = false ∨ (z.2.2.2 ≠ 0 ∧ ∃ nm9, Cond.classLink (xm m).1.cls z.2.2.2 nm9 ∈ xWA ∧ (E, nm9) ∈ xncs)) ∧ covers (xent x) pc = true ∧ x.2.2.2 ≠ 0 ∧ Cond.classLink (xm m).1.cls x.2.2.2 nm ∈ xWA ∧ (E, nm) ∈ xcas ∧
  ((∃ kk, decode (xm m).2.1 x.2.2.1 = .ok (.astore_n kk, 1) ∧ k = (kk : Nat) ∧ nx = x.2.2.1 + 1) ∨ (decode (xm m).2.1 x.2.2.1 = .ok (.astore k, 2) ∧ nx = x.2.2.1 + 2))
def xh_ok : Prop := ∀ m pc E nx k, xh m pc E = some (nx, k) → xh_at m pc E nx k
/-- caught -/
theorem x_caught (F : x_F A D cA sA M p s m args meth c) (hat : x_at A D cA sA ρ M s H locs ls L σ) {E : String} {k : Nat} {ce : Cell} {q9 : Addr} {rest : List Value} (hx : xh_at M pc E nx k) (hk : k < L.length) (hce : H[q9]? = some ce) (hcv : ce.vm = .none) (hcl : s.vm.findClass E = some ce.cls)
    (kk : ∀ ls' : Array Slot, x_at A D cA sA ρ M s H locs ls' (xput L k xno) σ → W p l e R s m args below meth c H locs cells slots Q (F0 m nx ls' [])) : vx_W p l e R s m args below meth c H locs cells slots Q (F0 m pc ls rest) q9 := by
  obtain ⟨pre, x, suf, nm, ht, hpass, hcov, h0, hlink, hcas, hst⟩ := hx
  have hWA := F.2.2.2.2.2.2.2.1
  have hCF := F.2.2.2.2.2.2.2.2.2.1
  have htab := F.2.2.2.2.2.2.2.2.2.2
  have hlen : L.length = (xm M).2.2.1 := x_len hat
  have hsplit : c.exceptionTable.toList = pre.map xent ++ xent x :: suf.map xent := by
    rw [htab, ht]
    show (pre ++ x :: suf).map xent = _
    rw [List.map_append, List.map_cons]
  refine vx_catch (name := nm) F.2.2.2.1 (pre.map xent) (xent x) (suf.map xent) hsplit (fun z hz => ?_) hcov h0 (hWA _ hlink) ((hCF.2.2.2.2.2.2.2.2.2.2.2.2.1 _ hcas).use rfl) hce hcv hcl ?_
  · obtain ⟨z', hz', rfl⟩ := List.mem_map.mp hz
    rcases hpass z' hz' with h | ⟨h1, nm9, h2, h3⟩
    · exact Or.inl h
    · exact Or.inr ⟨h1, nm9, hWA _ h2, hCF.2.2.2.2.2.2.2.2.2.2.2.2.2.2.1 _ h3⟩
  · have hM : (L.map (x_v ρ)).length = (xm M).2.2.1 := by rw [List.length_map]; exact hlen
    have fin : ∀ ls' : Array Slot, lv_has ls' (xm M).2.2.1 ((k, Value.ref q9) :: (xpr 0 (L.map (x_v ρ))).filter (fun q => !(q.1 == k) && !(q.1 + 1 == k && q.2.category == 2))) → W p l e R s m args below meth c H locs cells slots Q (F0 m nx ls' []) := by
      intro ls' h
      have h2 := x_L.of0 hM h
      refine kk ls' ⟨hat.1, hat.2.1, hat.2.2.1, ?_, hat.2.2.2.2⟩
      have e9 : xput (L.map (x_v ρ)) k xno = (xput L k xno).map (x_v ρ) := xput_map ρ xno L k
      rw [e9] at h2
      exact h2
    rcases hst with ⟨kn, hd, rfl, rfl⟩ | ⟨hd, rfl⟩
    · exact lv_astore_n F.1 F.2.1 hd rfl hat.2.2.2.1.2 (by omega) rfl fin
    · exact lv_astore F.1 F.2.1 hd hat.2.2.2.1.2 (by omega) rfl fin
end BACK
