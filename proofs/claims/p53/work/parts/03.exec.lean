/-! AN INTERPRETER OF THE BYTECODE, over numbered cells: pure, so that a method's answer is computed. What it says of the machine is proved once, in the parts behind. -/
/-- a cell: an object (its class's number, its fields), an array of ints, chars, bytes (its kind, what it holds), of longs, of references -/
abbrev xC : Type := (Nat × List Value) ⊕ ((Nat × List Int32) ⊕ ((Nat × List Int64) ⊕ (Nat × List (Option Nat))))
abbrev xH : Type := List xC
/-- the cells, how many cells and how many fields and places were made so far -/
abbrev xS : Type := xH × (Nat × Nat)
/-- what a method comes to: an answer, or an exception of a class -/
abbrev xR : Type := (Option Value ⊕ String) × xS
abbrev xGo : Type := Nat × (List Value × (List Value × xS))
abbrev xCa : Type := Nat × (List Value × (Nat × (List Value × (List Value × xS))))
abbrev xA : Type := xGo ⊕ (xCa ⊕ xR)
abbrev xno : Value := .retAddr 0
def xclr : List Value → List Value
  | [] => []
  | _ :: L => xno :: L
def xput : List Value → Nat → Value → List Value
  | [], _, _ => []
  | _ :: L, 0, v => v :: (if v.category = 2 then xclr L else L)
  | w :: L, 1, v => (if w.category = 2 then xno else w) :: xput L 0 v
  | w :: L, i + 2, v => w :: xput L (i + 1) v
/-- the locals at a method's entry: a long takes two places -/
def xargs : List Value → List Value
  | [] => []
  | v :: vs => v :: (if v.category = 2 then xno :: xargs vs else xargs vs)
def xentry (vs : List Value) (n : Nat) : List Value := xargs vs ++ List.replicate (n - (xargs vs).length) xno
def xcat : List Value → Nat
  | [] => 0
  | v :: vs => v.category + xcat vs
/-- numbers from here on are those of cells that the start holds -/
abbrev xB : Nat := 1000000
def xgo (nx : Nat) (L st : List Value) (s : xS) : Option xA := some (.inl (nx, L, st, s))
def x1i (st : List Value) (f : Int32 → List Value → Option xA) : Option xA := match st with
  | .int x :: r => f x r
  | _ => none
def x2i (st : List Value) (f : Int32 → Int32 → List Value → Option xA) : Option xA := match st with
  | .int y :: .int x :: r => f x y r
  | _ => none
def x2l (st : List Value) (f : Int64 → Int64 → List Value → Option xA) : Option xA := match st with
  | .long y :: .long x :: r => f x y r
  | _ => none
def x2d (st : List Value) (f : UInt64 → UInt64 → List Value → Option xA) : Option xA := match st with
  | .double y :: .double x :: r => f x y r
  | _ => none
/-- a load of the local i, which must be of the sort t (0 int, 1 long, 2 reference, 3 double) -/
def xsort : Value → Nat
  | .int _ => 0
  | .long _ => 1
  | .ref _ => 2
  | .double _ => 3
  | .null => 4
  | .float _ => 5
  | .retAddr _ => 6
def xload (t nx i : Nat) (L st : List Value) (s : xS) : Option xA := match L[i]? with
  | some v => if xsort v = t then xgo nx L (v :: st) s else none
  | none => none
def xstore (t nx i : Nat) (L st : List Value) (s : xS) : Option xA := match st with
  | v :: r => if xsort v = t ∧ i + (v.category - 1) < L.length then xgo nx (xput L i v) r s else none
  | _ => none
def xif (cd : ClassFile.Cond) (x y : Int32) (a b : Option xA) : Option xA := match cd with
  | .eq => if x = y then a else b
  | .ne => if x = y then b else a
  | .lt => if x < y then a else b
  | .ge => if x < y then b else a
  | .gt => if y < x then a else b
  | .le => if y < x then b else a
/-- a new array of a kind: 0 int, 1 char, 2 byte, 3 long, others references -/
def xzero (t n : Nat) : xC := if t < 3 then .inr (.inl (t, List.replicate n 0)) else if t = 3 then .inr (.inr (.inl (t, List.replicate n 0))) else .inr (.inr (.inr (t, List.replicate n none)))
def xlen : xC → Option Nat
  | .inl _ => none
  | .inr (.inl (_, l)) => some l.length
  | .inr (.inr (.inl (_, l))) => some l.length
  | .inr (.inr (.inr (_, l))) => some l.length
def xset (s : xS) (p : Nat) (c : xC) : xS := (s.1.set p c, s.2)
/-- a read of an array of ints, chars or bytes: one of the cells, or one that the start holds -/
def xald (t nx : Nat) (L st : List Value) (s : xS) : Option xA := match st with
  | .int i :: .ref p :: r => if i < 0 then none else match s.1[p]? with
    | some (.inr (.inl (t', l))) => if t' = t then (match l[i.toNatClampNeg]? with
      | some x => xgo nx L (.int x :: r) s
      | none => none) else none
    | some _ => none
    | none => (match xct p with
      | some (t', l) => if t' = t then (match l[i.toNatClampNeg]? with
        | some w => xgo nx L (w :: r) s
        | none => none) else none
      | none => none)
  | _ => none
def xnar (t : Nat) (x : Int32) : Int32 := if t = 1 then vp_nar .char x else if t = 2 then vp_nar .byte x else x
def xast (t nx : Nat) (L st : List Value) (s : xS) : Option xA := match st with
  | .int x :: .int i :: .ref p :: r => if i < 0 then none else match s.1[p]? with
    | some (.inr (.inl (t', l))) => if t' = t ∧ i.toNatClampNeg < l.length then xgo nx L r (xset s p (.inr (.inl (t, l.set i.toNatClampNeg (xnar t x))))) else none
    | _ => none
  | _ => none
/-- the class of the receiver: an object among the cells, or one that the start holds -/
def xrcv (k : Nat) (s : xS) : Value → Bool
  | .ref p => (match s.1[p]? with
    | some (.inl (c, _)) => c == k
    | some _ => false
    | none => xco p == some k)
  | _ => false
/-- what a receiver must be: 0 none asked, 1 of the method's class, 2 a reference -/
def xrq (vir a : Nat) (s : xS) (v : Value) : Bool := match vir with
  | 0 => true
  | 1 => xrcv (xmc a) s v
  | _ => (match v with
    | .ref _ => true
    | _ => false)
def xcall (vir : Nat) (nx a b : Nat) (L st : List Value) (s : xS) : Option xA :=
  if b ≤ st.length ∧ xcat (st.drop b) ≤ 8 ∧ xrq vir a s ((st.take b).reverse.headD .null) = true then some (.inr (.inl (a, (st.take b).reverse, nx, L, st.drop b, s))) else none
def xcopy (nx : Nat) (L st : List Value) (s : xS) : Option xA := match st with
  | .int n :: .int d :: .ref q :: .int b :: .ref p :: r => if n < 0 ∨ d < 0 ∨ b < 0 ∨ 8 < xcat r then none else match s.1[p]?, s.1[q]? with
    | some (.inr (.inl (t, f))), some (.inr (.inl (t', g))) => if t' = t ∧ b.toNatClampNeg + n.toNatClampNeg ≤ f.length ∧ d.toNatClampNeg + n.toNatClampNeg ≤ g.length then
        xgo nx L r (xset s q (.inr (.inl (t, g.take d.toNatClampNeg ++ ((f.drop b.toNatClampNeg).take n.toNatClampNeg ++ g.drop (d.toNatClampNeg + n.toNatClampNeg)))))) else none
    | _, _ => none
  | _ => none
def xfits (c k : Nat) (w : Value) : Bool := decide (narrow (xfty c k) w = w) && fits (xfty c k) w
/-- what an instruction does: goes on, calls, or ends. nx: where the next one stands; a, b, v: what the tables say of its operands -/
def xnext (m : Nat) (i : Instr) (nx a b : Nat) (v : Value) (L st : List Value) (s : xS) : Option xA := match i with
  | .iconst _ | .bipush _ | .sipush _ | .lconst _ | .aconst_null | .ldc _ | .ldc_w _ | .ldc2_w _ | .getstatic _ => xgo nx L (v :: st) s
  | .iload_n _ | .iload _ => xload 0 nx a L st s
  | .lload_n _ | .lload _ => xload 1 nx a L st s
  | .aload_n _ | .aload _ => xload 2 nx a L st s
  | .istore_n _ | .istore _ => xstore 0 nx a L st s
  | .lstore_n _ | .lstore _ => xstore 1 nx a L st s
  | .astore_n _ | .astore _ => xstore 2 nx a L st s
  | .iinc _ _ => (match L[a]?, v with
    | some (.int x), .int k => xgo nx (xput L a (.int (x + k))) st s
    | _, _ => none)
  | .iadd => x2i st fun x y r => xgo nx L (.int (x + y) :: r) s
  | .isub => x2i st fun x y r => xgo nx L (.int (x - y) :: r) s
  | .imul => x2i st fun x y r => xgo nx L (.int (x * y) :: r) s
  | .iand => x2i st fun x y r => xgo nx L (.int (x &&& y) :: r) s
  | .ior => x2i st fun x y r => xgo nx L (.int (x ||| y) :: r) s
  | .ishl => x2i st fun x y r => xgo nx L (.int (x <<< (y &&& 31)) :: r) s
  | .ishr => x2i st fun x y r => xgo nx L (.int (x >>> (y &&& 31)) :: r) s
  | .iushr => x2i st fun x y r => xgo nx L (.int ((x.toUInt32 >>> (y.toUInt32 &&& Int32.toUInt32 31)).toInt32) :: r) s
  | .idiv => x2i st fun x y r => if y = 0 then none else xgo nx L (.int (x / y) :: r) s
  | .irem => x2i st fun x y r => if y = 0 then none else xgo nx L (.int (x - x / y * y) :: r) s
  | .ineg => x1i st fun x r => xgo nx L (.int (-x) :: r) s
  | .i2l => x1i st fun x r => xgo nx L (.long x.toInt64 :: r) s
  | .i2b => x1i st fun x r => xgo nx L (.int x.toInt8.toInt32 :: r) s
  | .i2c => x1i st fun x r => xgo nx L (.int (x.toUInt32 % 65536).toInt32 :: r) s
  | .i2d => x1i st fun x r => xgo nx L (.double (FP.i2d x) :: r) s
  | .ladd => x2l st fun x y r => xgo nx L (.long (x + y) :: r) s
  | .lmul => x2l st fun x y r => xgo nx L (.long (x * y) :: r) s
  | .lcmp => x2l st fun x y r => xgo nx L (.int (lg_cmp x y) :: r) s
  | .ddiv => x2d st fun x y r => if FP.ddiv x y &&& 0x7fffffffffffffff ≤ 0x7ff0000000000000 then xgo nx L (.double (FP.ddiv x y) :: r) s else none
  | .dcmp op => x2d st fun x y r => xgo nx L (.int (Op.cmpValue (FP.dcmp x y) op) :: r) s
  | .dup => (match st with
    | w :: r => if w.category = 1 then xgo nx L (w :: w :: r) s else none
    | _ => none)
  | .dup_x1 => (match st with
    | w :: z :: r => if w.category = 1 ∧ z.category = 1 then xgo nx L (w :: z :: w :: r) s else none
    | _ => none)
  | .dup2 => (match st with
    | w :: z :: r => if w.category = 1 ∧ z.category = 1 then xgo nx L (w :: z :: w :: z :: r) s else none
    | _ => none)
  | .pop => (match st with
    | w :: r => if w.category = 1 then xgo nx L r s else none
    | _ => none)
  | .ifCond cd _ => x1i st fun x r => xif cd x 0 (xgo a L r s) (xgo nx L r s)
  | .if_icmp cd _ => x2i st fun x y r => xif cd x y (xgo a L r s) (xgo nx L r s)
  | .goto _ => xgo a L st s
  | .ifnonnull _ => (match st with
    | .ref _ :: r => xgo a L r s
    | _ => none)
  | .tableswitch _ lo hi _ => x1i st fun x r => (match (xsw m a).lookup x with
    | some t => xgo t L r s
    | none => if x.toInt < lo ∨ hi < x.toInt then xgo b L r s else none)
  | .lookupswitch _ _ => x1i st fun x r => (match (xsw m a).lookup x with
    | some t => xgo t L r s
    | none => xgo b L r s)
  | .getfield _ => (match st with
    | .ref p :: r => if a = 1000 then (match xcf p b with
        | some w => xgo nx L (w :: r) s
        | none => none) else (match s.1[p]? with
        | some (.inl (c, fs)) => if c = a then (match fs[b]? with
          | some w => xgo nx L (w :: r) s
          | none => none) else none
        | _ => none)
    | _ => none)
  | .putfield _ => (match st with
    | w :: .ref p :: r => (match s.1[p]? with
        | some (.inl (c, fs)) => if c = a ∧ b < fs.length ∧ xfits a b w = true then xgo nx L r (xset s p (.inl (a, fs.set b w))) else none
        | _ => none)
    | _ => none)
  | .iaload => xald 0 nx L st s
  | .caload => xald 1 nx L st s
  | .baload => xald 2 nx L st s
  | .iastore => xast 0 nx L st s
  | .castore => xast 1 nx L st s
  | .bastore => xast 2 nx L st s
  | .laload => (match st with
    | .int i :: .ref p :: r => if i < 0 then none else (match s.1[p]? with
      | some (.inr (.inr (.inl (_, l)))) => (match l[i.toNatClampNeg]? with
        | some x => xgo nx L (.long x :: r) s
        | none => none)
      | _ => none)
    | _ => none)
  | .lastore => (match st with
    | .long x :: .int i :: .ref p :: r => if i < 0 then none else (match s.1[p]? with
      | some (.inr (.inr (.inl (t, l)))) => if i.toNatClampNeg < l.length then xgo nx L r (xset s p (.inr (.inr (.inl (t, l.set i.toNatClampNeg x))))) else none
      | _ => none)
    | _ => none)
  | .aaload => (match st with
    | .int i :: .ref p :: r => if i < 0 then none else (match s.1[p]? with
      | some (.inr (.inr (.inr (_, l)))) => (match l[i.toNatClampNeg]? with
        | some w => xgo nx L (va_rf w :: r) s
        | none => none)
      | some _ => none
      | none => (match xct p with
        | some (t', l) => if 4 ≤ t' then (match l[i.toNatClampNeg]? with
          | some w => xgo nx L (w :: r) s
          | none => none) else none
        | none => none))
    | _ => none)
  | .aastore => (match st with
    | .ref w :: .int i :: .ref p :: r => if i < 0 then none else (match s.1[p]? with
      | some (.inr (.inr (.inr (t, l)))) => if t < 6 ∧ i.toNatClampNeg < l.length ∧ xrcv (xkc t) s (.ref w) = true then xgo nx L r (xset s p (.inr (.inr (.inr (t, l.set i.toNatClampNeg (some w)))))) else none
      | _ => none)
    | _ => none)
  | .arraylength => (match st with
    | .ref p :: r => (match s.1[p]? with
      | some c => (match xlen c with
        | some n => xgo nx L (.int (nI n) :: r) s
        | none => none)
      | none => (match xct p with
        | some (_, l) => xgo nx L (.int (nI l.length) :: r) s
        | none => none))
    | _ => none)
  | .new _ => if 2000 ≤ a then (if st = [] then some (.inr (.inr (.inr (xen (a - 2000)), s.1, s.2.1 + 1, s.2.2 + 6))) else none) else
      if s.1.length < xB then xgo nx L (.ref s.1.length :: st) (s.1 ++ [.inl (a, xdef a)], s.2.1 + 1, s.2.2 + (xdef a).length) else none
  | .newarray _ | .anewarray _ => x1i st fun n r => if n < 0 ∨ 100000 < n ∨ xB ≤ s.1.length then none else
      xgo nx L (.ref s.1.length :: r) (s.1 ++ [xzero a n.toNatClampNeg], s.2.1 + 1, s.2.2 + n.toNatClampNeg)
  | .multianewarray _ _ => x2i st fun n k r => if n < 0 ∨ 100000 < n ∨ k < 0 ∨ 100000 < k ∨ xB ≤ s.1.length + n.toNatClampNeg then none else
      xgo nx L (.ref s.1.length :: r) (s.1 ++ (.inr (.inr (.inr (b, (List.range n.toNatClampNeg).map (fun j => some (s.1.length + 1 + j))))) :: List.replicate n.toNatClampNeg (xzero a k.toNatClampNeg)), s.2.1 + 1 + n.toNatClampNeg, s.2.2 + n.toNatClampNeg + n.toNatClampNeg * k.toNatClampNeg)
  | .invokevirtual _ => xcall 1 nx a b L st s
  | .invokestatic _ => if a = 9000 then xcopy nx L st s
      else if a = 9001 then x2i st fun x y r => if 8 < xcat r then none else xgo nx L (.int (if y < x then y else x) :: r) s
      else if a = 9002 then x2i st fun x y r => if 8 < xcat r then none else xgo nx L (.int (if x < y then y else x) :: r) s
      else xcall 0 nx a b L st s
  | .invokespecial _ => if a = 9003 then (match st with
      | .ref _ :: r => if 8 < xcat r then none else xgo nx L r s
      | _ => none) else xcall (if xmc a = 5000 then 2 else 1) nx a b L st s
  | .ireturn => (match st with
    | [.int x] => (match (xm m).2.2.2.1 with
      | some ty => if narrow ty (.int x) = .int x then some (.inr (.inr (.inl (some (.int x)), s))) else none
      | none => none)
    | _ => none)
  | .lreturn => (match st with
    | [.long x] => some (.inr (.inr (.inl (some (.long x)), s)))
    | _ => none)
  | .dreturn => (match st with
    | [.double x] => some (.inr (.inr (.inl (some (.double x)), s)))
    | _ => none)
  | .areturn => (match st with
    | [.ref x] => some (.inr (.inr (.inl (some (.ref x)), s)))
    | _ => none)
  | .return_ => (match st with
    | [] => some (.inr (.inr (.inl none, s)))
    | _ => none)
  | _ => none
def xat (m : Nat) (g : xGo) : Option xA := match xc m g.1 with
  | some (i, nx, a, b, v) => xnext m i nx a b v g.2.1 g.2.2.1 g.2.2.2
  | none => none
/-- where a caller goes on behind a callee's end -/
def xcont (m pc : Nat) (K : xGo → Prop) (r : xR) (nx : Nat) (L rest : List Value) (q : xR) : Prop := match q with
  | (.inl (some w), s) => K (nx, L, w :: rest, s)
  | (.inl none, s) => K (nx, L, rest, s)
  | (.inr E, s) => (match xh m pc E with
    | some (nx', k) => k < L.length ∧ K (nx', xput L k xno, [], s)
    | none => r = (.inr E, s))
def xstep (C : Nat → List Value → xS → xR → Prop) (m pc : Nat) (K : xGo → Prop) (r : xR) (act : Option xA) : Prop := match act with
  | some (.inl g) => K g
  | some (.inr (.inl (a, args, nx, L, rest, s))) => ∃ q, C a args s q ∧ xcont m pc K r nx L rest q
  | some (.inr (.inr r0)) => r = r0
  | none => False
def xrun (C : Nat → List Value → xS → xR → Prop) (m : Nat) : Nat → xGo → xR → Prop
  | 0, _, _ => False
  | n + 1, g, r => xstep C m g.1 (fun g' => xrun C m n g' r) r (xat m g)
/-- the method m, called with args at s, comes to r; at most d calls are open at once -/
def xE : Nat → Nat → List Value → xS → xR → Prop
  | 0 => fun _ _ _ _ => False
  | d + 1 => fun m args s r => (xargs args).length ≤ (xm m).2.2.1 ∧ (∀ E, r.1 = .inr E → xmt m = true) ∧ ∃ n, xrun (xE d) m n (0, xentry args (xm m).2.2.1, [], s) r
def xX (C : Nat → List Value → xS → xR → Prop) (m : Nat) (g : xGo) (r : xR) : Prop := ∃ n, xrun C m n g r
theorem xcall_go {vir nx a b : Nat} {L st : List Value} {s : xS} {g : xGo} (h : xcall vir nx a b L st s = some (.inl g)) : False := by
  unfold xcall at h
  split at h <;> cases h
theorem xcall_end {vir nx a b : Nat} {L st : List Value} {s : xS} {r : xR} (h : xcall vir nx a b L st s = some (.inr (.inr r))) : False := by
  unfold xcall at h
  split at h <;> cases h
theorem xcall_in {vir nx a b a' nx' : Nat} {L st vs L' rest : List Value} {s s' : xS} (h : xcall vir nx a b L st s = some (.inr (.inl (a', vs, nx', L', rest, s')))) : b ≤ st.length ∧ xcat (st.drop b) ≤ 8 ∧ xrq vir a s ((st.take b).reverse.headD .null) = true ∧ a' = a ∧ vs = (st.take b).reverse ∧ nx' = nx ∧ L' = L ∧ rest = st.drop b ∧ s' = s := by
  unfold xcall at h
  split at h
  · rename_i hc
    cases h
    exact ⟨hc.1, hc.2.1, hc.2.2, rfl, rfl, rfl, rfl, rfl, rfl⟩
  · cases h
theorem xcont_mono {m pc : Nat} {K K' : xGo → Prop} (h : ∀ g, K g → K' g) {r : xR} {nx : Nat} {L rest : List Value} {q : xR} (hc : xcont m pc K r nx L rest q) : xcont m pc K' r nx L rest q := by
  obtain ⟨o, s⟩ := q
  cases o with
  | inl w => cases w with
    | none => exact h _ hc
    | some w => exact h _ hc
  | inr E =>
    simp only [xcont] at hc ⊢
    cases hx : xh m pc E with
    | none => rw [hx] at hc; exact hc
    | some z => rw [hx] at hc; exact ⟨hc.1, h _ hc.2⟩
theorem xX_step {C : Nat → List Value → xS → xR → Prop} {m : Nat} {g : xGo} {r : xR} : xX C m g r ↔ xstep C m g.1 (fun g' => xX C m g' r) r (xat m g) := by
  constructor
  · rintro ⟨n, hn⟩
    cases n with
    | zero => exact hn.elim
    | succ n =>
      simp only [xrun] at hn
      generalize xat m g = act at hn ⊢
      match act, hn with
      | some (.inl g'), hn => exact ⟨n, hn⟩
      | some (.inr (.inl (a, args, nx, L, rest, s))), hn =>
        obtain ⟨q, h1, h2⟩ := hn
        exact ⟨q, h1, xcont_mono (fun g' h => ⟨n, h⟩) h2⟩
      | some (.inr (.inr r0)), hn => exact hn
  · intro h
    have key : ∀ act, xat m g = act → xstep C m g.1 (fun g' => xX C m g' r) r act → ∃ n, xstep C m g.1 (fun g' => xrun C m n g' r) r act := by
      intro act _ h
      match act, h with
      | some (.inl g'), ⟨n, h⟩ => exact ⟨n, h⟩
      | some (.inr (.inl (a, args, nx, L, rest, s))), ⟨q, h1, h2⟩ =>
        obtain ⟨o, s'⟩ := q
        cases o with
        | inl w => cases w with
          | none => obtain ⟨n, h2⟩ := h2; exact ⟨n, _, h1, h2⟩
          | some w => obtain ⟨n, h2⟩ := h2; exact ⟨n, _, h1, h2⟩
        | inr E =>
          simp only [xcont] at h2
          cases hx : xh m g.1 E with
          | none => rw [hx] at h2; exact ⟨0, _, h1, by simp only [xcont, hx]; exact h2⟩
          | some z =>
            rw [hx] at h2
            obtain ⟨h3, n, h4⟩ := h2
            exact ⟨n, _, h1, by simp only [xcont, hx]; exact ⟨h3, h4⟩⟩
      | some (.inr (.inr r0)), h => exact ⟨0, h⟩
    obtain ⟨n, hn⟩ := key _ rfl h
    exact ⟨n + 1, hn⟩
theorem xE_succ {d m : Nat} {args : List Value} {s : xS} {r : xR} : xE (d + 1) m args s r ↔ (xargs args).length ≤ (xm m).2.2.1 ∧ (∀ E, r.1 = .inr E → xmt m = true) ∧ xX (xE d) m (0, xentry args (xm m).2.2.1, [], s) r := Iff.rfl
