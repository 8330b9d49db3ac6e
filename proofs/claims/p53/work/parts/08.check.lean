/-! WHAT THE TABLES MUST SAY OF AN INSTRUCTION (each checked by the kernel, in the parts behind the tables). -/
/-- a class of the pool: its fields, their words and types -/
def xcl (ci : Nat) (C : String) (T : u_T) (N : Nat) : Prop := vwCl[ci]? = some (C, T, N) ∧ (∀ w ∈ u_ws C T N, w ∈ xWA) ∧ (∀ k, k < N → parseFieldDescriptor (T k).2.2.1 = some (xfty ci k)) ∧ (∀ a, a < N → ∀ b, b < N → a ≠ b → (T a).2.1 ≠ (T b).2.1)
/-- a field's entry in a class file's pool -/
def xlk (own : String) (k : Nat) (r n d : String) : Prop := Cond.fieldLink own k r n d ∈ xWA ∨ ∃ host, (own, k, r, n, d, host) ∈ xnfs
/-- one-byte instructions without an operand of their own -/
def xone (M pc : Nat) (i : Instr) (nx : Nat) : Prop := decode (xm M).2.1 pc = .ok (i, 1) ∧ nx = pc + 1
/-- a throw: new, dup, the text, the constructor, athrow -/
def xthr0 (M pc k : Nat) (E : String) : Prop := (xm M).2.2.2.2 = [] ∧ ∃ (is ic sa : Nat) (text : String) (names : List String), Bundle.fit E = true ∧ (∀ n ∈ names, Bundle.fit n = true) ∧ Cond.classLink (xm M).1.cls k E ∈ xWA ∧ Cond.initialized E ∈ xWA ∧ ((xm M).1.cls, is, text, sa) ∈ xsts ∧
  (∀ w ∈ vx_atS (xm M).1.cls ic E names, w ∈ xWA ∨ (∃ C T, w = .castable C T ∧ (C, T) ∈ xcas) ∨ ∃ y, w = .declares y ∧ y ∈ xdes) ∧ names.length ≤ 8 ∧ decode (xm M).2.1 pc = .ok (.new k, 3) ∧ decode (xm M).2.1 (pc + 3) = .ok (.dup, 1) ∧
  ((decode (xm M).2.1 (pc + 4) = .ok (.ldc is, 2) ∧ decode (xm M).2.1 (pc + 6) = .ok (.invokespecial ic, 3) ∧ decode (xm M).2.1 (pc + 9) = .ok (.athrow, 1)) ∨
   (decode (xm M).2.1 (pc + 4) = .ok (.ldc_w is, 3) ∧ decode (xm M).2.1 (pc + 7) = .ok (.invokespecial ic, 3) ∧ decode (xm M).2.1 (pc + 10) = .ok (.athrow, 1)))
/-- the same of NoSuchElementException, whose constructor links otherwise -/
def xthrN (M pc k : Nat) (E : String) : Prop := (xm M).2.2.2.2 = [] ∧ E = xnX ∧ ∃ (is ic sa : Nat) (text : String), Cond.classLink (xm M).1.cls k xnX ∈ xWA ∧ Cond.initialized xnX ∈ xWA ∧ ((xm M).1.cls, is, text, sa) ∈ xsts ∧
  (∀ w ∈ (xnA (xm M).1.cls ic).filter vx_no, w ∈ xWA ∨ (∃ C T, w = .castable C T ∧ (C, T) ∈ xcas) ∨ ∃ y, w = .declares y ∧ y ∈ xdes) ∧ decode (xm M).2.1 pc = .ok (.new k, 3) ∧ decode (xm M).2.1 (pc + 3) = .ok (.dup, 1) ∧
  decode (xm M).2.1 (pc + 4) = .ok (.ldc_w is, 3) ∧ decode (xm M).2.1 (pc + 7) = .ok (.invokespecial ic, 3) ∧ decode (xm M).2.1 (pc + 10) = .ok (.athrow, 1)
def xthr (M pc k : Nat) (E : String) : Prop := xthr0 M pc k E ∨ xthrN M pc k E
/-- a method's first word -/
def x_hd (a : Nat) : Cond := if (xm a).2.2.2.2 = [] then .code (xm a).1 (xm a).2.1 (xm a).2.2.1 (xm a).2.2.2.1 else .codeWith (xm a).1 (xm a).2.1 (xm a).2.2.1 (xm a).2.2.2.1 (xm a).2.2.2.2
def xgen (a n : Nat) : Prop := (xm a).1.cls ≠ "java/lang/invoke/MethodHandle" ∧ (xm a).1.cls ≠ "java/lang/invoke/VarHandle" ∧ (parseMethodDescriptor (xm a).1.desc).map (fun d => d.parameters.length) = some n
def xcaS (M k a b : Nat) : Prop := (xm a).2.2.1 ≤ 40 ∧ x_hd a ∈ xWA ∧ xgen a b ∧ Cond.static (xm a).1 ∈ xWA ∧ Cond.initialized (xm a).1.cls ∈ xWA ∧
  (Cond.methodLink (xm M).1.cls k (xm a).1 ∈ xWA ∨ ((xm a).2.2.2.2 = [] ∧ xmt a = false ∧ ∃ host, ((xm M).1.cls, k, (xm a).1, host) ∈ xnms))
def xrcl (k : Nat) (C : String) : Prop := (k < 1000 → ∃ T N, vwCl[k]? = some (C, T, N)) ∧ (1000 ≤ k → xcn k = C)
def xcaV (M k a b : Nat) : Prop := (xm a).2.2.1 ≤ 40 ∧ x_hd a ∈ xWA ∧ (xm a).2.2.2.2 = [] ∧ ∃ n C, b = n + 1 ∧ xrcl (xmc a) C ∧
  ((xgen a n ∧ (xm a).1.cls = C ∧ ∀ w ∈ wsV (xm M).1.cls k C (xm a).1 [], w ∈ xWA) ∨
   (xgen a n ∧ xmt a = false ∧ Cond.initialized (xm a).1.cls ∈ xWA ∧ Cond.instanceMethod (xm a).1 ∈ xWA ∧ Cond.selects C (xm a).1 (xm a).1 ∈ xWA ∧ ∃ host, ((xm M).1.cls, k, (xm a).1, host) ∈ xnms) ∨
   (xmt a = false ∧ ∃ owner x, (xm a).1 = ⟨owner, x.name, x.desc⟩ ∧ owner ≠ "java/lang/invoke/MethodHandle" ∧ owner ≠ "java/lang/invoke/VarHandle" ∧ (parseMethodDescriptor x.desc).map (fun d => d.parameters.length) = some n ∧ ∀ w ∈ va_wsU (xm M).1.cls k C owner x (xm a).1 [], w ∈ xWA))
def xcaI (M k a b : Nat) : Prop := (xm a).2.2.1 ≤ 40 ∧ x_hd a ∈ xWA ∧ (xm a).2.2.2.2 = [] ∧ xmt a = false ∧ ∃ n, b = n + 1 ∧
  (((xm a).1.name = "<init>" ∧ (xm a).2.2.2.1 = none ∧ xmc a = 5000 ∧ xgen a n ∧ Cond.methodLink (xm M).1.cls k (xm a).1 ∈ xWA ∧ Cond.instanceMethod (xm a).1 ∈ xWA ∧ Cond.initialized (xm a).1.cls ∈ xWA) ∨
   (xmc a ≠ 5000 ∧ (xm a).1.name ≠ "<init>" ∧ (parseMethodDescriptor (xm a).1.desc).map (fun d => d.parameters.length) = some n ∧ ∃ C N, xrcl (xmc a) C ∧ Cond.instantiable C N ∈ xWA ∧ ∀ w ∈ va_wsSU (xm M).1.cls k (xm a).1 [], w ∈ xWA))
def xok (M pc : Nat) (i : Instr) (nx a b : Nat) (v : Value) : Prop := match i with
  | .iconst n => xone M pc i nx ∧ v = .int (Int32.ofInt n)
  | .bipush n => decode (xm M).2.1 pc = .ok (i, 2) ∧ nx = pc + 2 ∧ v = .int (Int8.ofInt n).toInt32
  | .sipush n => decode (xm M).2.1 pc = .ok (i, 3) ∧ nx = pc + 3 ∧ v = .int (Int16.ofInt n).toInt32
  | .lconst n => xone M pc i nx ∧ v = .long (Int64.ofNat (n : Nat))
  | .aconst_null => xone M pc i nx ∧ v = .null
  | .ldc k => decode (xm M).2.1 pc = .ok (i, 2) ∧ nx = pc + 2 ∧ ((∃ c, v = .int c ∧ Cond.constant (xm M).1.cls k c ∈ xWA) ∨ ∃ tx p, v = .ref p ∧ xB ≤ p ∧ ((xm M).1.cls, k, tx, p) ∈ xsts)
  | .ldc_w k => decode (xm M).2.1 pc = .ok (i, 3) ∧ nx = pc + 3 ∧ ∃ c, v = .int c ∧ Cond.constant (xm M).1.cls k c ∈ xWA
  | .ldc2_w k => decode (xm M).2.1 pc = .ok (i, 3) ∧ nx = pc + 3 ∧ ((∃ c, v = .long c ∧ Cond.constantLong (xm M).1.cls k c ∈ xWA) ∨ ∃ c, v = .double c ∧ Cond.constantDouble (xm M).1.cls k c ∈ xWA)
  | .getstatic k => decode (xm M).2.1 pc = .ok (i, 3) ∧ nx = pc + 3 ∧ (∀ q, v = .ref q → xB ≤ q) ∧ ∃ C n d, (C, n, d, v) ∈ xzs ∧ xlk (xm M).1.cls k C n d
  | .iload_n k => xone M pc i nx ∧ a = (k : Nat)
  | .lload_n k => xone M pc i nx ∧ a = (k : Nat)
  | .aload_n k => xone M pc i nx ∧ a = (k : Nat)
  | .istore_n k => xone M pc i nx ∧ a = (k : Nat)
  | .lstore_n k => xone M pc i nx ∧ a = (k : Nat)
  | .astore_n k => xone M pc i nx ∧ a = (k : Nat)
  | .iload k => decode (xm M).2.1 pc = .ok (i, 2) ∧ nx = pc + 2 ∧ a = k
  | .lload k => decode (xm M).2.1 pc = .ok (i, 2) ∧ nx = pc + 2 ∧ a = k
  | .aload k => decode (xm M).2.1 pc = .ok (i, 2) ∧ nx = pc + 2 ∧ a = k
  | .istore k => decode (xm M).2.1 pc = .ok (i, 2) ∧ nx = pc + 2 ∧ a = k
  | .lstore k => decode (xm M).2.1 pc = .ok (i, 2) ∧ nx = pc + 2 ∧ a = k
  | .astore k => decode (xm M).2.1 pc = .ok (i, 2) ∧ nx = pc + 2 ∧ a = k
  | .iinc k n => decode (xm M).2.1 pc = .ok (i, 3) ∧ nx = pc + 3 ∧ a = k ∧ v = .int (Int32.ofInt n)
  | .ifCond _ off => decode (xm M).2.1 pc = .ok (i, 3) ∧ nx = pc + 3 ∧ (pc : Int) + off = (a : Int)
  | .if_icmp _ off => decode (xm M).2.1 pc = .ok (i, 3) ∧ nx = pc + 3 ∧ (pc : Int) + off = (a : Int)
  | .goto off => decode (xm M).2.1 pc = .ok (i, 3) ∧ (pc : Int) + off = (a : Int)
  | .ifnonnull off => decode (xm M).2.1 pc = .ok (i, 3) ∧ (pc : Int) + off = (a : Int)
  | .tableswitch d lo hi offs => (∃ len, decode (xm M).2.1 pc = .ok (i, len)) ∧ (pc : Int) + d = (b : Int) ∧ ∀ q ∈ xsw M a, ¬ q.1.toInt < lo ∧ ¬ hi < q.1.toInt ∧ ∃ off, offs[(q.1.toInt - lo).toNat]? = some off ∧ (pc : Int) + off = (q.2 : Int)
  | .lookupswitch d ps => (∃ len, decode (xm M).2.1 pc = .ok (i, len)) ∧ (pc : Int) + d = (b : Int) ∧ (ps.toList.zip (ps.toList.drop 1)).all (fun (a, next) => a.1 < next.1) = true ∧ ps.toList.map (fun q => (q.1, (pc : Int) + q.2)) = (xsw M a).map (fun q => (q.1.toInt, (q.2 : Int)))
  | .getfield k => decode (xm M).2.1 pc = .ok (i, 3) ∧ nx = pc + 3 ∧
      ((a = 1000 ∧ ∃ o n d, xlk (xm M).1.cls k o n d ∧ ∀ p w, xcf p b = some w → xB ≤ p ∧ (∀ q, w = .ref q → xB ≤ q) ∧ (p, o, n, d, w) ∈ xofs) ∨
       (a ≠ 1000 ∧ ∃ C T N, xcl a C T N ∧ b < N ∧ xlk (xm M).1.cls k (T b).1 (T b).2.1 (T b).2.2.1))
  | .putfield k => decode (xm M).2.1 pc = .ok (i, 3) ∧ nx = pc + 3 ∧ ∃ C T N, xcl a C T N ∧ b < N ∧
      (((T b).2.2.2 = false ∧ xlk (xm M).1.cls k (T b).1 (T b).2.1 (T b).2.2.1) ∨ ((T b).2.2.2 = true ∧ (xm M).1.name = "<init>" ∧ (T b).1 = (xm M).1.cls ∧ Cond.fieldLink (xm M).1.cls k (T b).1 (T b).2.1 (T b).2.2.1 ∈ xWA))
  | .newarray at_ => decode (xm M).2.1 pc = .ok (i, 2) ∧ nx = pc + 2 ∧ a < 4 ∧ newarray.typeOf at_ = xkt a ∧ Cond.arrayClass (newarray.typeOf at_) ∈ xWA
  | .anewarray k => decode (xm M).2.1 pc = .ok (i, 3) ∧ nx = pc + 3 ∧ (a = 4 ∨ a = 5) ∧ ∃ C, xkt a = .object C ∧ Cond.classLink (xm M).1.cls k C ∈ xWA ∧ C ∈ xaos
  | .multianewarray k n => decode (xm M).2.1 pc = .ok (i, 4) ∧ n = 2 ∧ nx = pc + 4 ∧ ((a = 0 ∧ b = 6) ∨ (a = 3 ∧ b = 7)) ∧ Cond.classLink (xm M).1.cls k ("[" ++ (FieldType.array (xkt a)).toString) ∈ xWA ∧ Cond.arrayClass (xkt a) ∈ xWA ∧ xkt a ∈ xaas
  | .new k => (2000 ≤ a → xthr M pc k (xen (a - 2000))) ∧ (a < 2000 → decode (xm M).2.1 pc = .ok (i, 3) ∧ nx = pc + 3 ∧ ∃ C T N, xcl a C T N ∧ (xdef a).length = N ∧ (∀ j, j < N → defaultValue (xfty a j) = vp_V (xdef a) j) ∧ (∀ v ∈ xdef a, ∀ q, v ≠ .ref q) ∧ Cond.classLink (xm M).1.cls k C ∈ xWA ∧ Cond.instantiable C N ∈ xWA ∧ Cond.initialized C ∈ xWA)
  | .invokestatic k => decode (xm M).2.1 pc = .ok (i, 3) ∧ nx = pc + 3 ∧
      (a = 9000 → Cond.methodLink (xm M).1.cls k arraycopyName ∈ xWA ∧ Cond.native arraycopyName ∈ xWA ∧ Cond.static arraycopyName ∈ xWA ∧ Cond.initialized "java/lang/System" ∈ xWA) ∧
      (a = 9001 → Cond.methodLink (xm M).1.cls k Lib.Math.min.name ∈ xWA ∧ Cond.static Lib.Math.min.name ∈ xWA ∧ Cond.initialized "java/lang/Math" ∈ xWA ∧ Cond.code Lib.Math.min.name Lib.Math.min.code 2 (some .int) ∈ xWA) ∧
      (a = 9002 → Cond.methodLink (xm M).1.cls k Lib.Math.max.name ∈ xWA ∧ Cond.static Lib.Math.max.name ∈ xWA ∧ Cond.initialized "java/lang/Math" ∈ xWA ∧ Cond.code Lib.Math.max.name Lib.Math.max.code 2 (some .int) ∈ xWA) ∧ (a ≠ 9000 → a ≠ 9001 → a ≠ 9002 → xcaS M k a b)
  | .invokespecial k => decode (xm M).2.1 pc = .ok (i, 3) ∧ nx = pc + 3 ∧
      (a = 9003 → Cond.methodLink (xm M).1.cls k objectInit ∈ xWA ∧ Cond.instanceMethod objectInit ∈ xWA ∧ Cond.code objectInit ⟨#[0xb1]⟩ 1 none ∈ xWA) ∧ (a ≠ 9003 → xcaI M k a b)
  | .invokevirtual k => decode (xm M).2.1 pc = .ok (i, 3) ∧ nx = pc + 3 ∧ xcaV M k a b
  | .lreturn => xone M pc i nx ∧ (xm M).2.2.2.1 = some .long
  | .dreturn => xone M pc i nx ∧ (xm M).2.2.2.1 = some .double
  | .areturn => xone M pc i nx ∧ ∃ rt, (xm M).2.2.2.1 = some rt ∧ ((∃ n, rt = .object n) ∨ ∃ t, rt = .array t)
  | .ireturn => xone M pc i nx
  | .return_ => decode (xm M).2.1 pc = .ok (i, 1) ∧ (xm M).2.2.2.1 = none
  | _ => xone M pc i nx
