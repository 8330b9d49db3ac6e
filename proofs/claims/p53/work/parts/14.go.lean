/-! EVERY INSTRUCTION THAT GOES ON. -/
section GO
variable {p : Program} {l : Launch} {e : Env} {R : Room} {s : State} {m : MethodId} {args : Array Value} {below : List Frame} {meth : Method} {c : Code} {H : Heap} {locs : List Loc} {cells slots : Nat} {Q : State → Prop}
variable {A : Nat → Prop} {D : va_G} {cA : Nat → ClassId} {sA ρ : Nat → Nat} {M : Nat} {ls : Array Slot} {L st : List Value} {σ : xS} {pc nx a b : Nat} {v : Value} {g : xGo}
theorem x_go {i : Instr} (F : x_F A D cA sA M p s m args meth c) (hat : x_at A D cA sA ρ M s H locs ls L σ) (ho : xok M pc i nx a b v) (h : xnext M i nx a b v L st σ = some (.inl g)) (hT : xtabs) (hct : xct_ok) (hrc : xrc_ok) (hg : xgok (pc, L, st, σ)) (hRf : 1 ≤ R.frames) (hRl : 60 ≤ R.locals) (hr1 : cells + g.2.2.2.2.1 ≤ R.cells + σ.2.1) (hr2 : slots + g.2.2.2.2.2 ≤ R.slots + σ.2.2) (hk : x_K A D cA sA ρ M p l e R s m args below meth c cells slots Q σ g) : W p l e R s m args below meth c H locs cells slots Q (F0 m pc ls (st.map (x_v ρ))) := by
  cases i
  case iconst => exact x_st_iconst F hat ho h hk
  case bipush => exact x_st_bipush F hat ho h hk
  case sipush => exact x_st_sipush F hat ho h hk
  case lconst => exact x_st_lconst F hat ho h hk
  case ldc => exact x_st_ldc F hat ho h hk
  case ldc_w => exact x_st_ldc_w F hat ho h hk
  case ldc2_w => exact x_st_ldc2_w F hat ho h hk
  case getstatic => exact x_st_getstatic F hat ho h hk
  case iload_n => exact x_st_iload_n F hat ho h hk
  case iload => exact x_st_iload F hat ho h hk
  case lload_n => exact x_st_lload_n F hat ho h hk
  case lload => exact x_st_lload F hat ho h hk
  case aload_n => exact x_st_aload_n F hat ho h hk
  case aload => exact x_st_aload F hat ho h hk
  case istore_n => exact x_st_istore_n F hat ho h hk
  case istore => exact x_st_istore F hat ho h hk
  case lstore_n => exact x_st_lstore_n F hat ho h hk
  case lstore => exact x_st_lstore F hat ho h hk
  case astore_n => exact x_st_astore_n F hat ho h hk
  case astore => exact x_st_astore F hat ho h hk
  case iinc => exact x_st_iinc F hat ho h hk
  case iadd => exact x_st_iadd F hat ho h hk
  case isub => exact x_st_isub F hat ho h hk
  case imul => exact x_st_imul F hat ho h hk
  case iand => exact x_st_iand F hat ho h hk
  case ior => exact x_st_ior F hat ho h hk
  case ishl => exact x_st_ishl F hat ho h hk
  case ishr => exact x_st_ishr F hat ho h hk
  case iushr => exact x_st_iushr F hat ho h hk
  case idiv => exact x_st_idiv F hat ho h hk
  case irem => exact x_st_irem F hat ho h hk
  case ineg => exact x_st_ineg F hat ho h hk
  case i2l => exact x_st_i2l F hat ho h hk
  case i2b => exact x_st_i2b F hat ho h hk
  case i2c => exact x_st_i2c F hat ho h hk
  case i2d => exact x_st_i2d F hat ho h hk
  case ladd => exact x_st_ladd F hat ho h hk
  case lmul => exact x_st_lmul F hat ho h hk
  case lcmp => exact x_st_lcmp F hat ho h hk
  case ddiv => exact x_st_ddiv F hat ho h hk
  case dcmp => exact x_st_dcmp F hat ho h hk
  case dup => exact x_st_dup F hat ho h hk
  case pop => exact x_st_pop F hat ho h hk
  case dup_x1 => exact x_st_dup_x1 F hat ho h hk
  case dup2 => exact x_st_dup2 F hat ho h hk
  case ifCond => exact x_st_ifCond F hat ho h hk
  case if_icmp => exact x_st_if_icmp F hat ho h hk
  case goto => exact x_st_goto F hat ho h hk
  case ifnonnull => exact x_st_ifnonnull F hat ho h hk
  case tableswitch => exact x_st_tableswitch F hat ho h hk
  case lookupswitch => exact x_st_lookupswitch F hat ho h hk
  case getfield => exact x_st_getfield F hat ho h hk
  case putfield => exact x_st_putfield F hat ho h hk
  case iastore => exact x_st_iastore F hat ho h hk
  case castore => exact x_st_castore F hat ho h hk
  case bastore => exact x_st_bastore F hat ho h hk
  case aconst_null => exact x_st_anull F hat ho h hk
  case iaload => exact x_st_iaload F hat ho h hct hk
  case caload => exact x_st_caload F hat ho h hct hk
  case baload => exact x_st_baload F hat ho h hct hk
  case laload => exact x_st_laload F hat ho h hg hk
  case lastore => exact x_st_lastore F hat ho h hg hk
  case aaload => exact x_st_aaload F hat ho h hct hg hk
  case arraylength => exact x_st_arraylength F hat ho h hct hg hk
  case aastore => exact x_st_aastore F hat ho h hrc hg hk
  case new => exact x_st_new F hat ho h hT hg hr1 hr2 hk
  case newarray => exact x_st_newarray F hat ho h hg hr1 hr2 hk
  case anewarray => exact x_st_anewarray F hat ho h hg hr1 hr2 hk
  case multianewarray => exact x_st_multi F hat ho h hg hr1 hr2 hk
  case invokestatic => exact x_st_static F hat ho h hg F.2.2.1 hRf hRl hr1 hr2 hk
  case invokespecial => exact x_st_special F hat ho h F.2.2.1 hRf hRl hk
  case invokevirtual =>
    exact (xcall_go h).elim
  case ireturn =>
    simp only [xnext] at h
    split at h
    · split at h
      · split at h <;> cases h
      · cases h
    · cases h
  case lreturn =>
    simp only [xnext] at h
    split at h <;> cases h
  case dreturn =>
    simp only [xnext] at h
    split at h <;> cases h
  case areturn =>
    simp only [xnext] at h
    split at h <;> cases h
  case return_ =>
    simp only [xnext] at h
    split at h <;> cases h
  all_goals cases h
end GO
