/-! ONE STEP, whatever it is -/
set_option maxHeartbeats 8000000 in
theorem st_all {p : Program} {l : Launch} {e' : Env} {R : Room} {s : State} {m : MethodId} {args : Array Value} {below : List Frame} {meth : Method} {c : Code} {H : Heap} {locs : List Loc} {cells slots : Nat} {Q : State → Prop} {LS : Array Slot}
    {k z : Nat} {X : Nat × (Nat → Int32)} {sv : Nat → Value} {ca : Nat → ClassId} {D : va_G}
    (C : Cx p s m args meth c k z X sv ca D) {e : Ent} {pc pc' : Nat} {ls ls' : List (Option Value)} {st st' : List Value} {h h' : Hp} (hl : okE k pc e = true) (hs : stp X e ls st h = some (pc', ls', st', h'))
    (hL : lvR z sv LS (mL k) ls) (hW : Wd z ca D H h) (hS : va_S (zA z) s.heap H locs) (hc : cells + h'.1.length ≤ R.cells + h.1.length) (hsl : slots + ksum h'.1 ≤ R.slots + ksum h.1) (hfr : 1 ≤ R.frames) (hlo : 60 ≤ R.locals)
    (kk : ∀ (LS' : Array Slot) (H' : Heap) (locs' : List Loc) (cells' slots' : Nat), lvR z sv LS' (mL k) ls' → Wd z ca D H' h' → va_S (zA z) s.heap H' locs' → cells' + h.1.length = cells + h'.1.length → slots' + ksum h.1 = slots + ksum h'.1 → W p l e' R s m args below meth c H' locs' cells' slots' Q (F0 m pc' LS' (st'.map (cv z sv)))) : W p l e' R s m args below meth c H locs cells slots Q (F0 m pc LS (st.map (cv z sv))) := by
  obtain ⟨ins, np, a, b, c0, v⟩ := e
  cases ins
  case iconst n => exact st_iconst C hl hs hL hW hS hc hsl hfr hlo kk
  case bipush n => exact st_bipush C hl hs hL hW hS hc hsl hfr hlo kk
  case sipush n => exact st_sipush C hl hs hL hW hS hc hsl hfr hlo kk
  case lconst n => exact st_lconst C hl hs hL hW hS hc hsl hfr hlo kk
  case aconst_null => exact st_aconst_null C hl hs hL hW hS hc hsl hfr hlo kk
  case iload i => exact st_iload C hl hs hL hW hS hc hsl hfr hlo kk
  case iload_n i => exact st_iload_n C hl hs hL hW hS hc hsl hfr hlo kk
  case lload i => exact st_lload C hl hs hL hW hS hc hsl hfr hlo kk
  case lload_n i => exact st_lload_n C hl hs hL hW hS hc hsl hfr hlo kk
  case aload i => exact st_aload C hl hs hL hW hS hc hsl hfr hlo kk
  case aload_n i => exact st_aload_n C hl hs hL hW hS hc hsl hfr hlo kk
  case istore i => exact st_istore C hl hs hL hW hS hc hsl hfr hlo kk
  case istore_n i => exact st_istore_n C hl hs hL hW hS hc hsl hfr hlo kk
  case lstore i => exact st_lstore C hl hs hL hW hS hc hsl hfr hlo kk
  case lstore_n i => exact st_lstore_n C hl hs hL hW hS hc hsl hfr hlo kk
  case astore i => exact st_astore C hl hs hL hW hS hc hsl hfr hlo kk
  case astore_n i => exact st_astore_n C hl hs hL hW hS hc hsl hfr hlo kk
  case iinc i n => exact st_iinc C hl hs hL hW hS hc hsl hfr hlo kk
  case iadd => exact st_iadd C hl hs hL hW hS hc hsl hfr hlo kk
  case isub => exact st_isub C hl hs hL hW hS hc hsl hfr hlo kk
  case imul => exact st_imul C hl hs hL hW hS hc hsl hfr hlo kk
  case iand => exact st_iand C hl hs hL hW hS hc hsl hfr hlo kk
  case ior => exact st_ior C hl hs hL hW hS hc hsl hfr hlo kk
  case ixor => exact st_ixor C hl hs hL hW hS hc hsl hfr hlo kk
  case ishl => exact st_ishl C hl hs hL hW hS hc hsl hfr hlo kk
  case ishr => exact st_ishr C hl hs hL hW hS hc hsl hfr hlo kk
  case ladd => exact st_ladd C hl hs hL hW hS hc hsl hfr hlo kk
  case lmul => exact st_lmul C hl hs hL hW hS hc hsl hfr hlo kk
  case ineg => exact st_ineg C hl hs hL hW hS hc hsl hfr hlo kk
  case lneg => exact st_lneg C hl hs hL hW hS hc hsl hfr hlo kk
  case lcmp => exact st_lcmp C hl hs hL hW hS hc hsl hfr hlo kk
  case iushr => exact st_iushr C hl hs hL hW hS hc hsl hfr hlo kk
  case i2l => exact st_i2l C hl hs hL hW hS hc hsl hfr hlo kk
  case i2b => exact st_i2b C hl hs hL hW hS hc hsl hfr hlo kk
  case i2c => exact st_i2c C hl hs hL hW hS hc hsl hfr hlo kk
  case idiv => exact st_idiv C hl hs hL hW hS hc hsl hfr hlo kk
  case irem => exact st_irem C hl hs hL hW hS hc hsl hfr hlo kk
  case ldiv => exact st_ldiv C hl hs hL hW hS hc hsl hfr hlo kk
  case lrem => exact st_lrem C hl hs hL hW hS hc hsl hfr hlo kk
  case dup => exact st_dup C hl hs hL hW hS hc hsl hfr hlo kk
  case dup2 => exact st_dup2 C hl hs hL hW hS hc hsl hfr hlo kk
  case pop => exact st_pop C hl hs hL hW hS hc hsl hfr hlo kk
  case goto o => exact st_goto C hl hs hL hW hS hc hsl hfr hlo kk
  case ifnonnull o => exact st_ifnonnull C hl hs hL hW hS hc hsl hfr hlo kk
  case ifnull o => exact st_ifnull C hl hs hL hW hS hc hsl hfr hlo kk
  case tableswitch d lo hi offs => exact st_tableswitch C hl hs hL hW hS hc hsl hfr hlo kk
  case lookupswitch d ps => exact st_lookupswitch C hl hs hL hW hS hc hsl hfr hlo kk
  case getfield i => exact st_getfield C hl hs hL hW hS hc hsl hfr hlo kk
  case putfield i => exact st_putfield C hl hs hL hW hS hc hsl hfr hlo kk
  case new i => exact st_new C hl hs hL hW hS hc hsl hfr hlo kk
  case newarray ty => exact st_newarray C hl hs hL hW hS hc hsl hfr hlo kk
  case anewarray i => exact st_anewarray C hl hs hL hW hS hc hsl hfr hlo kk
  case arraylength => exact st_arraylength C hl hs hL hW hS hc hsl hfr hlo kk
  case iaload => exact st_iaload C hl hs hL hW hS hc hsl hfr hlo kk
  case baload => exact st_baload C hl hs hL hW hS hc hsl hfr hlo kk
  case aaload => exact st_aaload C hl hs hL hW hS hc hsl hfr hlo kk
  case iastore => exact st_iastore C hl hs hL hW hS hc hsl hfr hlo kk
  case bastore => exact st_bastore C hl hs hL hW hS hc hsl hfr hlo kk
  case aastore => exact st_aastore C hl hs hL hW hS hc hsl hfr hlo kk
  case getstatic i => exact st_getstatic C hl hs hL hW hS hc hsl hfr hlo kk
  case ldc i => exact st_ldc C hl hs hL hW hS hc hsl hfr hlo kk
  case ldc_w i => exact st_ldc_w C hl hs hL hW hS hc hsl hfr hlo kk
  case ldc2_w i => exact st_ldc2_w C hl hs hL hW hS hc hsl hfr hlo kk
  case invokespecial i => exact st_objInit C hl hs hL hW hS hc hsl hfr hlo kk
  case invokestatic i => exact st_arraycopy C hl hs hL hW hS hc hsl hfr hlo kk
  case ifCond cc o =>
    cases cc
    case eq => exact st_ifCond_eq C hl hs hL hW hS hc hsl hfr hlo kk
    case ne => exact st_ifCond_ne C hl hs hL hW hS hc hsl hfr hlo kk
    case lt => exact st_ifCond_lt C hl hs hL hW hS hc hsl hfr hlo kk
    case ge => exact st_ifCond_ge C hl hs hL hW hS hc hsl hfr hlo kk
    case gt => exact st_ifCond_gt C hl hs hL hW hS hc hsl hfr hlo kk
    case le => exact st_ifCond_le C hl hs hL hW hS hc hsl hfr hlo kk
  case if_icmp cc o =>
    cases cc
    case eq => exact st_if_icmp_eq C hl hs hL hW hS hc hsl hfr hlo kk
    case ne => exact st_if_icmp_ne C hl hs hL hW hS hc hsl hfr hlo kk
    case lt => exact st_if_icmp_lt C hl hs hL hW hS hc hsl hfr hlo kk
    case ge => exact st_if_icmp_ge C hl hs hL hW hS hc hsl hfr hlo kk
    case gt => exact st_if_icmp_gt C hl hs hL hW hS hc hsl hfr hlo kk
    case le => exact st_if_icmp_le C hl hs hL hW hS hc hsl hfr hlo kk
  all_goals cases hs
