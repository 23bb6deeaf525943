/-! ===== the small machine is sound ===== -/
set_option maxHeartbeats 4000000 in
theorem Pr_closed (hM : ∀ t, t < 231 → okMeth t = true) (l : Launch) (n : Nat) : mClosed n (Pr l n) := by
  intro d w kc ks ls st H K hw h
  obtain ⟨y, pc, ins, len, ⟨ia, ib, ic⟩, z, sw⟩ := w
  have bad : okIns y pc ins len ia ib ic z sw = true := (okRow_sp hw).2.1
  cases ins
  case iconst => exact cl_iconst hw h
  case bipush => exact cl_bipush hw h
  case sipush => exact cl_sipush hw h
  case lconst => exact cl_lconst hw h
  case ldc2_w => exact cl_ldc2_w hw h
  case ldc_w => exact cl_ldc_w hw h
  case ldc => exact cl_ldc hw h
  case iload => exact cl_iload hw h
  case iload_n => exact cl_iload_n hw h
  case lload => exact cl_lload hw h
  case lload_n => exact cl_lload_n hw h
  case aload => exact cl_aload hw h
  case aload_n => exact cl_aload_n hw h
  case istore => exact cl_istore hw h
  case istore_n => exact cl_istore_n hw h
  case astore => exact cl_astore hw h
  case astore_n => exact cl_astore_n hw h
  case iinc => exact cl_iinc hw h
  case iadd => exact cl_iadd hw h
  case isub => exact cl_isub hw h
  case imul => exact cl_imul hw h
  case idiv => exact cl_idiv hw h
  case irem => exact cl_irem hw h
  case ineg => exact cl_ineg hw h
  case ishl => exact cl_ishl hw h
  case ishr => exact cl_ishr hw h
  case iushr => exact cl_iushr hw h
  case iand => exact cl_iand hw h
  case ior => exact cl_ior hw h
  case ixor => exact cl_ixor hw h
  case i2l => exact cl_i2l hw h
  case l2i => exact cl_l2i hw h
  case i2b => exact cl_i2b hw h
  case i2s => exact cl_i2s hw h
  case i2c => exact cl_i2c hw h
  case lcmp => exact cl_lcmp hw h
  case lshl => exact cl_lshl hw h
  case lor => exact cl_lor hw h
  case land => exact cl_land hw h
  case dup => exact cl_dup hw h
  case dup2 => exact cl_dup2 hw h
  case pop => exact cl_pop hw h
  case ifCond => exact cl_ifCond hw h
  case if_icmp => exact cl_if_icmp hw h
  case goto => exact cl_goto hw h
  case ifnonnull => exact cl_ifnonnull hw h
  case tableswitch => exact cl_tableswitch hw h
  case lookupswitch => exact cl_lookupswitch hw h
  case getfield => exact cl_getfield hw h
  case putfield => exact cl_putfield hw h
  case getstatic => exact cl_getstatic hw h
  case arraylength => exact cl_arraylength hw h
  case iaload => exact cl_iaload hw h
  case baload => exact cl_baload hw h
  case laload => exact cl_laload hw h
  case aaload => exact cl_aaload hw h
  case iastore => exact cl_iastore hw h
  case bastore => exact cl_bastore hw h
  case lastore => exact cl_lastore hw h
  case aastore => exact cl_aastore hw h
  case new => exact cl_new hw h
  case newarray => exact cl_newarray hw h
  case anewarray => exact cl_anewarray hw h
  case invokestatic => exact cl_invokestatic hM hw h
  case invokevirtual => exact cl_invokevirtual hM hw h
  case invokespecial => exact cl_invokespecial hM hw h
  case ireturn => exact cl_ireturn hw h
  case lreturn => exact cl_lreturn hw h
  case areturn => exact cl_areturn hw h
  case return_ => exact cl_return_ hw h
  all_goals cases bad
/-- what the small machine says of a run is so on the machine -/
theorem Wm_sound (hM : ∀ t, t < 231 → okMeth t = true) (l : Launch) {n d y pc kc ks : Nat} {ls : mLs} {st : List mV} {H : mH} {K : mK} (h : Wm n d y pc kc ks ls st H K) : Pr l n d y pc kc ks ls st H K := h (Pr l n) (Pr_mono l n) (Pr_closed hM l n)
