/-! ===== BLOCKS ===== -/
section SimB
variable {p : Program} {l : Launch} {e : Env} {R : Room} {s : State} {mI : MethodId} {args : Array Value} {below : List Frame} {meth : Method} {c : Code} {H : Heap} {locs : List Loc} {cells slots : Nat} {Q : State → Prop}
variable {cc : ByteArray} {nL c0 w0 pc len : Nat} {own : String} {ini : Bool} {lg : Nat → Bool} {tb : Tab} {D : va_G} {ka : KA} {xa : Nat → Nat} {zv : Value} {A : Nat → Prop} {ad : Nat → Nat} {lsR : Array Slot} {ls ls' st st' : List AV} {m m' : AM} {raw : Instr} {φ : Prop}
set_option maxHeartbeats 8000000 in
theorem sm_step {i : Instr} (hF : FX p R s mI args meth c cc nL own ini) (hG : GF tb D ka xa zv A s s.heap) (hA : ∀ q, s.heap.size ≤ q → A q) (hC : CFacts tb) (hJ : JFacts) (hS : ST D ka xa zv A s lg nL c0 w0 ad lsR ls m H locs cells slots) (hst : ∀ v ∈ st, okV m.2.1 v)
    (h : sI tb i ls st m = some (φ, ls', st', m')) (hφ : φ) (hd : decode cc pc = .ok (raw, len)) (hps : isPs i = false) (hk : iOK own ini lg nL raw len i) (hr : m'.2.2.1 ≤ R.cells + c0 ∧ m'.2.2.2 ≤ R.slots + w0)
    (kk : ∀ ad' lsR' H' locs' cells' slots', (∀ k, k < m.2.1 → ad' k = ad k) → ST D ka xa zv A s lg nL c0 w0 ad' lsR' ls' m' H' locs' cells' slots' → (∀ v ∈ st', okV m'.2.1 v) → W p l e R s mI args below meth c H' locs' cells' slots' Q (F0 mI (pc + len) lsR' (st'.map (rv ad' xa zv)))) :
    W p l e R s mI args below meth c H locs cells slots Q (F0 mI pc lsR (st.map (rv ad xa zv))) := by
  cases i with
  | bipush => exact sm_bipush hF hG hA hC hJ hS hst h hφ hd hk hr kk
  | sipush => exact sm_sipush hF hG hA hC hJ hS hst h hφ hd hk hr kk
  | aconst_null => exact sm_aconst_null hF hG hA hC hJ hS hst h hφ hd hk hr kk
  | ldc => exact sm_ldc hF hG hA hC hJ hS hst h hφ hd hk hr kk
  | iload => exact sm_iload hF hG hA hC hJ hS hst h hφ hd hk hr kk
  | lload => exact sm_lload hF hG hA hC hJ hS hst h hφ hd hk hr kk
  | aload => exact sm_aload hF hG hA hC hJ hS hst h hφ hd hk hr kk
  | istore => exact sm_istore hF hG hA hC hJ hS hst h hφ hd hk hr kk
  | fstore => exact sm_fstore hF hG hA hC hJ hS hst h hφ hd hk hr kk
  | lstore => exact sm_lstore hF hG hA hC hJ hS hst h hφ hd hk hr kk
  | astore => exact sm_astore hF hG hA hC hJ hS hst h hφ hd hk hr kk
  | iinc => exact sm_iinc hF hG hA hC hJ hS hst h hφ hd hk hr kk
  | iadd => exact sm_iadd hF hG hA hC hJ hS hst h hφ hd hk hr kk
  | isub => exact sm_isub hF hG hA hC hJ hS hst h hφ hd hk hr kk
  | imul => exact sm_imul hF hG hA hC hJ hS hst h hφ hd hk hr kk
  | ineg => exact sm_ineg hF hG hA hC hJ hS hst h hφ hd hk hr kk
  | idiv => exact sm_idiv hF hG hA hC hJ hS hst h hφ hd hk hr kk
  | irem => exact sm_irem hF hG hA hC hJ hS hst h hφ hd hk hr kk
  | iand => exact sm_iand hF hG hA hC hJ hS hst h hφ hd hk hr kk
  | ior => exact sm_ior hF hG hA hC hJ hS hst h hφ hd hk hr kk
  | ixor => exact sm_ixor hF hG hA hC hJ hS hst h hφ hd hk hr kk
  | ishl => exact sm_ishl hF hG hA hC hJ hS hst h hφ hd hk hr kk
  | ishr => exact sm_ishr hF hG hA hC hJ hS hst h hφ hd hk hr kk
  | iushr => exact sm_iushr hF hG hA hC hJ hS hst h hφ hd hk hr kk
  | ladd => exact sm_ladd hF hG hA hC hJ hS hst h hφ hd hk hr kk
  | lsub => exact sm_lsub hF hG hA hC hJ hS hst h hφ hd hk hr kk
  | lmul => exact sm_lmul hF hG hA hC hJ hS hst h hφ hd hk hr kk
  | ldiv => exact sm_ldiv hF hG hA hC hJ hS hst h hφ hd hk hr kk
  | i2l => exact sm_i2l hF hG hA hC hJ hS hst h hφ hd hk hr kk
  | l2i => exact sm_l2i hF hG hA hC hJ hS hst h hφ hd hk hr kk
  | i2c => exact sm_i2c hF hG hA hC hJ hS hst h hφ hd hk hr kk
  | lcmp => exact sm_lcmp hF hG hA hC hJ hS hst h hφ hd hk hr kk
  | dup => exact sm_dup hF hG hA hC hJ hS hst h hφ hd hk hr kk
  | dup2 => exact sm_dup2 hF hG hA hC hJ hS hst h hφ hd hk hr kk
  | pop => exact sm_pop hF hG hA hC hJ hS hst h hφ hd hk hr kk
  | getfield => exact sm_getfield hF hG hA hC hJ hS hst h hφ hd hk hr kk
  | putfield => exact sm_putfield hF hG hA hC hJ hS hst h hφ hd hk hr kk
  | dstore => exact sm_dstore hF hG hA hC hJ hS hst h hφ hd hk hr kk
  | putstatic => exact sm_putstatic hF hG hA hC hJ hS hst h hφ hd hk hr kk
  | iaload => exact sm_iaload hF hG hA hC hJ hS hst h hφ hd hk hr kk
  | laload => exact sm_laload hF hG hA hC hJ hS hst h hφ hd hk hr kk
  | baload => exact sm_baload hF hG hA hC hJ hS hst h hφ hd hk hr kk
  | aaload => exact sm_aaload hF hG hA hC hJ hS hst h hφ hd hk hr kk
  | iastore => exact sm_iastore hF hG hA hC hJ hS hst h hφ hd hk hr kk
  | lastore => exact sm_lastore hF hG hA hC hJ hS hst h hφ hd hk hr kk
  | bastore => exact sm_bastore hF hG hA hC hJ hS hst h hφ hd hk hr kk
  | aastore => exact sm_aastore hF hG hA hC hJ hS hst h hφ hd hk hr kk
  | arraylength => exact sm_arraylength hF hG hA hC hJ hS hst h hφ hd hk hr kk
  | newarray => exact sm_newarray hF hG hA hC hJ hS hst h hφ hd hk hr kk
  | anewarray => exact sm_anewarray hF hG hA hC hJ hS hst h hφ hd hk hr kk
  | new => exact sm_new hF hG hA hC hJ hS hst h hφ hd hk hr kk
  | checkcast => exact sm_checkcast hF hG hA hC hJ hS hst h hφ hd hk hr kk
  | invokespecial => exact sm_objInit hF hG hA hC hJ hS hst h hφ hd hk hr kk
  | ret => cases hps
  | getstatic k =>
    match k, h, hk with
    | 0, h, hk => exact sm_getstatic0 hF hG hA hC hJ hS hst h hφ hd hk hr kk
    | 1, h, hk => exact sm_getstatic1 hF hG hA hC hJ hS hst h hφ hd hk hr kk
    | 2, h, hk => exact sm_getstatic2 hF hG hA hC hJ hS hst h hφ hd hk hr kk
    | k + 3, h, hk => exact (show False from hk).elim
  | fload k =>
    match k, h, hk with
    | 0, h, hk => exact sm_fload0 hF hG hA hC hJ hS hst h hφ hd hk hr kk
    | 1, h, hk => exact sm_fload1 hF hG hA hC hJ hS hst h hφ hd hk hr kk
    | k + 2, h, hk => exact (show False from hk).elim
  | invokestatic k =>
    match k, h, hk with
    | 0, h, hk => exact sm_mmin hF hG hA hC hJ hS hst h hφ hd hk hr kk
    | 1, h, hk => exact sm_mmax hF hG hA hC hJ hS hst h hφ hd hk hr kk
    | 2, h, hk => exact sm_arraycopy hF hG hA hC hJ hS hst h hφ hd hk hr kk
    | 3, h, hk => exact sm_clone hF hG hA hC hJ hS hst h hφ hd hk hr kk
    | k + 4, h, hk => exact (show False from hk).elim
  | _ => exact (show False from hk).elim
end SimB
