section Rows
variable {E : ZE} {l : Launch} {d nc ns : Nat} {y : MTH} {pc pc' tgt : Nat} {ls ls' : List (Option Value)} {st : List Value} {μ : ZM} {K : Option Value → ZM → Prop}

theorem aw_iconst {n : Int} {v : Int32} (hd : decode y.2.1 pc = .ok (.iconst n, 1)) (hv : Int32.ofInt n = v) (hp : pc + 1 = pc') (k : AW E l d nc ns y pc' ls (.int v :: st) μ K) : AW E l d nc ns y pc ls (st) μ K := by
  intro p e R s m args below meth c H locs cells slots lsC Q hC hR hO h1 h2 hl hq
  subst hp
  exact lv_iconst hC.1 hC.2.1 hd hv (k p e R s m args below meth c H locs cells slots lsC Q hC hR hO h1 h2 hl hq)

theorem aw_bipush {n : Int} {v : Int32} (hd : decode y.2.1 pc = .ok (.bipush n, 2)) (hv : (Int8.ofInt n).toInt32 = v) (hp : pc + 2 = pc') (k : AW E l d nc ns y pc' ls (.int v :: st) μ K) : AW E l d nc ns y pc ls (st) μ K := by
  intro p e R s m args below meth c H locs cells slots lsC Q hC hR hO h1 h2 hl hq
  subst hp
  exact lv_bipush hC.1 hC.2.1 hd hv (k p e R s m args below meth c H locs cells slots lsC Q hC hR hO h1 h2 hl hq)

theorem aw_sipush {n : Int} {v : Int32} (hd : decode y.2.1 pc = .ok (.sipush n, 3)) (hv : (Int16.ofInt n).toInt32 = v) (hp : pc + 3 = pc') (k : AW E l d nc ns y pc' ls (.int v :: st) μ K) : AW E l d nc ns y pc ls (st) μ K := by
  intro p e R s m args below meth c H locs cells slots lsC Q hC hR hO h1 h2 hl hq
  subst hp
  exact lv_sipush hC.1 hC.2.1 hd hv (k p e R s m args below meth c H locs cells slots lsC Q hC hR hO h1 h2 hl hq)

theorem aw_lconst {n : Fin 2} {v : Int64} (hd : decode y.2.1 pc = .ok (.lconst n, 1)) (hv : Int64.ofNat (n : Nat) = v) (hp : pc + 1 = pc') (k : AW E l d nc ns y pc' ls (.long v :: st) μ K) : AW E l d nc ns y pc ls (st) μ K := by
  intro p e R s m args below meth c H locs cells slots lsC Q hC hR hO h1 h2 hl hq
  subst hp
  exact lv_lconst hC.1 hC.2.1 hd hv (k p e R s m args below meth c H locs cells slots lsC Q hC hR hO h1 h2 hl hq)

theorem aw_null  (hd : decode y.2.1 pc = .ok (.aconst_null, 1))  (hp : pc + 1 = pc') (k : AW E l d nc ns y pc' ls (.null :: st) μ K) : AW E l d nc ns y pc ls (st) μ K := by
  intro p e R s m args below meth c H locs cells slots lsC Q hC hR hO h1 h2 hl hq
  subst hp
  exact lv_null hC.1 hC.2.1 hd  (k p e R s m args below meth c H locs cells slots lsC Q hC hR hO h1 h2 hl hq)

theorem aw_iadd {x1 x2 : Int32} (hd : decode y.2.1 pc = .ok (.iadd, 1))  (hp : pc + 1 = pc') (k : AW E l d nc ns y pc' ls (.int (x1 + x2) :: st) μ K) : AW E l d nc ns y pc ls (.int x2 :: .int x1 :: st) μ K := by
  intro p e R s m args below meth c H locs cells slots lsC Q hC hR hO h1 h2 hl hq
  subst hp
  exact lv_iadd hC.1 hC.2.1 hd  (k p e R s m args below meth c H locs cells slots lsC Q hC hR hO h1 h2 hl hq)

theorem aw_isub {x1 x2 : Int32} (hd : decode y.2.1 pc = .ok (.isub, 1))  (hp : pc + 1 = pc') (k : AW E l d nc ns y pc' ls (.int (x1 - x2) :: st) μ K) : AW E l d nc ns y pc ls (.int x2 :: .int x1 :: st) μ K := by
  intro p e R s m args below meth c H locs cells slots lsC Q hC hR hO h1 h2 hl hq
  subst hp
  exact lv_isub hC.1 hC.2.1 hd  (k p e R s m args below meth c H locs cells slots lsC Q hC hR hO h1 h2 hl hq)

theorem aw_imul {x1 x2 : Int32} (hd : decode y.2.1 pc = .ok (.imul, 1))  (hp : pc + 1 = pc') (k : AW E l d nc ns y pc' ls (.int (x1 * x2) :: st) μ K) : AW E l d nc ns y pc ls (.int x2 :: .int x1 :: st) μ K := by
  intro p e R s m args below meth c H locs cells slots lsC Q hC hR hO h1 h2 hl hq
  subst hp
  exact lv_imul hC.1 hC.2.1 hd  (k p e R s m args below meth c H locs cells slots lsC Q hC hR hO h1 h2 hl hq)

theorem aw_iand {x1 x2 : Int32} (hd : decode y.2.1 pc = .ok (.iand, 1))  (hp : pc + 1 = pc') (k : AW E l d nc ns y pc' ls (.int (x1 &&& x2) :: st) μ K) : AW E l d nc ns y pc ls (.int x2 :: .int x1 :: st) μ K := by
  intro p e R s m args below meth c H locs cells slots lsC Q hC hR hO h1 h2 hl hq
  subst hp
  exact lv_iand hC.1 hC.2.1 hd  (k p e R s m args below meth c H locs cells slots lsC Q hC hR hO h1 h2 hl hq)

theorem aw_ior {x1 x2 : Int32} (hd : decode y.2.1 pc = .ok (.ior, 1))  (hp : pc + 1 = pc') (k : AW E l d nc ns y pc' ls (.int (x1 ||| x2) :: st) μ K) : AW E l d nc ns y pc ls (.int x2 :: .int x1 :: st) μ K := by
  intro p e R s m args below meth c H locs cells slots lsC Q hC hR hO h1 h2 hl hq
  subst hp
  exact lv_ior hC.1 hC.2.1 hd  (k p e R s m args below meth c H locs cells slots lsC Q hC hR hO h1 h2 hl hq)

theorem aw_ladd {x1 x2 : Int64} (hd : decode y.2.1 pc = .ok (.ladd, 1))  (hp : pc + 1 = pc') (k : AW E l d nc ns y pc' ls (.long (x1 + x2) :: st) μ K) : AW E l d nc ns y pc ls (.long x2 :: .long x1 :: st) μ K := by
  intro p e R s m args below meth c H locs cells slots lsC Q hC hR hO h1 h2 hl hq
  subst hp
  exact lv_ladd hC.1 hC.2.1 hd  (k p e R s m args below meth c H locs cells slots lsC Q hC hR hO h1 h2 hl hq)

theorem aw_lsub {x1 x2 : Int64} (hd : decode y.2.1 pc = .ok (.lsub, 1))  (hp : pc + 1 = pc') (k : AW E l d nc ns y pc' ls (.long (x1 - x2) :: st) μ K) : AW E l d nc ns y pc ls (.long x2 :: .long x1 :: st) μ K := by
  intro p e R s m args below meth c H locs cells slots lsC Q hC hR hO h1 h2 hl hq
  subst hp
  exact lv_lsub hC.1 hC.2.1 hd  (k p e R s m args below meth c H locs cells slots lsC Q hC hR hO h1 h2 hl hq)

theorem aw_lmul {x1 x2 : Int64} (hd : decode y.2.1 pc = .ok (.lmul, 1))  (hp : pc + 1 = pc') (k : AW E l d nc ns y pc' ls (.long (x1 * x2) :: st) μ K) : AW E l d nc ns y pc ls (.long x2 :: .long x1 :: st) μ K := by
  intro p e R s m args below meth c H locs cells slots lsC Q hC hR hO h1 h2 hl hq
  subst hp
  exact lv_lmul hC.1 hC.2.1 hd  (k p e R s m args below meth c H locs cells slots lsC Q hC hR hO h1 h2 hl hq)

theorem aw_idiv {x1 x2 : Int32} (hd : decode y.2.1 pc = .ok (.idiv, 1)) (hne : ¬ x2 = 0) (hp : pc + 1 = pc') (k : AW E l d nc ns y pc' ls (.int (x1 / x2) :: st) μ K) : AW E l d nc ns y pc ls (.int x2 :: .int x1 :: st) μ K := by
  intro p e R s m args below meth c H locs cells slots lsC Q hC hR hO h1 h2 hl hq
  subst hp
  exact lv_idiv hC.1 hC.2.1 hd hne (k p e R s m args below meth c H locs cells slots lsC Q hC hR hO h1 h2 hl hq)

theorem aw_irem {x1 x2 : Int32} (hd : decode y.2.1 pc = .ok (.irem, 1)) (hne : ¬ x2 = 0) (hp : pc + 1 = pc') (k : AW E l d nc ns y pc' ls (.int (x1 - x1 / x2 * x2) :: st) μ K) : AW E l d nc ns y pc ls (.int x2 :: .int x1 :: st) μ K := by
  intro p e R s m args below meth c H locs cells slots lsC Q hC hR hO h1 h2 hl hq
  subst hp
  exact lv_irem hC.1 hC.2.1 hd hne (k p e R s m args below meth c H locs cells slots lsC Q hC hR hO h1 h2 hl hq)

theorem aw_ldiv {x1 x2 : Int64} (hd : decode y.2.1 pc = .ok (.ldiv, 1)) (hne : ¬ x2 = 0) (hp : pc + 1 = pc') (k : AW E l d nc ns y pc' ls (.long (x1 / x2) :: st) μ K) : AW E l d nc ns y pc ls (.long x2 :: .long x1 :: st) μ K := by
  intro p e R s m args below meth c H locs cells slots lsC Q hC hR hO h1 h2 hl hq
  subst hp
  exact lv_ldiv hC.1 hC.2.1 hd hne (k p e R s m args below meth c H locs cells slots lsC Q hC hR hO h1 h2 hl hq)

theorem aw_lrem {x1 x2 : Int64} (hd : decode y.2.1 pc = .ok (.lrem, 1)) (hne : ¬ x2 = 0) (hp : pc + 1 = pc') (k : AW E l d nc ns y pc' ls (.long (x1 - x1 / x2 * x2) :: st) μ K) : AW E l d nc ns y pc ls (.long x2 :: .long x1 :: st) μ K := by
  intro p e R s m args below meth c H locs cells slots lsC Q hC hR hO h1 h2 hl hq
  subst hp
  exact lv_lrem hC.1 hC.2.1 hd hne (k p e R s m args below meth c H locs cells slots lsC Q hC hR hO h1 h2 hl hq)

theorem aw_ineg {x1 : Int32} (hd : decode y.2.1 pc = .ok (.ineg, 1))  (hp : pc + 1 = pc') (k : AW E l d nc ns y pc' ls (.int (-x1) :: st) μ K) : AW E l d nc ns y pc ls (.int x1 :: st) μ K := by
  intro p e R s m args below meth c H locs cells slots lsC Q hC hR hO h1 h2 hl hq
  subst hp
  exact lv_ineg hC.1 hC.2.1 hd  (k p e R s m args below meth c H locs cells slots lsC Q hC hR hO h1 h2 hl hq)

theorem aw_ishl {x1 x2 : Int32} (hd : decode y.2.1 pc = .ok (.ishl, 1))  (hp : pc + 1 = pc') (k : AW E l d nc ns y pc' ls (.int (x1 <<< (x2 &&& 31)) :: st) μ K) : AW E l d nc ns y pc ls (.int x2 :: .int x1 :: st) μ K := by
  intro p e R s m args below meth c H locs cells slots lsC Q hC hR hO h1 h2 hl hq
  subst hp
  exact lv_ishl hC.1 hC.2.1 hd  (k p e R s m args below meth c H locs cells slots lsC Q hC hR hO h1 h2 hl hq)

theorem aw_ishr {x1 x2 : Int32} (hd : decode y.2.1 pc = .ok (.ishr, 1))  (hp : pc + 1 = pc') (k : AW E l d nc ns y pc' ls (.int (x1 >>> (x2 &&& 31)) :: st) μ K) : AW E l d nc ns y pc ls (.int x2 :: .int x1 :: st) μ K := by
  intro p e R s m args below meth c H locs cells slots lsC Q hC hR hO h1 h2 hl hq
  subst hp
  exact lv_ishr hC.1 hC.2.1 hd  (k p e R s m args below meth c H locs cells slots lsC Q hC hR hO h1 h2 hl hq)

theorem aw_iushr {x1 x2 : Int32} (hd : decode y.2.1 pc = .ok (.iushr, 1))  (hp : pc + 1 = pc') (k : AW E l d nc ns y pc' ls (.int (x1.toUInt32 >>> (x2.toUInt32 &&& Int32.toUInt32 31)).toInt32 :: st) μ K) : AW E l d nc ns y pc ls (.int x2 :: .int x1 :: st) μ K := by
  intro p e R s m args below meth c H locs cells slots lsC Q hC hR hO h1 h2 hl hq
  subst hp
  exact lv_iushr hC.1 hC.2.1 hd rfl (k p e R s m args below meth c H locs cells slots lsC Q hC hR hO h1 h2 hl hq)

theorem aw_i2l {x1 : Int32} (hd : decode y.2.1 pc = .ok (.i2l, 1))  (hp : pc + 1 = pc') (k : AW E l d nc ns y pc' ls (.long x1.toInt64 :: st) μ K) : AW E l d nc ns y pc ls (.int x1 :: st) μ K := by
  intro p e R s m args below meth c H locs cells slots lsC Q hC hR hO h1 h2 hl hq
  subst hp
  exact lv_i2l hC.1 hC.2.1 hd rfl (k p e R s m args below meth c H locs cells slots lsC Q hC hR hO h1 h2 hl hq)

theorem aw_l2i {x1 : Int64} (hd : decode y.2.1 pc = .ok (.l2i, 1))  (hp : pc + 1 = pc') (k : AW E l d nc ns y pc' ls (.int x1.toInt32 :: st) μ K) : AW E l d nc ns y pc ls (.long x1 :: st) μ K := by
  intro p e R s m args below meth c H locs cells slots lsC Q hC hR hO h1 h2 hl hq
  subst hp
  exact lv_l2i hC.1 hC.2.1 hd rfl (k p e R s m args below meth c H locs cells slots lsC Q hC hR hO h1 h2 hl hq)

theorem aw_i2b {x1 : Int32} (hd : decode y.2.1 pc = .ok (.i2b, 1))  (hp : pc + 1 = pc') (k : AW E l d nc ns y pc' ls (.int x1.toInt8.toInt32 :: st) μ K) : AW E l d nc ns y pc ls (.int x1 :: st) μ K := by
  intro p e R s m args below meth c H locs cells slots lsC Q hC hR hO h1 h2 hl hq
  subst hp
  exact lv_i2b hC.1 hC.2.1 hd rfl (k p e R s m args below meth c H locs cells slots lsC Q hC hR hO h1 h2 hl hq)

theorem aw_i2c {x1 : Int32} (hd : decode y.2.1 pc = .ok (.i2c, 1))  (hp : pc + 1 = pc') (k : AW E l d nc ns y pc' ls (.int (x1.toUInt32 % 65536).toInt32 :: st) μ K) : AW E l d nc ns y pc ls (.int x1 :: st) μ K := by
  intro p e R s m args below meth c H locs cells slots lsC Q hC hR hO h1 h2 hl hq
  subst hp
  exact lv_i2c hC.1 hC.2.1 hd rfl (k p e R s m args below meth c H locs cells slots lsC Q hC hR hO h1 h2 hl hq)

theorem aw_lcmp {x1 x2 : Int64} (hd : decode y.2.1 pc = .ok (.lcmp, 1))  (hp : pc + 1 = pc') (k : AW E l d nc ns y pc' ls (.int (lg_cmp x1 x2) :: st) μ K) : AW E l d nc ns y pc ls (.long x2 :: .long x1 :: st) μ K := by
  intro p e R s m args below meth c H locs cells slots lsC Q hC hR hO h1 h2 hl hq
  subst hp
  exact W.lcmp hC.1 hC.2.1 hd  (k p e R s m args below meth c H locs cells slots lsC Q hC hR hO h1 h2 hl hq)

theorem aw_dup {v : Value} (hd : decode y.2.1 pc = .ok (.dup, 1)) (hv : v.category = 1) (hp : pc + 1 = pc') (k : AW E l d nc ns y pc' ls (v :: v :: st) μ K) : AW E l d nc ns y pc ls (v :: st) μ K := by
  intro p e R s m args below meth c H locs cells slots lsC Q hC hR hO h1 h2 hl hq
  subst hp
  exact lv_dup hC.1 hC.2.1 hd ((zv_cat E v).trans hv) (k p e R s m args below meth c H locs cells slots lsC Q hC hR hO h1 h2 hl hq)

theorem aw_pop {v : Value} (hd : decode y.2.1 pc = .ok (.pop, 1)) (hv : v.category = 1) (hp : pc + 1 = pc') (k : AW E l d nc ns y pc' ls (st) μ K) : AW E l d nc ns y pc ls (v :: st) μ K := by
  intro p e R s m args below meth c H locs cells slots lsC Q hC hR hO h1 h2 hl hq
  subst hp
  exact lv_pop hC.1 hC.2.1 hd ((zv_cat E v).trans hv) (k p e R s m args below meth c H locs cells slots lsC Q hC hR hO h1 h2 hl hq)

theorem aw_dup2 {v w : Value} (hd : decode y.2.1 pc = .ok (.dup2, 1)) (hv : v.category = 1) (hw : w.category = 1) (hp : pc + 1 = pc') (k : AW E l d nc ns y pc' ls (v :: w :: v :: w :: st) μ K) : AW E l d nc ns y pc ls (v :: w :: st) μ K := by
  intro p e R s m args below meth c H locs cells slots lsC Q hC hR hO h1 h2 hl hq
  subst hp
  exact lv_dup2_11 hC.1 hC.2.1 hd ((zv_cat E v).trans hv) ((zv_cat E w).trans hw) (k p e R s m args below meth c H locs cells slots lsC Q hC hR hO h1 h2 hl hq)

theorem aw_iload_n {i : Fin 4} {x1 : Int32} (hd : decode y.2.1 pc = .ok (.iload_n i, 1)) (hx : ls[(i : Nat)]? = some (some (.int x1))) (hp : pc + 1 = pc') (k : AW E l d nc ns y pc' ls (.int x1 :: st) μ K) : AW E l d nc ns y pc ls st μ K := by
  intro p e R s m args below meth c H locs cells slots lsC Q hC hR hO h1 h2 hl hq
  subst hp
  exact lv_iload_n hC.1 hC.2.1 hd rfl (zLv_at hl hx) (k p e R s m args below meth c H locs cells slots lsC Q hC hR hO h1 h2 hl hq)
theorem aw_iload {i : Nat} {x1 : Int32} (hd : decode y.2.1 pc = .ok (.iload i, 2)) (hx : ls[i]? = some (some (.int x1))) (hp : pc + 2 = pc') (k : AW E l d nc ns y pc' ls (.int x1 :: st) μ K) : AW E l d nc ns y pc ls st μ K := by
  intro p e R s m args below meth c H locs cells slots lsC Q hC hR hO h1 h2 hl hq
  subst hp
  exact lv_iload hC.1 hC.2.1 hd (zLv_at hl hx) (k p e R s m args below meth c H locs cells slots lsC Q hC hR hO h1 h2 hl hq)

theorem aw_lload_n {i : Fin 4} {x1 : Int64} (hd : decode y.2.1 pc = .ok (.lload_n i, 1)) (hx : ls[(i : Nat)]? = some (some (.long x1))) (hp : pc + 1 = pc') (k : AW E l d nc ns y pc' ls (.long x1 :: st) μ K) : AW E l d nc ns y pc ls st μ K := by
  intro p e R s m args below meth c H locs cells slots lsC Q hC hR hO h1 h2 hl hq
  subst hp
  exact lv_lload_n hC.1 hC.2.1 hd rfl (zLv_at hl hx) (k p e R s m args below meth c H locs cells slots lsC Q hC hR hO h1 h2 hl hq)
theorem aw_lload {i : Nat} {x1 : Int64} (hd : decode y.2.1 pc = .ok (.lload i, 2)) (hx : ls[i]? = some (some (.long x1))) (hp : pc + 2 = pc') (k : AW E l d nc ns y pc' ls (.long x1 :: st) μ K) : AW E l d nc ns y pc ls st μ K := by
  intro p e R s m args below meth c H locs cells slots lsC Q hC hR hO h1 h2 hl hq
  subst hp
  exact lv_lload hC.1 hC.2.1 hd (zLv_at hl hx) (k p e R s m args below meth c H locs cells slots lsC Q hC hR hO h1 h2 hl hq)

theorem aw_aload_n {i : Fin 4} {x1 : Nat} (hd : decode y.2.1 pc = .ok (.aload_n i, 1)) (hx : ls[(i : Nat)]? = some (some (.ref x1))) (hp : pc + 1 = pc') (k : AW E l d nc ns y pc' ls (.ref x1 :: st) μ K) : AW E l d nc ns y pc ls st μ K := by
  intro p e R s m args below meth c H locs cells slots lsC Q hC hR hO h1 h2 hl hq
  subst hp
  exact lv_aload_n hC.1 hC.2.1 hd rfl (zLv_at hl hx) (k p e R s m args below meth c H locs cells slots lsC Q hC hR hO h1 h2 hl hq)
theorem aw_aload {i : Nat} {x1 : Nat} (hd : decode y.2.1 pc = .ok (.aload i, 2)) (hx : ls[i]? = some (some (.ref x1))) (hp : pc + 2 = pc') (k : AW E l d nc ns y pc' ls (.ref x1 :: st) μ K) : AW E l d nc ns y pc ls st μ K := by
  intro p e R s m args below meth c H locs cells slots lsC Q hC hR hO h1 h2 hl hq
  subst hp
  exact lv_aload hC.1 hC.2.1 hd (zLv_at hl hx) (k p e R s m args below meth c H locs cells slots lsC Q hC hR hO h1 h2 hl hq)

theorem aw_aload_nN {i : Fin 4} (hd : decode y.2.1 pc = .ok (.aload_n i, 1)) (hx : ls[(i : Nat)]? = some (some .null)) (hp : pc + 1 = pc') (k : AW E l d nc ns y pc' ls (.null :: st) μ K) : AW E l d nc ns y pc ls st μ K := by
  intro p e R s m args below meth c H locs cells slots lsC Q hC hR hO h1 h2 hl hq
  subst hp
  exact lv_aload_nN hC.1 hC.2.1 hd rfl (zLv_at hl hx) (k p e R s m args below meth c H locs cells slots lsC Q hC hR hO h1 h2 hl hq)
theorem aw_aloadN {i : Nat} (hd : decode y.2.1 pc = .ok (.aload i, 2)) (hx : ls[i]? = some (some .null)) (hp : pc + 2 = pc') (k : AW E l d nc ns y pc' ls (.null :: st) μ K) : AW E l d nc ns y pc ls st μ K := by
  intro p e R s m args below meth c H locs cells slots lsC Q hC hR hO h1 h2 hl hq
  subst hp
  exact lv_aloadN hC.1 hC.2.1 hd (zLv_at hl hx) (k p e R s m args below meth c H locs cells slots lsC Q hC hR hO h1 h2 hl hq)

theorem aw_istore_n {i : Fin 4} {x1 : Int32} (hd : decode y.2.1 pc = .ok (.istore_n i, 1)) (hn : (i : Nat) < y.2.2.1) (hs : zset1 ls i (.int x1) = ls') (hp : pc + 1 = pc') (k : AW E l d nc ns y pc' ls' st μ K) : AW E l d nc ns y pc ls (.int x1 :: st) μ K := by
  intro p e R s m args below meth c H locs cells slots lsC Q hC hR hO h1 h2 hl hq
  subst hp
  subst hs
  exact lv_istore_n hC.1 hC.2.1 hd rfl (zLv_has.mp hl) hn rfl (fun ls2 h => k p e R s m args below meth c H locs cells slots ls2 Q hC hR hO h1 h2 (zLv_one h) hq)
theorem aw_istore {i : Nat} {x1 : Int32} (hd : decode y.2.1 pc = .ok (.istore i, 2)) (hn : i < y.2.2.1) (hs : zset1 ls i (.int x1) = ls') (hp : pc + 2 = pc') (k : AW E l d nc ns y pc' ls' st μ K) : AW E l d nc ns y pc ls (.int x1 :: st) μ K := by
  intro p e R s m args below meth c H locs cells slots lsC Q hC hR hO h1 h2 hl hq
  subst hp
  subst hs
  exact lv_istore hC.1 hC.2.1 hd (zLv_has.mp hl) hn rfl (fun ls2 h => k p e R s m args below meth c H locs cells slots ls2 Q hC hR hO h1 h2 (zLv_one h) hq)

theorem aw_lstore_n {i : Fin 4} {x1 : Int64} (hd : decode y.2.1 pc = .ok (.lstore_n i, 1)) (hn : (i : Nat) + 1 < y.2.2.1) (hs : zset2 ls i (.long x1) = ls') (hp : pc + 1 = pc') (k : AW E l d nc ns y pc' ls' st μ K) : AW E l d nc ns y pc ls (.long x1 :: st) μ K := by
  intro p e R s m args below meth c H locs cells slots lsC Q hC hR hO h1 h2 hl hq
  subst hp
  subst hs
  exact lv_lstore_n hC.1 hC.2.1 hd rfl (zLv_has.mp hl) hn rfl (fun ls2 h => k p e R s m args below meth c H locs cells slots ls2 Q hC hR hO h1 h2 (zLv_two h) hq)
theorem aw_lstore {i : Nat} {x1 : Int64} (hd : decode y.2.1 pc = .ok (.lstore i, 2)) (hn : i + 1 < y.2.2.1) (hs : zset2 ls i (.long x1) = ls') (hp : pc + 2 = pc') (k : AW E l d nc ns y pc' ls' st μ K) : AW E l d nc ns y pc ls (.long x1 :: st) μ K := by
  intro p e R s m args below meth c H locs cells slots lsC Q hC hR hO h1 h2 hl hq
  subst hp
  subst hs
  exact lv_lstore hC.1 hC.2.1 hd (zLv_has.mp hl) hn rfl (fun ls2 h => k p e R s m args below meth c H locs cells slots ls2 Q hC hR hO h1 h2 (zLv_two h) hq)

theorem aw_astore_n {i : Fin 4} {x1 : Nat} (hd : decode y.2.1 pc = .ok (.astore_n i, 1)) (hn : (i : Nat) < y.2.2.1) (hs : zset1 ls i (.ref x1) = ls') (hp : pc + 1 = pc') (k : AW E l d nc ns y pc' ls' st μ K) : AW E l d nc ns y pc ls (.ref x1 :: st) μ K := by
  intro p e R s m args below meth c H locs cells slots lsC Q hC hR hO h1 h2 hl hq
  subst hp
  subst hs
  exact lv_astore_n hC.1 hC.2.1 hd rfl (zLv_has.mp hl) hn rfl (fun ls2 h => k p e R s m args below meth c H locs cells slots ls2 Q hC hR hO h1 h2 (zLv_one h) hq)
theorem aw_astore {i : Nat} {x1 : Nat} (hd : decode y.2.1 pc = .ok (.astore i, 2)) (hn : i < y.2.2.1) (hs : zset1 ls i (.ref x1) = ls') (hp : pc + 2 = pc') (k : AW E l d nc ns y pc' ls' st μ K) : AW E l d nc ns y pc ls (.ref x1 :: st) μ K := by
  intro p e R s m args below meth c H locs cells slots lsC Q hC hR hO h1 h2 hl hq
  subst hp
  subst hs
  exact lv_astore hC.1 hC.2.1 hd (zLv_has.mp hl) hn rfl (fun ls2 h => k p e R s m args below meth c H locs cells slots ls2 Q hC hR hO h1 h2 (zLv_one h) hq)

theorem aw_astore_nN {i : Fin 4}  (hd : decode y.2.1 pc = .ok (.astore_n i, 1)) (hn : (i : Nat) < y.2.2.1) (hs : zset1 ls i (.null) = ls') (hp : pc + 1 = pc') (k : AW E l d nc ns y pc' ls' st μ K) : AW E l d nc ns y pc ls (.null :: st) μ K := by
  intro p e R s m args below meth c H locs cells slots lsC Q hC hR hO h1 h2 hl hq
  subst hp
  subst hs
  exact lv_astore_nN hC.1 hC.2.1 hd rfl (zLv_has.mp hl) hn rfl (fun ls2 h => k p e R s m args below meth c H locs cells slots ls2 Q hC hR hO h1 h2 (zLv_one h) hq)
theorem aw_astoreN {i : Nat}  (hd : decode y.2.1 pc = .ok (.astore i, 2)) (hn : i < y.2.2.1) (hs : zset1 ls i (.null) = ls') (hp : pc + 2 = pc') (k : AW E l d nc ns y pc' ls' st μ K) : AW E l d nc ns y pc ls (.null :: st) μ K := by
  intro p e R s m args below meth c H locs cells slots lsC Q hC hR hO h1 h2 hl hq
  subst hp
  subst hs
  exact lv_astoreN hC.1 hC.2.1 hd (zLv_has.mp hl) hn rfl (fun ls2 h => k p e R s m args below meth c H locs cells slots ls2 Q hC hR hO h1 h2 (zLv_one h) hq)

theorem aw_iinc {i : Nat} {n : Int} {x1 v : Int32} (hd : decode y.2.1 pc = .ok (.iinc i n, 3)) (hx : ls[i]? = some (some (.int x1))) (hv : Int32.ofInt n = v) (hn : i < y.2.2.1) (hs : zset1 ls i (.int (x1 + v)) = ls') (hp : pc + 3 = pc') (k : AW E l d nc ns y pc' ls' st μ K) : AW E l d nc ns y pc ls st μ K := by
  intro p e R s m args below meth c H locs cells slots lsC Q hC hR hO h1 h2 hl hq
  subst hp
  subst hs
  subst hv
  obtain ⟨k0, hk0⟩ := List.getElem?_of_mem (zAs_mem (E := E).mpr ⟨.int x1, hx, rfl⟩)
  exact lv_iinc hC.1 hC.2.1 hd (zLv_has.mp hl) hk0 rfl hn rfl (fun ls2 h => k p e R s m args below meth c H locs cells slots ls2 Q hC hR hO h1 h2 (zLv_one (v := .int (x1 + Int32.ofInt n)) h) hq)

theorem aw_icmp_eq {x1 x2 : Int32} {off : Int} (hd : decode y.2.1 pc = .ok (.if_icmp .eq off, 3)) (ht : (pc : Int) + off = (tgt : Int)) (hp : pc + 3 = pc') (kt : x1 = x2 → AW E l d nc ns y tgt ls st μ K) (kf : ¬ x1 = x2 → AW E l d nc ns y pc' ls st μ K) : AW E l d nc ns y pc ls (.int x2 :: .int x1 :: st) μ K := by
  intro p e R s m args below meth c H locs cells slots lsC Q hC hR hO h1 h2 hl hq
  subst hp
  exact lv_icmp_eq hC.1 hC.2.1 hd ht (fun q => kt q p e R s m args below meth c H locs cells slots lsC Q hC hR hO h1 h2 hl hq) (fun q => kf q p e R s m args below meth c H locs cells slots lsC Q hC hR hO h1 h2 hl hq)

theorem aw_icmp_ne {x1 x2 : Int32} {off : Int} (hd : decode y.2.1 pc = .ok (.if_icmp .ne off, 3)) (ht : (pc : Int) + off = (tgt : Int)) (hp : pc + 3 = pc') (kt : ¬ x1 = x2 → AW E l d nc ns y tgt ls st μ K) (kf : x1 = x2 → AW E l d nc ns y pc' ls st μ K) : AW E l d nc ns y pc ls (.int x2 :: .int x1 :: st) μ K := by
  intro p e R s m args below meth c H locs cells slots lsC Q hC hR hO h1 h2 hl hq
  subst hp
  exact lv_icmp_ne hC.1 hC.2.1 hd ht (fun q => kt q p e R s m args below meth c H locs cells slots lsC Q hC hR hO h1 h2 hl hq) (fun q => kf q p e R s m args below meth c H locs cells slots lsC Q hC hR hO h1 h2 hl hq)

theorem aw_icmp_lt {x1 x2 : Int32} {off : Int} (hd : decode y.2.1 pc = .ok (.if_icmp .lt off, 3)) (ht : (pc : Int) + off = (tgt : Int)) (hp : pc + 3 = pc') (kt : x1 < x2 → AW E l d nc ns y tgt ls st μ K) (kf : ¬ x1 < x2 → AW E l d nc ns y pc' ls st μ K) : AW E l d nc ns y pc ls (.int x2 :: .int x1 :: st) μ K := by
  intro p e R s m args below meth c H locs cells slots lsC Q hC hR hO h1 h2 hl hq
  subst hp
  exact lv_icmp_lt hC.1 hC.2.1 hd ht (fun q => kt q p e R s m args below meth c H locs cells slots lsC Q hC hR hO h1 h2 hl hq) (fun q => kf q p e R s m args below meth c H locs cells slots lsC Q hC hR hO h1 h2 hl hq)

theorem aw_icmp_ge {x1 x2 : Int32} {off : Int} (hd : decode y.2.1 pc = .ok (.if_icmp .ge off, 3)) (ht : (pc : Int) + off = (tgt : Int)) (hp : pc + 3 = pc') (kt : x2 ≤ x1 → AW E l d nc ns y tgt ls st μ K) (kf : ¬ x2 ≤ x1 → AW E l d nc ns y pc' ls st μ K) : AW E l d nc ns y pc ls (.int x2 :: .int x1 :: st) μ K := by
  intro p e R s m args below meth c H locs cells slots lsC Q hC hR hO h1 h2 hl hq
  subst hp
  exact lv_icmp_ge hC.1 hC.2.1 hd ht (fun q => kt q p e R s m args below meth c H locs cells slots lsC Q hC hR hO h1 h2 hl hq) (fun q => kf q p e R s m args below meth c H locs cells slots lsC Q hC hR hO h1 h2 hl hq)

theorem aw_icmp_gt {x1 x2 : Int32} {off : Int} (hd : decode y.2.1 pc = .ok (.if_icmp .gt off, 3)) (ht : (pc : Int) + off = (tgt : Int)) (hp : pc + 3 = pc') (kt : x2 < x1 → AW E l d nc ns y tgt ls st μ K) (kf : ¬ x2 < x1 → AW E l d nc ns y pc' ls st μ K) : AW E l d nc ns y pc ls (.int x2 :: .int x1 :: st) μ K := by
  intro p e R s m args below meth c H locs cells slots lsC Q hC hR hO h1 h2 hl hq
  subst hp
  exact lv_icmp_gt hC.1 hC.2.1 hd ht (fun q => kt q p e R s m args below meth c H locs cells slots lsC Q hC hR hO h1 h2 hl hq) (fun q => kf q p e R s m args below meth c H locs cells slots lsC Q hC hR hO h1 h2 hl hq)

theorem aw_icmp_le {x1 x2 : Int32} {off : Int} (hd : decode y.2.1 pc = .ok (.if_icmp .le off, 3)) (ht : (pc : Int) + off = (tgt : Int)) (hp : pc + 3 = pc') (kt : x1 ≤ x2 → AW E l d nc ns y tgt ls st μ K) (kf : ¬ x1 ≤ x2 → AW E l d nc ns y pc' ls st μ K) : AW E l d nc ns y pc ls (.int x2 :: .int x1 :: st) μ K := by
  intro p e R s m args below meth c H locs cells slots lsC Q hC hR hO h1 h2 hl hq
  subst hp
  exact lv_icmp_le hC.1 hC.2.1 hd ht (fun q => kt q p e R s m args below meth c H locs cells slots lsC Q hC hR hO h1 h2 hl hq) (fun q => kf q p e R s m args below meth c H locs cells slots lsC Q hC hR hO h1 h2 hl hq)

theorem aw_if_eq {x1 : Int32} {off : Int} (hd : decode y.2.1 pc = .ok (.ifCond .eq off, 3)) (ht : (pc : Int) + off = (tgt : Int)) (hp : pc + 3 = pc') (kt : x1 = 0 → AW E l d nc ns y tgt ls st μ K) (kf : ¬ x1 = 0 → AW E l d nc ns y pc' ls st μ K) : AW E l d nc ns y pc ls (.int x1 :: st) μ K := by
  intro p e R s m args below meth c H locs cells slots lsC Q hC hR hO h1 h2 hl hq
  subst hp
  exact lv_if_eq hC.1 hC.2.1 hd ht (fun q => kt q p e R s m args below meth c H locs cells slots lsC Q hC hR hO h1 h2 hl hq) (fun q => kf q p e R s m args below meth c H locs cells slots lsC Q hC hR hO h1 h2 hl hq)

theorem aw_if_ne {x1 : Int32} {off : Int} (hd : decode y.2.1 pc = .ok (.ifCond .ne off, 3)) (ht : (pc : Int) + off = (tgt : Int)) (hp : pc + 3 = pc') (kt : ¬ x1 = 0 → AW E l d nc ns y tgt ls st μ K) (kf : x1 = 0 → AW E l d nc ns y pc' ls st μ K) : AW E l d nc ns y pc ls (.int x1 :: st) μ K := by
  intro p e R s m args below meth c H locs cells slots lsC Q hC hR hO h1 h2 hl hq
  subst hp
  exact lv_if_ne hC.1 hC.2.1 hd ht (fun q => kt q p e R s m args below meth c H locs cells slots lsC Q hC hR hO h1 h2 hl hq) (fun q => kf q p e R s m args below meth c H locs cells slots lsC Q hC hR hO h1 h2 hl hq)

theorem aw_if_lt {x1 : Int32} {off : Int} (hd : decode y.2.1 pc = .ok (.ifCond .lt off, 3)) (ht : (pc : Int) + off = (tgt : Int)) (hp : pc + 3 = pc') (kt : x1 < 0 → AW E l d nc ns y tgt ls st μ K) (kf : ¬ x1 < 0 → AW E l d nc ns y pc' ls st μ K) : AW E l d nc ns y pc ls (.int x1 :: st) μ K := by
  intro p e R s m args below meth c H locs cells slots lsC Q hC hR hO h1 h2 hl hq
  subst hp
  exact lv_if_lt hC.1 hC.2.1 hd ht (fun q => kt q p e R s m args below meth c H locs cells slots lsC Q hC hR hO h1 h2 hl hq) (fun q => kf q p e R s m args below meth c H locs cells slots lsC Q hC hR hO h1 h2 hl hq)

theorem aw_if_ge {x1 : Int32} {off : Int} (hd : decode y.2.1 pc = .ok (.ifCond .ge off, 3)) (ht : (pc : Int) + off = (tgt : Int)) (hp : pc + 3 = pc') (kt : 0 ≤ x1 → AW E l d nc ns y tgt ls st μ K) (kf : ¬ 0 ≤ x1 → AW E l d nc ns y pc' ls st μ K) : AW E l d nc ns y pc ls (.int x1 :: st) μ K := by
  intro p e R s m args below meth c H locs cells slots lsC Q hC hR hO h1 h2 hl hq
  subst hp
  exact lv_if_ge hC.1 hC.2.1 hd ht (fun q => kt q p e R s m args below meth c H locs cells slots lsC Q hC hR hO h1 h2 hl hq) (fun q => kf q p e R s m args below meth c H locs cells slots lsC Q hC hR hO h1 h2 hl hq)

theorem aw_if_gt {x1 : Int32} {off : Int} (hd : decode y.2.1 pc = .ok (.ifCond .gt off, 3)) (ht : (pc : Int) + off = (tgt : Int)) (hp : pc + 3 = pc') (kt : 0 < x1 → AW E l d nc ns y tgt ls st μ K) (kf : ¬ 0 < x1 → AW E l d nc ns y pc' ls st μ K) : AW E l d nc ns y pc ls (.int x1 :: st) μ K := by
  intro p e R s m args below meth c H locs cells slots lsC Q hC hR hO h1 h2 hl hq
  subst hp
  exact lv_if_gt hC.1 hC.2.1 hd ht (fun q => kt q p e R s m args below meth c H locs cells slots lsC Q hC hR hO h1 h2 hl hq) (fun q => kf q p e R s m args below meth c H locs cells slots lsC Q hC hR hO h1 h2 hl hq)

theorem aw_if_le {x1 : Int32} {off : Int} (hd : decode y.2.1 pc = .ok (.ifCond .le off, 3)) (ht : (pc : Int) + off = (tgt : Int)) (hp : pc + 3 = pc') (kt : x1 ≤ 0 → AW E l d nc ns y tgt ls st μ K) (kf : ¬ x1 ≤ 0 → AW E l d nc ns y pc' ls st μ K) : AW E l d nc ns y pc ls (.int x1 :: st) μ K := by
  intro p e R s m args below meth c H locs cells slots lsC Q hC hR hO h1 h2 hl hq
  subst hp
  exact lv_if_le hC.1 hC.2.1 hd ht (fun q => kt q p e R s m args below meth c H locs cells slots lsC Q hC hR hO h1 h2 hl hq) (fun q => kf q p e R s m args below meth c H locs cells slots lsC Q hC hR hO h1 h2 hl hq)

theorem aw_goto {off : Int} (hd : decode y.2.1 pc = .ok (.goto off, 3)) (ht : (pc : Int) + off = (tgt : Int)) (k : AW E l d nc ns y tgt ls st μ K) : AW E l d nc ns y pc ls st μ K := by
  intro p e R s m args below meth c H locs cells slots lsC Q hC hR hO h1 h2 hl hq
  exact lv_goto hC.1 hC.2.1 hd ht (k p e R s m args below meth c H locs cells slots lsC Q hC hR hO h1 h2 hl hq)
theorem aw_ifnull {a : Nat} {off : Int} (hd : decode y.2.1 pc = .ok (.ifnull off, 3)) (hp : pc + 3 = pc') (k : AW E l d nc ns y pc' ls st μ K) : AW E l d nc ns y pc ls (.ref a :: st) μ K := by
  intro p e R s m args below meth c H locs cells slots lsC Q hC hR hO h1 h2 hl hq
  subst hp
  exact lv_ifnull hC.1 hC.2.1 hd (k p e R s m args below meth c H locs cells slots lsC Q hC hR hO h1 h2 hl hq)
theorem aw_ifnullN {off : Int} (hd : decode y.2.1 pc = .ok (.ifnull off, 3)) (ht : (pc : Int) + off = (tgt : Int)) (k : AW E l d nc ns y tgt ls st μ K) : AW E l d nc ns y pc ls (.null :: st) μ K := by
  intro p e R s m args below meth c H locs cells slots lsC Q hC hR hO h1 h2 hl hq
  exact lv_ifnullN hC.1 hC.2.1 hd ht (k p e R s m args below meth c H locs cells slots lsC Q hC hR hO h1 h2 hl hq)
theorem aw_ifnonnull {a : Nat} {off : Int} (hd : decode y.2.1 pc = .ok (.ifnonnull off, 3)) (ht : (pc : Int) + off = (tgt : Int)) (k : AW E l d nc ns y tgt ls st μ K) : AW E l d nc ns y pc ls (.ref a :: st) μ K := by
  intro p e R s m args below meth c H locs cells slots lsC Q hC hR hO h1 h2 hl hq
  exact lv_ifnonnull hC.1 hC.2.1 hd ht (k p e R s m args below meth c H locs cells slots lsC Q hC hR hO h1 h2 hl hq)
theorem aw_ifnonnullN {off : Int} (hd : decode y.2.1 pc = .ok (.ifnonnull off, 3)) (hp : pc + 3 = pc') (k : AW E l d nc ns y pc' ls st μ K) : AW E l d nc ns y pc ls (.null :: st) μ K := by
  intro p e R s m args below meth c H locs cells slots lsC Q hC hR hO h1 h2 hl hq
  subst hp
  exact lv_ifnonnullN hC.1 hC.2.1 hd (k p e R s m args below meth c H locs cells slots lsC Q hC hR hO h1 h2 hl hq)
/-- two references, of new cells -/
theorem aw_acmp_ne {a b : Nat} {off : Int} (hd : decode y.2.1 pc = .ok (.if_acmp .ne off, 3)) (ht : (pc : Int) + off = (tgt : Int)) (hp : pc + 3 = pc') (ha : 11 ≤ a) (hb : 11 ≤ b) (kt : ¬ a = b → AW E l d nc ns y tgt ls st μ K) (kf : a = b → AW E l d nc ns y pc' ls st μ K) : AW E l d nc ns y pc ls (.ref b :: .ref a :: st) μ K := by
  intro p e R s m args below meth c H locs cells slots lsC Q hC hR hO h1 h2 hl hq
  subst hp
  refine lv_acmp_ne (rx := some (phi E a)) (ry := some (phi E b)) hC.1 hC.2.1 hd ht (fun q => kt (fun e => q (by rw [e])) p e R s m args below meth c H locs cells slots lsC Q hC hR hO h1 h2 hl hq) (fun q => kf ?_ p e R s m args below meth c H locs cells slots lsC Q hC hR hO h1 h2 hl hq)
  have q1 : phi E a = phi E b := Option.some.inj q
  rw [phi_ge ha, phi_ge hb] at q1
  omega
theorem aw_acmp_eq {a b : Nat} {off : Int} (hd : decode y.2.1 pc = .ok (.if_acmp .eq off, 3)) (ht : (pc : Int) + off = (tgt : Int)) (hp : pc + 3 = pc') (ha : 11 ≤ a) (hb : 11 ≤ b) (kt : a = b → AW E l d nc ns y tgt ls st μ K) (kf : ¬ a = b → AW E l d nc ns y pc' ls st μ K) : AW E l d nc ns y pc ls (.ref b :: .ref a :: st) μ K := by
  intro p e R s m args below meth c H locs cells slots lsC Q hC hR hO h1 h2 hl hq
  subst hp
  refine lv_acmp_eq (rx := some (phi E a)) (ry := some (phi E b)) hC.1 hC.2.1 hd ht (fun q => kt ?_ p e R s m args below meth c H locs cells slots lsC Q hC hR hO h1 h2 hl hq) (fun q => kf (fun e => q (by rw [e])) p e R s m args below meth c H locs cells slots lsC Q hC hR hO h1 h2 hl hq)
  have q1 : phi E a = phi E b := Option.some.inj q
  rw [phi_ge ha, phi_ge hb] at q1
  omega
theorem aw_tableOut {dflt lo hi : Int} {offs : Array Int} {len : Nat} {x1 : Int32} (hd : decode y.2.1 pc = .ok (.tableswitch dflt lo hi offs, len)) (h : x1.toInt < lo ∨ hi < x1.toInt) (ht : (pc : Int) + dflt = (tgt : Int)) (k : AW E l d nc ns y tgt ls st μ K) : AW E l d nc ns y pc ls (.int x1 :: st) μ K := by
  intro p e R s m args below meth c H locs cells slots lsC Q hC hR hO h1 h2 hl hq
  exact lv_tableOut hC.1 hC.2.1 hd h ht (k p e R s m args below meth c H locs cells slots lsC Q hC hR hO h1 h2 hl hq)
theorem aw_tableIn {dflt lo hi : Int} {offs : Array Int} {len : Nat} {x1 : Int32} {off : Int} (hd : decode y.2.1 pc = .ok (.tableswitch dflt lo hi offs, len)) (h3 : ¬ x1.toInt < lo) (h4 : ¬ hi < x1.toInt) (ho : offs[(x1.toInt - lo).toNat]? = some off) (ht : (pc : Int) + off = (tgt : Int)) (k : AW E l d nc ns y tgt ls st μ K) : AW E l d nc ns y pc ls (.int x1 :: st) μ K := by
  intro p e R s m args below meth c H locs cells slots lsC Q hC hR hO h1 h2 hl hq
  exact lv_tableIn hC.1 hC.2.1 hd h3 h4 ho ht (k p e R s m args below meth c H locs cells slots lsC Q hC hR hO h1 h2 hl hq)
theorem aw_lookup {dflt : Int} {ps : Array (Int × Int)} {len : Nat} {x1 : Int32} {off : Int} (hd : decode y.2.1 pc = .ok (.lookupswitch dflt ps, len)) (hs : (ps.toList.zip (ps.toList.drop 1)).all (fun (a, next) => a.1 < next.1) = true) (ho : Op.lookupswitch.offset ps.toList dflt x1.toInt = off) (ht : (pc : Int) + off = (tgt : Int)) (k : AW E l d nc ns y tgt ls st μ K) : AW E l d nc ns y pc ls (.int x1 :: st) μ K := by
  intro p e R s m args below meth c H locs cells slots lsC Q hC hR hO h1 h2 hl hq
  exact lv_lookup hC.1 hC.2.1 hd hs ho ht (k p e R s m args below meth c H locs cells slots lsC Q hC hR hO h1 h2 hl hq)
theorem aw_ldc {idx : Nat} {v : Int32} (hd : decode y.2.1 pc = .ok (.ldc idx, 2)) (hw : Cond.constant y.1.cls idx v ∈ tables_1) (hp : pc + 2 = pc') (k : AW E l d nc ns y pc' ls (.int v :: st) μ K) : AW E l d nc ns y pc ls st μ K := by
  intro p e R s m args below meth c H locs cells slots lsC Q hC hR hO h1 h2 hl hq
  subst hp
  exact lv_ldc hC.1 hC.2.1 hC.2.2.2.1 (hC.2.2.2.2.1 _ (List.mem_append_right _ hw) rfl) hd (k p e R s m args below meth c H locs cells slots lsC Q hC hR hO h1 h2 hl hq)
theorem aw_ldcw {idx : Nat} {v : Int32} (hd : decode y.2.1 pc = .ok (.ldc_w idx, 3)) (hw : Cond.constant y.1.cls idx v ∈ tables_1) (hp : pc + 3 = pc') (k : AW E l d nc ns y pc' ls (.int v :: st) μ K) : AW E l d nc ns y pc ls st μ K := by
  intro p e R s m args below meth c H locs cells slots lsC Q hC hR hO h1 h2 hl hq
  subst hp
  exact lv_ldcw hC.1 hC.2.1 hC.2.2.2.1 (hC.2.2.2.2.1 _ (List.mem_append_right _ hw) rfl) hd (k p e R s m args below meth c H locs cells slots lsC Q hC hR hO h1 h2 hl hq)
theorem aw_ldc2 {idx : Nat} {v : Int64} (hd : decode y.2.1 pc = .ok (.ldc2_w idx, 3)) (hw : Cond.constantLong y.1.cls idx v ∈ tables_1) (hp : pc + 3 = pc') (k : AW E l d nc ns y pc' ls (.long v :: st) μ K) : AW E l d nc ns y pc ls st μ K := by
  intro p e R s m args below meth c H locs cells slots lsC Q hC hR hO h1 h2 hl hq
  subst hp
  exact lv_ldc2 hC.1 hC.2.1 hC.2.2.2.1 (hC.2.2.2.2.1 _ (List.mem_append_right _ hw) rfl) hd (k p e R s m args below meth c H locs cells slots lsC Q hC hR hO h1 h2 hl hq)
theorem aw_ldcS {idx i : Nat} {tx : String} (hd : decode y.2.1 pc = .ok (.ldc idx, 2)) (hw : zStr[i]? = some (y.1.cls, idx, tx)) (hp : pc + 2 = pc') (k : AW E l d nc ns y pc' ls (.ref (i + 1) :: st) μ K) : AW E l d nc ns y pc ls st μ K := by
  intro p e R s m args below meth c H locs cells slots lsC Q hC hR hO h1 h2 hl hq
  subst hp
  exact va_ldcS hC.1 hC.2.1 hC.2.2.2.1 (hC.2.2.2.2.2.1.2.2.2.1 i _ hw) hd (k p e R s m args below meth c H locs cells slots lsC Q hC hR hO h1 h2 hl hq)

theorem aw_iret {x1 : Int32} {ty : FieldType} (hd : decode y.2.1 pc = .ok (.ireturn, 1)) (hr : y.2.2.2 = some ty) (hn : narrow ty (.int x1) = .int x1) (k : K (some (.int x1)) μ) : AW E l d nc ns y pc ls [.int x1] μ K := by
  intro p e R s m args below meth c H locs cells slots lsC Q hC hR hO h1 h2 hl hq
  exact hq (some (.int x1)) μ H locs cells slots pc lsC k hR hO (by omega) (by omega) ⟨ty, hr, hn, hd⟩
theorem aw_lret {x1 : Int64} (hd : decode y.2.1 pc = .ok (.lreturn, 1)) (hr : y.2.2.2 = some .long) (k : K (some (.long x1)) μ) : AW E l d nc ns y pc ls [.long x1] μ K := by
  intro p e R s m args below meth c H locs cells slots lsC Q hC hR hO h1 h2 hl hq
  exact hq (some (.long x1)) μ H locs cells slots pc lsC k hR hO (by omega) (by omega) ⟨hr, hd⟩
theorem aw_aret {a : Nat} {ty : FieldType} (hd : decode y.2.1 pc = .ok (.areturn, 1)) (hr : y.2.2.2 = some ty) (hn : isRf ty = true) (k : K (some (.ref a)) μ) : AW E l d nc ns y pc ls [.ref a] μ K := by
  intro p e R s m args below meth c H locs cells slots lsC Q hC hR hO h1 h2 hl hq
  exact hq (some (.ref a)) μ H locs cells slots pc lsC k hR hO (by omega) (by omega) ⟨ty, hr, hn, hd⟩
theorem aw_aretN {ty : FieldType} (hd : decode y.2.1 pc = .ok (.areturn, 1)) (hr : y.2.2.2 = some ty) (hn : isRf ty = true) (k : K (some .null) μ) : AW E l d nc ns y pc ls [.null] μ K := by
  intro p e R s m args below meth c H locs cells slots lsC Q hC hR hO h1 h2 hl hq
  exact hq (some .null) μ H locs cells slots pc lsC k hR hO (by omega) (by omega) ⟨ty, hr, hn, hd⟩
theorem aw_ret (hd : decode y.2.1 pc = .ok (.return_, 1)) (hr : y.2.2.2 = none) (k : K none μ) : AW E l d nc ns y pc ls [] μ K := by
  intro p e R s m args below meth c H locs cells slots lsC Q hC hR hO h1 h2 hl hq
  exact hq none μ H locs cells slots pc lsC k hR hO (by omega) (by omega) ⟨hr, hd⟩
end Rows
