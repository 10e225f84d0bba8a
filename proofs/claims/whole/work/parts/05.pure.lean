/-! instructions that leave the heap as it is -/
section PURE
variable {m : AM} {d mc ms pc : Nat} {ls st : List Value} {h : AH} {Q : AR → AH → Prop}
theorem aw_iconst {n : Int} {v : Int32} (hd : decode m.2.1 pc = .ok (.iconst n, 1)) (hv : Int32.ofInt n = v) (k : AW m d mc ms (pc + 1) ls (.int v :: st) h Q) : AW m d mc ms pc ls (st) h Q :=
  fun E p l e R s mi args below meth c QQ H locs cells slots lr hF hL hH hc hs hE => lv_iconst hF.1 hF.2.1 hd hv (k E p l e R s mi args below meth c QQ H locs cells slots lr hF hL hH hc hs hE)
theorem aw_bipush {n : Int} {v : Int32} (hd : decode m.2.1 pc = .ok (.bipush n, 2)) (hv : (Int8.ofInt n).toInt32 = v) (k : AW m d mc ms (pc + 2) ls (.int v :: st) h Q) : AW m d mc ms pc ls (st) h Q :=
  fun E p l e R s mi args below meth c QQ H locs cells slots lr hF hL hH hc hs hE => lv_bipush hF.1 hF.2.1 hd hv (k E p l e R s mi args below meth c QQ H locs cells slots lr hF hL hH hc hs hE)
theorem aw_sipush {n : Int} {v : Int32} (hd : decode m.2.1 pc = .ok (.sipush n, 3)) (hv : (Int16.ofInt n).toInt32 = v) (k : AW m d mc ms (pc + 3) ls (.int v :: st) h Q) : AW m d mc ms pc ls (st) h Q :=
  fun E p l e R s mi args below meth c QQ H locs cells slots lr hF hL hH hc hs hE => lv_sipush hF.1 hF.2.1 hd hv (k E p l e R s mi args below meth c QQ H locs cells slots lr hF hL hH hc hs hE)
theorem aw_lconst {n : Fin 2} {v : Int64} (hd : decode m.2.1 pc = .ok (.lconst n, 1)) (hv : Int64.ofNat (n : Nat) = v) (k : AW m d mc ms (pc + 1) ls (.long v :: st) h Q) : AW m d mc ms pc ls (st) h Q :=
  fun E p l e R s mi args below meth c QQ H locs cells slots lr hF hL hH hc hs hE => lv_lconst hF.1 hF.2.1 hd hv (k E p l e R s mi args below meth c QQ H locs cells slots lr hF hL hH hc hs hE)
theorem aw_null  (hd : decode m.2.1 pc = .ok (.aconst_null, 1))  (k : AW m d mc ms (pc + 1) ls (.null :: st) h Q) : AW m d mc ms pc ls (st) h Q :=
  fun E p l e R s mi args below meth c QQ H locs cells slots lr hF hL hH hc hs hE => lv_null hF.1 hF.2.1 hd (k E p l e R s mi args below meth c QQ H locs cells slots lr hF hL hH hc hs hE)
theorem aw_iload_n {i : Fin 4} {x : Int32} (hd : decode m.2.1 pc = .ok (.iload_n i, 1)) (hl : ls[(i : Nat)]? = some (.int x)) (k : AW m d mc ms (pc + 1) ls (.int x :: st) h Q) : AW m d mc ms pc ls (st) h Q :=
  fun E p l e R s mi args below meth c QQ H locs cells slots lr hF hL hH hc hs hE => lv_iload_n hF.1 hF.2.1 hd rfl (hL.2.2.2 _ _ hl (fun z => by cases z)) (k E p l e R s mi args below meth c QQ H locs cells slots lr hF hL hH hc hs hE)
theorem aw_iload {i : Nat} {x : Int32} (hd : decode m.2.1 pc = .ok (.iload i, 2)) (hl : ls[i]? = some (.int x)) (k : AW m d mc ms (pc + 2) ls (.int x :: st) h Q) : AW m d mc ms pc ls (st) h Q :=
  fun E p l e R s mi args below meth c QQ H locs cells slots lr hF hL hH hc hs hE => lv_iload hF.1 hF.2.1 hd (hL.2.2.2 _ _ hl (fun z => by cases z)) (k E p l e R s mi args below meth c QQ H locs cells slots lr hF hL hH hc hs hE)
theorem aw_lload_n {i : Fin 4} {x : Int64} (hd : decode m.2.1 pc = .ok (.lload_n i, 1)) (hl : ls[(i : Nat)]? = some (.long x)) (k : AW m d mc ms (pc + 1) ls (.long x :: st) h Q) : AW m d mc ms pc ls (st) h Q :=
  fun E p l e R s mi args below meth c QQ H locs cells slots lr hF hL hH hc hs hE => lv_lload_n hF.1 hF.2.1 hd rfl (hL.2.2.2 _ _ hl (fun z => by cases z)) (k E p l e R s mi args below meth c QQ H locs cells slots lr hF hL hH hc hs hE)
theorem aw_lload {i : Nat} {x : Int64} (hd : decode m.2.1 pc = .ok (.lload i, 2)) (hl : ls[i]? = some (.long x)) (k : AW m d mc ms (pc + 2) ls (.long x :: st) h Q) : AW m d mc ms pc ls (st) h Q :=
  fun E p l e R s mi args below meth c QQ H locs cells slots lr hF hL hH hc hs hE => lv_lload hF.1 hF.2.1 hd (hL.2.2.2 _ _ hl (fun z => by cases z)) (k E p l e R s mi args below meth c QQ H locs cells slots lr hF hL hH hc hs hE)
theorem aw_aload_n {i : Fin 4} {x : Nat} (hd : decode m.2.1 pc = .ok (.aload_n i, 1)) (hl : ls[(i : Nat)]? = some (.ref x)) (k : AW m d mc ms (pc + 1) ls (.ref x :: st) h Q) : AW m d mc ms pc ls (st) h Q :=
  fun E p l e R s mi args below meth c QQ H locs cells slots lr hF hL hH hc hs hE => lv_aload_n hF.1 hF.2.1 hd rfl (hL.2.2.2 _ _ hl (fun z => by cases z)) (k E p l e R s mi args below meth c QQ H locs cells slots lr hF hL hH hc hs hE)
theorem aw_aload {i : Nat} {x : Nat} (hd : decode m.2.1 pc = .ok (.aload i, 2)) (hl : ls[i]? = some (.ref x)) (k : AW m d mc ms (pc + 2) ls (.ref x :: st) h Q) : AW m d mc ms pc ls (st) h Q :=
  fun E p l e R s mi args below meth c QQ H locs cells slots lr hF hL hH hc hs hE => lv_aload hF.1 hF.2.1 hd (hL.2.2.2 _ _ hl (fun z => by cases z)) (k E p l e R s mi args below meth c QQ H locs cells slots lr hF hL hH hc hs hE)
theorem aw_iadd {x y : Int32} (hd : decode m.2.1 pc = .ok (.iadd, 1))  (k : AW m d mc ms (pc + 1) ls (.int (x + y) :: st) h Q) : AW m d mc ms pc ls (.int y :: .int x :: st) h Q :=
  fun E p l e R s mi args below meth c QQ H locs cells slots lr hF hL hH hc hs hE => lv_iadd hF.1 hF.2.1 hd (k E p l e R s mi args below meth c QQ H locs cells slots lr hF hL hH hc hs hE)
theorem aw_isub {x y : Int32} (hd : decode m.2.1 pc = .ok (.isub, 1))  (k : AW m d mc ms (pc + 1) ls (.int (x - y) :: st) h Q) : AW m d mc ms pc ls (.int y :: .int x :: st) h Q :=
  fun E p l e R s mi args below meth c QQ H locs cells slots lr hF hL hH hc hs hE => lv_isub hF.1 hF.2.1 hd (k E p l e R s mi args below meth c QQ H locs cells slots lr hF hL hH hc hs hE)
theorem aw_imul {x y : Int32} (hd : decode m.2.1 pc = .ok (.imul, 1))  (k : AW m d mc ms (pc + 1) ls (.int (x * y) :: st) h Q) : AW m d mc ms pc ls (.int y :: .int x :: st) h Q :=
  fun E p l e R s mi args below meth c QQ H locs cells slots lr hF hL hH hc hs hE => lv_imul hF.1 hF.2.1 hd (k E p l e R s mi args below meth c QQ H locs cells slots lr hF hL hH hc hs hE)
theorem aw_iand {x y : Int32} (hd : decode m.2.1 pc = .ok (.iand, 1))  (k : AW m d mc ms (pc + 1) ls (.int (x &&& y) :: st) h Q) : AW m d mc ms pc ls (.int y :: .int x :: st) h Q :=
  fun E p l e R s mi args below meth c QQ H locs cells slots lr hF hL hH hc hs hE => lv_iand hF.1 hF.2.1 hd (k E p l e R s mi args below meth c QQ H locs cells slots lr hF hL hH hc hs hE)
theorem aw_ladd {x y : Int64} (hd : decode m.2.1 pc = .ok (.ladd, 1))  (k : AW m d mc ms (pc + 1) ls (.long (x + y) :: st) h Q) : AW m d mc ms pc ls (.long y :: .long x :: st) h Q :=
  fun E p l e R s mi args below meth c QQ H locs cells slots lr hF hL hH hc hs hE => lv_ladd hF.1 hF.2.1 hd (k E p l e R s mi args below meth c QQ H locs cells slots lr hF hL hH hc hs hE)
theorem aw_lsub {x y : Int64} (hd : decode m.2.1 pc = .ok (.lsub, 1))  (k : AW m d mc ms (pc + 1) ls (.long (x - y) :: st) h Q) : AW m d mc ms pc ls (.long y :: .long x :: st) h Q :=
  fun E p l e R s mi args below meth c QQ H locs cells slots lr hF hL hH hc hs hE => lv_lsub hF.1 hF.2.1 hd (k E p l e R s mi args below meth c QQ H locs cells slots lr hF hL hH hc hs hE)
theorem aw_lmul {x y : Int64} (hd : decode m.2.1 pc = .ok (.lmul, 1))  (k : AW m d mc ms (pc + 1) ls (.long (x * y) :: st) h Q) : AW m d mc ms pc ls (.long y :: .long x :: st) h Q :=
  fun E p l e R s mi args below meth c QQ H locs cells slots lr hF hL hH hc hs hE => lv_lmul hF.1 hF.2.1 hd (k E p l e R s mi args below meth c QQ H locs cells slots lr hF hL hH hc hs hE)
theorem aw_land {x y : Int64} (hd : decode m.2.1 pc = .ok (.land, 1))  (k : AW m d mc ms (pc + 1) ls (.long (x &&& y) :: st) h Q) : AW m d mc ms pc ls (.long y :: .long x :: st) h Q :=
  fun E p l e R s mi args below meth c QQ H locs cells slots lr hF hL hH hc hs hE => lv_land hF.1 hF.2.1 hd (k E p l e R s mi args below meth c QQ H locs cells slots lr hF hL hH hc hs hE)
theorem aw_lor {x y : Int64} (hd : decode m.2.1 pc = .ok (.lor, 1))  (k : AW m d mc ms (pc + 1) ls (.long (x ||| y) :: st) h Q) : AW m d mc ms pc ls (.long y :: .long x :: st) h Q :=
  fun E p l e R s mi args below meth c QQ H locs cells slots lr hF hL hH hc hs hE => lv_lor hF.1 hF.2.1 hd (k E p l e R s mi args below meth c QQ H locs cells slots lr hF hL hH hc hs hE)
theorem aw_idiv {x y : Int32} (hd : decode m.2.1 pc = .ok (.idiv, 1)) (hn : ¬ y = 0) (k : AW m d mc ms (pc + 1) ls (.int (x / y) :: st) h Q) : AW m d mc ms pc ls (.int y :: .int x :: st) h Q :=
  fun E p l e R s mi args below meth c QQ H locs cells slots lr hF hL hH hc hs hE => lv_idiv hF.1 hF.2.1 hd hn (k E p l e R s mi args below meth c QQ H locs cells slots lr hF hL hH hc hs hE)
theorem aw_irem {x y : Int32} (hd : decode m.2.1 pc = .ok (.irem, 1)) (hn : ¬ y = 0) (k : AW m d mc ms (pc + 1) ls (.int (x - x / y * y) :: st) h Q) : AW m d mc ms pc ls (.int y :: .int x :: st) h Q :=
  fun E p l e R s mi args below meth c QQ H locs cells slots lr hF hL hH hc hs hE => lv_irem hF.1 hF.2.1 hd hn (k E p l e R s mi args below meth c QQ H locs cells slots lr hF hL hH hc hs hE)
theorem aw_ineg {x : Int32} (hd : decode m.2.1 pc = .ok (.ineg, 1))  (k : AW m d mc ms (pc + 1) ls (.int (-x) :: st) h Q) : AW m d mc ms pc ls (.int x :: st) h Q :=
  fun E p l e R s mi args below meth c QQ H locs cells slots lr hF hL hH hc hs hE => lv_ineg hF.1 hF.2.1 hd (k E p l e R s mi args below meth c QQ H locs cells slots lr hF hL hH hc hs hE)
theorem aw_ldiv {x y : Int64} (hd : decode m.2.1 pc = .ok (.ldiv, 1)) (hn : ¬ y = 0) (k : AW m d mc ms (pc + 1) ls (.long (x / y) :: st) h Q) : AW m d mc ms pc ls (.long y :: .long x :: st) h Q :=
  fun E p l e R s mi args below meth c QQ H locs cells slots lr hF hL hH hc hs hE => lv_ldiv hF.1 hF.2.1 hd hn (k E p l e R s mi args below meth c QQ H locs cells slots lr hF hL hH hc hs hE)
theorem aw_lrem {x y : Int64} (hd : decode m.2.1 pc = .ok (.lrem, 1)) (hn : ¬ y = 0) (k : AW m d mc ms (pc + 1) ls (.long (x - x / y * y) :: st) h Q) : AW m d mc ms pc ls (.long y :: .long x :: st) h Q :=
  fun E p l e R s mi args below meth c QQ H locs cells slots lr hF hL hH hc hs hE => lv_lrem hF.1 hF.2.1 hd hn (k E p l e R s mi args below meth c QQ H locs cells slots lr hF hL hH hc hs hE)
theorem aw_ishl {x y : Int32} (hd : decode m.2.1 pc = .ok (.ishl, 1))  (k : AW m d mc ms (pc + 1) ls (.int (x <<< (y &&& 31)) :: st) h Q) : AW m d mc ms pc ls (.int y :: .int x :: st) h Q :=
  fun E p l e R s mi args below meth c QQ H locs cells slots lr hF hL hH hc hs hE => lv_ishl hF.1 hF.2.1 hd (k E p l e R s mi args below meth c QQ H locs cells slots lr hF hL hH hc hs hE)
theorem aw_i2l {x : Int32} (hd : decode m.2.1 pc = .ok (.i2l, 1))  (k : AW m d mc ms (pc + 1) ls (.long x.toInt64 :: st) h Q) : AW m d mc ms pc ls (.int x :: st) h Q :=
  fun E p l e R s mi args below meth c QQ H locs cells slots lr hF hL hH hc hs hE => lv_i2l hF.1 hF.2.1 hd rfl (k E p l e R s mi args below meth c QQ H locs cells slots lr hF hL hH hc hs hE)
theorem aw_l2i {x : Int64} (hd : decode m.2.1 pc = .ok (.l2i, 1))  (k : AW m d mc ms (pc + 1) ls (.int x.toInt32 :: st) h Q) : AW m d mc ms pc ls (.long x :: st) h Q :=
  fun E p l e R s mi args below meth c QQ H locs cells slots lr hF hL hH hc hs hE => lv_l2i hF.1 hF.2.1 hd rfl (k E p l e R s mi args below meth c QQ H locs cells slots lr hF hL hH hc hs hE)
theorem aw_lushr {x : Int64} {y : Int32} (hd : decode m.2.1 pc = .ok (.lushr, 1))  (k : AW m d mc ms (pc + 1) ls (.long (x.toUInt64 >>> (y.toInt64.toUInt64 &&& Int64.toUInt64 63)).toInt64 :: st) h Q) : AW m d mc ms pc ls (.int y :: .long x :: st) h Q :=
  fun E p l e R s mi args below meth c QQ H locs cells slots lr hF hL hH hc hs hE => lv_lushr hF.1 hF.2.1 hd rfl (k E p l e R s mi args below meth c QQ H locs cells slots lr hF hL hH hc hs hE)
theorem aw_lshl {x : Int64} {y : Int32} (hd : decode m.2.1 pc = .ok (.lshl, 1))  (k : AW m d mc ms (pc + 1) ls (.long (x <<< (y.toInt64 &&& 63)) :: st) h Q) : AW m d mc ms pc ls (.int y :: .long x :: st) h Q :=
  fun E p l e R s mi args below meth c QQ H locs cells slots lr hF hL hH hc hs hE => lv_lshl hF.1 hF.2.1 hd rfl (k E p l e R s mi args below meth c QQ H locs cells slots lr hF hL hH hc hs hE)
theorem aw_lcmp {x y : Int64} (hd : decode m.2.1 pc = .ok (.lcmp, 1))  (k : AW m d mc ms (pc + 1) ls (.int (lg_cmp x y) :: st) h Q) : AW m d mc ms pc ls (.long y :: .long x :: st) h Q :=
  fun E p l e R s mi args below meth c QQ H locs cells slots lr hF hL hH hc hs hE => W.lcmp hF.1 hF.2.1 hd (k E p l e R s mi args below meth c QQ H locs cells slots lr hF hL hH hc hs hE)
theorem rv_cat (E : AE) (v : Value) : (rv E v).category = v.category := by cases v <;> rfl
theorem aw_dup {v : Value} (hd : decode m.2.1 pc = .ok (.dup, 1)) (hv : v.category = 1) (k : AW m d mc ms (pc + 1) ls (v :: v :: st) h Q) : AW m d mc ms pc ls (v :: st) h Q :=
  fun E p l e R s mi args below meth c QQ H locs cells slots lr hF hL hH hc hs hE => lv_dup hF.1 hF.2.1 hd ((rv_cat E v).trans hv) (k E p l e R s mi args below meth c QQ H locs cells slots lr hF hL hH hc hs hE)
theorem aw_pop {v : Value} (hd : decode m.2.1 pc = .ok (.pop, 1)) (hv : v.category = 1) (k : AW m d mc ms (pc + 1) ls (st) h Q) : AW m d mc ms pc ls (v :: st) h Q :=
  fun E p l e R s mi args below meth c QQ H locs cells slots lr hF hL hH hc hs hE => lv_pop hF.1 hF.2.1 hd ((rv_cat E v).trans hv) (k E p l e R s mi args below meth c QQ H locs cells slots lr hF hL hH hc hs hE)
theorem aw_dup2 {v w : Value} (hd : decode m.2.1 pc = .ok (.dup2, 1)) (hv : v.category = 1) (hw : w.category = 1) (k : AW m d mc ms (pc + 1) ls (v :: w :: v :: w :: st) h Q) : AW m d mc ms pc ls (v :: w :: st) h Q :=
  fun E p l e R s mi args below meth c QQ H locs cells slots lr hF hL hH hc hs hE => lv_dup2_11 hF.1 hF.2.1 hd ((rv_cat E v).trans hv) ((rv_cat E w).trans hw) (k E p l e R s mi args below meth c QQ H locs cells slots lr hF hL hH hc hs hE)
theorem aw_dup2L {v : Value} (hd : decode m.2.1 pc = .ok (.dup2, 1)) (hv : v.category = 2) (k : AW m d mc ms (pc + 1) ls (v :: v :: st) h Q) : AW m d mc ms pc ls (v :: st) h Q :=
  fun E p l e R s mi args below meth c QQ H locs cells slots lr hF hL hH hc hs hE => lv_dup2_2 hF.1 hF.2.1 hd ((rv_cat E v).trans hv) (k E p l e R s mi args below meth c QQ H locs cells slots lr hF hL hH hc hs hE)
theorem aw_goto {off : Int} {tgt : Nat} (hd : decode m.2.1 pc = .ok (.goto off, 3)) (ht : (pc : Int) + off = (tgt : Int)) (k : AW m d mc ms tgt ls (st) h Q) : AW m d mc ms pc ls (st) h Q :=
  fun E p l e R s mi args below meth c QQ H locs cells slots lr hF hL hH hc hs hE => lv_goto hF.1 hF.2.1 hd ht (k E p l e R s mi args below meth c QQ H locs cells slots lr hF hL hH hc hs hE)
theorem aw_ifnullR {off : Int} {x : Nat} (hd : decode m.2.1 pc = .ok (.ifnull off, 3))  (k : AW m d mc ms (pc + 3) ls (st) h Q) : AW m d mc ms pc ls (.ref x :: st) h Q :=
  fun E p l e R s mi args below meth c QQ H locs cells slots lr hF hL hH hc hs hE => lv_ifnull hF.1 hF.2.1 hd (k E p l e R s mi args below meth c QQ H locs cells slots lr hF hL hH hc hs hE)
theorem aw_ifnullN {off : Int} {tgt : Nat} (hd : decode m.2.1 pc = .ok (.ifnull off, 3)) (ht : (pc : Int) + off = (tgt : Int)) (k : AW m d mc ms tgt ls (st) h Q) : AW m d mc ms pc ls (.null :: st) h Q :=
  fun E p l e R s mi args below meth c QQ H locs cells slots lr hF hL hH hc hs hE => lv_ifnullN hF.1 hF.2.1 hd ht (k E p l e R s mi args below meth c QQ H locs cells slots lr hF hL hH hc hs hE)
theorem aw_if_eq {x : Int32} {off : Int} {tgt : Nat} (hd : decode m.2.1 pc = .ok (.ifCond .eq off, 3)) (ht : (pc : Int) + off = (tgt : Int)) (kt : x = 0 → AW m d mc ms tgt ls st h Q) (kf : ¬ x = 0 → AW m d mc ms (pc + 3) ls st h Q) : AW m d mc ms pc ls (.int x :: st) h Q :=
  fun E p l e R s mi args below meth c QQ H locs cells slots lr hF hL hH hc hs hE => lv_if_eq hF.1 hF.2.1 hd ht (fun z => kt z E p l e R s mi args below meth c QQ H locs cells slots lr hF hL hH hc hs hE) (fun z => kf z E p l e R s mi args below meth c QQ H locs cells slots lr hF hL hH hc hs hE)
theorem aw_icmp_eq {x y : Int32} {off : Int} {tgt : Nat} (hd : decode m.2.1 pc = .ok (.if_icmp .eq off, 3)) (ht : (pc : Int) + off = (tgt : Int)) (kt : x = y → AW m d mc ms tgt ls st h Q) (kf : ¬ x = y → AW m d mc ms (pc + 3) ls st h Q) : AW m d mc ms pc ls (.int y :: .int x :: st) h Q :=
  fun E p l e R s mi args below meth c QQ H locs cells slots lr hF hL hH hc hs hE => lv_icmp_eq hF.1 hF.2.1 hd ht (fun z => kt z E p l e R s mi args below meth c QQ H locs cells slots lr hF hL hH hc hs hE) (fun z => kf z E p l e R s mi args below meth c QQ H locs cells slots lr hF hL hH hc hs hE)
theorem aw_if_ne {x : Int32} {off : Int} {tgt : Nat} (hd : decode m.2.1 pc = .ok (.ifCond .ne off, 3)) (ht : (pc : Int) + off = (tgt : Int)) (kt : ¬ x = 0 → AW m d mc ms tgt ls st h Q) (kf : x = 0 → AW m d mc ms (pc + 3) ls st h Q) : AW m d mc ms pc ls (.int x :: st) h Q :=
  fun E p l e R s mi args below meth c QQ H locs cells slots lr hF hL hH hc hs hE => lv_if_ne hF.1 hF.2.1 hd ht (fun z => kt z E p l e R s mi args below meth c QQ H locs cells slots lr hF hL hH hc hs hE) (fun z => kf z E p l e R s mi args below meth c QQ H locs cells slots lr hF hL hH hc hs hE)
theorem aw_icmp_ne {x y : Int32} {off : Int} {tgt : Nat} (hd : decode m.2.1 pc = .ok (.if_icmp .ne off, 3)) (ht : (pc : Int) + off = (tgt : Int)) (kt : ¬ x = y → AW m d mc ms tgt ls st h Q) (kf : x = y → AW m d mc ms (pc + 3) ls st h Q) : AW m d mc ms pc ls (.int y :: .int x :: st) h Q :=
  fun E p l e R s mi args below meth c QQ H locs cells slots lr hF hL hH hc hs hE => lv_icmp_ne hF.1 hF.2.1 hd ht (fun z => kt z E p l e R s mi args below meth c QQ H locs cells slots lr hF hL hH hc hs hE) (fun z => kf z E p l e R s mi args below meth c QQ H locs cells slots lr hF hL hH hc hs hE)
theorem aw_if_lt {x : Int32} {off : Int} {tgt : Nat} (hd : decode m.2.1 pc = .ok (.ifCond .lt off, 3)) (ht : (pc : Int) + off = (tgt : Int)) (kt : x < 0 → AW m d mc ms tgt ls st h Q) (kf : ¬ x < 0 → AW m d mc ms (pc + 3) ls st h Q) : AW m d mc ms pc ls (.int x :: st) h Q :=
  fun E p l e R s mi args below meth c QQ H locs cells slots lr hF hL hH hc hs hE => lv_if_lt hF.1 hF.2.1 hd ht (fun z => kt z E p l e R s mi args below meth c QQ H locs cells slots lr hF hL hH hc hs hE) (fun z => kf z E p l e R s mi args below meth c QQ H locs cells slots lr hF hL hH hc hs hE)
theorem aw_icmp_lt {x y : Int32} {off : Int} {tgt : Nat} (hd : decode m.2.1 pc = .ok (.if_icmp .lt off, 3)) (ht : (pc : Int) + off = (tgt : Int)) (kt : x < y → AW m d mc ms tgt ls st h Q) (kf : ¬ x < y → AW m d mc ms (pc + 3) ls st h Q) : AW m d mc ms pc ls (.int y :: .int x :: st) h Q :=
  fun E p l e R s mi args below meth c QQ H locs cells slots lr hF hL hH hc hs hE => lv_icmp_lt hF.1 hF.2.1 hd ht (fun z => kt z E p l e R s mi args below meth c QQ H locs cells slots lr hF hL hH hc hs hE) (fun z => kf z E p l e R s mi args below meth c QQ H locs cells slots lr hF hL hH hc hs hE)
theorem aw_if_ge {x : Int32} {off : Int} {tgt : Nat} (hd : decode m.2.1 pc = .ok (.ifCond .ge off, 3)) (ht : (pc : Int) + off = (tgt : Int)) (kt : 0 ≤ x → AW m d mc ms tgt ls st h Q) (kf : ¬ 0 ≤ x → AW m d mc ms (pc + 3) ls st h Q) : AW m d mc ms pc ls (.int x :: st) h Q :=
  fun E p l e R s mi args below meth c QQ H locs cells slots lr hF hL hH hc hs hE => lv_if_ge hF.1 hF.2.1 hd ht (fun z => kt z E p l e R s mi args below meth c QQ H locs cells slots lr hF hL hH hc hs hE) (fun z => kf z E p l e R s mi args below meth c QQ H locs cells slots lr hF hL hH hc hs hE)
theorem aw_icmp_ge {x y : Int32} {off : Int} {tgt : Nat} (hd : decode m.2.1 pc = .ok (.if_icmp .ge off, 3)) (ht : (pc : Int) + off = (tgt : Int)) (kt : y ≤ x → AW m d mc ms tgt ls st h Q) (kf : ¬ y ≤ x → AW m d mc ms (pc + 3) ls st h Q) : AW m d mc ms pc ls (.int y :: .int x :: st) h Q :=
  fun E p l e R s mi args below meth c QQ H locs cells slots lr hF hL hH hc hs hE => lv_icmp_ge hF.1 hF.2.1 hd ht (fun z => kt z E p l e R s mi args below meth c QQ H locs cells slots lr hF hL hH hc hs hE) (fun z => kf z E p l e R s mi args below meth c QQ H locs cells slots lr hF hL hH hc hs hE)
theorem aw_if_gt {x : Int32} {off : Int} {tgt : Nat} (hd : decode m.2.1 pc = .ok (.ifCond .gt off, 3)) (ht : (pc : Int) + off = (tgt : Int)) (kt : 0 < x → AW m d mc ms tgt ls st h Q) (kf : ¬ 0 < x → AW m d mc ms (pc + 3) ls st h Q) : AW m d mc ms pc ls (.int x :: st) h Q :=
  fun E p l e R s mi args below meth c QQ H locs cells slots lr hF hL hH hc hs hE => lv_if_gt hF.1 hF.2.1 hd ht (fun z => kt z E p l e R s mi args below meth c QQ H locs cells slots lr hF hL hH hc hs hE) (fun z => kf z E p l e R s mi args below meth c QQ H locs cells slots lr hF hL hH hc hs hE)
theorem aw_icmp_gt {x y : Int32} {off : Int} {tgt : Nat} (hd : decode m.2.1 pc = .ok (.if_icmp .gt off, 3)) (ht : (pc : Int) + off = (tgt : Int)) (kt : y < x → AW m d mc ms tgt ls st h Q) (kf : ¬ y < x → AW m d mc ms (pc + 3) ls st h Q) : AW m d mc ms pc ls (.int y :: .int x :: st) h Q :=
  fun E p l e R s mi args below meth c QQ H locs cells slots lr hF hL hH hc hs hE => lv_icmp_gt hF.1 hF.2.1 hd ht (fun z => kt z E p l e R s mi args below meth c QQ H locs cells slots lr hF hL hH hc hs hE) (fun z => kf z E p l e R s mi args below meth c QQ H locs cells slots lr hF hL hH hc hs hE)
theorem aw_if_le {x : Int32} {off : Int} {tgt : Nat} (hd : decode m.2.1 pc = .ok (.ifCond .le off, 3)) (ht : (pc : Int) + off = (tgt : Int)) (kt : x ≤ 0 → AW m d mc ms tgt ls st h Q) (kf : ¬ x ≤ 0 → AW m d mc ms (pc + 3) ls st h Q) : AW m d mc ms pc ls (.int x :: st) h Q :=
  fun E p l e R s mi args below meth c QQ H locs cells slots lr hF hL hH hc hs hE => lv_if_le hF.1 hF.2.1 hd ht (fun z => kt z E p l e R s mi args below meth c QQ H locs cells slots lr hF hL hH hc hs hE) (fun z => kf z E p l e R s mi args below meth c QQ H locs cells slots lr hF hL hH hc hs hE)
theorem aw_icmp_le {x y : Int32} {off : Int} {tgt : Nat} (hd : decode m.2.1 pc = .ok (.if_icmp .le off, 3)) (ht : (pc : Int) + off = (tgt : Int)) (kt : x ≤ y → AW m d mc ms tgt ls st h Q) (kf : ¬ x ≤ y → AW m d mc ms (pc + 3) ls st h Q) : AW m d mc ms pc ls (.int y :: .int x :: st) h Q :=
  fun E p l e R s mi args below meth c QQ H locs cells slots lr hF hL hH hc hs hE => lv_icmp_le hF.1 hF.2.1 hd ht (fun z => kt z E p l e R s mi args below meth c QQ H locs cells slots lr hF hL hH hc hs hE) (fun z => kf z E p l e R s mi args below meth c QQ H locs cells slots lr hF hL hH hc hs hE)
theorem aw_lookup {dflt : Int} {ps : Array (Int × Int)} {len : Nat} {x : Int32} {off : Int} {tgt : Nat} (hd : decode m.2.1 pc = .ok (.lookupswitch dflt ps, len)) (hp : (ps.toList.zip (ps.toList.drop 1)).all (fun (a, next) => a.1 < next.1) = true) (ho : Op.lookupswitch.offset ps.toList dflt x.toInt = off) (ht : (pc : Int) + off = (tgt : Int)) (k : AW m d mc ms tgt ls st h Q) : AW m d mc ms pc ls (.int x :: st) h Q :=
  fun E p l e R s mi args below meth c QQ H locs cells slots lr hF hL hH hc hs hE => lv_lookup hF.1 hF.2.1 hd hp ho ht (k E p l e R s mi args below meth c QQ H locs cells slots lr hF hL hH hc hs hE)
theorem aw_tableOut {dflt lo hi : Int} {offs : Array Int} {len : Nat} {x : Int32} {tgt : Nat} (hd : decode m.2.1 pc = .ok (.tableswitch dflt lo hi offs, len)) (hx : x.toInt < lo ∨ hi < x.toInt) (ht : (pc : Int) + dflt = (tgt : Int)) (k : AW m d mc ms tgt ls st h Q) : AW m d mc ms pc ls (.int x :: st) h Q :=
  fun E p l e R s mi args below meth c QQ H locs cells slots lr hF hL hH hc hs hE => lv_tableOut hF.1 hF.2.1 hd hx ht (k E p l e R s mi args below meth c QQ H locs cells slots lr hF hL hH hc hs hE)
theorem aw_tableIn {dflt lo hi : Int} {offs : Array Int} {len : Nat} {x : Int32} {off : Int} {tgt : Nat} (hd : decode m.2.1 pc = .ok (.tableswitch dflt lo hi offs, len)) (h1 : ¬ x.toInt < lo) (h2 : ¬ hi < x.toInt) (ho : offs[(x.toInt - lo).toNat]? = some off) (ht : (pc : Int) + off = (tgt : Int)) (k : AW m d mc ms tgt ls st h Q) : AW m d mc ms pc ls (.int x :: st) h Q :=
  fun E p l e R s mi args below meth c QQ H locs cells slots lr hF hL hH hc hs hE => lv_tableIn hF.1 hF.2.1 hd h1 h2 ho ht (k E p l e R s mi args below meth c QQ H locs cells slots lr hF hL hH hc hs hE)
/-- the locals as the kit has them -/
def al (E : AE) (ls : List Value) : List (Nat × Value) := ls.zipIdx.filterMap (fun q => if q.1 = vU then none else some (q.2, rv E q.1))
theorem al_mem {E : AE} {ls : List Value} {i : Nat} {w : Value} : (i, w) ∈ al E ls ↔ ∃ v, ls[i]? = some v ∧ v ≠ vU ∧ w = rv E v := by
  unfold al
  rw [List.mem_filterMap]
  constructor
  · rintro ⟨⟨v, j⟩, h1, h2⟩
    have h3 := List.mem_zipIdx_iff_getElem?.mp h1
    by_cases hv : v = vU
    · simp [hv] at h2
    · simp [hv] at h2
      exact ⟨v, by rw [← h2.1]; exact h3, hv, h2.2.symm⟩
  · rintro ⟨v, h1, h2, h3⟩
    exact ⟨(v, i), List.mem_zipIdx_iff_getElem?.mpr h1, by simp [h2, h3]⟩
theorem LOK.has {E : AE} {n : Nat} {ls : List Value} {lr : Array Slot} (h : LOK E n ls lr) : lv_has lr n (al E ls) := by
  refine ⟨h.2.1, h.2.2.1, fun q hq => ?_⟩
  obtain ⟨v, h1, h2, h3⟩ := al_mem.mp (show (q.1, q.2) ∈ al E ls from hq)
  rw [h3]
  exact h.2.2.2 _ _ h1 h2
/-- no long stands just ahead -/
def okS (ls : List Value) : Nat → Bool
  | 0 => true
  | j + 1 => match ls[j]? with
    | some v => v.category == 1
    | none => true
theorem LOK.set1 {E : AE} {n i : Nat} {ls : List Value} {lr lr' : Array Slot} {v v' : Value} (h : LOK E n ls lr) (ho : okS ls i = true) (hv : v = rv E v' ∨ v' = vU) (h' : lv_has lr' n ((i, v) :: (al E ls).filter (fun q => !(q.1 == i) && !(q.1 + 1 == i && q.2.category == 2)))) : LOK E n (ls.set i v') lr' := by
  refine ⟨by rw [List.length_set]; exact h.1, h'.1, h'.2.1, fun j w hj hw => ?_⟩
  rw [List.getElem?_set] at hj
  by_cases hij : i = j
  · subst hij
    simp only [if_true] at hj
    split at hj
    · cases hj
      rcases hv with hv | hv
      · rw [← hv]
        exact h'.2.2 (i, v) List.mem_cons_self
      · exact absurd hv hw
    · cases hj
  · rw [if_neg hij] at hj
    refine h'.2.2 (j, rv E w) (List.mem_cons_of_mem _ (List.mem_filter.mpr ⟨al_mem.mpr ⟨w, hj, hw, rfl⟩, ?_⟩))
    have e1 : (j == i) = false := by simp [Ne.symm hij]
    by_cases hji : j + 1 = i
    · subst hji
      simp only [okS, hj] at ho
      have : w.category = 1 := by simpa using ho
      simp [rv_cat, this]
    · have : (j + 1 == i) = false := by simp [hji]
      simp [e1, this]
theorem LOK.set2 {E : AE} {n i : Nat} {ls : List Value} {lr lr' : Array Slot} {v : Value} (h : LOK E n ls lr) (ho : okS ls i = true) (h' : lv_has lr' n ((i, rv E v) :: (al E ls).filter (fun q => !(q.1 == i) && (!(q.1 == i + 1) && !(q.1 + 1 == i && q.2.category == 2))))) : LOK E n ((ls.set i v).set (i + 1) vU) lr' := by
  refine ⟨by rw [List.length_set, List.length_set]; exact h.1, h'.1, h'.2.1, fun j w hj hw => ?_⟩
  rw [List.getElem?_set] at hj
  by_cases hij1 : i + 1 = j
  · subst hij1
    simp only [if_true] at hj
    split at hj
    · cases hj
      exact absurd rfl hw
    · cases hj
  · rw [if_neg hij1, List.getElem?_set] at hj
    by_cases hij : i = j
    · subst hij
      simp only [if_true] at hj
      split at hj
      · cases hj
        exact h'.2.2 (i, rv E v) List.mem_cons_self
      · cases hj
    · rw [if_neg hij] at hj
      refine h'.2.2 (j, rv E w) (List.mem_cons_of_mem _ (List.mem_filter.mpr ⟨al_mem.mpr ⟨w, hj, hw, rfl⟩, ?_⟩))
      have e1 : (j == i) = false := by simp [Ne.symm hij]
      have e2 : (j == i + 1) = false := by simp [Ne.symm hij1]
      by_cases hji : j + 1 = i
      · subst hji
        simp only [okS, hj] at ho
        have : w.category = 1 := by simpa using ho
        simp [rv_cat, this]
        omega
      · have : (j + 1 == i) = false := by simp [hji]
        simp [e1, e2, this]
theorem aw_istore_n {i : Fin 4} {x : Int32} (hd : decode m.2.1 pc = .ok (.istore_n i, 1)) (hi : (i : Nat) < m.2.2.1) (ho : okS ls i = true) (k : AW m d mc ms (pc + 1) (ls.set i (.int x)) st h Q) : AW m d mc ms pc ls (.int x :: st) h Q :=
  fun E p l e R s mi args below meth c QQ H locs cells slots lr hF hL hH hc hs hE => lv_istore_n hF.1 hF.2.1 hd rfl hL.has hi rfl (fun lr' hL' => k E p l e R s mi args below meth c QQ H locs cells slots lr' hF (hL.set1 ho (Or.inl rfl) hL') hH hc hs hE)
theorem aw_istore {i : Nat} {x : Int32} (hd : decode m.2.1 pc = .ok (.istore i, 2)) (hi : i < m.2.2.1) (ho : okS ls i = true) (k : AW m d mc ms (pc + 2) (ls.set i (.int x)) st h Q) : AW m d mc ms pc ls (.int x :: st) h Q :=
  fun E p l e R s mi args below meth c QQ H locs cells slots lr hF hL hH hc hs hE => lv_istore hF.1 hF.2.1 hd hL.has hi rfl (fun lr' hL' => k E p l e R s mi args below meth c QQ H locs cells slots lr' hF (hL.set1 ho (Or.inl rfl) hL') hH hc hs hE)
theorem aw_astore_n {i : Fin 4} {x : Nat} (hd : decode m.2.1 pc = .ok (.astore_n i, 1)) (hi : (i : Nat) < m.2.2.1) (ho : okS ls i = true) (k : AW m d mc ms (pc + 1) (ls.set i (.ref x)) st h Q) : AW m d mc ms pc ls (.ref x :: st) h Q :=
  fun E p l e R s mi args below meth c QQ H locs cells slots lr hF hL hH hc hs hE => lv_astore_n hF.1 hF.2.1 hd rfl hL.has hi rfl (fun lr' hL' => k E p l e R s mi args below meth c QQ H locs cells slots lr' hF (hL.set1 ho (Or.inl rfl) hL') hH hc hs hE)
theorem aw_astore {i : Nat} {x : Nat} (hd : decode m.2.1 pc = .ok (.astore i, 2)) (hi : i < m.2.2.1) (ho : okS ls i = true) (k : AW m d mc ms (pc + 2) (ls.set i (.ref x)) st h Q) : AW m d mc ms pc ls (.ref x :: st) h Q :=
  fun E p l e R s mi args below meth c QQ H locs cells slots lr hF hL hH hc hs hE => lv_astore hF.1 hF.2.1 hd hL.has hi rfl (fun lr' hL' => k E p l e R s mi args below meth c QQ H locs cells slots lr' hF (hL.set1 ho (Or.inl rfl) hL') hH hc hs hE)
theorem aw_astore_nN {i : Fin 4} (hd : decode m.2.1 pc = .ok (.astore_n i, 1)) (hi : (i : Nat) < m.2.2.1) (ho : okS ls i = true) (k : AW m d mc ms (pc + 1) (ls.set i .null) st h Q) : AW m d mc ms pc ls (.null :: st) h Q :=
  fun E p l e R s mi args below meth c QQ H locs cells slots lr hF hL hH hc hs hE => lv_astore_nN hF.1 hF.2.1 hd rfl hL.has hi rfl (fun lr' hL' => k E p l e R s mi args below meth c QQ H locs cells slots lr' hF (hL.set1 ho (Or.inl rfl) hL') hH hc hs hE)
theorem aw_aload_nN {i : Fin 4} (hd : decode m.2.1 pc = .ok (.aload_n i, 1)) (hl : ls[(i : Nat)]? = some .null) (k : AW m d mc ms (pc + 1) ls (.null :: st) h Q) : AW m d mc ms pc ls (st) h Q :=
  fun E p l e R s mi args below meth c QQ H locs cells slots lr hF hL hH hc hs hE => lv_aload_nN hF.1 hF.2.1 hd rfl (hL.2.2.2 _ _ hl (fun z => by cases z)) (k E p l e R s mi args below meth c QQ H locs cells slots lr hF hL hH hc hs hE)
theorem aw_lstore_n {i : Fin 4} {x : Int64} (hd : decode m.2.1 pc = .ok (.lstore_n i, 1)) (hi : (i : Nat) + 1 < m.2.2.1) (ho : okS ls i = true) (k : AW m d mc ms (pc + 1) ((ls.set i (.long x)).set (i + 1) vU) st h Q) : AW m d mc ms pc ls (.long x :: st) h Q :=
  fun E p l e R s mi args below meth c QQ H locs cells slots lr hF hL hH hc hs hE => lv_lstore_n hF.1 hF.2.1 hd rfl hL.has hi rfl (fun lr' hL' => k E p l e R s mi args below meth c QQ H locs cells slots lr' hF (hL.set2 (v := .long x) ho hL') hH hc hs hE)
theorem aw_lstore {i : Nat} {x : Int64} (hd : decode m.2.1 pc = .ok (.lstore i, 2)) (hi : i + 1 < m.2.2.1) (ho : okS ls i = true) (k : AW m d mc ms (pc + 2) ((ls.set i (.long x)).set (i + 1) vU) st h Q) : AW m d mc ms pc ls (.long x :: st) h Q :=
  fun E p l e R s mi args below meth c QQ H locs cells slots lr hF hL hH hc hs hE => lv_lstore hF.1 hF.2.1 hd hL.has hi rfl (fun lr' hL' => k E p l e R s mi args below meth c QQ H locs cells slots lr' hF (hL.set2 (v := .long x) ho hL') hH hc hs hE)
theorem aw_iinc {i : Nat} {n : Int} {x v : Int32} (hd : decode m.2.1 pc = .ok (.iinc i n, 3)) (hl : ls[i]? = some (.int x)) (hv : Int32.ofInt n = v) (hi : i < m.2.2.1) (ho : okS ls i = true) (k : AW m d mc ms (pc + 3) (ls.set i (.int (x + v))) st h Q) : AW m d mc ms pc ls st h Q := by
  subst hv
  intro E p l e R s mi args below meth c QQ H locs cells slots lr hF hL hH hc hs hE
  obtain ⟨q, hq⟩ := List.getElem?_of_mem (al_mem.mpr ⟨_, hl, (fun z => by cases z), rfl⟩ : (i, rv E (.int x)) ∈ al E ls)
  exact lv_iinc hF.1 hF.2.1 hd hL.has hq rfl hi rfl (fun lr' hL' => k E p l e R s mi args below meth c QQ H locs cells slots lr' hF (hL.set1 (v' := .int (x + Int32.ofInt n)) ho (Or.inl rfl) hL') hH hc hs hE)
theorem aw_ireturn {x : Int32} {ty : FieldType} (hd : decode m.2.1 pc = .ok (.ireturn, 1)) (hr : m.2.2.2.1 = some ty) (hn : narrow ty (.int x) = .int x) (hq : Q (.inl (some (.int x))) h) : AW m d mc ms pc ls [.int x] h Q :=
  fun E p l e R s mi args below meth c QQ H locs cells slots lr hF hL hH hc hs hE => hE.1 (some (.int x)) h H locs cells slots pc lr _ hq hH (by omega) (by omega) hd (Or.inr (Or.inl ⟨x, ty, hr, hn, rfl, rfl⟩))
theorem aw_lreturn {x : Int64} (hd : decode m.2.1 pc = .ok (.lreturn, 1)) (hr : m.2.2.2.1 = some .long) (hq : Q (.inl (some (.long x))) h) : AW m d mc ms pc ls [.long x] h Q :=
  fun E p l e R s mi args below meth c QQ H locs cells slots lr hF hL hH hc hs hE => hE.1 (some (.long x)) h H locs cells slots pc lr _ hq hH (by omega) (by omega) hd (Or.inr (Or.inr (Or.inl ⟨x, hr, rfl, rfl⟩)))
theorem aw_return (hd : decode m.2.1 pc = .ok (.return_, 1)) (hr : m.2.2.2.1 = none) (hq : Q (.inl none) h) : AW m d mc ms pc ls [] h Q :=
  fun E p l e R s mi args below meth c QQ H locs cells slots lr hF hL hH hc hs hE => hE.1 none h H locs cells slots pc lr _ hq hH (by omega) (by omega) hd (Or.inl ⟨hr, rfl, rfl⟩)
theorem aw_areturn {v : Value} {n : String} (hd : decode m.2.1 pc = .ok (.areturn, 1)) (hr : m.2.2.2.1 = some (.object n)) (hv : v = .null ∨ ∃ a, v = .ref a) (hq : Q (.inl (some v)) h) : AW m d mc ms pc ls [v] h Q :=
  fun E p l e R s mi args below meth c QQ H locs cells slots lr hF hL hH hc hs hE => hE.1 (some v) h H locs cells slots pc lr _ hq hH (by omega) (by omega) hd (Or.inr (Or.inr (Or.inr ⟨v, n, hr, rfl, hv, rfl⟩)))
theorem aw_ldc2 {i : Nat} {v : Int64} (hd : decode m.2.1 pc = .ok (.ldc2_w i, 3)) (hw : Cond.constantLong m.1.cls i v ∈ gtbl) (k : AW m d mc ms (pc + 3) ls (.long v :: st) h Q) : AW m d mc ms pc ls st h Q :=
  fun E p l e R s mi args below meth c QQ H locs cells slots lr hF hL hH hc hs hE => lv_ldc2 hF.1 hF.2.1 hF.2.2.2.2.1 (hF.2.2.2.2.2.1 _ hw) hd (k E p l e R s mi args below meth c QQ H locs cells slots lr hF hL hH hc hs hE)
/-- some locals forgotten -/
def msk : List Value → List Bool → List Value
  | v :: t, b :: r => (if b then v else vU) :: msk t r
  | l, _ => l
theorem msk_len : ∀ (ls : List Value) (bs : List Bool), (msk ls bs).length = ls.length
  | [], [] => rfl
  | [], _ :: _ => rfl
  | _ :: _, [] => rfl
  | v :: t, b :: r => by simp [msk, msk_len t r]
theorem msk_at : ∀ (ls : List Value) (bs : List Bool) (i : Nat) (v : Value), (msk ls bs)[i]? = some v → v ≠ vU → ls[i]? = some v
  | [], [], i, v, h, _ => h
  | [], _ :: _, i, v, h, _ => h
  | _ :: _, [], i, v, h, _ => h
  | w :: t, b :: r, 0, v, h, hv => by
    cases b with
    | true => exact h
    | false => simp [msk] at h; exact absurd h.symm hv
  | w :: t, b :: r, i + 1, v, h, hv => by
    simp only [msk, List.getElem?_cons_succ] at h ⊢
    exact msk_at t r i v h hv
theorem AW.forget (bs : List Bool) (k : AW m d mc ms pc (msk ls bs) st h Q) : AW m d mc ms pc ls st h Q :=
  fun E p l e R s mi args below meth c QQ H locs cells slots lr hF hL hH hc hs hE => k E p l e R s mi args below meth c QQ H locs cells slots lr hF ⟨by rw [msk_len]; exact hL.1, hL.2.1, hL.2.2.1, fun i v hi hv => hL.2.2.2 i v (msk_at ls bs i v hi hv) hv⟩ hH hc hs hE
end PURE
