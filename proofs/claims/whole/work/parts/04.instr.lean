/-! A ROW AN INSTRUCTION, over the abstract heap (J). -/
section HINSTR
variable {M : hM} {R : Room} {Q : Option Value → hH → Prop} {cells slots : Nat} {h : hH} {pc pc' : Nat} {ls : List (Nat × Value)} {st : List Value}
theorem j_iconst {n : Int} {v : Int32} (hd : fnd (h_tab M) pc = some (.iconst n, 1)) (hp : pc + 1 = pc') (hv : Int32.ofInt n = v) (k : J M R Q cells slots h pc' ls (.int v :: st)) : J M R Q cells slots h pc ls (st) := by
  subst hp
  intro p l e s m args below meth c H locs D α α0 h0 lsA hC hW hll hcl hl
  exact lv_iconst hC.1 hC.2.1 (h_dec hC hd) hv (k p l e s m args below meth c H locs D α α0 h0 lsA hC hW hll (h_cl_i hcl) hl)
theorem j_bipush {n : Int} {v : Int32} (hd : fnd (h_tab M) pc = some (.bipush n, 2)) (hp : pc + 2 = pc') (hv : (Int8.ofInt n).toInt32 = v) (k : J M R Q cells slots h pc' ls (.int v :: st)) : J M R Q cells slots h pc ls (st) := by
  subst hp
  intro p l e s m args below meth c H locs D α α0 h0 lsA hC hW hll hcl hl
  exact lv_bipush hC.1 hC.2.1 (h_dec hC hd) hv (k p l e s m args below meth c H locs D α α0 h0 lsA hC hW hll (h_cl_i hcl) hl)
theorem j_sipush {n : Int} {v : Int32} (hd : fnd (h_tab M) pc = some (.sipush n, 3)) (hp : pc + 3 = pc') (hv : (Int16.ofInt n).toInt32 = v) (k : J M R Q cells slots h pc' ls (.int v :: st)) : J M R Q cells slots h pc ls (st) := by
  subst hp
  intro p l e s m args below meth c H locs D α α0 h0 lsA hC hW hll hcl hl
  exact lv_sipush hC.1 hC.2.1 (h_dec hC hd) hv (k p l e s m args below meth c H locs D α α0 h0 lsA hC hW hll (h_cl_i hcl) hl)
theorem j_lconst {n : Fin 2} {v : Int64} (hd : fnd (h_tab M) pc = some (.lconst n, 1)) (hp : pc + 1 = pc') (hv : Int64.ofNat (n : Nat) = v) (k : J M R Q cells slots h pc' ls (.long v :: st)) : J M R Q cells slots h pc ls (st) := by
  subst hp
  intro p l e s m args below meth c H locs D α α0 h0 lsA hC hW hll hcl hl
  exact lv_lconst hC.1 hC.2.1 (h_dec hC hd) hv (k p l e s m args below meth c H locs D α α0 h0 lsA hC hW hll (h_cl_l hcl) hl)
theorem j_null  (hd : fnd (h_tab M) pc = some (.aconst_null, 1)) (hp : pc + 1 = pc')  (k : J M R Q cells slots h pc' ls (.null :: st)) : J M R Q cells slots h pc ls (st) := by
  subst hp
  intro p l e s m args below meth c H locs D α α0 h0 lsA hC hW hll hcl hl
  exact lv_null hC.1 hC.2.1 (h_dec hC hd)  (k p l e s m args below meth c H locs D α α0 h0 lsA hC hW hll (h_cl_cons trivial hcl) hl)
theorem j_iload_n {n : Fin 4} {x : Int32} (hd : fnd (h_tab M) pc = some (.iload_n n, 1)) (hp : pc + 1 = pc') (hv : fnd ls n = some (.int x)) (k : J M R Q cells slots h pc' ls (.int x :: st)) : J M R Q cells slots h pc ls (st) := by
  subst hp
  intro p l e s m args below meth c H locs D α α0 h0 lsA hC hW hll hcl hl
  exact lv_iload_n hC.1 hC.2.1 (h_dec hC hd) rfl (h_has hl hv) (k p l e s m args below meth c H locs D α α0 h0 lsA hC hW hll (h_cl_i hcl) hl)
theorem j_iload {n : Nat} {x : Int32} (hd : fnd (h_tab M) pc = some (.iload n, 2)) (hp : pc + 2 = pc') (hv : fnd ls n = some (.int x)) (k : J M R Q cells slots h pc' ls (.int x :: st)) : J M R Q cells slots h pc ls (st) := by
  subst hp
  intro p l e s m args below meth c H locs D α α0 h0 lsA hC hW hll hcl hl
  exact lv_iload hC.1 hC.2.1 (h_dec hC hd) (h_has hl hv) (k p l e s m args below meth c H locs D α α0 h0 lsA hC hW hll (h_cl_i hcl) hl)
theorem j_lload_n {n : Fin 4} {x : Int64} (hd : fnd (h_tab M) pc = some (.lload_n n, 1)) (hp : pc + 1 = pc') (hv : fnd ls n = some (.long x)) (k : J M R Q cells slots h pc' ls (.long x :: st)) : J M R Q cells slots h pc ls (st) := by
  subst hp
  intro p l e s m args below meth c H locs D α α0 h0 lsA hC hW hll hcl hl
  exact lv_lload_n hC.1 hC.2.1 (h_dec hC hd) rfl (h_has hl hv) (k p l e s m args below meth c H locs D α α0 h0 lsA hC hW hll (h_cl_l hcl) hl)
theorem j_lload {n : Nat} {x : Int64} (hd : fnd (h_tab M) pc = some (.lload n, 2)) (hp : pc + 2 = pc') (hv : fnd ls n = some (.long x)) (k : J M R Q cells slots h pc' ls (.long x :: st)) : J M R Q cells slots h pc ls (st) := by
  subst hp
  intro p l e s m args below meth c H locs D α α0 h0 lsA hC hW hll hcl hl
  exact lv_lload hC.1 hC.2.1 (h_dec hC hd) (h_has hl hv) (k p l e s m args below meth c H locs D α α0 h0 lsA hC hW hll (h_cl_l hcl) hl)
theorem j_aload_n {n : Fin 4} {x : Nat} (hd : fnd (h_tab M) pc = some (.aload_n n, 1)) (hp : pc + 1 = pc') (hv : fnd ls n = some (.ref x)) (k : J M R Q cells slots h pc' ls (.ref x :: st)) : J M R Q cells slots h pc ls (st) := by
  subst hp
  intro p l e s m args below meth c H locs D α α0 h0 lsA hC hW hll hcl hl
  exact lv_aload_n hC.1 hC.2.1 (h_dec hC hd) rfl (h_has hl hv) (k p l e s m args below meth c H locs D α α0 h0 lsA hC hW hll (h_cl_cons (h_lat hll hv) hcl) hl)
theorem j_aload {n : Nat} {x : Nat} (hd : fnd (h_tab M) pc = some (.aload n, 2)) (hp : pc + 2 = pc') (hv : fnd ls n = some (.ref x)) (k : J M R Q cells slots h pc' ls (.ref x :: st)) : J M R Q cells slots h pc ls (st) := by
  subst hp
  intro p l e s m args below meth c H locs D α α0 h0 lsA hC hW hll hcl hl
  exact lv_aload hC.1 hC.2.1 (h_dec hC hd) (h_has hl hv) (k p l e s m args below meth c H locs D α α0 h0 lsA hC hW hll (h_cl_cons (h_lat hll hv) hcl) hl)
theorem j_aload_nN {n : Fin 4} (hd : fnd (h_tab M) pc = some (.aload_n n, 1)) (hp : pc + 1 = pc') (hv : fnd ls n = some .null) (k : J M R Q cells slots h pc' ls (.null :: st)) : J M R Q cells slots h pc ls (st) := by
  subst hp
  intro p l e s m args below meth c H locs D α α0 h0 lsA hC hW hll hcl hl
  exact lv_aload_nN hC.1 hC.2.1 (h_dec hC hd) rfl (h_has hl hv) (k p l e s m args below meth c H locs D α α0 h0 lsA hC hW hll (h_cl_cons trivial hcl) hl)
theorem j_aloadN {n : Nat} (hd : fnd (h_tab M) pc = some (.aload n, 2)) (hp : pc + 2 = pc') (hv : fnd ls n = some .null) (k : J M R Q cells slots h pc' ls (.null :: st)) : J M R Q cells slots h pc ls (st) := by
  subst hp
  intro p l e s m args below meth c H locs D α α0 h0 lsA hC hW hll hcl hl
  exact lv_aloadN hC.1 hC.2.1 (h_dec hC hd) (h_has hl hv) (k p l e s m args below meth c H locs D α α0 h0 lsA hC hW hll (h_cl_cons trivial hcl) hl)
theorem j_iadd {x y : Int32} (hd : fnd (h_tab M) pc = some (.iadd, 1)) (hp : pc + 1 = pc')  (k : J M R Q cells slots h pc' ls (.int (x + y) :: st)) : J M R Q cells slots h pc ls (.int y :: .int x :: st) := by
  subst hp
  intro p l e s m args below meth c H locs D α α0 h0 lsA hC hW hll hcl hl
  exact lv_iadd hC.1 hC.2.1 (h_dec hC hd)  (k p l e s m args below meth c H locs D α α0 h0 lsA hC hW hll (h_cl_i (h_cl_tl (h_cl_tl hcl))) hl)
theorem j_isub {x y : Int32} (hd : fnd (h_tab M) pc = some (.isub, 1)) (hp : pc + 1 = pc')  (k : J M R Q cells slots h pc' ls (.int (x - y) :: st)) : J M R Q cells slots h pc ls (.int y :: .int x :: st) := by
  subst hp
  intro p l e s m args below meth c H locs D α α0 h0 lsA hC hW hll hcl hl
  exact lv_isub hC.1 hC.2.1 (h_dec hC hd)  (k p l e s m args below meth c H locs D α α0 h0 lsA hC hW hll (h_cl_i (h_cl_tl (h_cl_tl hcl))) hl)
theorem j_imul {x y : Int32} (hd : fnd (h_tab M) pc = some (.imul, 1)) (hp : pc + 1 = pc')  (k : J M R Q cells slots h pc' ls (.int (x * y) :: st)) : J M R Q cells slots h pc ls (.int y :: .int x :: st) := by
  subst hp
  intro p l e s m args below meth c H locs D α α0 h0 lsA hC hW hll hcl hl
  exact lv_imul hC.1 hC.2.1 (h_dec hC hd)  (k p l e s m args below meth c H locs D α α0 h0 lsA hC hW hll (h_cl_i (h_cl_tl (h_cl_tl hcl))) hl)
theorem j_iand {x y : Int32} (hd : fnd (h_tab M) pc = some (.iand, 1)) (hp : pc + 1 = pc')  (k : J M R Q cells slots h pc' ls (.int (x &&& y) :: st)) : J M R Q cells slots h pc ls (.int y :: .int x :: st) := by
  subst hp
  intro p l e s m args below meth c H locs D α α0 h0 lsA hC hW hll hcl hl
  exact lv_iand hC.1 hC.2.1 (h_dec hC hd)  (k p l e s m args below meth c H locs D α α0 h0 lsA hC hW hll (h_cl_i (h_cl_tl (h_cl_tl hcl))) hl)
theorem j_ior {x y : Int32} (hd : fnd (h_tab M) pc = some (.ior, 1)) (hp : pc + 1 = pc')  (k : J M R Q cells slots h pc' ls (.int (x ||| y) :: st)) : J M R Q cells slots h pc ls (.int y :: .int x :: st) := by
  subst hp
  intro p l e s m args below meth c H locs D α α0 h0 lsA hC hW hll hcl hl
  exact lv_ior hC.1 hC.2.1 (h_dec hC hd)  (k p l e s m args below meth c H locs D α α0 h0 lsA hC hW hll (h_cl_i (h_cl_tl (h_cl_tl hcl))) hl)
theorem j_ixor {x y : Int32} (hd : fnd (h_tab M) pc = some (.ixor, 1)) (hp : pc + 1 = pc')  (k : J M R Q cells slots h pc' ls (.int (x ^^^ y) :: st)) : J M R Q cells slots h pc ls (.int y :: .int x :: st) := by
  subst hp
  intro p l e s m args below meth c H locs D α α0 h0 lsA hC hW hll hcl hl
  exact lv_ixor hC.1 hC.2.1 (h_dec hC hd)  (k p l e s m args below meth c H locs D α α0 h0 lsA hC hW hll (h_cl_i (h_cl_tl (h_cl_tl hcl))) hl)
theorem j_ladd {x y : Int64} (hd : fnd (h_tab M) pc = some (.ladd, 1)) (hp : pc + 1 = pc')  (k : J M R Q cells slots h pc' ls (.long (x + y) :: st)) : J M R Q cells slots h pc ls (.long y :: .long x :: st) := by
  subst hp
  intro p l e s m args below meth c H locs D α α0 h0 lsA hC hW hll hcl hl
  exact lv_ladd hC.1 hC.2.1 (h_dec hC hd)  (k p l e s m args below meth c H locs D α α0 h0 lsA hC hW hll (h_cl_l (h_cl_tl (h_cl_tl hcl))) hl)
theorem j_lsub {x y : Int64} (hd : fnd (h_tab M) pc = some (.lsub, 1)) (hp : pc + 1 = pc')  (k : J M R Q cells slots h pc' ls (.long (x - y) :: st)) : J M R Q cells slots h pc ls (.long y :: .long x :: st) := by
  subst hp
  intro p l e s m args below meth c H locs D α α0 h0 lsA hC hW hll hcl hl
  exact lv_lsub hC.1 hC.2.1 (h_dec hC hd)  (k p l e s m args below meth c H locs D α α0 h0 lsA hC hW hll (h_cl_l (h_cl_tl (h_cl_tl hcl))) hl)
theorem j_lmul {x y : Int64} (hd : fnd (h_tab M) pc = some (.lmul, 1)) (hp : pc + 1 = pc')  (k : J M R Q cells slots h pc' ls (.long (x * y) :: st)) : J M R Q cells slots h pc ls (.long y :: .long x :: st) := by
  subst hp
  intro p l e s m args below meth c H locs D α α0 h0 lsA hC hW hll hcl hl
  exact lv_lmul hC.1 hC.2.1 (h_dec hC hd)  (k p l e s m args below meth c H locs D α α0 h0 lsA hC hW hll (h_cl_l (h_cl_tl (h_cl_tl hcl))) hl)
theorem j_land {x y : Int64} (hd : fnd (h_tab M) pc = some (.land, 1)) (hp : pc + 1 = pc')  (k : J M R Q cells slots h pc' ls (.long (x &&& y) :: st)) : J M R Q cells slots h pc ls (.long y :: .long x :: st) := by
  subst hp
  intro p l e s m args below meth c H locs D α α0 h0 lsA hC hW hll hcl hl
  exact lv_land hC.1 hC.2.1 (h_dec hC hd)  (k p l e s m args below meth c H locs D α α0 h0 lsA hC hW hll (h_cl_l (h_cl_tl (h_cl_tl hcl))) hl)
theorem j_lor {x y : Int64} (hd : fnd (h_tab M) pc = some (.lor, 1)) (hp : pc + 1 = pc')  (k : J M R Q cells slots h pc' ls (.long (x ||| y) :: st)) : J M R Q cells slots h pc ls (.long y :: .long x :: st) := by
  subst hp
  intro p l e s m args below meth c H locs D α α0 h0 lsA hC hW hll hcl hl
  exact lv_lor hC.1 hC.2.1 (h_dec hC hd)  (k p l e s m args below meth c H locs D α α0 h0 lsA hC hW hll (h_cl_l (h_cl_tl (h_cl_tl hcl))) hl)
theorem j_lxor {x y : Int64} (hd : fnd (h_tab M) pc = some (.lxor, 1)) (hp : pc + 1 = pc')  (k : J M R Q cells slots h pc' ls (.long (x ^^^ y) :: st)) : J M R Q cells slots h pc ls (.long y :: .long x :: st) := by
  subst hp
  intro p l e s m args below meth c H locs D α α0 h0 lsA hC hW hll hcl hl
  exact lv_lxor hC.1 hC.2.1 (h_dec hC hd)  (k p l e s m args below meth c H locs D α α0 h0 lsA hC hW hll (h_cl_l (h_cl_tl (h_cl_tl hcl))) hl)
theorem j_idiv {x y : Int32} (hd : fnd (h_tab M) pc = some (.idiv, 1)) (hp : pc + 1 = pc') (hne : ¬ y = 0) (k : J M R Q cells slots h pc' ls (.int (x / y) :: st)) : J M R Q cells slots h pc ls (.int y :: .int x :: st) := by
  subst hp
  intro p l e s m args below meth c H locs D α α0 h0 lsA hC hW hll hcl hl
  exact lv_idiv hC.1 hC.2.1 (h_dec hC hd) hne (k p l e s m args below meth c H locs D α α0 h0 lsA hC hW hll (h_cl_i (h_cl_tl (h_cl_tl hcl))) hl)
theorem j_ldiv {x y : Int64} (hd : fnd (h_tab M) pc = some (.ldiv, 1)) (hp : pc + 1 = pc') (hne : ¬ y = 0) (k : J M R Q cells slots h pc' ls (.long (x / y) :: st)) : J M R Q cells slots h pc ls (.long y :: .long x :: st) := by
  subst hp
  intro p l e s m args below meth c H locs D α α0 h0 lsA hC hW hll hcl hl
  exact lv_ldiv hC.1 hC.2.1 (h_dec hC hd) hne (k p l e s m args below meth c H locs D α α0 h0 lsA hC hW hll (h_cl_l (h_cl_tl (h_cl_tl hcl))) hl)
theorem j_lneg {x : Int64} (hd : fnd (h_tab M) pc = some (.lneg, 1)) (hp : pc + 1 = pc')  (k : J M R Q cells slots h pc' ls (.long (-x) :: st)) : J M R Q cells slots h pc ls (.long x :: st) := by
  subst hp
  intro p l e s m args below meth c H locs D α α0 h0 lsA hC hW hll hcl hl
  exact lv_lneg hC.1 hC.2.1 (h_dec hC hd)  (k p l e s m args below meth c H locs D α α0 h0 lsA hC hW hll (h_cl_l (h_cl_tl hcl)) hl)
theorem j_i2l {x : Int32} (hd : fnd (h_tab M) pc = some (.i2l, 1)) (hp : pc + 1 = pc')  (k : J M R Q cells slots h pc' ls (.long x.toInt64 :: st)) : J M R Q cells slots h pc ls (.int x :: st) := by
  subst hp
  intro p l e s m args below meth c H locs D α α0 h0 lsA hC hW hll hcl hl
  exact lv_i2l hC.1 hC.2.1 (h_dec hC hd) rfl (k p l e s m args below meth c H locs D α α0 h0 lsA hC hW hll (h_cl_l (h_cl_tl hcl)) hl)
theorem j_l2i {x : Int64} (hd : fnd (h_tab M) pc = some (.l2i, 1)) (hp : pc + 1 = pc')  (k : J M R Q cells slots h pc' ls (.int x.toInt32 :: st)) : J M R Q cells slots h pc ls (.long x :: st) := by
  subst hp
  intro p l e s m args below meth c H locs D α α0 h0 lsA hC hW hll hcl hl
  exact lv_l2i hC.1 hC.2.1 (h_dec hC hd) rfl (k p l e s m args below meth c H locs D α α0 h0 lsA hC hW hll (h_cl_i (h_cl_tl hcl)) hl)
theorem j_i2b {x : Int32} (hd : fnd (h_tab M) pc = some (.i2b, 1)) (hp : pc + 1 = pc')  (k : J M R Q cells slots h pc' ls (.int x.toInt8.toInt32 :: st)) : J M R Q cells slots h pc ls (.int x :: st) := by
  subst hp
  intro p l e s m args below meth c H locs D α α0 h0 lsA hC hW hll hcl hl
  exact lv_i2b hC.1 hC.2.1 (h_dec hC hd) rfl (k p l e s m args below meth c H locs D α α0 h0 lsA hC hW hll (h_cl_i (h_cl_tl hcl)) hl)
theorem j_lshl {x : Int64} {y : Int32} (hd : fnd (h_tab M) pc = some (.lshl, 1)) (hp : pc + 1 = pc')  (k : J M R Q cells slots h pc' ls (.long (x <<< (y.toInt64 &&& 63)) :: st)) : J M R Q cells slots h pc ls (.int y :: .long x :: st) := by
  subst hp
  intro p l e s m args below meth c H locs D α α0 h0 lsA hC hW hll hcl hl
  exact lv_lshl hC.1 hC.2.1 (h_dec hC hd) rfl (k p l e s m args below meth c H locs D α α0 h0 lsA hC hW hll (h_cl_l (h_cl_tl (h_cl_tl hcl))) hl)
theorem j_lshr {x : Int64} {y : Int32} (hd : fnd (h_tab M) pc = some (.lshr, 1)) (hp : pc + 1 = pc')  (k : J M R Q cells slots h pc' ls (.long (x >>> (y.toInt64 &&& 63)) :: st)) : J M R Q cells slots h pc ls (.int y :: .long x :: st) := by
  subst hp
  intro p l e s m args below meth c H locs D α α0 h0 lsA hC hW hll hcl hl
  exact lv_lshr hC.1 hC.2.1 (h_dec hC hd) rfl (k p l e s m args below meth c H locs D α α0 h0 lsA hC hW hll (h_cl_l (h_cl_tl (h_cl_tl hcl))) hl)
theorem j_lcmp {x y : Int64} (hd : fnd (h_tab M) pc = some (.lcmp, 1)) (hp : pc + 1 = pc')  (k : J M R Q cells slots h pc' ls (.int (lg_cmp x y) :: st)) : J M R Q cells slots h pc ls (.long y :: .long x :: st) := by
  subst hp
  intro p l e s m args below meth c H locs D α α0 h0 lsA hC hW hll hcl hl
  exact W.lcmp hC.1 hC.2.1 (h_dec hC hd)  (k p l e s m args below meth c H locs D α α0 h0 lsA hC hW hll (h_cl_i (h_cl_tl (h_cl_tl hcl))) hl)
theorem j_dup {v : Value} (hd : fnd (h_tab M) pc = some (.dup, 1)) (hp : pc + 1 = pc') (hc : v.category = 1) (k : J M R Q cells slots h pc' ls (v :: v :: st)) : J M R Q cells slots h pc ls (v :: st) := by
  subst hp
  intro p l e s m args below meth c H locs D α α0 h0 lsA hC hW hll hcl hl
  exact lv_dup hC.1 hC.2.1 (h_dec hC hd) ((h_rv_cat α v).trans hc) (k p l e s m args below meth c H locs D α α0 h0 lsA hC hW hll (h_cl_cons (h_cl_hd hcl) hcl) hl)
theorem j_pop {v : Value} (hd : fnd (h_tab M) pc = some (.pop, 1)) (hp : pc + 1 = pc') (hc : v.category = 1) (k : J M R Q cells slots h pc' ls (st)) : J M R Q cells slots h pc ls (v :: st) := by
  subst hp
  intro p l e s m args below meth c H locs D α α0 h0 lsA hC hW hll hcl hl
  exact lv_pop hC.1 hC.2.1 (h_dec hC hd) ((h_rv_cat α v).trans hc) (k p l e s m args below meth c H locs D α α0 h0 lsA hC hW hll (h_cl_tl hcl) hl)
theorem j_dup_x1 {v w : Value} (hd : fnd (h_tab M) pc = some (.dup_x1, 1)) (hp : pc + 1 = pc') (hc : v.category = 1) (hc2 : w.category = 1) (k : J M R Q cells slots h pc' ls (v :: w :: v :: st)) : J M R Q cells slots h pc ls (v :: w :: st) := by
  subst hp
  intro p l e s m args below meth c H locs D α α0 h0 lsA hC hW hll hcl hl
  exact lv_dup_x1 hC.1 hC.2.1 (h_dec hC hd) ((h_rv_cat α v).trans hc) ((h_rv_cat α w).trans hc2) (k p l e s m args below meth c H locs D α α0 h0 lsA hC hW hll (h_cl_cons (h_cl_hd hcl) (h_cl_cons (h_cl_hd (h_cl_tl hcl)) (h_cl_cons (h_cl_hd hcl) (h_cl_tl (h_cl_tl hcl))))) hl)
theorem j_dup2_11 {v w : Value} (hd : fnd (h_tab M) pc = some (.dup2, 1)) (hp : pc + 1 = pc') (hc : v.category = 1) (hc2 : w.category = 1) (k : J M R Q cells slots h pc' ls (v :: w :: v :: w :: st)) : J M R Q cells slots h pc ls (v :: w :: st) := by
  subst hp
  intro p l e s m args below meth c H locs D α α0 h0 lsA hC hW hll hcl hl
  exact lv_dup2_11 hC.1 hC.2.1 (h_dec hC hd) ((h_rv_cat α v).trans hc) ((h_rv_cat α w).trans hc2) (k p l e s m args below meth c H locs D α α0 h0 lsA hC hW hll (h_cl_cons (h_cl_hd hcl) (h_cl_cons (h_cl_hd (h_cl_tl hcl)) hcl)) hl)
theorem j_dup2_2 {v : Value} (hd : fnd (h_tab M) pc = some (.dup2, 1)) (hp : pc + 1 = pc') (hc : v.category = 2) (k : J M R Q cells slots h pc' ls (v :: v :: st)) : J M R Q cells slots h pc ls (v :: st) := by
  subst hp
  intro p l e s m args below meth c H locs D α α0 h0 lsA hC hW hll hcl hl
  exact lv_dup2_2 hC.1 hC.2.1 (h_dec hC hd) ((h_rv_cat α v).trans hc) (k p l e s m args below meth c H locs D α α0 h0 lsA hC hW hll (h_cl_cons (h_cl_hd hcl) hcl) hl)
theorem j_istore_n {n : Fin 4} {x : Int32} {ls' : List (Nat × Value)} (hd : fnd (h_tab M) pc = some (.istore_n n, 1)) (hp : pc + 1 = pc') (hn : (n : Nat) < h_nL M) (hs : lset1 (n : Nat) (.int x) ls = ls') (k : J M R Q cells slots h pc' ls' st) : J M R Q cells slots h pc ls (.int x :: st) := by
  subst hp; subst hs
  intro p l e s m args below meth c H locs D α α0 h0 lsA hC hW hll hcl hl
  exact lv_istore_n hC.1 hC.2.1 (h_dec hC hd) rfl hl hn (h_lset1 α n (.int x) ls) (fun lsB hl' => k p l e s m args below meth c H locs D α α0 h0 lsB hC hW (h_ll1 (h_cl_hd hcl) hll) (h_cl_tl hcl) hl')
theorem j_istore {n : Nat} {x : Int32} {ls' : List (Nat × Value)} (hd : fnd (h_tab M) pc = some (.istore n, 2)) (hp : pc + 2 = pc') (hn : n < h_nL M) (hs : lset1 n (.int x) ls = ls') (k : J M R Q cells slots h pc' ls' st) : J M R Q cells slots h pc ls (.int x :: st) := by
  subst hp; subst hs
  intro p l e s m args below meth c H locs D α α0 h0 lsA hC hW hll hcl hl
  exact lv_istore hC.1 hC.2.1 (h_dec hC hd) hl hn (h_lset1 α n (.int x) ls) (fun lsB hl' => k p l e s m args below meth c H locs D α α0 h0 lsB hC hW (h_ll1 (h_cl_hd hcl) hll) (h_cl_tl hcl) hl')
theorem j_lstore_n {n : Fin 4} {x : Int64} {ls' : List (Nat × Value)} (hd : fnd (h_tab M) pc = some (.lstore_n n, 1)) (hp : pc + 1 = pc') (hn : (n : Nat) + 1 < h_nL M) (hs : lset2 (n : Nat) (.long x) ls = ls') (k : J M R Q cells slots h pc' ls' st) : J M R Q cells slots h pc ls (.long x :: st) := by
  subst hp; subst hs
  intro p l e s m args below meth c H locs D α α0 h0 lsA hC hW hll hcl hl
  exact lv_lstore_n hC.1 hC.2.1 (h_dec hC hd) rfl hl hn (h_lset2 α n (.long x) ls) (fun lsB hl' => k p l e s m args below meth c H locs D α α0 h0 lsB hC hW (h_ll2 (h_cl_hd hcl) hll) (h_cl_tl hcl) hl')
theorem j_lstore {n : Nat} {x : Int64} {ls' : List (Nat × Value)} (hd : fnd (h_tab M) pc = some (.lstore n, 2)) (hp : pc + 2 = pc') (hn : n + 1 < h_nL M) (hs : lset2 n (.long x) ls = ls') (k : J M R Q cells slots h pc' ls' st) : J M R Q cells slots h pc ls (.long x :: st) := by
  subst hp; subst hs
  intro p l e s m args below meth c H locs D α α0 h0 lsA hC hW hll hcl hl
  exact lv_lstore hC.1 hC.2.1 (h_dec hC hd) hl hn (h_lset2 α n (.long x) ls) (fun lsB hl' => k p l e s m args below meth c H locs D α α0 h0 lsB hC hW (h_ll2 (h_cl_hd hcl) hll) (h_cl_tl hcl) hl')
theorem j_astore_n {n : Fin 4} {x : Nat} {ls' : List (Nat × Value)} (hd : fnd (h_tab M) pc = some (.astore_n n, 1)) (hp : pc + 1 = pc') (hn : (n : Nat) < h_nL M) (hs : lset1 (n : Nat) (.ref x) ls = ls') (k : J M R Q cells slots h pc' ls' st) : J M R Q cells slots h pc ls (.ref x :: st) := by
  subst hp; subst hs
  intro p l e s m args below meth c H locs D α α0 h0 lsA hC hW hll hcl hl
  exact lv_astore_n hC.1 hC.2.1 (h_dec hC hd) rfl hl hn (h_lset1 α n (.ref x) ls) (fun lsB hl' => k p l e s m args below meth c H locs D α α0 h0 lsB hC hW (h_ll1 (h_cl_hd hcl) hll) (h_cl_tl hcl) hl')
theorem j_astore {n : Nat} {x : Nat} {ls' : List (Nat × Value)} (hd : fnd (h_tab M) pc = some (.astore n, 2)) (hp : pc + 2 = pc') (hn : n < h_nL M) (hs : lset1 n (.ref x) ls = ls') (k : J M R Q cells slots h pc' ls' st) : J M R Q cells slots h pc ls (.ref x :: st) := by
  subst hp; subst hs
  intro p l e s m args below meth c H locs D α α0 h0 lsA hC hW hll hcl hl
  exact lv_astore hC.1 hC.2.1 (h_dec hC hd) hl hn (h_lset1 α n (.ref x) ls) (fun lsB hl' => k p l e s m args below meth c H locs D α α0 h0 lsB hC hW (h_ll1 (h_cl_hd hcl) hll) (h_cl_tl hcl) hl')
theorem j_astore_nN {n : Fin 4} {ls' : List (Nat × Value)} (hd : fnd (h_tab M) pc = some (.astore_n n, 1)) (hp : pc + 1 = pc') (hn : (n : Nat) < h_nL M) (hs : lset1 (n : Nat) .null ls = ls') (k : J M R Q cells slots h pc' ls' st) : J M R Q cells slots h pc ls (.null :: st) := by
  subst hp; subst hs
  intro p l e s m args below meth c H locs D α α0 h0 lsA hC hW hll hcl hl
  exact lv_astore_nN hC.1 hC.2.1 (h_dec hC hd) rfl hl hn (h_lset1 α n .null ls) (fun lsB hl' => k p l e s m args below meth c H locs D α α0 h0 lsB hC hW (h_ll1 (h_cl_hd hcl) hll) (h_cl_tl hcl) hl')
theorem j_astoreN {n : Nat} {ls' : List (Nat × Value)} (hd : fnd (h_tab M) pc = some (.astore n, 2)) (hp : pc + 2 = pc') (hn : n < h_nL M) (hs : lset1 n .null ls = ls') (k : J M R Q cells slots h pc' ls' st) : J M R Q cells slots h pc ls (.null :: st) := by
  subst hp; subst hs
  intro p l e s m args below meth c H locs D α α0 h0 lsA hC hW hll hcl hl
  exact lv_astoreN hC.1 hC.2.1 (h_dec hC hd) hl hn (h_lset1 α n .null ls) (fun lsB hl' => k p l e s m args below meth c H locs D α α0 h0 lsB hC hW (h_ll1 (h_cl_hd hcl) hll) (h_cl_tl hcl) hl')
theorem j_iinc {n : Nat} {i : Int} {x d : Int32} {ls' : List (Nat × Value)} (hd : fnd (h_tab M) pc = some (.iinc n i, 3)) (hp : pc + 3 = pc') (hv : fnd ls n = some (.int x)) (hi : Int32.ofInt i = d) (hn : n < h_nL M) (hs : lset1 n (.int (x + d)) ls = ls') (k : J M R Q cells slots h pc' ls' st) : J M R Q cells slots h pc ls st := by
  subst hp; subst hi; subst hs
  intro p l e s m args below meth c H locs D α α0 h0 lsA hC hW hll hcl hl
  obtain ⟨j, hj⟩ := List.getElem?_of_mem (List.mem_map.mpr ⟨(n, Value.int x), fnd_mem _ _ _ hv, rfl⟩ : (n, h_rv α (.int x)) ∈ ls.map (fun q => (q.1, h_rv α q.2)))
  exact lv_iinc hC.1 hC.2.1 (h_dec hC hd) hl hj rfl hn (h_lset1 α n (.int (x + Int32.ofInt i)) ls) (fun lsB hl' => k p l e s m args below meth c H locs D α α0 h0 lsB hC hW (h_ll1 trivial hll) hcl hl')
theorem j_if_eq {x : Int32} {off : Int} {tgt : Nat} (hd : fnd (h_tab M) pc = some (.ifCond .eq off, 3)) (ht : (pc : Int) + off = (tgt : Int)) (hp : pc + 3 = pc') (kt : x = 0 → J M R Q cells slots h tgt ls st) (kf : ¬ x = 0 → J M R Q cells slots h pc' ls st) : J M R Q cells slots h pc ls (.int x :: st) := by
  subst hp
  intro p l e s m args below meth c H locs D α α0 h0 lsA hC hW hll hcl hl
  exact lv_if_eq hC.1 hC.2.1 (h_dec hC hd) ht (fun q => kt q p l e s m args below meth c H locs D α α0 h0 lsA hC hW hll (h_cl_tl hcl) hl) (fun q => kf q p l e s m args below meth c H locs D α α0 h0 lsA hC hW hll (h_cl_tl hcl) hl)
theorem j_icmp_eq {x y : Int32} {off : Int} {tgt : Nat} (hd : fnd (h_tab M) pc = some (.if_icmp .eq off, 3)) (ht : (pc : Int) + off = (tgt : Int)) (hp : pc + 3 = pc') (kt : x = y → J M R Q cells slots h tgt ls st) (kf : ¬ x = y → J M R Q cells slots h pc' ls st) : J M R Q cells slots h pc ls (.int y :: .int x :: st) := by
  subst hp
  intro p l e s m args below meth c H locs D α α0 h0 lsA hC hW hll hcl hl
  exact lv_icmp_eq hC.1 hC.2.1 (h_dec hC hd) ht (fun q => kt q p l e s m args below meth c H locs D α α0 h0 lsA hC hW hll (h_cl_tl (h_cl_tl hcl)) hl) (fun q => kf q p l e s m args below meth c H locs D α α0 h0 lsA hC hW hll (h_cl_tl (h_cl_tl hcl)) hl)
theorem j_if_ne {x : Int32} {off : Int} {tgt : Nat} (hd : fnd (h_tab M) pc = some (.ifCond .ne off, 3)) (ht : (pc : Int) + off = (tgt : Int)) (hp : pc + 3 = pc') (kt : ¬ x = 0 → J M R Q cells slots h tgt ls st) (kf : x = 0 → J M R Q cells slots h pc' ls st) : J M R Q cells slots h pc ls (.int x :: st) := by
  subst hp
  intro p l e s m args below meth c H locs D α α0 h0 lsA hC hW hll hcl hl
  exact lv_if_ne hC.1 hC.2.1 (h_dec hC hd) ht (fun q => kt q p l e s m args below meth c H locs D α α0 h0 lsA hC hW hll (h_cl_tl hcl) hl) (fun q => kf q p l e s m args below meth c H locs D α α0 h0 lsA hC hW hll (h_cl_tl hcl) hl)
theorem j_icmp_ne {x y : Int32} {off : Int} {tgt : Nat} (hd : fnd (h_tab M) pc = some (.if_icmp .ne off, 3)) (ht : (pc : Int) + off = (tgt : Int)) (hp : pc + 3 = pc') (kt : ¬ x = y → J M R Q cells slots h tgt ls st) (kf : x = y → J M R Q cells slots h pc' ls st) : J M R Q cells slots h pc ls (.int y :: .int x :: st) := by
  subst hp
  intro p l e s m args below meth c H locs D α α0 h0 lsA hC hW hll hcl hl
  exact lv_icmp_ne hC.1 hC.2.1 (h_dec hC hd) ht (fun q => kt q p l e s m args below meth c H locs D α α0 h0 lsA hC hW hll (h_cl_tl (h_cl_tl hcl)) hl) (fun q => kf q p l e s m args below meth c H locs D α α0 h0 lsA hC hW hll (h_cl_tl (h_cl_tl hcl)) hl)
theorem j_if_lt {x : Int32} {off : Int} {tgt : Nat} (hd : fnd (h_tab M) pc = some (.ifCond .lt off, 3)) (ht : (pc : Int) + off = (tgt : Int)) (hp : pc + 3 = pc') (kt : x < 0 → J M R Q cells slots h tgt ls st) (kf : ¬ x < 0 → J M R Q cells slots h pc' ls st) : J M R Q cells slots h pc ls (.int x :: st) := by
  subst hp
  intro p l e s m args below meth c H locs D α α0 h0 lsA hC hW hll hcl hl
  exact lv_if_lt hC.1 hC.2.1 (h_dec hC hd) ht (fun q => kt q p l e s m args below meth c H locs D α α0 h0 lsA hC hW hll (h_cl_tl hcl) hl) (fun q => kf q p l e s m args below meth c H locs D α α0 h0 lsA hC hW hll (h_cl_tl hcl) hl)
theorem j_icmp_lt {x y : Int32} {off : Int} {tgt : Nat} (hd : fnd (h_tab M) pc = some (.if_icmp .lt off, 3)) (ht : (pc : Int) + off = (tgt : Int)) (hp : pc + 3 = pc') (kt : x < y → J M R Q cells slots h tgt ls st) (kf : ¬ x < y → J M R Q cells slots h pc' ls st) : J M R Q cells slots h pc ls (.int y :: .int x :: st) := by
  subst hp
  intro p l e s m args below meth c H locs D α α0 h0 lsA hC hW hll hcl hl
  exact lv_icmp_lt hC.1 hC.2.1 (h_dec hC hd) ht (fun q => kt q p l e s m args below meth c H locs D α α0 h0 lsA hC hW hll (h_cl_tl (h_cl_tl hcl)) hl) (fun q => kf q p l e s m args below meth c H locs D α α0 h0 lsA hC hW hll (h_cl_tl (h_cl_tl hcl)) hl)
theorem j_if_ge {x : Int32} {off : Int} {tgt : Nat} (hd : fnd (h_tab M) pc = some (.ifCond .ge off, 3)) (ht : (pc : Int) + off = (tgt : Int)) (hp : pc + 3 = pc') (kt : 0 ≤ x → J M R Q cells slots h tgt ls st) (kf : ¬ 0 ≤ x → J M R Q cells slots h pc' ls st) : J M R Q cells slots h pc ls (.int x :: st) := by
  subst hp
  intro p l e s m args below meth c H locs D α α0 h0 lsA hC hW hll hcl hl
  exact lv_if_ge hC.1 hC.2.1 (h_dec hC hd) ht (fun q => kt q p l e s m args below meth c H locs D α α0 h0 lsA hC hW hll (h_cl_tl hcl) hl) (fun q => kf q p l e s m args below meth c H locs D α α0 h0 lsA hC hW hll (h_cl_tl hcl) hl)
theorem j_icmp_ge {x y : Int32} {off : Int} {tgt : Nat} (hd : fnd (h_tab M) pc = some (.if_icmp .ge off, 3)) (ht : (pc : Int) + off = (tgt : Int)) (hp : pc + 3 = pc') (kt : y ≤ x → J M R Q cells slots h tgt ls st) (kf : ¬ y ≤ x → J M R Q cells slots h pc' ls st) : J M R Q cells slots h pc ls (.int y :: .int x :: st) := by
  subst hp
  intro p l e s m args below meth c H locs D α α0 h0 lsA hC hW hll hcl hl
  exact lv_icmp_ge hC.1 hC.2.1 (h_dec hC hd) ht (fun q => kt q p l e s m args below meth c H locs D α α0 h0 lsA hC hW hll (h_cl_tl (h_cl_tl hcl)) hl) (fun q => kf q p l e s m args below meth c H locs D α α0 h0 lsA hC hW hll (h_cl_tl (h_cl_tl hcl)) hl)
theorem j_if_gt {x : Int32} {off : Int} {tgt : Nat} (hd : fnd (h_tab M) pc = some (.ifCond .gt off, 3)) (ht : (pc : Int) + off = (tgt : Int)) (hp : pc + 3 = pc') (kt : 0 < x → J M R Q cells slots h tgt ls st) (kf : ¬ 0 < x → J M R Q cells slots h pc' ls st) : J M R Q cells slots h pc ls (.int x :: st) := by
  subst hp
  intro p l e s m args below meth c H locs D α α0 h0 lsA hC hW hll hcl hl
  exact lv_if_gt hC.1 hC.2.1 (h_dec hC hd) ht (fun q => kt q p l e s m args below meth c H locs D α α0 h0 lsA hC hW hll (h_cl_tl hcl) hl) (fun q => kf q p l e s m args below meth c H locs D α α0 h0 lsA hC hW hll (h_cl_tl hcl) hl)
theorem j_icmp_gt {x y : Int32} {off : Int} {tgt : Nat} (hd : fnd (h_tab M) pc = some (.if_icmp .gt off, 3)) (ht : (pc : Int) + off = (tgt : Int)) (hp : pc + 3 = pc') (kt : y < x → J M R Q cells slots h tgt ls st) (kf : ¬ y < x → J M R Q cells slots h pc' ls st) : J M R Q cells slots h pc ls (.int y :: .int x :: st) := by
  subst hp
  intro p l e s m args below meth c H locs D α α0 h0 lsA hC hW hll hcl hl
  exact lv_icmp_gt hC.1 hC.2.1 (h_dec hC hd) ht (fun q => kt q p l e s m args below meth c H locs D α α0 h0 lsA hC hW hll (h_cl_tl (h_cl_tl hcl)) hl) (fun q => kf q p l e s m args below meth c H locs D α α0 h0 lsA hC hW hll (h_cl_tl (h_cl_tl hcl)) hl)
theorem j_if_le {x : Int32} {off : Int} {tgt : Nat} (hd : fnd (h_tab M) pc = some (.ifCond .le off, 3)) (ht : (pc : Int) + off = (tgt : Int)) (hp : pc + 3 = pc') (kt : x ≤ 0 → J M R Q cells slots h tgt ls st) (kf : ¬ x ≤ 0 → J M R Q cells slots h pc' ls st) : J M R Q cells slots h pc ls (.int x :: st) := by
  subst hp
  intro p l e s m args below meth c H locs D α α0 h0 lsA hC hW hll hcl hl
  exact lv_if_le hC.1 hC.2.1 (h_dec hC hd) ht (fun q => kt q p l e s m args below meth c H locs D α α0 h0 lsA hC hW hll (h_cl_tl hcl) hl) (fun q => kf q p l e s m args below meth c H locs D α α0 h0 lsA hC hW hll (h_cl_tl hcl) hl)
theorem j_icmp_le {x y : Int32} {off : Int} {tgt : Nat} (hd : fnd (h_tab M) pc = some (.if_icmp .le off, 3)) (ht : (pc : Int) + off = (tgt : Int)) (hp : pc + 3 = pc') (kt : x ≤ y → J M R Q cells slots h tgt ls st) (kf : ¬ x ≤ y → J M R Q cells slots h pc' ls st) : J M R Q cells slots h pc ls (.int y :: .int x :: st) := by
  subst hp
  intro p l e s m args below meth c H locs D α α0 h0 lsA hC hW hll hcl hl
  exact lv_icmp_le hC.1 hC.2.1 (h_dec hC hd) ht (fun q => kt q p l e s m args below meth c H locs D α α0 h0 lsA hC hW hll (h_cl_tl (h_cl_tl hcl)) hl) (fun q => kf q p l e s m args below meth c H locs D α α0 h0 lsA hC hW hll (h_cl_tl (h_cl_tl hcl)) hl)
theorem j_goto {off : Int} {tgt : Nat} (hd : fnd (h_tab M) pc = some (.goto off, 3)) (ht : (pc : Int) + off = (tgt : Int)) (k : J M R Q cells slots h tgt ls st) : J M R Q cells slots h pc ls st := by
  intro p l e s m args below meth c H locs D α α0 h0 lsA hC hW hll hcl hl
  exact lv_goto hC.1 hC.2.1 (h_dec hC hd) ht (k p l e s m args below meth c H locs D α α0 h0 lsA hC hW hll hcl hl)
theorem j_ifnull {x : Nat} {off : Int} (hd : fnd (h_tab M) pc = some (.ifnull off, 3)) (hp : pc + 3 = pc') (k : J M R Q cells slots h pc' ls st) : J M R Q cells slots h pc ls (.ref x :: st) := by
  subst hp
  intro p l e s m args below meth c H locs D α α0 h0 lsA hC hW hll hcl hl
  exact lv_ifnull hC.1 hC.2.1 (h_dec hC hd) (k p l e s m args below meth c H locs D α α0 h0 lsA hC hW hll (h_cl_tl hcl) hl)
theorem j_ifnonnull {x : Nat} {off : Int} {tgt : Nat} (hd : fnd (h_tab M) pc = some (.ifnonnull off, 3)) (ht : (pc : Int) + off = (tgt : Int)) (k : J M R Q cells slots h tgt ls st) : J M R Q cells slots h pc ls (.ref x :: st) := by
  intro p l e s m args below meth c H locs D α α0 h0 lsA hC hW hll hcl hl
  exact lv_ifnonnull hC.1 hC.2.1 (h_dec hC hd) ht (k p l e s m args below meth c H locs D α α0 h0 lsA hC hW hll (h_cl_tl hcl) hl)
theorem j_ifnullN {off : Int} {tgt : Nat} (hd : fnd (h_tab M) pc = some (.ifnull off, 3)) (ht : (pc : Int) + off = (tgt : Int)) (k : J M R Q cells slots h tgt ls st) : J M R Q cells slots h pc ls (.null :: st) := by
  intro p l e s m args below meth c H locs D α α0 h0 lsA hC hW hll hcl hl
  exact lv_ifnullN hC.1 hC.2.1 (h_dec hC hd) ht (k p l e s m args below meth c H locs D α α0 h0 lsA hC hW hll (h_cl_tl hcl) hl)
theorem j_ifnonnullN {off : Int} (hd : fnd (h_tab M) pc = some (.ifnonnull off, 3)) (hp : pc + 3 = pc') (k : J M R Q cells slots h pc' ls st) : J M R Q cells slots h pc ls (.null :: st) := by
  subst hp
  intro p l e s m args below meth c H locs D α α0 h0 lsA hC hW hll hcl hl
  exact lv_ifnonnullN hC.1 hC.2.1 (h_dec hC hd) (k p l e s m args below meth c H locs D α α0 h0 lsA hC hW hll (h_cl_tl hcl) hl)
theorem j_tableIn {dflt lo hi : Int} {offs : Array Int} {len : Nat} {x : Int32} {off : Int} {tgt : Nat} (hd : fnd (h_tab M) pc = some (.tableswitch dflt lo hi offs, len)) (h1 : ¬ x.toInt < lo) (h2 : ¬ hi < x.toInt) (ho : offs[(x.toInt - lo).toNat]? = some off) (ht : (pc : Int) + off = (tgt : Int)) (k : J M R Q cells slots h tgt ls st) : J M R Q cells slots h pc ls (.int x :: st) := by
  intro p l e s m args below meth c H locs D α α0 h0 lsA hC hW hll hcl hl
  exact lv_tableIn hC.1 hC.2.1 (h_dec hC hd) h1 h2 ho ht (k p l e s m args below meth c H locs D α α0 h0 lsA hC hW hll (h_cl_tl hcl) hl)
theorem j_tableOut {dflt lo hi : Int} {offs : Array Int} {len : Nat} {x : Int32} {tgt : Nat} (hd : fnd (h_tab M) pc = some (.tableswitch dflt lo hi offs, len)) (hq : x.toInt < lo ∨ hi < x.toInt) (ht : (pc : Int) + dflt = (tgt : Int)) (k : J M R Q cells slots h tgt ls st) : J M R Q cells slots h pc ls (.int x :: st) := by
  intro p l e s m args below meth c H locs D α α0 h0 lsA hC hW hll hcl hl
  exact lv_tableOut hC.1 hC.2.1 (h_dec hC hd) hq ht (k p l e s m args below meth c H locs D α α0 h0 lsA hC hW hll (h_cl_tl hcl) hl)
theorem j_ldc {idx : Nat} {v : Int32} (hd : fnd (h_tab M) pc = some (.ldc idx, 2)) (hp : pc + 2 = pc') (hw : Cond.constant (h_own M) idx v ∈ lw_tbl) (k : J M R Q cells slots h pc' ls (.int v :: st)) : J M R Q cells slots h pc ls st := by
  subst hp
  intro p l e s m args below meth c H locs D α α0 h0 lsA hC hW hll hcl hl
  exact lv_ldc hC.1 hC.2.1 hC.2.2.2.1 (hC.2.2.2.2.1 _ (h_in hw rfl)) (h_dec hC hd) (k p l e s m args below meth c H locs D α α0 h0 lsA hC hW hll (h_cl_i hcl) hl)
theorem j_ldc2 {idx : Nat} {v : Int64} (hd : fnd (h_tab M) pc = some (.ldc2_w idx, 3)) (hp : pc + 3 = pc') (hw : Cond.constantLong (h_own M) idx v ∈ lw_tbl) (k : J M R Q cells slots h pc' ls (.long v :: st)) : J M R Q cells slots h pc ls st := by
  subst hp
  intro p l e s m args below meth c H locs D α α0 h0 lsA hC hW hll hcl hl
  exact lv_ldc2 hC.1 hC.2.1 hC.2.2.2.1 (hC.2.2.2.2.1 _ (h_in hw rfl)) (h_dec hC hd) (k p l e s m args below meth c H locs D α α0 h0 lsA hC hW hll (h_cl_l hcl) hl)
end HINSTR
