/-! THE CLAIM OUT OF ONE WALK OF THE LAW'S BODY. Your part is whole_start (and what it stands on); all else here is the same for every law, but numbers. -/
def R_law : String := "NewSilverLaw"
def lw_P (b : Addr) (xs : List Int32) (args : Array Value) (s : State) : Prop := args = #[.ref b] ∧ s.IntsAt b xs ∧ xs.length ≤ 3584 ∧ (Jvm.Cond.and given_1 narrow_1).before args s = true
def lw_Q (_ : Array Value) (s : State) (o : Outcome) (t : State) : Prop := o = .returned (some (.int 1)) ∧ Framed s o t [] 600000 7302250
def lw_Z (below : List Frame) (a : Array Value) (s : State) : State → Prop := fun t => ∃ o, t.status = .running ∧ Ended t below o ∧ lw_Q a s o t
/-- the law's own end, with 1 on the stack, nothing written that was there before, its room as the claim has it -/
theorem lw_ret {p : Program} {l : Launch} {e : Env} {s : State} {m : MethodId} {below : List Frame} {meth : Method} {c : Code} {b : Nat} (hx : p.tables.exec = Jvm.exec) (hb : c.code = code) (hr : meth.sig.returnType = ret) (hlocks : meth.locks = false) {pc : Nat} {H : Heap} {ls : Array Slot} (hdg : decode code pc = .ok (.ireturn, 1)) : W p l e room_1 s m #[Value.ref b] below meth c H [] 600000 7302250 (lw_Z below #[Value.ref b] s) (F0 m pc ls [.int 1]) := by
  intro T hT X
  obtain ⟨fs, hret, hrun, hended, hW, hframe⟩ := X.leave (v := some (.int 1)) (hlocks := hlocks) (fun h => by rw [hr] at h; cases h)
  have hmeth' : T.vm.method? m = some meth := X.method'
  refine ⟨T.setFrames fs, ?_, .returned (some (.int 1)), hrun, hended, rfl, ⟨_, rfl⟩, hW, hframe⟩
  jvm_step X.here [X.here.top, hx, hb, hdg, hmeth', hr, ret, narrow_b1]
  (try refine ⟨rfl, ?_⟩); (try refine ⟨rfl, ?_⟩)
  first | (intro acts; rw [hret _ acts rfl rfl rfl]) | rw [hret _ _ rfl rfl rfl]
  exact Steps.refl _
/-- what holds at the law's entry: the machine, the code, the tables' words (any of lw_tbl by 'hts w (by decide +kernel)'), the script of L ints xs at the cell b, what the Statement gives of the start (any of its parts by flat_of_before) -/
def lw_At (p : Program) (s : State) (m : MethodId) (meth : Method) (c : Code) (b L : Nat) (xs : Nat → Int32) : Prop :=
  p.tables.exec = Jvm.exec ∧ c.code = code ∧ meth.sig.returnType = ret ∧ c.maxLocals = 4 ∧ s.vm.findClass R_law = some m.cls ∧ (∀ w ∈ lw_tbl, w.before #[Value.ref b] s = true) ∧ va_X b L xs s s.heap ∧ b < s.heap.size ∧ meth.locks = false ∧ (Jvm.Cond.and given_1 narrow_1).before #[Value.ref b] s = true
section LAWROWS
def h_tok (T : List (Nat × (Instr × Nat))) : Prop := ∀ q ∈ T, decode code q.1 = .ok q.2
/-- the law's own judgement: as J, at one context, with the law's end -/
def JL (p : Program) (l : Launch) (e : Env) (s : State) (m : MethodId) (below : List Frame) (meth : Method) (c : Code) (b : Nat) (D : hG) (αc : Nat → Nat) (cells slots : Nat) (h : hH) (pc : Nat) (ls : List (Nat × Value)) (st : List Value) : Prop :=
  ∀ (H : Heap) (locs : List Loc) (α : Nat → Nat) (lsA : Array Slot), h_Wd D α h αc (fun _ => none) s H locs → h_ll h ls → h_cl h st → lv_has lsA 4 (ls.map (fun q => (q.1, h_rv α q.2))) →
    W p l e room_1 s m #[Value.ref b] below meth c H locs cells slots (lw_Z below #[Value.ref b] s) (F0 m pc lsA (st.map (h_rv α)))
def h_LC (p : Program) (s : State) (m : MethodId) (meth : Method) (c : Code) (b L : Nat) (xs : Nat → Int32) (D : hG) : Prop := lw_At p s m meth c b L xs ∧ h_K D s ∧ h_cn D 30 = b
variable {p : Program} {l : Launch} {e : Env} {s : State} {m : MethodId} {below : List Frame} {meth : Method} {c : Code} {b L : Nat} {xs : Nat → Int32} {D : hG} {αc : Nat → Nat} {cells slots : Nat} {h : hH} {pc pc' : Nat} {ls : List (Nat × Value)} {st : List Value} {T : List (Nat × (Instr × Nat))}
theorem l_dec (hT : h_tok T) {x : Instr × Nat} (hd : fnd T pc = some x) : decode code pc = .ok x := hT (pc, x) (fnd_mem _ _ _ hd)
theorem l_hts (C : h_LC p s m meth c b L xs D) : ∀ w ∈ hw_tbl, w.before #[Value.ref b] s = true := fun w hw => C.1.2.2.2.2.2.1 w (List.mem_filter.mp hw).1
theorem l_heap {h' : hH} (q : h = h') (k : JL p l e s m below meth c b D αc cells slots h' pc ls st) : JL p l e s m below meth c b D αc cells slots h pc ls st := q ▸ k
theorem l_widen {a d : Nat} (h1 : cells ≤ a) (h2 : slots ≤ d) (k : JL p l e s m below meth c b D αc a d h pc ls st) : JL p l e s m below meth c b D αc cells slots h pc ls st := fun H locs α lsA hW hll hcl hl => W.widen h1 h2 (k H locs α lsA hW hll hcl hl)
theorem l_sub {ls' : List (Nat × Value)} (q : subL ls ls') (k : JL p l e s m below meth c b D αc cells slots h pc ls' st) : JL p l e s m below meth c b D αc cells slots h pc ls st := by
  intro H locs α lsA hW hll hcl hl
  refine k H locs α lsA hW (fun x hx => h_lat hll (subL_all q x hx)) hcl ⟨hl.1, hl.2.1, fun x hx => ?_⟩
  obtain ⟨y, hy, rfl⟩ := List.mem_map.mp hx
  exact h_has hl (subL_all q y hy)
theorem l_iconst {n : Int} {v : Int32} (C : h_LC p s m meth c b L xs D) (hT : h_tok T) (hd : fnd T pc = some (.iconst n, 1)) (hp : pc + 1 = pc') (hv : Int32.ofInt n = v) (k : JL p l e s m below meth c b D αc cells slots h pc' ls (.int v :: st)) : JL p l e s m below meth c b D αc cells slots h pc ls (st) := by
  subst hp
  intro H locs α lsA hW hll hcl hl
  exact lv_iconst C.1.1 C.1.2.1 (l_dec hT hd) hv (k H locs α lsA hW hll (h_cl_i hcl) hl)
theorem l_bipush {n : Int} {v : Int32} (C : h_LC p s m meth c b L xs D) (hT : h_tok T) (hd : fnd T pc = some (.bipush n, 2)) (hp : pc + 2 = pc') (hv : (Int8.ofInt n).toInt32 = v) (k : JL p l e s m below meth c b D αc cells slots h pc' ls (.int v :: st)) : JL p l e s m below meth c b D αc cells slots h pc ls (st) := by
  subst hp
  intro H locs α lsA hW hll hcl hl
  exact lv_bipush C.1.1 C.1.2.1 (l_dec hT hd) hv (k H locs α lsA hW hll (h_cl_i hcl) hl)
theorem l_iload_n {n : Fin 4} {x : Int32} (C : h_LC p s m meth c b L xs D) (hT : h_tok T) (hd : fnd T pc = some (.iload_n n, 1)) (hp : pc + 1 = pc') (hv : fnd ls n = some (.int x)) (k : JL p l e s m below meth c b D αc cells slots h pc' ls (.int x :: st)) : JL p l e s m below meth c b D αc cells slots h pc ls (st) := by
  subst hp
  intro H locs α lsA hW hll hcl hl
  exact lv_iload_n C.1.1 C.1.2.1 (l_dec hT hd) rfl (h_has hl hv) (k H locs α lsA hW hll (h_cl_i hcl) hl)
theorem l_aload_n {n : Fin 4} {x : Nat} (C : h_LC p s m meth c b L xs D) (hT : h_tok T) (hd : fnd T pc = some (.aload_n n, 1)) (hp : pc + 1 = pc') (hv : fnd ls n = some (.ref x)) (k : JL p l e s m below meth c b D αc cells slots h pc' ls (.ref x :: st)) : JL p l e s m below meth c b D αc cells slots h pc ls (st) := by
  subst hp
  intro H locs α lsA hW hll hcl hl
  exact lv_aload_n C.1.1 C.1.2.1 (l_dec hT hd) rfl (h_has hl hv) (k H locs α lsA hW hll (h_cl_cons (h_lat hll hv) hcl) hl)
theorem l_iadd {x y : Int32} (C : h_LC p s m meth c b L xs D) (hT : h_tok T) (hd : fnd T pc = some (.iadd, 1)) (hp : pc + 1 = pc')  (k : JL p l e s m below meth c b D αc cells slots h pc' ls (.int (x + y) :: st)) : JL p l e s m below meth c b D αc cells slots h pc ls (.int y :: .int x :: st) := by
  subst hp
  intro H locs α lsA hW hll hcl hl
  exact lv_iadd C.1.1 C.1.2.1 (l_dec hT hd)  (k H locs α lsA hW hll (h_cl_i (h_cl_tl (h_cl_tl hcl))) hl)
theorem l_isub {x y : Int32} (C : h_LC p s m meth c b L xs D) (hT : h_tok T) (hd : fnd T pc = some (.isub, 1)) (hp : pc + 1 = pc')  (k : JL p l e s m below meth c b D αc cells slots h pc' ls (.int (x - y) :: st)) : JL p l e s m below meth c b D αc cells slots h pc ls (.int y :: .int x :: st) := by
  subst hp
  intro H locs α lsA hW hll hcl hl
  exact lv_isub C.1.1 C.1.2.1 (l_dec hT hd)  (k H locs α lsA hW hll (h_cl_i (h_cl_tl (h_cl_tl hcl))) hl)
theorem l_iand {x y : Int32} (C : h_LC p s m meth c b L xs D) (hT : h_tok T) (hd : fnd T pc = some (.iand, 1)) (hp : pc + 1 = pc')  (k : JL p l e s m below meth c b D αc cells slots h pc' ls (.int (x &&& y) :: st)) : JL p l e s m below meth c b D αc cells slots h pc ls (.int y :: .int x :: st) := by
  subst hp
  intro H locs α lsA hW hll hcl hl
  exact lv_iand C.1.1 C.1.2.1 (l_dec hT hd)  (k H locs α lsA hW hll (h_cl_i (h_cl_tl (h_cl_tl hcl))) hl)
theorem l_land {x y : Int64} (C : h_LC p s m meth c b L xs D) (hT : h_tok T) (hd : fnd T pc = some (.land, 1)) (hp : pc + 1 = pc')  (k : JL p l e s m below meth c b D αc cells slots h pc' ls (.long (x &&& y) :: st)) : JL p l e s m below meth c b D αc cells slots h pc ls (.long y :: .long x :: st) := by
  subst hp
  intro H locs α lsA hW hll hcl hl
  exact lv_land C.1.1 C.1.2.1 (l_dec hT hd)  (k H locs α lsA hW hll (h_cl_l (h_cl_tl (h_cl_tl hcl))) hl)
theorem l_lor {x y : Int64} (C : h_LC p s m meth c b L xs D) (hT : h_tok T) (hd : fnd T pc = some (.lor, 1)) (hp : pc + 1 = pc')  (k : JL p l e s m below meth c b D αc cells slots h pc' ls (.long (x ||| y) :: st)) : JL p l e s m below meth c b D αc cells slots h pc ls (.long y :: .long x :: st) := by
  subst hp
  intro H locs α lsA hW hll hcl hl
  exact lv_lor C.1.1 C.1.2.1 (l_dec hT hd)  (k H locs α lsA hW hll (h_cl_l (h_cl_tl (h_cl_tl hcl))) hl)
theorem l_i2l {x : Int32} (C : h_LC p s m meth c b L xs D) (hT : h_tok T) (hd : fnd T pc = some (.i2l, 1)) (hp : pc + 1 = pc')  (k : JL p l e s m below meth c b D αc cells slots h pc' ls (.long x.toInt64 :: st)) : JL p l e s m below meth c b D αc cells slots h pc ls (.int x :: st) := by
  subst hp
  intro H locs α lsA hW hll hcl hl
  exact lv_i2l C.1.1 C.1.2.1 (l_dec hT hd) rfl (k H locs α lsA hW hll (h_cl_l (h_cl_tl hcl)) hl)
theorem l_lshl {x : Int64} {y : Int32} (C : h_LC p s m meth c b L xs D) (hT : h_tok T) (hd : fnd T pc = some (.lshl, 1)) (hp : pc + 1 = pc')  (k : JL p l e s m below meth c b D αc cells slots h pc' ls (.long (x <<< (y.toInt64 &&& 63)) :: st)) : JL p l e s m below meth c b D αc cells slots h pc ls (.int y :: .long x :: st) := by
  subst hp
  intro H locs α lsA hW hll hcl hl
  exact lv_lshl C.1.1 C.1.2.1 (l_dec hT hd) rfl (k H locs α lsA hW hll (h_cl_l (h_cl_tl (h_cl_tl hcl))) hl)
theorem l_lcmp {x y : Int64} (C : h_LC p s m meth c b L xs D) (hT : h_tok T) (hd : fnd T pc = some (.lcmp, 1)) (hp : pc + 1 = pc')  (k : JL p l e s m below meth c b D αc cells slots h pc' ls (.int (lg_cmp x y) :: st)) : JL p l e s m below meth c b D αc cells slots h pc ls (.long y :: .long x :: st) := by
  subst hp
  intro H locs α lsA hW hll hcl hl
  exact W.lcmp C.1.1 C.1.2.1 (l_dec hT hd)  (k H locs α lsA hW hll (h_cl_i (h_cl_tl (h_cl_tl hcl))) hl)
theorem l_dup {v : Value} (C : h_LC p s m meth c b L xs D) (hT : h_tok T) (hd : fnd T pc = some (.dup, 1)) (hp : pc + 1 = pc') (hc : v.category = 1) (k : JL p l e s m below meth c b D αc cells slots h pc' ls (v :: v :: st)) : JL p l e s m below meth c b D αc cells slots h pc ls (v :: st) := by
  subst hp
  intro H locs α lsA hW hll hcl hl
  exact lv_dup C.1.1 C.1.2.1 (l_dec hT hd) ((h_rv_cat α v).trans hc) (k H locs α lsA hW hll (h_cl_cons (h_cl_hd hcl) hcl) hl)
theorem l_istore_n {n : Fin 4} {x : Int32} {ls' : List (Nat × Value)} (C : h_LC p s m meth c b L xs D) (hT : h_tok T) (hd : fnd T pc = some (.istore_n n, 1)) (hp : pc + 1 = pc') (hn : (n : Nat) < 4) (hs : lset1 (n : Nat) (.int x) ls = ls') (k : JL p l e s m below meth c b D αc cells slots h pc' ls' st) : JL p l e s m below meth c b D αc cells slots h pc ls (.int x :: st) := by
  subst hp; subst hs
  intro H locs α lsA hW hll hcl hl
  exact lv_istore_n C.1.1 C.1.2.1 (l_dec hT hd) rfl hl hn (h_lset1 α n (.int x) ls) (fun lsB hl' => k H locs α lsB hW (h_ll1 (h_cl_hd hcl) hll) (h_cl_tl hcl) hl')
theorem l_astore_n {n : Fin 4} {x : Nat} {ls' : List (Nat × Value)} (C : h_LC p s m meth c b L xs D) (hT : h_tok T) (hd : fnd T pc = some (.astore_n n, 1)) (hp : pc + 1 = pc') (hn : (n : Nat) < 4) (hs : lset1 (n : Nat) (.ref x) ls = ls') (k : JL p l e s m below meth c b D αc cells slots h pc' ls' st) : JL p l e s m below meth c b D αc cells slots h pc ls (.ref x :: st) := by
  subst hp; subst hs
  intro H locs α lsA hW hll hcl hl
  exact lv_astore_n C.1.1 C.1.2.1 (l_dec hT hd) rfl hl hn (h_lset1 α n (.ref x) ls) (fun lsB hl' => k H locs α lsB hW (h_ll1 (h_cl_hd hcl) hll) (h_cl_tl hcl) hl')
theorem l_iinc {n : Nat} {i : Int} {x d : Int32} {ls' : List (Nat × Value)} (C : h_LC p s m meth c b L xs D) (hT : h_tok T) (hd : fnd T pc = some (.iinc n i, 3)) (hp : pc + 3 = pc') (hv : fnd ls n = some (.int x)) (hi : Int32.ofInt i = d) (hn : n < 4) (hs : lset1 n (.int (x + d)) ls = ls') (k : JL p l e s m below meth c b D αc cells slots h pc' ls' st) : JL p l e s m below meth c b D αc cells slots h pc ls st := by
  subst hp; subst hi; subst hs
  intro H locs α lsA hW hll hcl hl
  obtain ⟨j, hj⟩ := List.getElem?_of_mem (List.mem_map.mpr ⟨(n, Value.int x), fnd_mem _ _ _ hv, rfl⟩ : (n, h_rv α (.int x)) ∈ ls.map (fun q => (q.1, h_rv α q.2)))
  exact lv_iinc C.1.1 C.1.2.1 (l_dec hT hd) hl hj rfl hn (h_lset1 α n (.int (x + Int32.ofInt i)) ls) (fun lsB hl' => k H locs α lsB hW (h_ll1 trivial hll) hcl hl')
theorem l_goto {off : Int} {tgt : Nat} (C : h_LC p s m meth c b L xs D) (hT : h_tok T) (hd : fnd T pc = some (.goto off, 3)) (ht : (pc : Int) + off = (tgt : Int)) (k : JL p l e s m below meth c b D αc cells slots h tgt ls st) : JL p l e s m below meth c b D αc cells slots h pc ls st := by
  intro H locs α lsA hW hll hcl hl
  exact lv_goto C.1.1 C.1.2.1 (l_dec hT hd) ht (k H locs α lsA hW hll hcl hl)
theorem l_icmp_gt {x y : Int32} {off : Int} {tgt : Nat} (C : h_LC p s m meth c b L xs D) (hT : h_tok T) (hd : fnd T pc = some (.if_icmp .gt off, 3)) (ht : (pc : Int) + off = (tgt : Int)) (hp : pc + 3 = pc') (kt : y < x → JL p l e s m below meth c b D αc cells slots h tgt ls st) (kf : ¬ y < x → JL p l e s m below meth c b D αc cells slots h pc' ls st) : JL p l e s m below meth c b D αc cells slots h pc ls (.int y :: .int x :: st) := by
  subst hp
  intro H locs α lsA hW hll hcl hl
  exact lv_icmp_gt C.1.1 C.1.2.1 (l_dec hT hd) ht (fun q => kt q H locs α lsA hW hll (h_cl_tl (h_cl_tl hcl)) hl) (fun q => kf q H locs α lsA hW hll (h_cl_tl (h_cl_tl hcl)) hl)
/-- the answers are the same: the jump is taken -/
theorem l_icmp_eq {x : Int32} {off : Int} {tgt : Nat} (C : h_LC p s m meth c b L xs D) (hT : h_tok T) (hd : fnd T pc = some (.if_icmp .eq off, 3)) (ht : (pc : Int) + off = (tgt : Int)) (kt : JL p l e s m below meth c b D αc cells slots h tgt ls st) : JL p l e s m below meth c b D αc cells slots h pc ls (.int x :: .int x :: st) := by
  intro H locs α lsA hW hll hcl hl
  exact lv_icmp_eq C.1.1 C.1.2.1 (l_dec hT hd) ht (fun q => kt H locs α lsA hW hll (h_cl_tl (h_cl_tl hcl)) hl) (fun q => absurd rfl q)
theorem l_if_eq {off : Int} {tgt : Nat} {x : Int32} (hx : x = 0) (C : h_LC p s m meth c b L xs D) (hT : h_tok T) (hd : fnd T pc = some (.ifCond .eq off, 3)) (ht : (pc : Int) + off = (tgt : Int)) (kt : JL p l e s m below meth c b D αc cells slots h tgt ls st) : JL p l e s m below meth c b D αc cells slots h pc ls (.int x :: st) := by
  intro H locs α lsA hW hll hcl hl
  exact lv_if_eq C.1.1 C.1.2.1 (l_dec hT hd) ht (fun q => kt H locs α lsA hW hll (h_cl_tl hcl) hl) (fun q => absurd hx q)
theorem l_tableIn {dflt lo hi : Int} {offs : Array Int} {len : Nat} {x : Int32} {off : Int} {tgt : Nat} (C : h_LC p s m meth c b L xs D) (hT : h_tok T) (hd : fnd T pc = some (.tableswitch dflt lo hi offs, len)) (h1 : ¬ x.toInt < lo) (h2 : ¬ hi < x.toInt) (ho : offs[(x.toInt - lo).toNat]? = some off) (ht : (pc : Int) + off = (tgt : Int)) (k : JL p l e s m below meth c b D αc cells slots h tgt ls st) : JL p l e s m below meth c b D αc cells slots h pc ls (.int x :: st) := by
  intro H locs α lsA hW hll hcl hl
  exact lv_tableIn C.1.1 C.1.2.1 (l_dec hT hd) h1 h2 ho ht (k H locs α lsA hW hll (h_cl_tl hcl) hl)
theorem l_tableOut {dflt lo hi : Int} {offs : Array Int} {len : Nat} {x : Int32} {tgt : Nat} (C : h_LC p s m meth c b L xs D) (hT : h_tok T) (hd : fnd T pc = some (.tableswitch dflt lo hi offs, len)) (hq : x.toInt < lo ∨ hi < x.toInt) (ht : (pc : Int) + dflt = (tgt : Int)) (k : JL p l e s m below meth c b D αc cells slots h tgt ls st) : JL p l e s m below meth c b D αc cells slots h pc ls (.int x :: st) := by
  intro H locs α lsA hW hll hcl hl
  exact lv_tableOut C.1.1 C.1.2.1 (l_dec hT hd) hq ht (k H locs α lsA hW hll (h_cl_tl hcl) hl)
theorem l_ldc2 {idx : Nat} {v : Int64} (C : h_LC p s m meth c b L xs D) (hT : h_tok T) (hd : fnd T pc = some (.ldc2_w idx, 3)) (hp : pc + 3 = pc') (hw : Cond.constantLong RL idx v ∈ lw_tbl) (k : JL p l e s m below meth c b D αc cells slots h pc' ls (.long v :: st)) : JL p l e s m below meth c b D αc cells slots h pc ls st := by
  subst hp
  intro H locs α lsA hW hll hcl hl
  exact lv_ldc2 C.1.1 C.1.2.1 C.1.2.2.2.2.1 (C.1.2.2.2.2.2.1 _ hw) (l_dec hT hd) (k H locs α lsA hW hll (h_cl_l hcl) hl)
theorem l_scr (C : h_LC p s m meth c b L xs D) {α : Nat → Nat} {H : Heap} {locs : List Loc} (hW : h_Wd D α h αc (fun _ => none) s H locs) : h_rv α (.ref (9001 + 30)) = .ref b := congrArg Value.ref ((hW.2.2.2.2.2.1.2 30).trans C.2.2)
theorem l_nA (C : h_LC p s m meth c b L xs D) : ¬ h_AA αc (fun _ => none) s.heap.size b := fun z => by
  rcases z with ⟨k, -, hn, -⟩ | z
  · exact hn rfl
  · have := C.1.2.2.2.2.2.2.2.1
    omega
theorem l_slen (C : h_LC p s m meth c b L xs D) (hT : h_tok T) (hd : fnd T pc = some (.arraylength, 1)) (hp : pc + 1 = pc') (k : JL p l e s m below meth c b D αc cells slots h pc' ls (.int (Int32.ofNat L) :: st)) : JL p l e s m below meth c b D αc cells slots h pc ls (.ref (9001 + 30) :: st) := by
  subst hp
  intro H locs α lsA hW hll hcl hl
  rw [List.map_cons, l_scr C hW]
  exact va_slen C.1.1 C.1.2.1 C.1.2.2.2.2.2.2.1 C.1.2.2.2.2.2.2.2.1 (l_nA C) hW.2.2.1 (l_dec hT hd) (k H locs α lsA hW hll (h_cl_i (h_cl_tl hcl)) hl)
theorem l_sld {i : Int32} (C : h_LC p s m meth c b L xs D) (hT : h_tok T) (hd : fnd T pc = some (.iaload, 1)) (hp : pc + 1 = pc') (hin : vp_in i L) (k : JL p l e s m below meth c b D αc cells slots h pc' ls (.int (xs i.toNatClampNeg) :: st)) : JL p l e s m below meth c b D αc cells slots h pc ls (.int i :: .ref (9001 + 30) :: st) := by
  subst hp
  intro H locs α lsA hW hll hcl hl
  rw [List.map_cons, List.map_cons, l_scr C hW]
  exact va_sld C.1.1 C.1.2.1 C.1.2.2.2.2.2.2.1 C.1.2.2.2.2.2.2.2.1 (l_nA C) hW.2.2.1 hin (l_dec hT hd) (k H locs α lsA hW hll (h_cl_i (h_cl_tl (h_cl_tl hcl))) hl)
/-- the end, with 1 -/
theorem l_end (C : h_LC p s m meth c b L xs D) (hT : h_tok T) (hd : fnd T pc = some (.ireturn, 1)) (h1 : cells ≤ 600000) (h2 : slots ≤ 7302250) : JL p l e s m below meth c b D αc cells slots h pc ls [.int 1] := by
  intro H locs α lsA hW hll hcl hl
  refine va_forget (fun q hq => ?_) ?_
  · rcases hW.2.2.1.2.2 q hq with ⟨k, -, hn, -⟩ | z
    · exact absurd rfl hn
    · exact z
  · refine W.widen h1 h2 ?_
    exact lw_ret C.1.1 C.1.2.1 C.1.2.2.1 C.1.2.2.2.2.2.2.2.2.1 (l_dec hT hd)
theorem l_ext {h' : hH} (kk : JL p l e s m below meth c b D αc cells slots h' pc ls st) {H : Heap} {locs : List Loc} {α α' : Nat → Nat} {lsA : Array Slot} (hW : h_Wd D α' h' αc (fun _ => none) s H locs) (e1 : ∀ k : Nat, h_ok h k → h_ok h' k) (e2 : ∀ k : Nat, h_ok h k → α' k = α k) (hll : h_ll h ls) (hcl : h_cl h' st) (hl : lv_has lsA 4 (ls.map (fun q => (q.1, h_rv α q.2)))) :
    W p l e room_1 s m #[Value.ref b] below meth c H locs cells slots (lw_Z below #[Value.ref b] s) (F0 m pc lsA (st.map (h_rv α'))) :=
  kk H locs α' lsA hW (h_ll_mono e1 hll) hcl (by rw [h_lmap_ext e2 hll]; exact hl)
theorem l_new {idx ci key N : Nat} {K : String} {TT : u_T} {fs : List Value} (C : h_LC p s m meth c b L xs D) (hT : h_tok T) (hd : fnd T pc = some (.new idx, 3)) (hp : pc + 3 = pc') (hcl0 : Cond.classLink RL idx K ∈ lw_tbl) (hc : vwCl[ci]? = some (K, TT, N)) (hdf : ∀ j, j < N → (parseFieldDescriptor (TT j).2.2.1).map defaultValue = some (vp_V fs j)) (hnr : ∀ v ∈ fs, h_nr v = true) (hk : h key = none) (hk9 : key < 9000) (hcells : cells + 1 ≤ 600000) (hslots : slots + N ≤ 7302250)
    (kk : JL p l e s m below meth c b D αc (cells + 1) (slots + N) (hup h key (.inr (ci, fs))) pc' ls (.ref key :: st)) : JL p l e s m below meth c b D αc cells slots h pc ls st := by
  subst hp
  intro H locs α lsA hW hll hcl hl
  have hck := h_cls _ _ _ _ hc
  obtain ⟨ty0, hty0⟩ := hck.2.1
  have hts := l_hts C
  have hin : ∀ w ∈ u_ws K TT N, w ∈ hw_tbl := fun w hw => h_in (hck.1 w hw) (by obtain ⟨j, -, rfl⟩ := List.mem_map.mp hw; unfold u_lay; split <;> rfl)
  have hKn := C.2.1.1.1 ci _ hc
  refine W.newcK C.1.1 C.1.2.1 C.1.2.2.2.2.1 (hts _ (h_in hcl0 rfl)) (hts _ (h_in hck.2.2.2.1 rfl)) (hts _ (h_in hck.2.2.2.2 rfl)) rfl (l_dec hT hd) hcells hslots hKn.2.1 rfl fun H1 kC hkC e1 z1 o1 => ?_
  have hmap : fs.map (h_rv α) = fs := by
    have : fs.map (h_rv α) = fs.map id := List.map_congr_left fun v hv => h_nr_rv α (hnr v hv)
    rw [this, List.map_id]
  have hat : va_at D.1 vwCl (H.size, h_re D α (.inr (ci, fs))) H1 := by
    refine ⟨_, hc, ?_⟩
    show t_OB _ _ _ _ _ (vp_V (fs.map (h_rv α)))
    rw [hmap]
    refine (u_born ty0 hts hin hKn hkC e1 hty0).to (fun j hj => ?_)
    have q := hdf j hj
    rw [hty0 j hj] at q
    exact Option.some.inj q
  obtain ⟨hW', hal⟩ := hW.push hk hk9 (e := .inr (ci, fs)) (fun v hv => h_nr_cv h (hnr v hv)) hat z1 o1
  have hself : h_al α key H.size key = H.size := if_pos rfl
  have := l_ext kk hW' hup_mono hal hll (h_cl_cons (show h_ok (hup h key _) key from Or.inl (hup_some h key _)) (h_cl_mono hup_mono hcl)) hl
  rw [List.map_cons, h_map_ext hal hcl] at this
  rw [← hself]
  exact this
theorem l_back {R' : Room} {Q' : Option Value → hH → Prop} {H : Heap} {locs : List Loc} {α : Nat → Nat} {lsA : Array Slot} {st0 : List Value} (hW : h_Wd D α h αc (fun _ => none) s H locs) (hll : h_ll h ls) (hcl : h_cl h st) (hl : lv_has lsA 4 (ls.map (fun q => (q.1, h_rv α q.2)))) {a' : Array Value}
    (hr : va_Run p l e room_1 s m #[Value.ref b] below meth c H locs cells slots R'.cells R'.slots (F0 m pc lsA st0) (st.map (h_rv α)) (h_QQ D α h Q' a') (h_AA α h H.size))
    (kk : ∀ (v : Option Value) (h' : hH), Q' v h' → JL p l e s m below meth c b D αc (cells + R'.cells) (slots + R'.slots) h' (pc + 3) ls (v.toList ++ st)) :
    W p l e room_1 s m #[Value.ref b] below meth c H locs cells slots (lw_Z below #[Value.ref b] s) (F0 m pc lsA st0) := by
  intro T hT X
  obtain ⟨v, st₀, t, T', L, hst, X', hL, e1, e2, ⟨v', h', α', q1, q2, q3, q4, q5, ⟨q6, q6b⟩, q7, q8⟩, go⟩ := hr T hT X
  cases q1
  have hsub : ∀ q : Nat, h_AA α h H.size q → h_AA αc (fun _ => none) s.heap.size q := fun q hq => by
    rcases hq with ⟨k, hk, hn, rfl⟩ | hq
    · exact hW.2.1.2 k hk hn
    · exact Or.inr (Nat.le_trans hW.2.2.1.1 hq)
  rw [hst] at q4
  have q8' : H.size ≤ t.heap.size ∧ ∀ q : Nat, q < H.size → ¬ h_AA α h H.size q → t.heap[q]? = H[q]? := by
    have z := q8
    unfold va_F at z
    rw [hst] at z
    exact z
  have hW' : h_Wd D α' h' αc (fun _ => none) s t.heap (locs ++ L) := by
    refine ⟨q3, ⟨q4.1, fun k hk hn => hsub _ (q4.2 k hk hn)⟩, ⟨Nat.le_trans hW.2.2.1.1 q8'.1, fun q hq hn => ?_, fun q hq => ?_⟩, fun k hk => ⟨(q5 k (hW.2.2.2.1 k hk).1).1, (q5 k (hW.2.2.2.1 k hk).1).2.trans (hW.2.2.2.1 k hk).2⟩, q6, q6b, hW.2.2.2.2.2.2⟩
    · exact (q8'.2 q (Nat.lt_of_lt_of_le hq hW.2.2.1.1) (fun z => hn (hsub q z))).trans (hW.2.2.1.2.1 q hq hn)
    · rcases List.mem_append.mp hq with z | z
      · exact hW.2.2.1.2.2 q z
      · exact hsub _ (hL q z)
  have hcl' : h_cl h' (v'.toList ++ st) := fun w hw => by
    rcases List.mem_append.mp hw with z | z
    · exact q7 w (by cases v' with | none => cases z | some x => simp at z; rw [z])
    · exact h_cv_mono (fun k hk => (q5 k hk).1) (hcl w z)
  have K := l_ext (kk v' h' q2) hW' (fun k hk => (q5 k hk).1) (fun k hk => (q5 k hk).2) hll hcl' hl
  rw [List.map_append, h_map_ext (fun k hk => (q5 k hk).2) hcl] at K
  obtain ⟨t2, a1, b1⟩ := K T' e1 X'
  refine ⟨t2, go t2 ?_, b1⟩
  have hv : (v'.map (h_rv α')).toList = v'.toList.map (h_rv α') := by cases v' <;> rfl
  rw [hv]
  exact a1
theorem l_callV {idx ci key n : Nat} {M' : hM} {R' : Room} {As : List Value} {Q' : Option Value → hH → Prop} {fs : List Value} (C : h_LC p s m meth c b L xs D) (hT : h_tok T) (hd : fnd T pc = some (.invokevirtual idx, 3)) (hp : pc + 3 = pc') (I : h_MI M' n) (Lk : h_LV RL idx (h_y M')) (hk : h key = some (.inr (ci, fs))) (hci : (vwCl[ci]?).map (fun q => q.1) = some (h_y M').cls) (hn : As.length = n) (rm : h_rm room_1 R' (h_nL M') cells slots) (hW8 : (st.map fun v => v.category).sum ≤ 8) (S : Sp M' R' (.ref key :: As) h Q')
    (kk : ∀ (v : Option Value) (h' : hH), Q' v h' → JL p l e s m below meth c b D αc (cells + R'.cells) (slots + R'.slots) h' pc' ls (v.toList ++ st)) : JL p l e s m below meth c b D αc cells slots h pc ls (As.reverse ++ .ref key :: st) := by
  subst hp
  intro H locs α lsA hW hll hcl hl
  have hts := l_hts C
  have hst : h_cl h st := fun w hw => hcl w (List.mem_append_right _ (List.mem_cons_of_mem _ hw))
  have hav : h_cl h (.ref key :: As) := fun w hw => by
    rcases List.mem_cons.mp hw with q | q
    · rw [q]; exact hcl _ (List.mem_append_right _ List.mem_cons_self)
    · exact hcl w (List.mem_append_left _ (List.mem_reverse.mpr q))
  obtain ⟨r, hr0, cell, g1, g2, g3, -⟩ := hW.1 key _ hk
  have hrc : r.1 = (h_y M').cls := by rw [hr0] at hci; exact Option.some.inj hci
  have hK := C.2.1
  have cw : CallW room_1 s #[Value.ref b] RL (h_y M').cls idx (h_y M') (h_cc M') (h_nL M') (h_ret M') (h_ws M') R' R'.cells R'.slots n := ⟨callB_of n hts (h_code I) rfl rfl rfl (hts _ (h_in Lk.2.2.2 rfl)) (hts _ (h_in Lk.1 rfl)) I.2.2.2.1 rm.1, hts _ (h_in Lk.2.1 rfl), hts _ (h_in Lk.2.2.1 rfl)⟩
  refine l_back (R' := R') hW hll hst hl (va_runV (As := As.map (h_rv α)) (b := α key) (rest := st.map (h_rv α)) (Ts := hw_tbl) ⟨C.1.1, C.1.2.1, C.1.2.2.2.1, C.1.2.2.2.2.1, hts⟩ (S l D α H.size) cw ⟨h_blind, ⟨cell, g1, by rw [g3]; rfl, by rw [g2, ← hrc]; exact (hK.1.1 ci r hr0).2.1⟩, fun U hU hWU => ⟨rfl, by rw [hU], hK.warm hW hU hWU, by rw [hU]; exact hW.1, ⟨hW.2.1.1, fun _ _ _ => trivial⟩, hW.2.2.2.2.1, hav, hW.2.2.2.2.2.1⟩⟩ rfl (by rw [List.length_map]; exact hn) hl.1 ?_ (h_cats α st hW8) (l_dec hT hd) rm.2) kk
  show (As.reverse ++ .ref key :: st).map (h_rv α) = _
  rw [List.map_append, List.map_reverse]
  rfl
theorem l_i0 {idx key : Nat} {M' : hM} {R' : Room} {h2 : hH} (C : h_LC p s m meth c b L xs D) (hT : h_tok T) (hd : fnd T pc = some (.invokespecial idx, 3)) (hp : pc + 3 = pc') (I : h_MI M' 0) (hret : h_ret M' = none) (Lk : h_LI RL idx (h_y M')) (S : SpD M' R' [.ref key] h none h2) (rm : h_rm room_1 R' (h_nL M') cells slots) (hW8 : (st.map fun v => v.category).sum ≤ 8)
    (kk : JL p l e s m below meth c b D αc (cells + R'.cells) (slots + R'.slots) h2 pc' ls st) : JL p l e s m below meth c b D αc cells slots h pc ls (.ref key :: st) := by
  subst hp
  intro H locs α lsA hW hll hcl hl
  have hts := l_hts C
  have hst : h_cl h st := h_cl_tl hcl
  have hav : h_cl h [.ref key] := fun w hw => by
    rcases List.mem_cons.mp hw with q | q
    · rw [q]; exact h_cl_hd hcl
    · cases q
  have hK := C.2.1
  have cw : CallB room_1 s #[Value.ref b] RL idx (h_y M') (h_cc M') (h_nL M') none (h_ws M') R' R'.cells R'.slots 0 ∧ (h_y M').name = "<init>" ∧ (Cond.instanceMethod (h_y M')).before #[Value.ref b] s = true := ⟨callB_of 0 hts (h_code I) (by unfold h_ws; rw [hret]) rfl rfl (hts _ (h_in Lk.2.2.1 rfl)) (hts _ (h_in Lk.1 rfl)) I.2.2.2.1 rm.1, Lk.2.2.2, hts _ (h_in Lk.2.1 rfl)⟩
  exact l_back (R' := R') hW hll hst hl (va_runI (As := []) (b := α key) (rest := st.map (h_rv α)) (Ts := hw_tbl) ⟨C.1.1, C.1.2.1, C.1.2.2.2.1, C.1.2.2.2.2.1, hts⟩ (S l D α H.size) cw ⟨h_blind, fun U hU hWU => ⟨rfl, by rw [hU], hK.warm hW hU hWU, by rw [hU]; exact hW.1, ⟨hW.2.1.1, fun _ _ _ => trivial⟩, hW.2.2.2.2.1, hav, hW.2.2.2.2.2.1⟩⟩ rfl rfl hl.1 rfl (h_cats α st hW8) (l_dec hT hd) rm.2) (fun v h' q => by obtain ⟨q1, q2⟩ := q; rw [q1, q2]; exact kk)
theorem l_v0 {idx ci key : Nat} {M' : hM} {R' : Room} {fs : List Value} {r : Value} {h2 : hH} (C : h_LC p s m meth c b L xs D) (hT : h_tok T) (hd : fnd T pc = some (.invokevirtual idx, 3)) (hp : pc + 3 = pc') (I : h_MI M' 0) (Lk : h_LV RL idx (h_y M')) (hk : h key = some (.inr (ci, fs))) (hci : (vwCl[ci]?).map (fun q => q.1) = some (h_y M').cls) (S : SpD M' R' (.ref key :: []) h (some r) h2) (rm : h_rm room_1 R' (h_nL M') cells slots) (hW8 : (st.map fun v => v.category).sum ≤ 8) (kk : JL p l e s m below meth c b D αc (cells + R'.cells) (slots + R'.slots) h2 pc' ls (r :: st)) : JL p l e s m below meth c b D αc cells slots h pc ls (.ref key :: st) :=
  l_callV (As := []) C hT hd hp I Lk hk hci rfl rm hW8 S (fun v h' q => by obtain ⟨q1, q2⟩ := q; rw [q1, q2]; exact kk)
theorem l_v1 {idx ci key : Nat} {M' : hM} {R' : Room} {a0 : Value} {fs : List Value} {r : Value} {h2 : hH} (C : h_LC p s m meth c b L xs D) (hT : h_tok T) (hd : fnd T pc = some (.invokevirtual idx, 3)) (hp : pc + 3 = pc') (I : h_MI M' 1) (Lk : h_LV RL idx (h_y M')) (hk : h key = some (.inr (ci, fs))) (hci : (vwCl[ci]?).map (fun q => q.1) = some (h_y M').cls) (S : SpD M' R' (.ref key :: [a0]) h (some r) h2) (rm : h_rm room_1 R' (h_nL M') cells slots) (hW8 : (st.map fun v => v.category).sum ≤ 8) (kk : JL p l e s m below meth c b D αc (cells + R'.cells) (slots + R'.slots) h2 pc' ls (r :: st)) : JL p l e s m below meth c b D αc cells slots h pc ls (a0 :: .ref key :: st) :=
  l_callV (As := [a0]) C hT hd hp I Lk hk hci rfl rm hW8 S (fun v h' q => by obtain ⟨q1, q2⟩ := q; rw [q1, q2]; exact kk)
theorem l_v2 {idx ci key : Nat} {M' : hM} {R' : Room} {a0 a1 : Value} {fs : List Value} {r : Value} {h2 : hH} (C : h_LC p s m meth c b L xs D) (hT : h_tok T) (hd : fnd T pc = some (.invokevirtual idx, 3)) (hp : pc + 3 = pc') (I : h_MI M' 2) (Lk : h_LV RL idx (h_y M')) (hk : h key = some (.inr (ci, fs))) (hci : (vwCl[ci]?).map (fun q => q.1) = some (h_y M').cls) (S : SpD M' R' (.ref key :: [a0, a1]) h (some r) h2) (rm : h_rm room_1 R' (h_nL M') cells slots) (hW8 : (st.map fun v => v.category).sum ≤ 8) (kk : JL p l e s m below meth c b D αc (cells + R'.cells) (slots + R'.slots) h2 pc' ls (r :: st)) : JL p l e s m below meth c b D αc cells slots h pc ls (a1 :: a0 :: .ref key :: st) :=
  l_callV (As := [a0, a1]) C hT hd hp I Lk hk hci rfl rm hW8 S (fun v h' q => by obtain ⟨q1, q2⟩ := q; rw [q1, q2]; exact kk)
theorem l_v3 {idx ci key : Nat} {M' : hM} {R' : Room} {a0 a1 a2 : Value} {fs : List Value} {r : Value} {h2 : hH} (C : h_LC p s m meth c b L xs D) (hT : h_tok T) (hd : fnd T pc = some (.invokevirtual idx, 3)) (hp : pc + 3 = pc') (I : h_MI M' 3) (Lk : h_LV RL idx (h_y M')) (hk : h key = some (.inr (ci, fs))) (hci : (vwCl[ci]?).map (fun q => q.1) = some (h_y M').cls) (S : SpD M' R' (.ref key :: [a0, a1, a2]) h (some r) h2) (rm : h_rm room_1 R' (h_nL M') cells slots) (hW8 : (st.map fun v => v.category).sum ≤ 8) (kk : JL p l e s m below meth c b D αc (cells + R'.cells) (slots + R'.slots) h2 pc' ls (r :: st)) : JL p l e s m below meth c b D αc cells slots h pc ls (a2 :: a1 :: a0 :: .ref key :: st) :=
  l_callV (As := [a0, a1, a2]) C hT hd hp I Lk hk hci rfl rm hW8 S (fun v h' q => by obtain ⟨q1, q2⟩ := q; rw [q1, q2]; exact kk)
theorem l_v4 {idx ci key : Nat} {M' : hM} {R' : Room} {a0 a1 a2 a3 : Value} {fs : List Value} {r : Value} {h2 : hH} (C : h_LC p s m meth c b L xs D) (hT : h_tok T) (hd : fnd T pc = some (.invokevirtual idx, 3)) (hp : pc + 3 = pc') (I : h_MI M' 4) (Lk : h_LV RL idx (h_y M')) (hk : h key = some (.inr (ci, fs))) (hci : (vwCl[ci]?).map (fun q => q.1) = some (h_y M').cls) (S : SpD M' R' (.ref key :: [a0, a1, a2, a3]) h (some r) h2) (rm : h_rm room_1 R' (h_nL M') cells slots) (hW8 : (st.map fun v => v.category).sum ≤ 8) (kk : JL p l e s m below meth c b D αc (cells + R'.cells) (slots + R'.slots) h2 pc' ls (r :: st)) : JL p l e s m below meth c b D αc cells slots h pc ls (a3 :: a2 :: a1 :: a0 :: .ref key :: st) :=
  l_callV (As := [a0, a1, a2, a3]) C hT hd hp I Lk hk hci rfl rm hW8 S (fun v h' q => by obtain ⟨q1, q2⟩ := q; rw [q1, q2]; exact kk)
theorem l_v5 {idx ci key : Nat} {M' : hM} {R' : Room} {a0 a1 a2 a3 a4 : Value} {fs : List Value} {r : Value} {h2 : hH} (C : h_LC p s m meth c b L xs D) (hT : h_tok T) (hd : fnd T pc = some (.invokevirtual idx, 3)) (hp : pc + 3 = pc') (I : h_MI M' 5) (Lk : h_LV RL idx (h_y M')) (hk : h key = some (.inr (ci, fs))) (hci : (vwCl[ci]?).map (fun q => q.1) = some (h_y M').cls) (S : SpD M' R' (.ref key :: [a0, a1, a2, a3, a4]) h (some r) h2) (rm : h_rm room_1 R' (h_nL M') cells slots) (hW8 : (st.map fun v => v.category).sum ≤ 8) (kk : JL p l e s m below meth c b D αc (cells + R'.cells) (slots + R'.slots) h2 pc' ls (r :: st)) : JL p l e s m below meth c b D αc cells slots h pc ls (a4 :: a3 :: a2 :: a1 :: a0 :: .ref key :: st) :=
  l_callV (As := [a0, a1, a2, a3, a4]) C hT hd hp I Lk hk hci rfl rm hW8 S (fun v h' q => by obtain ⟨q1, q2⟩ := q; rw [q1, q2]; exact kk)
theorem l_v6 {idx ci key : Nat} {M' : hM} {R' : Room} {a0 a1 a2 a3 a4 a5 : Value} {fs : List Value} {r : Value} {h2 : hH} (C : h_LC p s m meth c b L xs D) (hT : h_tok T) (hd : fnd T pc = some (.invokevirtual idx, 3)) (hp : pc + 3 = pc') (I : h_MI M' 6) (Lk : h_LV RL idx (h_y M')) (hk : h key = some (.inr (ci, fs))) (hci : (vwCl[ci]?).map (fun q => q.1) = some (h_y M').cls) (S : SpD M' R' (.ref key :: [a0, a1, a2, a3, a4, a5]) h (some r) h2) (rm : h_rm room_1 R' (h_nL M') cells slots) (hW8 : (st.map fun v => v.category).sum ≤ 8) (kk : JL p l e s m below meth c b D αc (cells + R'.cells) (slots + R'.slots) h2 pc' ls (r :: st)) : JL p l e s m below meth c b D αc cells slots h pc ls (a5 :: a4 :: a3 :: a2 :: a1 :: a0 :: .ref key :: st) :=
  l_callV (As := [a0, a1, a2, a3, a4, a5]) C hT hd hp I Lk hk hci rfl rm hW8 S (fun v h' q => by obtain ⟨q1, q2⟩ := q; rw [q1, q2]; exact kk)
end LAWROWS
