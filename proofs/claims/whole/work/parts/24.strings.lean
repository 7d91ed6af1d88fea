/-! STRING CONSTANTS over the abstract heap: key 9001 + i the i-th String of the Tape, 9011 + i its bytes -/
section XSTR
variable {M : hM} {R : Room} {Q : Option Value → hH → Prop} {cells slots : Nat} {h : hH} {pc pc' : Nat} {ls : List (Nat × Value)} {st : List Value}
theorem j_ishr {x y : Int32} (hd : fnd (h_tab M) pc = some (.ishr, 1)) (hp : pc + 1 = pc') (k : J M R Q cells slots h pc' ls (.int (x >>> (y &&& 31)) :: st)) : J M R Q cells slots h pc ls (.int y :: .int x :: st) := by
  subst hp
  intro p l e s m args below meth c H locs D α α0 h0 lsA hC hW hll hcl hl
  exact lv_ishr hC.1 hC.2.1 (h_dec hC hd) (k p l e s m args below meth c H locs D α α0 h0 lsA hC hW hll (h_cl_i (h_cl_tl (h_cl_tl hcl))) hl)
theorem j_i2c {x : Int32} (hd : fnd (h_tab M) pc = some (.i2c, 1)) (hp : pc + 1 = pc') (k : J M R Q cells slots h pc' ls (.int (x.toUInt32 % 65536).toInt32 :: st)) : J M R Q cells slots h pc ls (.int x :: st) := by
  subst hp
  intro p l e s m args below meth c H locs D α α0 h0 lsA hC hW hll hcl hl
  exact lv_i2c hC.1 hC.2.1 (h_dec hC hd) rfl (k p l e s m args below meth c H locs D α α0 h0 lsA hC hW hll (h_cl_i (h_cl_tl hcl)) hl)
theorem j_tret {v : Int32} {ty : FieldType} (hd : fnd (h_tab M) pc = some (.ireturn, 1)) (hr : h_ret M = some ty) (hb : narrow ty (.int v) = .int v) (hcs : cells ≤ R.cells) (hss : slots ≤ R.slots) (q : Q (some (.int v)) h) : J M R Q cells slots h pc ls [.int v] := by
  intro p l e s m args below meth c H locs D α α0 h0 lsA hC hW hll hcl hl
  refine W.widen hcs hss ?_
  exact W.zret (hlocks := hC.2.2.2.2.2.2.1) hC.1 hC.2.1 (hC.2.2.2.2.2.1.trans hr) hb (fun t ht hWa => ⟨some (.int v), h, α, rfl, q, by rw [ht]; exact hW.1, hW.2.1, hW.2.2.2.1, ⟨hW.2.2.2.2.1, hW.2.2.2.2.2.1⟩, (fun w hw => by cases hw; trivial), hW.2.2.1.F ht⟩) hW.2.2.1.2.2 (h_dec hC hd)
theorem h_c9 (i : Nat) : h_cv h (.ref (9001 + i)) := Or.inr (by omega)
/-- ldc of a String of the Tape -/
theorem j_ldcS {idx i : Nat} {tx : String} (hd : fnd (h_tab M) pc = some (.ldc idx, 2)) (hp : pc + 2 = pc') (hown : h_own M = RX5) (hR : ∀ (D : hG) (U : State), h_SS D U → vk_R RX5 idx tx (h_sK D i) U) (k : J M R Q cells slots h pc' ls (.ref (9001 + i) :: st)) : J M R Q cells slots h pc ls st := by
  subst hp
  intro p l e s m args below meth c H locs D α α0 h0 lsA hC hW hll hcl hl
  have hv := hR D s hC.2.2.2.2.2.2.2.2.1.2.2.2
  refine va_ldcS hC.1 hC.2.1 (by rw [← hown]; exact hC.2.2.2.1) hv (h_dec hC hd) ?_
  have K := k p l e s m args below meth c H locs D α α0 h0 lsA hC hW hll (h_cl_cons (h_c9 i) hcl) hl
  have e1 : h_rv α (.ref (9001 + i)) = .ref (h_sK D i) := congrArg Value.ref (hW.2.2.2.2.2.1.2 i)
  rw [List.map_cons, e1] at K
  exact K
theorem h_vkS {p : Program} {s : State} {m : MethodId} {args : Array Value} {meth : Method} {c : Code} {D : hG} {α α0 : Nat → Nat} {h0 : hH} {H : Heap} {locs : List Loc} (hC : h_Cx M p s m args meth c D) (hW : h_Wd D α h α0 h0 s H locs) : vk_S 4 h_len h_byt (h_sK D) (h_sV D) (h_AA α0 h0 s.heap.size) s s.heap := (hC.2.2.2.2.2.2.2.2.1.2.2.2.2.1).narrow hW.above
/-- String.value -/
theorem j_getSv {idx i : Nat} (hd : fnd (h_tab M) pc = some (.getfield idx, 3)) (hp : pc + 3 = pc') (hi : i < 4) (hw : Cond.fieldLink (h_own M) idx "java/lang/String" "value" "[B" ∈ lw_tbl) (k : J M R Q cells slots h pc' ls (.ref (9001 + (10 + i)) :: st)) : J M R Q cells slots h pc ls (.ref (9001 + i) :: st) := by
  subst hp
  intro p l e s m args below meth c H locs D α α0 h0 lsA hC hW hll hcl hl
  have hv := (h_vkS hC hW).1 i hi
  have e1 : h_rv α (.ref (9001 + i)) = .ref (h_sK D i) := congrArg Value.ref (hW.2.2.2.2.2.1.2 i)
  have e2 : h_rv α (.ref (9001 + (10 + i))) = .ref (h_sV D i) := congrArg Value.ref (hW.2.2.2.2.2.1.2 (10 + i))
  have K := k p l e s m args below meth c H locs D α α0 h0 lsA hC hW hll (h_cl_cons (h_c9 _) (h_cl_tl hcl)) hl
  rw [List.map_cons, e2] at K
  rw [List.map_cons, e1]
  exact vk_getf hC.1 hC.2.1 hv.2.2.1 hW.2.2.1 hC.2.2.2.1 (hC.2.2.2.2.1 _ (h_in hw rfl)) (fun _ q => q) (h_dec hC hd) K
/-- String.coder -/
theorem j_getSc {idx i : Nat} (hd : fnd (h_tab M) pc = some (.getfield idx, 3)) (hp : pc + 3 = pc') (hi : i < 4) (hw : Cond.fieldLink (h_own M) idx "java/lang/String" "coder" "B" ∈ lw_tbl) (k : J M R Q cells slots h pc' ls (.int 0 :: st)) : J M R Q cells slots h pc ls (.ref (9001 + i) :: st) := by
  subst hp
  intro p l e s m args below meth c H locs D α α0 h0 lsA hC hW hll hcl hl
  have hv := (h_vkS hC hW).1 i hi
  have e1 : h_rv α (.ref (9001 + i)) = .ref (h_sK D i) := congrArg Value.ref (hW.2.2.2.2.2.1.2 i)
  have K := k p l e s m args below meth c H locs D α α0 h0 lsA hC hW hll (h_cl_i (h_cl_tl hcl)) hl
  rw [List.map_cons, e1]
  exact vk_getf hC.1 hC.2.1 hv.2.1 hW.2.2.1 hC.2.2.2.1 (hC.2.2.2.2.1 _ (h_in hw rfl)) (fun _ q => q) (h_dec hC hd) K
/-- the bytes' length, a byte -/
theorem j_alenS {i : Nat} {v : Int32} (hd : fnd (h_tab M) pc = some (.arraylength, 1)) (hp : pc + 1 = pc') (hi : i < 4) (hv : Int32.ofNat (h_len.getD i 0) = v) (k : J M R Q cells slots h pc' ls (.int v :: st)) : J M R Q cells slots h pc ls (.ref (9001 + (10 + i)) :: st) := by
  subst hp
  intro p l e s m args below meth c H locs D α α0 h0 lsA hC hW hll hcl hl
  have hT := (h_vkS hC hW).1 i hi
  have e2 : h_rv α (.ref (9001 + (10 + i))) = .ref (h_sV D i) := congrArg Value.ref (hW.2.2.2.2.2.1.2 (10 + i))
  have K := k p l e s m args below meth c H locs D α α0 h0 lsA hC hW hll (h_cl_i (h_cl_tl hcl)) hl
  rw [List.map_cons, e2]
  exact va_tlen hC.1 hC.2.1 hT.2.2.2 hW.2.2.1 hv (h_dec hC hd) K
theorem j_baldS {i : Nat} {j : Int32} {v : Int32} (hd : fnd (h_tab M) pc = some (.baload, 1)) (hp : pc + 1 = pc') (hi : i < 4) (hj : vp_in j (h_len.getD i 0)) (hv : (h_byt.getD i []).getD j.toNatClampNeg 0 = v) (k : J M R Q cells slots h pc' ls (.int v :: st)) : J M R Q cells slots h pc ls (.int j :: .ref (9001 + (10 + i)) :: st) := by
  subst hp
  intro p l e s m args below meth c H locs D α α0 h0 lsA hC hW hll hcl hl
  have hT := (h_vkS hC hW).1 i hi
  have e2 : h_rv α (.ref (9001 + (10 + i))) = .ref (h_sV D i) := congrArg Value.ref (hW.2.2.2.2.2.1.2 (10 + i))
  have K := k p l e s m args below meth c H locs D α α0 h0 lsA hC hW hll (h_cl_i (h_cl_tl (h_cl_tl hcl))) hl
  rw [List.map_cons, List.map_cons, e2]
  exact va_tb hC.1 hC.2.1 hT.2.2.2 hW.2.2.1 hj (congrArg Value.int hv) (h_dec hC hd) K
/-- the statics -/
theorem j_getsC {idx : Nat} (hd : fnd (h_tab M) pc = some (.getstatic idx, 3)) (hp : pc + 3 = pc') (hw : Cond.fieldLink (h_own M) idx "java/lang/String" "COMPACT_STRINGS" "Z" ∈ lw_tbl) (k : J M R Q cells slots h pc' ls (.int 1 :: st)) : J M R Q cells slots h pc ls st := by
  subst hp
  intro p l e s m args below meth c H locs D α α0 h0 lsA hC hW hll hcl hl
  have hZ := (hC.2.2.2.2.2.2.2.2.1.2.2.2.2.2.2.1).narrow hW.above
  exact va_gets hC.1 hC.2.1 hZ hW.2.2.1 hC.2.2.2.1 (hC.2.2.2.2.1 _ (h_in hw rfl)) (fun _ q => q) (h_dec hC hd) (k p l e s m args below meth c H locs D α α0 h0 lsA hC hW hll (h_cl_i hcl) hl)
theorem j_getsF {idx : Nat} (hd : fnd (h_tab M) pc = some (.getstatic idx, 3)) (hp : pc + 3 = pc') (hw : Cond.fieldLink (h_own M) idx "jdk/internal/util/Preconditions" "SIOOBE_FORMATTER" "Ljava/util/function/BiFunction;" ∈ lw_tbl) (k1 : J M R Q cells slots h pc' ls (.null :: st)) (k2 : J M R Q cells slots h pc' ls (.ref (9001 + 20) :: st)) : J M R Q cells slots h pc ls st := by
  subst hp
  intro p l e s m args below meth c H locs D α α0 h0 lsA hC hW hll hcl hl
  rcases hC.2.2.2.2.2.2.2.2.1.2.2.2.2.2.2.2.1 with hZ | hZ
  · exact va_gets hC.1 hC.2.1 (hZ.narrow hW.above) hW.2.2.1 hC.2.2.2.1 (hC.2.2.2.2.1 _ (h_in hw rfl)) (fun _ q => q) (h_dec hC hd) (k1 p l e s m args below meth c H locs D α α0 h0 lsA hC hW hll (h_cl_cons trivial hcl) hl)
  · have e2 : h_rv α (.ref (9001 + 20)) = .ref (h_cn D 20) := congrArg Value.ref (hW.2.2.2.2.2.1.2 20)
    have K := k2 p l e s m args below meth c H locs D α α0 h0 lsA hC hW hll (h_cl_cons (h_c9 20) hcl) hl
    rw [List.map_cons, e2] at K
    exact va_gets hC.1 hC.2.1 (hZ.narrow hW.above) hW.2.2.1 hC.2.2.2.1 (hC.2.2.2.2.1 _ (h_in hw rfl)) (fun _ q => q) (h_dec hC hd) K
/-- a call on a String of the Tape -/
theorem j_callVS {idx i n : Nat} {M' : hM} {R' : Room} {As : List Value} {r : Value} {c' s' : Nat} (hd : fnd (h_tab M) pc = some (.invokevirtual idx, 3)) (hp : pc + 3 = pc') (I : h_MI M' n) (L : h_LV (h_own M) idx (h_y M')) (hi : i < 4) (hci : (h_y M').cls = "java/lang/String") (hn : As.length = n) (rm : h_rm R R' (h_nL M') cells slots) (hW8 : (st.map fun v => v.category).sum ≤ 8) (S : SpD M' R' (.ref (9001 + i) :: As) h (some r) h) (hc' : cells + R'.cells = c') (hs' : slots + R'.slots = s')
    (kk : J M R Q c' s' h pc' ls (r :: st)) : J M R Q cells slots h pc ls (As.reverse ++ .ref (9001 + i) :: st) := by
  subst hp; subst hc'; subst hs'
  intro p l e s m args below meth c H locs D α α0 h0 lsA hC hW hll hcl hl
  have hts := hC.2.2.2.2.1
  have hst : h_cl h st := fun w hw => hcl w (List.mem_append_right _ (List.mem_cons_of_mem _ hw))
  have hav : h_cl h (.ref (9001 + i) :: As) := fun w hw => by
    rcases List.mem_cons.mp hw with q | q
    · rw [q]; exact hcl _ (List.mem_append_right _ List.mem_cons_self)
    · exact hcl w (List.mem_append_left _ (List.mem_reverse.mpr q))
  have hK := hC.2.2.2.2.2.2.2.2.1
  have hrv := vk_recv (h_vkS hC hW) hi hW.2.2.1
  rw [show h_sK D i = α (9001 + i) from (hW.2.2.2.2.2.1.2 i).symm, ← hci] at hrv
  have cw : CallW R s args (h_own M) (h_y M').cls idx (h_y M') (h_cc M') (h_nL M') (h_ret M') (h_ws M') R' R'.cells R'.slots n := ⟨callB_of n hts (h_code I) rfl rfl rfl (hts _ (h_in L.2.2.2 rfl)) (hts _ (h_in L.1 rfl)) I.2.2.2.1 rm.1, hts _ (h_in L.2.1 rfl), hts _ (h_in L.2.2.1 rfl)⟩
  refine j_back (R' := R') hC hW hll hst hl (va_runV (As := As.map (h_rv α)) (b := α (9001 + i)) (rest := st.map (h_rv α)) (Ts := hw_tbl) ⟨hC.1, hC.2.1, hC.2.2.1, hC.2.2.2.1, hts⟩ (S l D α H.size) cw ⟨h_blind, hrv, fun U hU hWU => ⟨rfl, by rw [hU], hK.warm hW hU hWU, by rw [hU]; exact hW.1, ⟨hW.2.1.1, fun _ _ _ => trivial⟩, hW.2.2.2.2.1, hav, hW.2.2.2.2.2.1⟩⟩ rfl (by rw [List.length_map]; exact hn) hl.1 ?_ (h_cats α st hW8) (h_dec hC hd) rm.2) (fun v h' q => by obtain ⟨q1, q2⟩ := q; rw [q1, q2]; exact kk)
  show (As.reverse ++ .ref (9001 + i) :: st).map (h_rv α) = _
  rw [List.map_append, List.map_reverse]
  rfl
end XSTR
