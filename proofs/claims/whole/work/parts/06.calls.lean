/-! NEW CELLS, ENDS AND CALLS, over the abstract heap (J). -/
section HCALLS
variable {M : hM} {R : Room} {Q : Option Value → hH → Prop} {cells slots : Nat} {h : hH} {pc pc' : Nat} {ls : List (Nat × Value)} {st : List Value}
def h_nr (v : Value) : Bool := match v with
  | .ref _ => false
  | _ => true
theorem h_nr_rv {v : Value} (α : Nat → Nat) (hv : h_nr v = true) : h_rv α v = v := by
  cases v with
  | ref k => cases hv
  | _ => rfl
theorem h_nr_cv {v : Value} (h : hH) (hv : h_nr v = true) : h_cv h v := by
  cases v with
  | ref k => cases hv
  | _ => trivial
/-- what lies behind: the stack and the locals stay, under the longer map of keys -/
theorem j_ext {M : hM} {R : Room} {Q : Option Value → hH → Prop} {cells slots : Nat} {h h' : hH} {pc : Nat} {ls : List (Nat × Value)} {st : List Value} (kk : J M R Q cells slots h' pc ls st)
    {p : Program} {l : Launch} {e : Env} {s : State} {m : MethodId} {args : Array Value} {below : List Frame} {meth : Method} {c : Code} {H : Heap} {locs : List Loc} {D : hG} {α α' α0 : Nat → Nat} {h0 : hH} {lsA : Array Slot}
    (hC : h_Cx M p s m args meth c D) (hW : h_Wd D α' h' α0 h0 s H locs) (e1 : ∀ k : Nat, h_ok h k → h_ok h' k) (e2 : ∀ k : Nat, h_ok h k → α' k = α k) (hll : h_ll h ls) (hcl : h_cl h' st) (hl : lv_has lsA (h_nL M) (ls.map (fun q => (q.1, h_rv α q.2)))) :
    W p l e R s m args below meth c H locs cells slots (MQ below (h_QQ D α0 h0 Q) args s R.cells R.slots (h_AA α0 h0 s.heap.size)) (F0 m pc lsA (st.map (h_rv α'))) :=
  kk p l e s m args below meth c H locs D α' α0 h0 lsA hC hW (h_ll_mono e1 hll) hcl (by rw [h_lmap_ext e2 hll]; exact hl)
/-- new -/
theorem j_new {idx ci key N : Nat} {C : String} {T : u_T} {fs : List Value} (hd : fnd (h_tab M) pc = some (.new idx, 3)) (hp : pc + 3 = pc') (hcl0 : Cond.classLink (h_own M) idx C ∈ lw_tbl) (hc : vwCl[ci]? = some (C, T, N)) (hdf : ∀ j, j < N → (parseFieldDescriptor (T j).2.2.1).map defaultValue = some (vp_V fs j)) (hnr : ∀ v ∈ fs, h_nr v = true) (hk : h key = none) (hk9 : key < 9000) (hcells : cells + 1 ≤ R.cells) (hslots : slots + N ≤ R.slots)
    (kk : J M R Q (cells + 1) (slots + N) (hup h key (.inr (ci, fs))) pc' ls (.ref key :: st)) : J M R Q cells slots h pc ls st := by
  subst hp
  intro p l e s m args below meth c H locs D α α0 h0 lsA hC hW hll hcl hl
  have hck := h_cls _ _ _ _ hc
  obtain ⟨ty0, hty0⟩ := hck.2.1
  have hts := hC.2.2.2.2.1
  have hin : ∀ w ∈ u_ws C T N, w ∈ hw_tbl := fun w hw => h_in (hck.1 w hw) (by obtain ⟨j, -, rfl⟩ := List.mem_map.mp hw; unfold u_lay; split <;> rfl)
  have hKn := hC.2.2.2.2.2.2.2.2.1.1.1 ci _ hc
  refine W.newcK hC.1 hC.2.1 hC.2.2.2.1 (hts _ (h_in hcl0 rfl)) (hts _ (h_in hck.2.2.2.1 rfl)) (hts _ (h_in hck.2.2.2.2 rfl)) rfl (h_dec hC hd) hcells hslots hKn.2.1 rfl fun H1 kC hkC e1 z1 o1 => ?_
  have hmap : fs.map (h_rv α) = fs := by
    have : fs.map (h_rv α) = fs.map id := List.map_congr_left fun v hv => h_nr_rv α (hnr v hv)
    rw [this, List.map_id]
  have hat : va_at D.1 vwCl (H.size, h_re D α (.inr (ci, fs))) H1 := by
    refine ⟨_, hc, ?_⟩
    show t_OB _ _ _ _ _ (vp_V (fs.map (h_rv α)))
    rw [hmap]
    refine (u_born ty0 hts hin hKn hkC e1 hty0).to (fun j hj => ?_)
    have q := hdf j hj
    rw [hty0 j hj] at q
    exact Option.some.inj q
  obtain ⟨hW', hal⟩ := hW.push hk hk9 (e := .inr (ci, fs)) (fun v hv => h_nr_cv h (hnr v hv)) hat z1 o1
  have hself : h_al α key H.size key = H.size := if_pos rfl
  have := j_ext (l := l) (e := e) (below := below) kk hC hW' hup_mono hal hll (h_cl_cons (show h_ok (hup h key _) key from Or.inl (hup_some h key _)) (h_cl_mono hup_mono hcl)) hl
  rw [List.map_cons, h_map_ext hal hcl] at this
  rw [← hself]
  exact this
theorem j_newa_int {key N : Nat} {n : Int32} (hd : fnd (h_tab M) pc = some (.newarray .int, 2)) (hp : pc + 2 = pc') (hw : Cond.arrayClass .int ∈ lw_tbl) (hn : ¬ n < 0) (hN : n.toNatClampNeg = N) (hbytes : N ≤ 10000) (hk : h key = none) (hk9 : key < 9000) (hcells : cells + 1 ≤ R.cells) (hslots : slots + N ≤ R.slots)
    (kk : J M R Q (cells + 1) (slots + N) (hup h key (.inl (.int, N, .inl (fun _ => 0)))) pc' ls (.ref key :: st)) : J M R Q cells slots h pc ls (.int n :: st) := by
  subst hp
  intro p l e s m args below meth c H locs D α α0 h0 lsA hC hW hll hcl hl
  refine va_newaK hC.1 hC.2.1 (atype := .int) (hC.2.2.2.2.1 _ (h_in hw rfl)) rfl (h_dec hC hd) rfl hn hN (by show N * componentBytes .int ≤ 536870912; simp only [componentBytes]; omega) hcells hslots rfl fun H1 cA e1 z1 o1 hAr hNm => ?_
  have hcA : D.2 .int = cA := Option.some.inj ((hC.2.2.2.2.2.2.2.2.1.1.2 0 _ rfl).2.symm.trans hNm)
  have hat : va_at D.1 vwCl (H.size, h_re D α (.inl (.int, N, .inl (fun _ => 0)))) H1 := by
    show H1[H.size]? = some (vp_cell (D.2 .int) _)
    rw [hcA]
    exact e1
  obtain ⟨hW', hal⟩ := hW.push hk hk9 (e := .inl (.int, N, .inl (fun _ => 0))) trivial hat z1 o1
  have hself : h_al α key H.size key = H.size := if_pos rfl
  have := j_ext (l := l) (e := e) (below := below) kk hC hW' hup_mono hal hll (h_cl_cons (show h_ok (hup h key _) key from Or.inl (hup_some h key _)) (h_cl_mono hup_mono (h_cl_tl hcl))) hl
  rw [List.map_cons, h_map_ext hal (h_cl_tl hcl)] at this
  rw [← hself]
  exact this
theorem j_newa_long {key N : Nat} {n : Int32} (hd : fnd (h_tab M) pc = some (.newarray .long, 2)) (hp : pc + 2 = pc') (hw : Cond.arrayClass .long ∈ lw_tbl) (hn : ¬ n < 0) (hN : n.toNatClampNeg = N) (hbytes : N ≤ 10000) (hk : h key = none) (hk9 : key < 9000) (hcells : cells + 1 ≤ R.cells) (hslots : slots + N ≤ R.slots)
    (kk : J M R Q (cells + 1) (slots + N) (hup h key (.inl (.long, N, .inr (.inl (fun _ => 0))))) pc' ls (.ref key :: st)) : J M R Q cells slots h pc ls (.int n :: st) := by
  subst hp
  intro p l e s m args below meth c H locs D α α0 h0 lsA hC hW hll hcl hl
  refine va_newaK hC.1 hC.2.1 (atype := .long) (hC.2.2.2.2.1 _ (h_in hw rfl)) rfl (h_dec hC hd) rfl hn hN (by show N * componentBytes .long ≤ 536870912; simp only [componentBytes]; omega) hcells hslots rfl fun H1 cA e1 z1 o1 hAr hNm => ?_
  have hcA : D.2 .long = cA := Option.some.inj ((hC.2.2.2.2.2.2.2.2.1.1.2 1 _ rfl).2.symm.trans hNm)
  have hat : va_at D.1 vwCl (H.size, h_re D α (.inl (.long, N, .inr (.inl (fun _ => 0))))) H1 := by
    show H1[H.size]? = some (vp_cell (D.2 .long) _)
    rw [hcA]
    exact e1
  obtain ⟨hW', hal⟩ := hW.push hk hk9 (e := .inl (.long, N, .inr (.inl (fun _ => 0)))) trivial hat z1 o1
  have hself : h_al α key H.size key = H.size := if_pos rfl
  have := j_ext (l := l) (e := e) (below := below) kk hC hW' hup_mono hal hll (h_cl_cons (show h_ok (hup h key _) key from Or.inl (hup_some h key _)) (h_cl_mono hup_mono (h_cl_tl hcl))) hl
  rw [List.map_cons, h_map_ext hal (h_cl_tl hcl)] at this
  rw [← hself]
  exact this
theorem j_newa_byte {key N : Nat} {n : Int32} (hd : fnd (h_tab M) pc = some (.newarray .byte, 2)) (hp : pc + 2 = pc') (hw : Cond.arrayClass .byte ∈ lw_tbl) (hn : ¬ n < 0) (hN : n.toNatClampNeg = N) (hbytes : N ≤ 10000) (hk : h key = none) (hk9 : key < 9000) (hcells : cells + 1 ≤ R.cells) (hslots : slots + N ≤ R.slots)
    (kk : J M R Q (cells + 1) (slots + N) (hup h key (.inl (.byte, N, .inl (fun _ => 0)))) pc' ls (.ref key :: st)) : J M R Q cells slots h pc ls (.int n :: st) := by
  subst hp
  intro p l e s m args below meth c H locs D α α0 h0 lsA hC hW hll hcl hl
  refine va_newaK hC.1 hC.2.1 (atype := .byte) (hC.2.2.2.2.1 _ (h_in hw rfl)) rfl (h_dec hC hd) rfl hn hN (by show N * componentBytes .byte ≤ 536870912; simp only [componentBytes]; omega) hcells hslots rfl fun H1 cA e1 z1 o1 hAr hNm => ?_
  have hcA : D.2 .byte = cA := Option.some.inj ((hC.2.2.2.2.2.2.2.2.1.1.2 2 _ rfl).2.symm.trans hNm)
  have hat : va_at D.1 vwCl (H.size, h_re D α (.inl (.byte, N, .inl (fun _ => 0)))) H1 := by
    show H1[H.size]? = some (vp_cell (D.2 .byte) _)
    rw [hcA]
    exact e1
  obtain ⟨hW', hal⟩ := hW.push hk hk9 (e := .inl (.byte, N, .inl (fun _ => 0))) trivial hat z1 o1
  have hself : h_al α key H.size key = H.size := if_pos rfl
  have := j_ext (l := l) (e := e) (below := below) kk hC hW' hup_mono hal hll (h_cl_cons (show h_ok (hup h key _) key from Or.inl (hup_some h key _)) (h_cl_mono hup_mono (h_cl_tl hcl))) hl
  rw [List.map_cons, h_map_ext hal (h_cl_tl hcl)] at this
  rw [← hself]
  exact this
theorem j_newa_boolean {key N : Nat} {n : Int32} (hd : fnd (h_tab M) pc = some (.newarray .boolean, 2)) (hp : pc + 2 = pc') (hw : Cond.arrayClass .boolean ∈ lw_tbl) (hn : ¬ n < 0) (hN : n.toNatClampNeg = N) (hbytes : N ≤ 10000) (hk : h key = none) (hk9 : key < 9000) (hcells : cells + 1 ≤ R.cells) (hslots : slots + N ≤ R.slots)
    (kk : J M R Q (cells + 1) (slots + N) (hup h key (.inl (.boolean, N, .inl (fun _ => 0)))) pc' ls (.ref key :: st)) : J M R Q cells slots h pc ls (.int n :: st) := by
  subst hp
  intro p l e s m args below meth c H locs D α α0 h0 lsA hC hW hll hcl hl
  refine va_newaK hC.1 hC.2.1 (atype := .boolean) (hC.2.2.2.2.1 _ (h_in hw rfl)) rfl (h_dec hC hd) rfl hn hN (by show N * componentBytes .boolean ≤ 536870912; simp only [componentBytes]; omega) hcells hslots rfl fun H1 cA e1 z1 o1 hAr hNm => ?_
  have hcA : D.2 .boolean = cA := Option.some.inj ((hC.2.2.2.2.2.2.2.2.1.1.2 3 _ rfl).2.symm.trans hNm)
  have hat : va_at D.1 vwCl (H.size, h_re D α (.inl (.boolean, N, .inl (fun _ => 0)))) H1 := by
    show H1[H.size]? = some (vp_cell (D.2 .boolean) _)
    rw [hcA]
    exact e1
  obtain ⟨hW', hal⟩ := hW.push hk hk9 (e := .inl (.boolean, N, .inl (fun _ => 0))) trivial hat z1 o1
  have hself : h_al α key H.size key = H.size := if_pos rfl
  have := j_ext (l := l) (e := e) (below := below) kk hC hW' hup_mono hal hll (h_cl_cons (show h_ok (hup h key _) key from Or.inl (hup_some h key _)) (h_cl_mono hup_mono (h_cl_tl hcl))) hl
  rw [List.map_cons, h_map_ext hal (h_cl_tl hcl)] at this
  rw [← hself]
  exact this
theorem j_newq {idx key N : Nat} {n : Int32} {C : String} (hd : fnd (h_tab M) pc = some (.anewarray idx, 3)) (hp : pc + 3 = pc') (hcl0 : Cond.classLink (h_own M) idx C ∈ lw_tbl) (hc : C ∈ [RX4, RX1, RX2, RX3]) (hn : ¬ n < 0) (hN : n.toNatClampNeg = N) (hbytes : N ≤ 10000) (hk : h key = none) (hk9 : key < 9000) (hcells : cells + 1 ≤ R.cells) (hslots : slots + N ≤ R.slots)
    (kk : J M R Q (cells + 1) (slots + N) (hup h key (.inl (.object C, N, .inr (.inr (.inr (.inr (fun _ => none))))))) pc' ls (.ref key :: st)) : J M R Q cells slots h pc ls (.int n :: st) := by
  subst hp
  subst hN
  intro p l e s m args below meth c H locs D α α0 h0 lsA hC hW hll hcl hl
  obtain ⟨t0, ht0⟩ := h_of_tys (D := D) hc
  have hK := hC.2.2.2.2.2.2.2.2.1
  refine W.anew hC.1 hC.2.1 hC.2.2.2.1 (hC.2.2.2.2.1 _ (h_in hcl0 rfl)) (va_AO.use (hK.2.2.1 C hc)) rfl (h_dec hC hd) rfl hn (by omega) hcells hslots fun cA kA comp f1 f2 f3 f4 => ?_
  generalize hH1 : H.push ({ cls := cA, slots := Array.replicate n.toNatClampNeg .null, vm := .none } : Cell) = H1
  have z1 : H1.size = H.size + 1 := by rw [← hH1, Array.size_push]
  have e1 : H1[H.size]? = some (arrV cA n.toNatClampNeg (fun _ => .null)) := by rw [← hH1, Array.getElem?_push_size, ← arrV_new]
  have o1 : ∀ q : Nat, q < H.size → H1[q]? = H[q]? := fun q hq => by rw [← hH1, Array.getElem?_push, if_neg (Nat.ne_of_lt hq)]
  obtain ⟨kA', comp', -, -, -, g4⟩ := (hK.1.2 t0 _ ht0).2
  have hcA : D.2 (.object C) = cA := Option.some.inj (g4.symm.trans f1)
  have hat : va_at D.1 vwCl (H.size, h_re D α (.inl (.object C, n.toNatClampNeg, .inr (.inr (.inr (.inr (fun _ => none))))))) H1 := by
    show H1[H.size]? = some (vp_cell (D.2 (.object C)) _)
    rw [hcA]
    exact e1
  obtain ⟨hW', hal⟩ := hW.push hk hk9 (e := .inl (.object C, n.toNatClampNeg, .inr (.inr (.inr (.inr (fun _ => none)))))) (fun j k hj => by cases hj) hat z1 o1
  have hself : h_al α key H.size key = H.size := if_pos rfl
  have := j_ext (l := l) (e := e) (below := below) kk hC hW' hup_mono hal hll (h_cl_cons (show h_ok (hup h key _) key from Or.inl (hup_some h key _)) (h_cl_mono hup_mono (h_cl_tl hcl))) hl
  rw [List.map_cons, h_map_ext hal (h_cl_tl hcl)] at this
  rw [← hself]
  exact this
theorem j_iret {v : Int32} (hd : fnd (h_tab M) pc = some (.ireturn, 1)) (hr : h_ret M = some .int) (hcs : cells ≤ R.cells) (hss : slots ≤ R.slots) (q : Q (some (.int v)) h) : J M R Q cells slots h pc ls [.int v] := by
  intro p l e s m args below meth c H locs D α α0 h0 lsA hC hW hll hcl hl
  refine W.widen hcs hss ?_
  exact W.iret (hlocks := hC.2.2.2.2.2.2.1) hC.1 hC.2.1 (hC.2.2.2.2.2.1.trans hr)  (fun t ht hWa => ⟨some (.int v), h, α, rfl, q, by rw [ht]; exact hW.1, hW.2.1, hW.2.2.2.1, ⟨hW.2.2.2.2.1, hW.2.2.2.2.2.1⟩, (fun w hw => by cases hw; trivial), hW.2.2.1.F ht⟩) hW.2.2.1.2.2 (h_dec hC hd)
theorem j_lret {v : Int64} (hd : fnd (h_tab M) pc = some (.lreturn, 1)) (hr : h_ret M = some .long) (hcs : cells ≤ R.cells) (hss : slots ≤ R.slots) (q : Q (some (.long v)) h) : J M R Q cells slots h pc ls [.long v] := by
  intro p l e s m args below meth c H locs D α α0 h0 lsA hC hW hll hcl hl
  refine W.widen hcs hss ?_
  exact W.lret (hlocks := hC.2.2.2.2.2.2.1) hC.1 hC.2.1 (hC.2.2.2.2.2.1.trans hr)  (fun t ht hWa => ⟨some (.long v), h, α, rfl, q, by rw [ht]; exact hW.1, hW.2.1, hW.2.2.2.1, ⟨hW.2.2.2.2.1, hW.2.2.2.2.2.1⟩, (fun w hw => by cases hw; trivial), hW.2.2.1.F ht⟩) hW.2.2.1.2.2 (h_dec hC hd)
theorem j_zret {v : Int32} (hd : fnd (h_tab M) pc = some (.ireturn, 1)) (hr : h_ret M = some .boolean) (hb : narrow .boolean (.int v) = .int v) (hcs : cells ≤ R.cells) (hss : slots ≤ R.slots) (q : Q (some (.int v)) h) : J M R Q cells slots h pc ls [.int v] := by
  intro p l e s m args below meth c H locs D α α0 h0 lsA hC hW hll hcl hl
  refine W.widen hcs hss ?_
  exact W.zret (hlocks := hC.2.2.2.2.2.2.1) hC.1 hC.2.1 (hC.2.2.2.2.2.1.trans hr) hb (fun t ht hWa => ⟨some (.int v), h, α, rfl, q, by rw [ht]; exact hW.1, hW.2.1, hW.2.2.2.1, ⟨hW.2.2.2.2.1, hW.2.2.2.2.2.1⟩, (fun w hw => by cases hw; trivial), hW.2.2.1.F ht⟩) hW.2.2.1.2.2 (h_dec hC hd)
theorem j_vret (hd : fnd (h_tab M) pc = some (.return_, 1)) (hr : h_ret M = none) (hcs : cells ≤ R.cells) (hss : slots ≤ R.slots) (q : Q (none) h) : J M R Q cells slots h pc ls [] := by
  intro p l e s m args below meth c H locs D α α0 h0 lsA hC hW hll hcl hl
  refine W.widen hcs hss ?_
  exact W.vret (hlocks := hC.2.2.2.2.2.2.1) hC.1 hC.2.1 (hC.2.2.2.2.2.1.trans hr)  (fun t ht hWa => ⟨none, h, α, rfl, q, by rw [ht]; exact hW.1, hW.2.1, hW.2.2.2.1, ⟨hW.2.2.2.2.1, hW.2.2.2.2.2.1⟩, (fun w hw => by cases hw), hW.2.2.1.F ht⟩) hW.2.2.1.2.2 (h_dec hC hd)
theorem j_aret {v : Value} {rt : FieldType} (hd : fnd (h_tab M) pc = some (.areturn, 1)) (hr : h_ret M = some rt) (hrt : (∃ n, rt = .object n) ∨ ∃ t, rt = .array t) (hv : v = .null ∨ ∃ a, v = .ref a) (hcs : cells ≤ R.cells) (hss : slots ≤ R.slots) (q : Q (some v) h) : J M R Q cells slots h pc ls [v] := by
  intro p l e s m args below meth c H locs D α α0 h0 lsA hC hW hll hcl hl
  refine W.widen hcs hss ?_
  exact W.aret (v := h_rv α v) (hlocks := hC.2.2.2.2.2.2.1) hC.1 hC.2.1 (hC.2.2.2.2.2.1.trans hr) hrt (by rcases hv with rfl | ⟨a, rfl⟩; exact Or.inl rfl; exact Or.inr ⟨_, rfl⟩) (fun t ht hWa => ⟨some v, h, α, rfl, q, by rw [ht]; exact hW.1, hW.2.1, hW.2.2.2.1, ⟨hW.2.2.2.2.1, hW.2.2.2.2.2.1⟩, (fun w hw => by cases hw; exact h_cl_hd hcl), hW.2.2.1.F ht⟩) hW.2.2.1.2.2 (h_dec hC hd)
/-- Object.<init> -/
theorem j_objInit {idx key : Nat} (hd : fnd (h_tab M) pc = some (.invokespecial idx, 3)) (hp : pc + 3 = pc') (h1 : Cond.methodLink (h_own M) idx objectInit ∈ lw_tbl) (h2 : Cond.instanceMethod objectInit ∈ lw_tbl) (h3 : Cond.code objectInit ⟨#[0xb1]⟩ 1 none ∈ lw_tbl) (hR : 1 ≤ R.frames ∧ (st.map fun v => v.category).sum + 12 ≤ R.locals) (kk : J M R Q cells slots h pc' ls st) : J M R Q cells slots h pc ls (.ref key :: st) := by
  subst hp
  intro p l e s m args below meth c H locs D α α0 h0 lsA hC hW hll hcl hl
  have hts := hC.2.2.2.2.1
  refine W.objInit hC.1 hC.2.1 hC.2.2.2.1 (hts _ (h_in h1 rfl)) (hts _ (h_in h2 rfl)) (hts _ (h_in h3 rfl)) rfl (by show lsA.size = c.maxLocals; rw [hC.2.2.1]; exact hl.1) (rest := st.map (h_rv α)) rfl (h_dec hC hd) hR.1 ?_ (kk p l e s m args below meth c H locs D α α0 h0 lsA hC hW hll (h_cl_tl hcl) hl)
  have hcat : (st.map (h_rv α)).map (fun v => v.category) = st.map (fun v => v.category) := by rw [List.map_map]; exact List.map_congr_left fun v _ => h_rv_cat α v
  rw [hcat]
  show 2 * 0 + _ + 12 ≤ _
  omega
theorem h_SS.same {D : hG} {u U : State} (hh : U.heap = u.heap) (hv : U.vm = u.vm) (h : h_SS D u) : h_SS D U := by
  obtain ⟨h1, h2, ⟨r1, r2, r3, r4⟩, h4, h5, h6⟩ := h
  have al : u.vm.Alike U.vm := by rw [hv]; exact Vm.Alike.refl _
  unfold h_SS
  rw [hh]
  exact ⟨h1, h2.moved al, ⟨r1.same hv, r2.same hv, r3.same hv, r4.same hv⟩, h4.moved al, h5.imp (fun z => z.moved al) (fun z => z.moved al), va_Nw.same rfl hv.symm h6⟩
theorem h_SS.at {D : hG} {s U : State} {H : Heap} (hW : s.WarmedH U.vm) (hU : U.heap = H) (hz : s.heap.size ≤ H.size) (hq : ∀ a : Nat, a < s.heap.size → ¬ h_B D ≤ a → H[a]? = s.heap[a]?) (h : h_SS D s) : h_SS D U := by
  obtain ⟨h1, h2, ⟨r1, r2, r3, r4⟩, h4, h5, h6⟩ := h
  unfold h_SS
  rw [hU]
  exact ⟨Nat.le_trans h1 hz, (h2.kept hq).moved hW.alike, ⟨r1.warm hW, r2.warm hW, r3.warm hW, r4.warm hW⟩, (h4.kept hq).moved hW.alike, h5.imp (fun z => (z.kept hq).moved hW.alike) (fun z => (z.kept hq).moved hW.alike), va_Nw.warmC hW h6⟩
/-- what the method may change lies above the constants -/
theorem h_Wd.above {D : hG} {α : Nat → Nat} {h : hH} {α0 : Nat → Nat} {h0 : hH} {s : State} {H : Heap} {locs : List Loc} (hW : h_Wd D α h α0 h0 s H locs) (q : Nat) (hq : h_AA α0 h0 s.heap.size q) : h_B D ≤ q := by
  rcases hq with ⟨k, hk, hn, rfl⟩ | hq
  · obtain ⟨e1, e2⟩ := hW.2.2.2.1 k (Or.inl hn)
    rw [← e2]
    exact hW.2.2.2.2.2.1.1 k hk (e1.resolve_right (by omega))
  · exact Nat.le_trans hW.2.2.2.2.2.2 hq
theorem h_blind {D : hG} {α : Nat → Nat} {h : hH} {av : List Value} {sz : Nat} : FrameBlind (va_Pc (av.map (h_rv α)) (fun U => U.heap.size = sz ∧ h_K D U ∧ h_P D α h U.heap ∧ h_D (fun _ => True) α h ∧ h_cH h ∧ h_cl h av ∧ h_up D α h)) := fun a U g mk q => by
  obtain ⟨q0, q1, qK, q2⟩ := q
  exact ⟨q0, q1, ⟨va_K.moved (u := U) (U := U.calling g mk a) (Vm.Alike.refl U.vm) qK.1, fun x hx => va_Nw.same rfl rfl (qK.2.1 x hx), fun x hx => va_AO.moved (u := U) (U := U.calling g mk a) (Vm.Alike.refl U.vm) (qK.2.2.1 x hx), h_SS.same (u := U) (U := U.calling g mk a) rfl rfl qK.2.2.2⟩, q2⟩
theorem h_K.warm {D : hG} {α : Nat → Nat} {h : hH} {α0 : Nat → Nat} {h0 : hH} {s U : State} {H : Heap} {locs : List Loc} (hWd : h_Wd D α h α0 h0 s H locs) (hU : U.heap = H) (hW : s.WarmedH U.vm) (hK : h_K D s) : h_K D U :=
  ⟨va_K.moved hW.alike hK.1, fun x hx => va_Nw.warmM hW (hK.2.1 x hx), fun x hx => va_AO.moved hW.alike (hK.2.2.1 x hx), h_SS.at hW hU hWd.2.2.1.1 (fun a h1 h2 => hWd.2.2.1.2.1 a h1 (fun z => h2 (hWd.above a z))) hK.2.2.2⟩
/-- behind a call -/
theorem j_back {R' : Room} {Q' : Option Value → hH → Prop} {p : Program} {l : Launch} {e : Env} {s : State} {m : MethodId} {args : Array Value} {below : List Frame} {meth : Method} {c : Code} {H : Heap} {locs : List Loc} {D : hG} {α α0 : Nat → Nat} {h0 : hH} {lsA : Array Slot} {st0 : List Value}
    (hC : h_Cx M p s m args meth c D) (hW : h_Wd D α h α0 h0 s H locs) (hll : h_ll h ls) (hcl : h_cl h st) (hl : lv_has lsA (h_nL M) (ls.map (fun q => (q.1, h_rv α q.2)))) {a' : Array Value}
    (hr : va_Run p l e R s m args below meth c H locs cells slots R'.cells R'.slots (F0 m pc lsA st0) (st.map (h_rv α)) (h_QQ D α h Q' a') (h_AA α h H.size))
    (kk : ∀ (v : Option Value) (h' : hH), Q' v h' → J M R Q (cells + R'.cells) (slots + R'.slots) h' (pc + 3) ls (v.toList ++ st)) :
    W p l e R s m args below meth c H locs cells slots (MQ below (h_QQ D α0 h0 Q) args s R.cells R.slots (h_AA α0 h0 s.heap.size)) (F0 m pc lsA st0) := by
  intro T hT X
  obtain ⟨v, st₀, t, T', L, hst, X', hL, e1, e2, ⟨v', h', α', q1, q2, q3, q4, q5, ⟨q6, q6b⟩, q7, q8⟩, go⟩ := hr T hT X
  cases q1
  have hsub : ∀ q : Nat, h_AA α h H.size q → h_AA α0 h0 s.heap.size q := fun q hq => by
    rcases hq with ⟨k, hk, hn, rfl⟩ | hq
    · exact hW.2.1.2 k hk hn
    · exact Or.inr (Nat.le_trans hW.2.2.1.1 hq)
  rw [hst] at q4
  have q8' : H.size ≤ t.heap.size ∧ ∀ q : Nat, q < H.size → ¬ h_AA α h H.size q → t.heap[q]? = H[q]? := by
    have z := q8
    unfold va_F at z
    rw [hst] at z
    exact z
  have hW' : h_Wd D α' h' α0 h0 s t.heap (locs ++ L) := by
    refine ⟨q3, ⟨q4.1, fun k hk hn => hsub _ (q4.2 k hk hn)⟩, ⟨Nat.le_trans hW.2.2.1.1 q8'.1, fun q hq hn => ?_, fun q hq => ?_⟩, fun k hk => ⟨(q5 k (hW.2.2.2.1 k hk).1).1, (q5 k (hW.2.2.2.1 k hk).1).2.trans (hW.2.2.2.1 k hk).2⟩, q6, q6b, hW.2.2.2.2.2.2⟩
    · exact (q8'.2 q (Nat.lt_of_lt_of_le hq hW.2.2.1.1) (fun z => hn (hsub q z))).trans (hW.2.2.1.2.1 q hq hn)
    · rcases List.mem_append.mp hq with z | z
      · exact hW.2.2.1.2.2 q z
      · exact hsub _ (hL q z)
  have hcl' : h_cl h' (v'.toList ++ st) := fun w hw => by
    rcases List.mem_append.mp hw with z | z
    · exact q7 w (by cases v' with | none => cases z | some x => simp at z; rw [z])
    · exact h_cv_mono (fun k hk => (q5 k hk).1) (hcl w z)
  have K := j_ext (l := l) (e := e) (below := below) (kk v' h' q2) hC hW' (fun k hk => (q5 k hk).1) (fun k hk => (q5 k hk).2) hll hcl' hl
  rw [List.map_append, h_map_ext (fun k hk => (q5 k hk).2) hcl] at K
  obtain ⟨t2, a1, b1⟩ := K T' e1 X'
  refine ⟨t2, go t2 ?_, b1⟩
  have hv : (v'.map (h_rv α')).toList = v'.toList.map (h_rv α') := by cases v' <;> rfl
  rw [hv]
  exact a1
theorem h_cats (α : Nat → Nat) (st : List Value) (hW8 : (st.map fun v => v.category).sum ≤ 8) {m : MethodId} {pc : Nat} {lsA : Array Slot} {x : List Value} : 2 * (F0 m pc lsA x).monitorRoom + ((st.map (h_rv α)).map fun v => v.category).sum ≤ 8 := by
  have hcat : (st.map (h_rv α)).map (fun v => v.category) = st.map (fun v => v.category) := by rw [List.map_map]; exact List.map_congr_left fun v _ => h_rv_cat α v
  rw [hcat]
  show 2 * 0 + _ ≤ 8
  omega
theorem h_code {M' : hM} {n : Nat} (I : h_MI M' n) : GoodIn hw_tbl (h_ws M') := fun w hw => by
  rcases List.mem_cons.mp hw with q | q
  · rw [q]; exact ⟨h_in I.1 rfl, good_of_word rfl⟩
  · exact h_good w q
/-- the room of a call -/
def h_rm (R R' : Room) (n cells slots : Nat) : Prop := (R'.frames + 1 ≤ R.frames ∧ 8 + (n + 11) + R'.locals ≤ R.locals) ∧ cells + R'.cells ≤ R.cells ∧ slots + R'.slots ≤ R.slots
theorem h_rm_of {R R' : Room} {n cells slots : Nat} (q : (Nat.ble (R'.frames + 1) R.frames && Nat.ble (8 + (n + 11) + R'.locals) R.locals && Nat.ble (cells + R'.cells) R.cells && Nat.ble (slots + R'.slots) R.slots) = true) : h_rm R R' n cells slots := by
  simp only [Bool.and_eq_true] at q
  exact ⟨⟨Nat.le_of_ble_eq_true q.1.1.1, Nat.le_of_ble_eq_true q.1.1.2⟩, Nat.le_of_ble_eq_true q.1.2, Nat.le_of_ble_eq_true q.2⟩
theorem j_callV {idx ci key n : Nat} {M' : hM} {R' : Room} {As : List Value} {Q' : Option Value → hH → Prop} {fs : List Value} (hd : fnd (h_tab M) pc = some (.invokevirtual idx, 3)) (hp : pc + 3 = pc') (I : h_MI M' n) (L : h_LV (h_own M) idx (h_y M')) (hk : h key = some (.inr (ci, fs))) (hci : (vwCl[ci]?).map (fun q => q.1) = some (h_y M').cls) (hn : As.length = n) (rm : h_rm R R' (h_nL M') cells slots) (hW8 : (st.map fun v => v.category).sum ≤ 8) (S : Sp M' R' (.ref key :: As) h Q')
    (kk : ∀ (v : Option Value) (h' : hH), Q' v h' → J M R Q (cells + R'.cells) (slots + R'.slots) h' pc' ls (v.toList ++ st)) : J M R Q cells slots h pc ls (As.reverse ++ .ref key :: st) := by
  subst hp
  intro p l e s m args below meth c H locs D α α0 h0 lsA hC hW hll hcl hl
  have hts := hC.2.2.2.2.1
  have hst : h_cl h st := fun w hw => hcl w (List.mem_append_right _ (List.mem_cons_of_mem _ hw))
  have hav : h_cl h (.ref key :: As) := fun w hw => by
    rcases List.mem_cons.mp hw with q | q
    · rw [q]; exact hcl _ (List.mem_append_right _ List.mem_cons_self)
    · exact hcl w (List.mem_append_left _ (List.mem_reverse.mpr q))
  obtain ⟨r, hr0, cell, g1, g2, g3, -⟩ := hW.1 key _ hk
  have hrc : r.1 = (h_y M').cls := by rw [hr0] at hci; exact Option.some.inj hci
  have hK := hC.2.2.2.2.2.2.2.2.1
  have cw : CallW R s args (h_own M) (h_y M').cls idx (h_y M') (h_cc M') (h_nL M') (h_ret M') (h_ws M') R' R'.cells R'.slots n := ⟨callB_of n hts (h_code I) rfl rfl rfl (hts _ (h_in L.2.2.2 rfl)) (hts _ (h_in L.1 rfl)) I.2.2.2.1 rm.1, hts _ (h_in L.2.1 rfl), hts _ (h_in L.2.2.1 rfl)⟩
  refine j_back (R' := R') hC hW hll hst hl (va_runV (As := As.map (h_rv α)) (b := α key) (rest := st.map (h_rv α)) (Ts := hw_tbl) ⟨hC.1, hC.2.1, hC.2.2.1, hC.2.2.2.1, hts⟩ (S l D α H.size) cw ⟨h_blind, ⟨cell, g1, by rw [g3]; rfl, by rw [g2, ← hrc]; exact (hK.1.1 ci r hr0).2.1⟩, fun U hU hWU => ⟨rfl, by rw [hU], hK.warm hW hU hWU, by rw [hU]; exact hW.1, ⟨hW.2.1.1, fun _ _ _ => trivial⟩, hW.2.2.2.2.1, hav, hW.2.2.2.2.2.1⟩⟩ rfl (by rw [List.length_map]; exact hn) hl.1 ?_ (h_cats α st hW8) (h_dec hC hd) rm.2) kk
  show (As.reverse ++ .ref key :: st).map (h_rv α) = _
  rw [List.map_append, List.map_reverse]
  rfl
theorem j_callS {idx n : Nat} {M' : hM} {R' : Room} {As : List Value} {Q' : Option Value → hH → Prop} (hd : fnd (h_tab M) pc = some (.invokestatic idx, 3)) (hp : pc + 3 = pc') (I : h_MI M' n) (L : h_LS (h_own M) idx (h_y M')) (hn : As.length = n) (rm : h_rm R R' (h_nL M') cells slots) (hW8 : (st.map fun v => v.category).sum ≤ 8) (S : Sp M' R' As h Q')
    (kk : ∀ (v : Option Value) (h' : hH), Q' v h' → J M R Q (cells + R'.cells) (slots + R'.slots) h' pc' ls (v.toList ++ st)) : J M R Q cells slots h pc ls (As.reverse ++ st) := by
  subst hp
  intro p l e s m args below meth c H locs D α α0 h0 lsA hC hW hll hcl hl
  have hts := hC.2.2.2.2.1
  have hst : h_cl h st := fun w hw => hcl w (List.mem_append_right _ hw)
  have hav : h_cl h As := fun w hw => hcl w (List.mem_append_left _ (List.mem_reverse.mpr hw))
  have hK := hC.2.2.2.2.2.2.2.2.1
  have cw : CallB R s args (h_own M) idx (h_y M') (h_cc M') (h_nL M') (h_ret M') (h_ws M') R' R'.cells R'.slots n ∧ (Cond.static (h_y M')).before args s = true := ⟨callB_of n hts (h_code I) rfl rfl rfl (hts _ (h_in L.2.2 rfl)) (hts _ (h_in L.1 rfl)) I.2.2.2.1 rm.1, hts _ (h_in L.2.1 rfl)⟩
  refine j_back (R' := R') hC hW hll hst hl (va_runS (As := As.map (h_rv α)) (rest := st.map (h_rv α)) (Ts := hw_tbl) ⟨hC.1, hC.2.1, hC.2.2.1, hC.2.2.2.1, hts⟩ (S l D α H.size) cw ⟨h_blind, fun U hU hWU => ⟨rfl, by rw [hU], hK.warm hW hU hWU, by rw [hU]; exact hW.1, ⟨hW.2.1.1, fun _ _ _ => trivial⟩, hW.2.2.2.2.1, hav, hW.2.2.2.2.2.1⟩⟩ rfl (by rw [List.length_map]; exact hn) hl.1 ?_ (h_cats α st hW8) (h_dec hC hd) rm.2) kk
  show (As.reverse ++ st).map (h_rv α) = _
  rw [List.map_append, List.map_reverse]
theorem j_callSN {idx n : Nat} {host : String} {M' : hM} {R' : Room} {As : List Value} {Q' : Option Value → hH → Prop} (hd : fnd (h_tab M) pc = some (.invokestatic idx, 3)) (hp : pc + 3 = pc') (I : h_MI M' n) (L : h_LSN (h_own M) idx (h_y M') host) (hn : As.length = n) (rm : h_rm R R' (h_nL M') cells slots) (hW8 : (st.map fun v => v.category).sum ≤ 8) (S : Sp M' R' As h Q')
    (kk : ∀ (v : Option Value) (h' : hH), Q' v h' → J M R Q (cells + R'.cells) (slots + R'.slots) h' pc' ls (v.toList ++ st)) : J M R Q cells slots h pc ls (As.reverse ++ st) := by
  subst hp
  intro p l e s m args below meth c H locs D α α0 h0 lsA hC hW hll hcl hl
  have hts := hC.2.2.2.2.1
  have hst : h_cl h st := fun w hw => hcl w (List.mem_append_right _ hw)
  have hav : h_cl h As := fun w hw => hcl w (List.mem_append_left _ (List.mem_reverse.mpr hw))
  have hK := hC.2.2.2.2.2.2.2.2.1
  have cw : va_CN R s args (h_own M) idx (h_y M') host (h_cc M') (h_nL M') (h_ret M') (h_ws M') R' R'.cells R'.slots n ∧ (Cond.static (h_y M')).before args s = true ∧ True := ⟨va_cnB n hts (h_code I) rfl rfl rfl (hK.2.1 _ L.1) (hts _ (h_in L.2.2 rfl)) I.2.2.2.1 rm.1, hts _ (h_in L.2.1 rfl), trivial⟩
  refine j_back (R' := R') hC hW hll hst hl (va_runSN (As := As.map (h_rv α)) (rest := st.map (h_rv α)) (Ts := hw_tbl) ⟨hC.1, hC.2.1, hC.2.2.1, hC.2.2.2.1, hts⟩ (S l D α H.size) cw ⟨h_blind, fun U hU hWU => ⟨rfl, by rw [hU], hK.warm hW hU hWU, by rw [hU]; exact hW.1, ⟨hW.2.1.1, fun _ _ _ => trivial⟩, hW.2.2.2.2.1, hav, hW.2.2.2.2.2.1⟩⟩ rfl (by rw [List.length_map]; exact hn) hl.1 ?_ (h_cats α st hW8) (h_dec hC hd) rm.2) kk
  show (As.reverse ++ st).map (h_rv α) = _
  rw [List.map_append, List.map_reverse]
theorem j_callI {idx key n : Nat} {M' : hM} {R' : Room} {As : List Value} {Q' : Option Value → hH → Prop} (hd : fnd (h_tab M) pc = some (.invokespecial idx, 3)) (hp : pc + 3 = pc') (I : h_MI M' n) (hret : h_ret M' = none) (L : h_LI (h_own M) idx (h_y M')) (hn : As.length = n) (rm : h_rm R R' (h_nL M') cells slots) (hW8 : (st.map fun v => v.category).sum ≤ 8) (S : Sp M' R' (.ref key :: As) h Q')
    (kk : ∀ (v : Option Value) (h' : hH), Q' v h' → J M R Q (cells + R'.cells) (slots + R'.slots) h' pc' ls (v.toList ++ st)) : J M R Q cells slots h pc ls (As.reverse ++ .ref key :: st) := by
  subst hp
  intro p l e s m args below meth c H locs D α α0 h0 lsA hC hW hll hcl hl
  have hts := hC.2.2.2.2.1
  have hst : h_cl h st := fun w hw => hcl w (List.mem_append_right _ (List.mem_cons_of_mem _ hw))
  have hav : h_cl h (.ref key :: As) := fun w hw => by
    rcases List.mem_cons.mp hw with q | q
    · rw [q]; exact hcl _ (List.mem_append_right _ List.mem_cons_self)
    · exact hcl w (List.mem_append_left _ (List.mem_reverse.mpr q))
  have hK := hC.2.2.2.2.2.2.2.2.1
  have cw : CallB R s args (h_own M) idx (h_y M') (h_cc M') (h_nL M') none (h_ws M') R' R'.cells R'.slots n ∧ (h_y M').name = "<init>" ∧ (Cond.instanceMethod (h_y M')).before args s = true := ⟨callB_of n hts (h_code I) (by unfold h_ws; rw [hret]) rfl rfl (hts _ (h_in L.2.2.1 rfl)) (hts _ (h_in L.1 rfl)) I.2.2.2.1 rm.1, L.2.2.2, hts _ (h_in L.2.1 rfl)⟩
  refine j_back (R' := R') hC hW hll hst hl (va_runI (As := As.map (h_rv α)) (b := α key) (rest := st.map (h_rv α)) (Ts := hw_tbl) ⟨hC.1, hC.2.1, hC.2.2.1, hC.2.2.2.1, hts⟩ (S l D α H.size) cw ⟨h_blind, fun U hU hWU => ⟨rfl, by rw [hU], hK.warm hW hU hWU, by rw [hU]; exact hW.1, ⟨hW.2.1.1, fun _ _ _ => trivial⟩, hW.2.2.2.2.1, hav, hW.2.2.2.2.2.1⟩⟩ rfl (by rw [List.length_map]; exact hn) hl.1 ?_ (h_cats α st hW8) (h_dec hC hd) rm.2) kk
  show (As.reverse ++ .ref key :: st).map (h_rv α) = _
  rw [List.map_append, List.map_reverse]
  rfl
theorem j_callIN {idx key n : Nat} {host : String} {M' : hM} {R' : Room} {As : List Value} {Q' : Option Value → hH → Prop} (hd : fnd (h_tab M) pc = some (.invokespecial idx, 3)) (hp : pc + 3 = pc') (I : h_MI M' n) (hret : h_ret M' = none) (L : h_LIN (h_own M) idx (h_y M') host) (hn : As.length = n) (rm : h_rm R R' (h_nL M') cells slots) (hW8 : (st.map fun v => v.category).sum ≤ 8) (S : Sp M' R' (.ref key :: As) h Q')
    (kk : ∀ (v : Option Value) (h' : hH), Q' v h' → J M R Q (cells + R'.cells) (slots + R'.slots) h' pc' ls (v.toList ++ st)) : J M R Q cells slots h pc ls (As.reverse ++ .ref key :: st) := by
  subst hp
  intro p l e s m args below meth c H locs D α α0 h0 lsA hC hW hll hcl hl
  have hts := hC.2.2.2.2.1
  have hst : h_cl h st := fun w hw => hcl w (List.mem_append_right _ (List.mem_cons_of_mem _ hw))
  have hav : h_cl h (.ref key :: As) := fun w hw => by
    rcases List.mem_cons.mp hw with q | q
    · rw [q]; exact hcl _ (List.mem_append_right _ List.mem_cons_self)
    · exact hcl w (List.mem_append_left _ (List.mem_reverse.mpr q))
  have hK := hC.2.2.2.2.2.2.2.2.1
  have cw : va_CN R s args (h_own M) idx (h_y M') host (h_cc M') (h_nL M') none (h_ws M') R' R'.cells R'.slots n ∧ (h_y M').name = "<init>" ∧ (Cond.instanceMethod (h_y M')).before args s = true := ⟨va_cnB n hts (h_code I) (by unfold h_ws; rw [hret]) rfl rfl (hK.2.1 _ L.1) (hts _ (h_in L.2.2.1 rfl)) I.2.2.2.1 rm.1, L.2.2.2, hts _ (h_in L.2.1 rfl)⟩
  refine j_back (R' := R') hC hW hll hst hl (va_runIN (As := As.map (h_rv α)) (b := α key) (rest := st.map (h_rv α)) (Ts := hw_tbl) ⟨hC.1, hC.2.1, hC.2.2.1, hC.2.2.2.1, hts⟩ (S l D α H.size) cw ⟨h_blind, fun U hU hWU => ⟨rfl, by rw [hU], hK.warm hW hU hWU, by rw [hU]; exact hW.1, ⟨hW.2.1.1, fun _ _ _ => trivial⟩, hW.2.2.2.2.1, hav, hW.2.2.2.2.2.1⟩⟩ rfl (by rw [List.length_map]; exact hn) hl.1 ?_ (h_cats α st hW8) (h_dec hC hd) rm.2) kk
  show (As.reverse ++ .ref key :: st).map (h_rv α) = _
  rw [List.map_append, List.map_reverse]
  rfl
/-- a contract that says the answer and the heap behind -/
abbrev SpD (M : hM) (R : Room) (av : List Value) (h : hH) (r : Option Value) (h2 : hH) : Prop := Sp M R av h (fun v h' => v = r ∧ h' = h2)
theorem j_v0 {idx ci key : Nat} {M' : hM} {R' : Room} {fs : List Value} {r : Value} {h2 : hH} (hd : fnd (h_tab M) pc = some (.invokevirtual idx, 3)) (hp : pc + 3 = pc') (I : h_MI M' 0) (L : h_LV (h_own M) idx (h_y M')) (hk : h key = some (.inr (ci, fs))) (hci : (vwCl[ci]?).map (fun q => q.1) = some (h_y M').cls) (S : SpD M' R' (.ref key :: []) h (some r) h2) (rm : h_rm R R' (h_nL M') cells slots) (hW8 : (st.map fun v => v.category).sum ≤ 8) {c' s' : Nat} (hc' : cells + R'.cells = c') (hs' : slots + R'.slots = s') (kk : J M R Q c' s' h2 pc' ls (r :: st)) : J M R Q cells slots h pc ls (.ref key :: st) :=
  j_callV (As := []) hd hp I L hk hci rfl rm hW8 S (fun v h' q => by obtain ⟨q1, q2⟩ := q; subst hc'; subst hs'; rw [q1, q2]; exact kk)
theorem j_s0 {idx : Nat} {M' : hM} {R' : Room} {r : Value} {h2 : hH} (hd : fnd (h_tab M) pc = some (.invokestatic idx, 3)) (hp : pc + 3 = pc') (I : h_MI M' 0) (L : h_LS (h_own M) idx (h_y M')) (S : SpD M' R' [] h (some r) h2) (rm : h_rm R R' (h_nL M') cells slots) (hW8 : (st.map fun v => v.category).sum ≤ 8) {c' s' : Nat} (hc' : cells + R'.cells = c') (hs' : slots + R'.slots = s') (kk : J M R Q c' s' h2 pc' ls (r :: st)) : J M R Q cells slots h pc ls (st) :=
  j_callS (As := []) hd hp I L rfl rm hW8 S (fun v h' q => by obtain ⟨q1, q2⟩ := q; subst hc'; subst hs'; rw [q1, q2]; exact kk)
theorem j_vw0 {idx ci key : Nat} {M' : hM} {R' : Room} {fs : List Value} {h2 : hH} (hd : fnd (h_tab M) pc = some (.invokevirtual idx, 3)) (hp : pc + 3 = pc') (I : h_MI M' 0) (L : h_LV (h_own M) idx (h_y M')) (hk : h key = some (.inr (ci, fs))) (hci : (vwCl[ci]?).map (fun q => q.1) = some (h_y M').cls) (S : SpD M' R' (.ref key :: []) h none h2) (rm : h_rm R R' (h_nL M') cells slots) (hW8 : (st.map fun v => v.category).sum ≤ 8) {c' s' : Nat} (hc' : cells + R'.cells = c') (hs' : slots + R'.slots = s') (kk : J M R Q c' s' h2 pc' ls st) : J M R Q cells slots h pc ls (.ref key :: st) :=
  j_callV (As := []) hd hp I L hk hci rfl rm hW8 S (fun v h' q => by obtain ⟨q1, q2⟩ := q; subst hc'; subst hs'; rw [q1, q2]; exact kk)
theorem j_sw0 {idx : Nat} {M' : hM} {R' : Room} {h2 : hH} (hd : fnd (h_tab M) pc = some (.invokestatic idx, 3)) (hp : pc + 3 = pc') (I : h_MI M' 0) (L : h_LS (h_own M) idx (h_y M')) (S : SpD M' R' [] h none h2) (rm : h_rm R R' (h_nL M') cells slots) (hW8 : (st.map fun v => v.category).sum ≤ 8) {c' s' : Nat} (hc' : cells + R'.cells = c') (hs' : slots + R'.slots = s') (kk : J M R Q c' s' h2 pc' ls st) : J M R Q cells slots h pc ls (st) :=
  j_callS (As := []) hd hp I L rfl rm hW8 S (fun v h' q => by obtain ⟨q1, q2⟩ := q; subst hc'; subst hs'; rw [q1, q2]; exact kk)
theorem j_i0 {idx key : Nat} {M' : hM} {R' : Room} {h2 : hH} (hd : fnd (h_tab M) pc = some (.invokespecial idx, 3)) (hp : pc + 3 = pc') (I : h_MI M' 0) (hret : h_ret M' = none) (L : h_LI (h_own M) idx (h_y M')) (S : SpD M' R' (.ref key :: []) h none h2) (rm : h_rm R R' (h_nL M') cells slots) (hW8 : (st.map fun v => v.category).sum ≤ 8) {c' s' : Nat} (hc' : cells + R'.cells = c') (hs' : slots + R'.slots = s') (kk : J M R Q c' s' h2 pc' ls st) : J M R Q cells slots h pc ls (.ref key :: st) :=
  j_callI (As := []) hd hp I hret L rfl rm hW8 S (fun v h' q => by obtain ⟨q1, q2⟩ := q; subst hc'; subst hs'; rw [q1, q2]; exact kk)
theorem j_in0 {idx key : Nat} {host : String} {M' : hM} {R' : Room} {h2 : hH} (hd : fnd (h_tab M) pc = some (.invokespecial idx, 3)) (hp : pc + 3 = pc') (I : h_MI M' 0) (hret : h_ret M' = none) (L : h_LIN (h_own M) idx (h_y M') host) (S : SpD M' R' (.ref key :: []) h none h2) (rm : h_rm R R' (h_nL M') cells slots) (hW8 : (st.map fun v => v.category).sum ≤ 8) {c' s' : Nat} (hc' : cells + R'.cells = c') (hs' : slots + R'.slots = s') (kk : J M R Q c' s' h2 pc' ls st) : J M R Q cells slots h pc ls (.ref key :: st) :=
  j_callIN (As := []) hd hp I hret L rfl rm hW8 S (fun v h' q => by obtain ⟨q1, q2⟩ := q; subst hc'; subst hs'; rw [q1, q2]; exact kk)
theorem j_v1 {idx ci key : Nat} {M' : hM} {R' : Room} {a0 : Value} {fs : List Value} {r : Value} {h2 : hH} (hd : fnd (h_tab M) pc = some (.invokevirtual idx, 3)) (hp : pc + 3 = pc') (I : h_MI M' 1) (L : h_LV (h_own M) idx (h_y M')) (hk : h key = some (.inr (ci, fs))) (hci : (vwCl[ci]?).map (fun q => q.1) = some (h_y M').cls) (S : SpD M' R' (.ref key :: [a0]) h (some r) h2) (rm : h_rm R R' (h_nL M') cells slots) (hW8 : (st.map fun v => v.category).sum ≤ 8) {c' s' : Nat} (hc' : cells + R'.cells = c') (hs' : slots + R'.slots = s') (kk : J M R Q c' s' h2 pc' ls (r :: st)) : J M R Q cells slots h pc ls (a0 :: .ref key :: st) :=
  j_callV (As := [a0]) hd hp I L hk hci rfl rm hW8 S (fun v h' q => by obtain ⟨q1, q2⟩ := q; subst hc'; subst hs'; rw [q1, q2]; exact kk)
theorem j_s1 {idx : Nat} {M' : hM} {R' : Room} {a0 : Value} {r : Value} {h2 : hH} (hd : fnd (h_tab M) pc = some (.invokestatic idx, 3)) (hp : pc + 3 = pc') (I : h_MI M' 1) (L : h_LS (h_own M) idx (h_y M')) (S : SpD M' R' [a0] h (some r) h2) (rm : h_rm R R' (h_nL M') cells slots) (hW8 : (st.map fun v => v.category).sum ≤ 8) {c' s' : Nat} (hc' : cells + R'.cells = c') (hs' : slots + R'.slots = s') (kk : J M R Q c' s' h2 pc' ls (r :: st)) : J M R Q cells slots h pc ls (a0 :: st) :=
  j_callS (As := [a0]) hd hp I L rfl rm hW8 S (fun v h' q => by obtain ⟨q1, q2⟩ := q; subst hc'; subst hs'; rw [q1, q2]; exact kk)
theorem j_sn1 {idx : Nat} {host : String} {M' : hM} {R' : Room} {a0 : Value} {r : Value} {h2 : hH} (hd : fnd (h_tab M) pc = some (.invokestatic idx, 3)) (hp : pc + 3 = pc') (I : h_MI M' 1) (L : h_LSN (h_own M) idx (h_y M') host) (S : SpD M' R' [a0] h (some r) h2) (rm : h_rm R R' (h_nL M') cells slots) (hW8 : (st.map fun v => v.category).sum ≤ 8) {c' s' : Nat} (hc' : cells + R'.cells = c') (hs' : slots + R'.slots = s') (kk : J M R Q c' s' h2 pc' ls (r :: st)) : J M R Q cells slots h pc ls (a0 :: st) :=
  j_callSN (As := [a0]) hd hp I L rfl rm hW8 S (fun v h' q => by obtain ⟨q1, q2⟩ := q; subst hc'; subst hs'; rw [q1, q2]; exact kk)
theorem j_vw1 {idx ci key : Nat} {M' : hM} {R' : Room} {a0 : Value} {fs : List Value} {h2 : hH} (hd : fnd (h_tab M) pc = some (.invokevirtual idx, 3)) (hp : pc + 3 = pc') (I : h_MI M' 1) (L : h_LV (h_own M) idx (h_y M')) (hk : h key = some (.inr (ci, fs))) (hci : (vwCl[ci]?).map (fun q => q.1) = some (h_y M').cls) (S : SpD M' R' (.ref key :: [a0]) h none h2) (rm : h_rm R R' (h_nL M') cells slots) (hW8 : (st.map fun v => v.category).sum ≤ 8) {c' s' : Nat} (hc' : cells + R'.cells = c') (hs' : slots + R'.slots = s') (kk : J M R Q c' s' h2 pc' ls st) : J M R Q cells slots h pc ls (a0 :: .ref key :: st) :=
  j_callV (As := [a0]) hd hp I L hk hci rfl rm hW8 S (fun v h' q => by obtain ⟨q1, q2⟩ := q; subst hc'; subst hs'; rw [q1, q2]; exact kk)
theorem j_sw1 {idx : Nat} {M' : hM} {R' : Room} {a0 : Value} {h2 : hH} (hd : fnd (h_tab M) pc = some (.invokestatic idx, 3)) (hp : pc + 3 = pc') (I : h_MI M' 1) (L : h_LS (h_own M) idx (h_y M')) (S : SpD M' R' [a0] h none h2) (rm : h_rm R R' (h_nL M') cells slots) (hW8 : (st.map fun v => v.category).sum ≤ 8) {c' s' : Nat} (hc' : cells + R'.cells = c') (hs' : slots + R'.slots = s') (kk : J M R Q c' s' h2 pc' ls st) : J M R Q cells slots h pc ls (a0 :: st) :=
  j_callS (As := [a0]) hd hp I L rfl rm hW8 S (fun v h' q => by obtain ⟨q1, q2⟩ := q; subst hc'; subst hs'; rw [q1, q2]; exact kk)
theorem j_i1 {idx key : Nat} {M' : hM} {R' : Room} {a0 : Value} {h2 : hH} (hd : fnd (h_tab M) pc = some (.invokespecial idx, 3)) (hp : pc + 3 = pc') (I : h_MI M' 1) (hret : h_ret M' = none) (L : h_LI (h_own M) idx (h_y M')) (S : SpD M' R' (.ref key :: [a0]) h none h2) (rm : h_rm R R' (h_nL M') cells slots) (hW8 : (st.map fun v => v.category).sum ≤ 8) {c' s' : Nat} (hc' : cells + R'.cells = c') (hs' : slots + R'.slots = s') (kk : J M R Q c' s' h2 pc' ls st) : J M R Q cells slots h pc ls (a0 :: .ref key :: st) :=
  j_callI (As := [a0]) hd hp I hret L rfl rm hW8 S (fun v h' q => by obtain ⟨q1, q2⟩ := q; subst hc'; subst hs'; rw [q1, q2]; exact kk)
theorem j_v2 {idx ci key : Nat} {M' : hM} {R' : Room} {a0 a1 : Value} {fs : List Value} {r : Value} {h2 : hH} (hd : fnd (h_tab M) pc = some (.invokevirtual idx, 3)) (hp : pc + 3 = pc') (I : h_MI M' 2) (L : h_LV (h_own M) idx (h_y M')) (hk : h key = some (.inr (ci, fs))) (hci : (vwCl[ci]?).map (fun q => q.1) = some (h_y M').cls) (S : SpD M' R' (.ref key :: [a0, a1]) h (some r) h2) (rm : h_rm R R' (h_nL M') cells slots) (hW8 : (st.map fun v => v.category).sum ≤ 8) {c' s' : Nat} (hc' : cells + R'.cells = c') (hs' : slots + R'.slots = s') (kk : J M R Q c' s' h2 pc' ls (r :: st)) : J M R Q cells slots h pc ls (a1 :: a0 :: .ref key :: st) :=
  j_callV (As := [a0, a1]) hd hp I L hk hci rfl rm hW8 S (fun v h' q => by obtain ⟨q1, q2⟩ := q; subst hc'; subst hs'; rw [q1, q2]; exact kk)
theorem j_s2 {idx : Nat} {M' : hM} {R' : Room} {a0 a1 : Value} {r : Value} {h2 : hH} (hd : fnd (h_tab M) pc = some (.invokestatic idx, 3)) (hp : pc + 3 = pc') (I : h_MI M' 2) (L : h_LS (h_own M) idx (h_y M')) (S : SpD M' R' [a0, a1] h (some r) h2) (rm : h_rm R R' (h_nL M') cells slots) (hW8 : (st.map fun v => v.category).sum ≤ 8) {c' s' : Nat} (hc' : cells + R'.cells = c') (hs' : slots + R'.slots = s') (kk : J M R Q c' s' h2 pc' ls (r :: st)) : J M R Q cells slots h pc ls (a1 :: a0 :: st) :=
  j_callS (As := [a0, a1]) hd hp I L rfl rm hW8 S (fun v h' q => by obtain ⟨q1, q2⟩ := q; subst hc'; subst hs'; rw [q1, q2]; exact kk)
theorem j_vw2 {idx ci key : Nat} {M' : hM} {R' : Room} {a0 a1 : Value} {fs : List Value} {h2 : hH} (hd : fnd (h_tab M) pc = some (.invokevirtual idx, 3)) (hp : pc + 3 = pc') (I : h_MI M' 2) (L : h_LV (h_own M) idx (h_y M')) (hk : h key = some (.inr (ci, fs))) (hci : (vwCl[ci]?).map (fun q => q.1) = some (h_y M').cls) (S : SpD M' R' (.ref key :: [a0, a1]) h none h2) (rm : h_rm R R' (h_nL M') cells slots) (hW8 : (st.map fun v => v.category).sum ≤ 8) {c' s' : Nat} (hc' : cells + R'.cells = c') (hs' : slots + R'.slots = s') (kk : J M R Q c' s' h2 pc' ls st) : J M R Q cells slots h pc ls (a1 :: a0 :: .ref key :: st) :=
  j_callV (As := [a0, a1]) hd hp I L hk hci rfl rm hW8 S (fun v h' q => by obtain ⟨q1, q2⟩ := q; subst hc'; subst hs'; rw [q1, q2]; exact kk)
theorem j_sw2 {idx : Nat} {M' : hM} {R' : Room} {a0 a1 : Value} {h2 : hH} (hd : fnd (h_tab M) pc = some (.invokestatic idx, 3)) (hp : pc + 3 = pc') (I : h_MI M' 2) (L : h_LS (h_own M) idx (h_y M')) (S : SpD M' R' [a0, a1] h none h2) (rm : h_rm R R' (h_nL M') cells slots) (hW8 : (st.map fun v => v.category).sum ≤ 8) {c' s' : Nat} (hc' : cells + R'.cells = c') (hs' : slots + R'.slots = s') (kk : J M R Q c' s' h2 pc' ls st) : J M R Q cells slots h pc ls (a1 :: a0 :: st) :=
  j_callS (As := [a0, a1]) hd hp I L rfl rm hW8 S (fun v h' q => by obtain ⟨q1, q2⟩ := q; subst hc'; subst hs'; rw [q1, q2]; exact kk)
theorem j_i2 {idx key : Nat} {M' : hM} {R' : Room} {a0 a1 : Value} {h2 : hH} (hd : fnd (h_tab M) pc = some (.invokespecial idx, 3)) (hp : pc + 3 = pc') (I : h_MI M' 2) (hret : h_ret M' = none) (L : h_LI (h_own M) idx (h_y M')) (S : SpD M' R' (.ref key :: [a0, a1]) h none h2) (rm : h_rm R R' (h_nL M') cells slots) (hW8 : (st.map fun v => v.category).sum ≤ 8) {c' s' : Nat} (hc' : cells + R'.cells = c') (hs' : slots + R'.slots = s') (kk : J M R Q c' s' h2 pc' ls st) : J M R Q cells slots h pc ls (a1 :: a0 :: .ref key :: st) :=
  j_callI (As := [a0, a1]) hd hp I hret L rfl rm hW8 S (fun v h' q => by obtain ⟨q1, q2⟩ := q; subst hc'; subst hs'; rw [q1, q2]; exact kk)
theorem j_v3 {idx ci key : Nat} {M' : hM} {R' : Room} {a0 a1 a2 : Value} {fs : List Value} {r : Value} {h2 : hH} (hd : fnd (h_tab M) pc = some (.invokevirtual idx, 3)) (hp : pc + 3 = pc') (I : h_MI M' 3) (L : h_LV (h_own M) idx (h_y M')) (hk : h key = some (.inr (ci, fs))) (hci : (vwCl[ci]?).map (fun q => q.1) = some (h_y M').cls) (S : SpD M' R' (.ref key :: [a0, a1, a2]) h (some r) h2) (rm : h_rm R R' (h_nL M') cells slots) (hW8 : (st.map fun v => v.category).sum ≤ 8) {c' s' : Nat} (hc' : cells + R'.cells = c') (hs' : slots + R'.slots = s') (kk : J M R Q c' s' h2 pc' ls (r :: st)) : J M R Q cells slots h pc ls (a2 :: a1 :: a0 :: .ref key :: st) :=
  j_callV (As := [a0, a1, a2]) hd hp I L hk hci rfl rm hW8 S (fun v h' q => by obtain ⟨q1, q2⟩ := q; subst hc'; subst hs'; rw [q1, q2]; exact kk)
theorem j_s3 {idx : Nat} {M' : hM} {R' : Room} {a0 a1 a2 : Value} {r : Value} {h2 : hH} (hd : fnd (h_tab M) pc = some (.invokestatic idx, 3)) (hp : pc + 3 = pc') (I : h_MI M' 3) (L : h_LS (h_own M) idx (h_y M')) (S : SpD M' R' [a0, a1, a2] h (some r) h2) (rm : h_rm R R' (h_nL M') cells slots) (hW8 : (st.map fun v => v.category).sum ≤ 8) {c' s' : Nat} (hc' : cells + R'.cells = c') (hs' : slots + R'.slots = s') (kk : J M R Q c' s' h2 pc' ls (r :: st)) : J M R Q cells slots h pc ls (a2 :: a1 :: a0 :: st) :=
  j_callS (As := [a0, a1, a2]) hd hp I L rfl rm hW8 S (fun v h' q => by obtain ⟨q1, q2⟩ := q; subst hc'; subst hs'; rw [q1, q2]; exact kk)
theorem j_sn3 {idx : Nat} {host : String} {M' : hM} {R' : Room} {a0 a1 a2 : Value} {r : Value} {h2 : hH} (hd : fnd (h_tab M) pc = some (.invokestatic idx, 3)) (hp : pc + 3 = pc') (I : h_MI M' 3) (L : h_LSN (h_own M) idx (h_y M') host) (S : SpD M' R' [a0, a1, a2] h (some r) h2) (rm : h_rm R R' (h_nL M') cells slots) (hW8 : (st.map fun v => v.category).sum ≤ 8) {c' s' : Nat} (hc' : cells + R'.cells = c') (hs' : slots + R'.slots = s') (kk : J M R Q c' s' h2 pc' ls (r :: st)) : J M R Q cells slots h pc ls (a2 :: a1 :: a0 :: st) :=
  j_callSN (As := [a0, a1, a2]) hd hp I L rfl rm hW8 S (fun v h' q => by obtain ⟨q1, q2⟩ := q; subst hc'; subst hs'; rw [q1, q2]; exact kk)
theorem j_vw3 {idx ci key : Nat} {M' : hM} {R' : Room} {a0 a1 a2 : Value} {fs : List Value} {h2 : hH} (hd : fnd (h_tab M) pc = some (.invokevirtual idx, 3)) (hp : pc + 3 = pc') (I : h_MI M' 3) (L : h_LV (h_own M) idx (h_y M')) (hk : h key = some (.inr (ci, fs))) (hci : (vwCl[ci]?).map (fun q => q.1) = some (h_y M').cls) (S : SpD M' R' (.ref key :: [a0, a1, a2]) h none h2) (rm : h_rm R R' (h_nL M') cells slots) (hW8 : (st.map fun v => v.category).sum ≤ 8) {c' s' : Nat} (hc' : cells + R'.cells = c') (hs' : slots + R'.slots = s') (kk : J M R Q c' s' h2 pc' ls st) : J M R Q cells slots h pc ls (a2 :: a1 :: a0 :: .ref key :: st) :=
  j_callV (As := [a0, a1, a2]) hd hp I L hk hci rfl rm hW8 S (fun v h' q => by obtain ⟨q1, q2⟩ := q; subst hc'; subst hs'; rw [q1, q2]; exact kk)
theorem j_sw3 {idx : Nat} {M' : hM} {R' : Room} {a0 a1 a2 : Value} {h2 : hH} (hd : fnd (h_tab M) pc = some (.invokestatic idx, 3)) (hp : pc + 3 = pc') (I : h_MI M' 3) (L : h_LS (h_own M) idx (h_y M')) (S : SpD M' R' [a0, a1, a2] h none h2) (rm : h_rm R R' (h_nL M') cells slots) (hW8 : (st.map fun v => v.category).sum ≤ 8) {c' s' : Nat} (hc' : cells + R'.cells = c') (hs' : slots + R'.slots = s') (kk : J M R Q c' s' h2 pc' ls st) : J M R Q cells slots h pc ls (a2 :: a1 :: a0 :: st) :=
  j_callS (As := [a0, a1, a2]) hd hp I L rfl rm hW8 S (fun v h' q => by obtain ⟨q1, q2⟩ := q; subst hc'; subst hs'; rw [q1, q2]; exact kk)
theorem j_i3 {idx key : Nat} {M' : hM} {R' : Room} {a0 a1 a2 : Value} {h2 : hH} (hd : fnd (h_tab M) pc = some (.invokespecial idx, 3)) (hp : pc + 3 = pc') (I : h_MI M' 3) (hret : h_ret M' = none) (L : h_LI (h_own M) idx (h_y M')) (S : SpD M' R' (.ref key :: [a0, a1, a2]) h none h2) (rm : h_rm R R' (h_nL M') cells slots) (hW8 : (st.map fun v => v.category).sum ≤ 8) {c' s' : Nat} (hc' : cells + R'.cells = c') (hs' : slots + R'.slots = s') (kk : J M R Q c' s' h2 pc' ls st) : J M R Q cells slots h pc ls (a2 :: a1 :: a0 :: .ref key :: st) :=
  j_callI (As := [a0, a1, a2]) hd hp I hret L rfl rm hW8 S (fun v h' q => by obtain ⟨q1, q2⟩ := q; subst hc'; subst hs'; rw [q1, q2]; exact kk)
theorem j_v4 {idx ci key : Nat} {M' : hM} {R' : Room} {a0 a1 a2 a3 : Value} {fs : List Value} {r : Value} {h2 : hH} (hd : fnd (h_tab M) pc = some (.invokevirtual idx, 3)) (hp : pc + 3 = pc') (I : h_MI M' 4) (L : h_LV (h_own M) idx (h_y M')) (hk : h key = some (.inr (ci, fs))) (hci : (vwCl[ci]?).map (fun q => q.1) = some (h_y M').cls) (S : SpD M' R' (.ref key :: [a0, a1, a2, a3]) h (some r) h2) (rm : h_rm R R' (h_nL M') cells slots) (hW8 : (st.map fun v => v.category).sum ≤ 8) {c' s' : Nat} (hc' : cells + R'.cells = c') (hs' : slots + R'.slots = s') (kk : J M R Q c' s' h2 pc' ls (r :: st)) : J M R Q cells slots h pc ls (a3 :: a2 :: a1 :: a0 :: .ref key :: st) :=
  j_callV (As := [a0, a1, a2, a3]) hd hp I L hk hci rfl rm hW8 S (fun v h' q => by obtain ⟨q1, q2⟩ := q; subst hc'; subst hs'; rw [q1, q2]; exact kk)
theorem j_s4 {idx : Nat} {M' : hM} {R' : Room} {a0 a1 a2 a3 : Value} {r : Value} {h2 : hH} (hd : fnd (h_tab M) pc = some (.invokestatic idx, 3)) (hp : pc + 3 = pc') (I : h_MI M' 4) (L : h_LS (h_own M) idx (h_y M')) (S : SpD M' R' [a0, a1, a2, a3] h (some r) h2) (rm : h_rm R R' (h_nL M') cells slots) (hW8 : (st.map fun v => v.category).sum ≤ 8) {c' s' : Nat} (hc' : cells + R'.cells = c') (hs' : slots + R'.slots = s') (kk : J M R Q c' s' h2 pc' ls (r :: st)) : J M R Q cells slots h pc ls (a3 :: a2 :: a1 :: a0 :: st) :=
  j_callS (As := [a0, a1, a2, a3]) hd hp I L rfl rm hW8 S (fun v h' q => by obtain ⟨q1, q2⟩ := q; subst hc'; subst hs'; rw [q1, q2]; exact kk)
theorem j_vw4 {idx ci key : Nat} {M' : hM} {R' : Room} {a0 a1 a2 a3 : Value} {fs : List Value} {h2 : hH} (hd : fnd (h_tab M) pc = some (.invokevirtual idx, 3)) (hp : pc + 3 = pc') (I : h_MI M' 4) (L : h_LV (h_own M) idx (h_y M')) (hk : h key = some (.inr (ci, fs))) (hci : (vwCl[ci]?).map (fun q => q.1) = some (h_y M').cls) (S : SpD M' R' (.ref key :: [a0, a1, a2, a3]) h none h2) (rm : h_rm R R' (h_nL M') cells slots) (hW8 : (st.map fun v => v.category).sum ≤ 8) {c' s' : Nat} (hc' : cells + R'.cells = c') (hs' : slots + R'.slots = s') (kk : J M R Q c' s' h2 pc' ls st) : J M R Q cells slots h pc ls (a3 :: a2 :: a1 :: a0 :: .ref key :: st) :=
  j_callV (As := [a0, a1, a2, a3]) hd hp I L hk hci rfl rm hW8 S (fun v h' q => by obtain ⟨q1, q2⟩ := q; subst hc'; subst hs'; rw [q1, q2]; exact kk)
theorem j_sw4 {idx : Nat} {M' : hM} {R' : Room} {a0 a1 a2 a3 : Value} {h2 : hH} (hd : fnd (h_tab M) pc = some (.invokestatic idx, 3)) (hp : pc + 3 = pc') (I : h_MI M' 4) (L : h_LS (h_own M) idx (h_y M')) (S : SpD M' R' [a0, a1, a2, a3] h none h2) (rm : h_rm R R' (h_nL M') cells slots) (hW8 : (st.map fun v => v.category).sum ≤ 8) {c' s' : Nat} (hc' : cells + R'.cells = c') (hs' : slots + R'.slots = s') (kk : J M R Q c' s' h2 pc' ls st) : J M R Q cells slots h pc ls (a3 :: a2 :: a1 :: a0 :: st) :=
  j_callS (As := [a0, a1, a2, a3]) hd hp I L rfl rm hW8 S (fun v h' q => by obtain ⟨q1, q2⟩ := q; subst hc'; subst hs'; rw [q1, q2]; exact kk)
theorem j_i4 {idx key : Nat} {M' : hM} {R' : Room} {a0 a1 a2 a3 : Value} {h2 : hH} (hd : fnd (h_tab M) pc = some (.invokespecial idx, 3)) (hp : pc + 3 = pc') (I : h_MI M' 4) (hret : h_ret M' = none) (L : h_LI (h_own M) idx (h_y M')) (S : SpD M' R' (.ref key :: [a0, a1, a2, a3]) h none h2) (rm : h_rm R R' (h_nL M') cells slots) (hW8 : (st.map fun v => v.category).sum ≤ 8) {c' s' : Nat} (hc' : cells + R'.cells = c') (hs' : slots + R'.slots = s') (kk : J M R Q c' s' h2 pc' ls st) : J M R Q cells slots h pc ls (a3 :: a2 :: a1 :: a0 :: .ref key :: st) :=
  j_callI (As := [a0, a1, a2, a3]) hd hp I hret L rfl rm hW8 S (fun v h' q => by obtain ⟨q1, q2⟩ := q; subst hc'; subst hs'; rw [q1, q2]; exact kk)
theorem j_v5 {idx ci key : Nat} {M' : hM} {R' : Room} {a0 a1 a2 a3 a4 : Value} {fs : List Value} {r : Value} {h2 : hH} (hd : fnd (h_tab M) pc = some (.invokevirtual idx, 3)) (hp : pc + 3 = pc') (I : h_MI M' 5) (L : h_LV (h_own M) idx (h_y M')) (hk : h key = some (.inr (ci, fs))) (hci : (vwCl[ci]?).map (fun q => q.1) = some (h_y M').cls) (S : SpD M' R' (.ref key :: [a0, a1, a2, a3, a4]) h (some r) h2) (rm : h_rm R R' (h_nL M') cells slots) (hW8 : (st.map fun v => v.category).sum ≤ 8) {c' s' : Nat} (hc' : cells + R'.cells = c') (hs' : slots + R'.slots = s') (kk : J M R Q c' s' h2 pc' ls (r :: st)) : J M R Q cells slots h pc ls (a4 :: a3 :: a2 :: a1 :: a0 :: .ref key :: st) :=
  j_callV (As := [a0, a1, a2, a3, a4]) hd hp I L hk hci rfl rm hW8 S (fun v h' q => by obtain ⟨q1, q2⟩ := q; subst hc'; subst hs'; rw [q1, q2]; exact kk)
theorem j_s5 {idx : Nat} {M' : hM} {R' : Room} {a0 a1 a2 a3 a4 : Value} {r : Value} {h2 : hH} (hd : fnd (h_tab M) pc = some (.invokestatic idx, 3)) (hp : pc + 3 = pc') (I : h_MI M' 5) (L : h_LS (h_own M) idx (h_y M')) (S : SpD M' R' [a0, a1, a2, a3, a4] h (some r) h2) (rm : h_rm R R' (h_nL M') cells slots) (hW8 : (st.map fun v => v.category).sum ≤ 8) {c' s' : Nat} (hc' : cells + R'.cells = c') (hs' : slots + R'.slots = s') (kk : J M R Q c' s' h2 pc' ls (r :: st)) : J M R Q cells slots h pc ls (a4 :: a3 :: a2 :: a1 :: a0 :: st) :=
  j_callS (As := [a0, a1, a2, a3, a4]) hd hp I L rfl rm hW8 S (fun v h' q => by obtain ⟨q1, q2⟩ := q; subst hc'; subst hs'; rw [q1, q2]; exact kk)
theorem j_vw5 {idx ci key : Nat} {M' : hM} {R' : Room} {a0 a1 a2 a3 a4 : Value} {fs : List Value} {h2 : hH} (hd : fnd (h_tab M) pc = some (.invokevirtual idx, 3)) (hp : pc + 3 = pc') (I : h_MI M' 5) (L : h_LV (h_own M) idx (h_y M')) (hk : h key = some (.inr (ci, fs))) (hci : (vwCl[ci]?).map (fun q => q.1) = some (h_y M').cls) (S : SpD M' R' (.ref key :: [a0, a1, a2, a3, a4]) h none h2) (rm : h_rm R R' (h_nL M') cells slots) (hW8 : (st.map fun v => v.category).sum ≤ 8) {c' s' : Nat} (hc' : cells + R'.cells = c') (hs' : slots + R'.slots = s') (kk : J M R Q c' s' h2 pc' ls st) : J M R Q cells slots h pc ls (a4 :: a3 :: a2 :: a1 :: a0 :: .ref key :: st) :=
  j_callV (As := [a0, a1, a2, a3, a4]) hd hp I L hk hci rfl rm hW8 S (fun v h' q => by obtain ⟨q1, q2⟩ := q; subst hc'; subst hs'; rw [q1, q2]; exact kk)
theorem j_sw5 {idx : Nat} {M' : hM} {R' : Room} {a0 a1 a2 a3 a4 : Value} {h2 : hH} (hd : fnd (h_tab M) pc = some (.invokestatic idx, 3)) (hp : pc + 3 = pc') (I : h_MI M' 5) (L : h_LS (h_own M) idx (h_y M')) (S : SpD M' R' [a0, a1, a2, a3, a4] h none h2) (rm : h_rm R R' (h_nL M') cells slots) (hW8 : (st.map fun v => v.category).sum ≤ 8) {c' s' : Nat} (hc' : cells + R'.cells = c') (hs' : slots + R'.slots = s') (kk : J M R Q c' s' h2 pc' ls st) : J M R Q cells slots h pc ls (a4 :: a3 :: a2 :: a1 :: a0 :: st) :=
  j_callS (As := [a0, a1, a2, a3, a4]) hd hp I L rfl rm hW8 S (fun v h' q => by obtain ⟨q1, q2⟩ := q; subst hc'; subst hs'; rw [q1, q2]; exact kk)
theorem j_i5 {idx key : Nat} {M' : hM} {R' : Room} {a0 a1 a2 a3 a4 : Value} {h2 : hH} (hd : fnd (h_tab M) pc = some (.invokespecial idx, 3)) (hp : pc + 3 = pc') (I : h_MI M' 5) (hret : h_ret M' = none) (L : h_LI (h_own M) idx (h_y M')) (S : SpD M' R' (.ref key :: [a0, a1, a2, a3, a4]) h none h2) (rm : h_rm R R' (h_nL M') cells slots) (hW8 : (st.map fun v => v.category).sum ≤ 8) {c' s' : Nat} (hc' : cells + R'.cells = c') (hs' : slots + R'.slots = s') (kk : J M R Q c' s' h2 pc' ls st) : J M R Q cells slots h pc ls (a4 :: a3 :: a2 :: a1 :: a0 :: .ref key :: st) :=
  j_callI (As := [a0, a1, a2, a3, a4]) hd hp I hret L rfl rm hW8 S (fun v h' q => by obtain ⟨q1, q2⟩ := q; subst hc'; subst hs'; rw [q1, q2]; exact kk)
theorem j_v6 {idx ci key : Nat} {M' : hM} {R' : Room} {a0 a1 a2 a3 a4 a5 : Value} {fs : List Value} {r : Value} {h2 : hH} (hd : fnd (h_tab M) pc = some (.invokevirtual idx, 3)) (hp : pc + 3 = pc') (I : h_MI M' 6) (L : h_LV (h_own M) idx (h_y M')) (hk : h key = some (.inr (ci, fs))) (hci : (vwCl[ci]?).map (fun q => q.1) = some (h_y M').cls) (S : SpD M' R' (.ref key :: [a0, a1, a2, a3, a4, a5]) h (some r) h2) (rm : h_rm R R' (h_nL M') cells slots) (hW8 : (st.map fun v => v.category).sum ≤ 8) {c' s' : Nat} (hc' : cells + R'.cells = c') (hs' : slots + R'.slots = s') (kk : J M R Q c' s' h2 pc' ls (r :: st)) : J M R Q cells slots h pc ls (a5 :: a4 :: a3 :: a2 :: a1 :: a0 :: .ref key :: st) :=
  j_callV (As := [a0, a1, a2, a3, a4, a5]) hd hp I L hk hci rfl rm hW8 S (fun v h' q => by obtain ⟨q1, q2⟩ := q; subst hc'; subst hs'; rw [q1, q2]; exact kk)
theorem j_s6 {idx : Nat} {M' : hM} {R' : Room} {a0 a1 a2 a3 a4 a5 : Value} {r : Value} {h2 : hH} (hd : fnd (h_tab M) pc = some (.invokestatic idx, 3)) (hp : pc + 3 = pc') (I : h_MI M' 6) (L : h_LS (h_own M) idx (h_y M')) (S : SpD M' R' [a0, a1, a2, a3, a4, a5] h (some r) h2) (rm : h_rm R R' (h_nL M') cells slots) (hW8 : (st.map fun v => v.category).sum ≤ 8) {c' s' : Nat} (hc' : cells + R'.cells = c') (hs' : slots + R'.slots = s') (kk : J M R Q c' s' h2 pc' ls (r :: st)) : J M R Q cells slots h pc ls (a5 :: a4 :: a3 :: a2 :: a1 :: a0 :: st) :=
  j_callS (As := [a0, a1, a2, a3, a4, a5]) hd hp I L rfl rm hW8 S (fun v h' q => by obtain ⟨q1, q2⟩ := q; subst hc'; subst hs'; rw [q1, q2]; exact kk)
theorem j_vw6 {idx ci key : Nat} {M' : hM} {R' : Room} {a0 a1 a2 a3 a4 a5 : Value} {fs : List Value} {h2 : hH} (hd : fnd (h_tab M) pc = some (.invokevirtual idx, 3)) (hp : pc + 3 = pc') (I : h_MI M' 6) (L : h_LV (h_own M) idx (h_y M')) (hk : h key = some (.inr (ci, fs))) (hci : (vwCl[ci]?).map (fun q => q.1) = some (h_y M').cls) (S : SpD M' R' (.ref key :: [a0, a1, a2, a3, a4, a5]) h none h2) (rm : h_rm R R' (h_nL M') cells slots) (hW8 : (st.map fun v => v.category).sum ≤ 8) {c' s' : Nat} (hc' : cells + R'.cells = c') (hs' : slots + R'.slots = s') (kk : J M R Q c' s' h2 pc' ls st) : J M R Q cells slots h pc ls (a5 :: a4 :: a3 :: a2 :: a1 :: a0 :: .ref key :: st) :=
  j_callV (As := [a0, a1, a2, a3, a4, a5]) hd hp I L hk hci rfl rm hW8 S (fun v h' q => by obtain ⟨q1, q2⟩ := q; subst hc'; subst hs'; rw [q1, q2]; exact kk)
theorem j_sw6 {idx : Nat} {M' : hM} {R' : Room} {a0 a1 a2 a3 a4 a5 : Value} {h2 : hH} (hd : fnd (h_tab M) pc = some (.invokestatic idx, 3)) (hp : pc + 3 = pc') (I : h_MI M' 6) (L : h_LS (h_own M) idx (h_y M')) (S : SpD M' R' [a0, a1, a2, a3, a4, a5] h none h2) (rm : h_rm R R' (h_nL M') cells slots) (hW8 : (st.map fun v => v.category).sum ≤ 8) {c' s' : Nat} (hc' : cells + R'.cells = c') (hs' : slots + R'.slots = s') (kk : J M R Q c' s' h2 pc' ls st) : J M R Q cells slots h pc ls (a5 :: a4 :: a3 :: a2 :: a1 :: a0 :: st) :=
  j_callS (As := [a0, a1, a2, a3, a4, a5]) hd hp I L rfl rm hW8 S (fun v h' q => by obtain ⟨q1, q2⟩ := q; subst hc'; subst hs'; rw [q1, q2]; exact kk)
theorem j_i6 {idx key : Nat} {M' : hM} {R' : Room} {a0 a1 a2 a3 a4 a5 : Value} {h2 : hH} (hd : fnd (h_tab M) pc = some (.invokespecial idx, 3)) (hp : pc + 3 = pc') (I : h_MI M' 6) (hret : h_ret M' = none) (L : h_LI (h_own M) idx (h_y M')) (S : SpD M' R' (.ref key :: [a0, a1, a2, a3, a4, a5]) h none h2) (rm : h_rm R R' (h_nL M') cells slots) (hW8 : (st.map fun v => v.category).sum ≤ 8) {c' s' : Nat} (hc' : cells + R'.cells = c') (hs' : slots + R'.slots = s') (kk : J M R Q c' s' h2 pc' ls st) : J M R Q cells slots h pc ls (a5 :: a4 :: a3 :: a2 :: a1 :: a0 :: .ref key :: st) :=
  j_callI (As := [a0, a1, a2, a3, a4, a5]) hd hp I hret L rfl rm hW8 S (fun v h' q => by obtain ⟨q1, q2⟩ := q; subst hc'; subst hs'; rw [q1, q2]; exact kk)
theorem j_v7 {idx ci key : Nat} {M' : hM} {R' : Room} {a0 a1 a2 a3 a4 a5 a6 : Value} {fs : List Value} {r : Value} {h2 : hH} (hd : fnd (h_tab M) pc = some (.invokevirtual idx, 3)) (hp : pc + 3 = pc') (I : h_MI M' 7) (L : h_LV (h_own M) idx (h_y M')) (hk : h key = some (.inr (ci, fs))) (hci : (vwCl[ci]?).map (fun q => q.1) = some (h_y M').cls) (S : SpD M' R' (.ref key :: [a0, a1, a2, a3, a4, a5, a6]) h (some r) h2) (rm : h_rm R R' (h_nL M') cells slots) (hW8 : (st.map fun v => v.category).sum ≤ 8) {c' s' : Nat} (hc' : cells + R'.cells = c') (hs' : slots + R'.slots = s') (kk : J M R Q c' s' h2 pc' ls (r :: st)) : J M R Q cells slots h pc ls (a6 :: a5 :: a4 :: a3 :: a2 :: a1 :: a0 :: .ref key :: st) :=
  j_callV (As := [a0, a1, a2, a3, a4, a5, a6]) hd hp I L hk hci rfl rm hW8 S (fun v h' q => by obtain ⟨q1, q2⟩ := q; subst hc'; subst hs'; rw [q1, q2]; exact kk)
theorem j_s7 {idx : Nat} {M' : hM} {R' : Room} {a0 a1 a2 a3 a4 a5 a6 : Value} {r : Value} {h2 : hH} (hd : fnd (h_tab M) pc = some (.invokestatic idx, 3)) (hp : pc + 3 = pc') (I : h_MI M' 7) (L : h_LS (h_own M) idx (h_y M')) (S : SpD M' R' [a0, a1, a2, a3, a4, a5, a6] h (some r) h2) (rm : h_rm R R' (h_nL M') cells slots) (hW8 : (st.map fun v => v.category).sum ≤ 8) {c' s' : Nat} (hc' : cells + R'.cells = c') (hs' : slots + R'.slots = s') (kk : J M R Q c' s' h2 pc' ls (r :: st)) : J M R Q cells slots h pc ls (a6 :: a5 :: a4 :: a3 :: a2 :: a1 :: a0 :: st) :=
  j_callS (As := [a0, a1, a2, a3, a4, a5, a6]) hd hp I L rfl rm hW8 S (fun v h' q => by obtain ⟨q1, q2⟩ := q; subst hc'; subst hs'; rw [q1, q2]; exact kk)
theorem j_vw7 {idx ci key : Nat} {M' : hM} {R' : Room} {a0 a1 a2 a3 a4 a5 a6 : Value} {fs : List Value} {h2 : hH} (hd : fnd (h_tab M) pc = some (.invokevirtual idx, 3)) (hp : pc + 3 = pc') (I : h_MI M' 7) (L : h_LV (h_own M) idx (h_y M')) (hk : h key = some (.inr (ci, fs))) (hci : (vwCl[ci]?).map (fun q => q.1) = some (h_y M').cls) (S : SpD M' R' (.ref key :: [a0, a1, a2, a3, a4, a5, a6]) h none h2) (rm : h_rm R R' (h_nL M') cells slots) (hW8 : (st.map fun v => v.category).sum ≤ 8) {c' s' : Nat} (hc' : cells + R'.cells = c') (hs' : slots + R'.slots = s') (kk : J M R Q c' s' h2 pc' ls st) : J M R Q cells slots h pc ls (a6 :: a5 :: a4 :: a3 :: a2 :: a1 :: a0 :: .ref key :: st) :=
  j_callV (As := [a0, a1, a2, a3, a4, a5, a6]) hd hp I L hk hci rfl rm hW8 S (fun v h' q => by obtain ⟨q1, q2⟩ := q; subst hc'; subst hs'; rw [q1, q2]; exact kk)
theorem j_sw7 {idx : Nat} {M' : hM} {R' : Room} {a0 a1 a2 a3 a4 a5 a6 : Value} {h2 : hH} (hd : fnd (h_tab M) pc = some (.invokestatic idx, 3)) (hp : pc + 3 = pc') (I : h_MI M' 7) (L : h_LS (h_own M) idx (h_y M')) (S : SpD M' R' [a0, a1, a2, a3, a4, a5, a6] h none h2) (rm : h_rm R R' (h_nL M') cells slots) (hW8 : (st.map fun v => v.category).sum ≤ 8) {c' s' : Nat} (hc' : cells + R'.cells = c') (hs' : slots + R'.slots = s') (kk : J M R Q c' s' h2 pc' ls st) : J M R Q cells slots h pc ls (a6 :: a5 :: a4 :: a3 :: a2 :: a1 :: a0 :: st) :=
  j_callS (As := [a0, a1, a2, a3, a4, a5, a6]) hd hp I L rfl rm hW8 S (fun v h' q => by obtain ⟨q1, q2⟩ := q; subst hc'; subst hs'; rw [q1, q2]; exact kk)
theorem j_i7 {idx key : Nat} {M' : hM} {R' : Room} {a0 a1 a2 a3 a4 a5 a6 : Value} {h2 : hH} (hd : fnd (h_tab M) pc = some (.invokespecial idx, 3)) (hp : pc + 3 = pc') (I : h_MI M' 7) (hret : h_ret M' = none) (L : h_LI (h_own M) idx (h_y M')) (S : SpD M' R' (.ref key :: [a0, a1, a2, a3, a4, a5, a6]) h none h2) (rm : h_rm R R' (h_nL M') cells slots) (hW8 : (st.map fun v => v.category).sum ≤ 8) {c' s' : Nat} (hc' : cells + R'.cells = c') (hs' : slots + R'.slots = s') (kk : J M R Q c' s' h2 pc' ls st) : J M R Q cells slots h pc ls (a6 :: a5 :: a4 :: a3 :: a2 :: a1 :: a0 :: .ref key :: st) :=
  j_callI (As := [a0, a1, a2, a3, a4, a5, a6]) hd hp I hret L rfl rm hW8 S (fun v h' q => by obtain ⟨q1, q2⟩ := q; subst hc'; subst hs'; rw [q1, q2]; exact kk)
theorem o_chk {β : Type} {c : Bool} {t : Option β} {r : β} (hf : (bif c then t else none) = some r) : c = true ∧ t = some r := by
  cases c with
  | true => exact ⟨rfl, hf⟩
  | false => cases hf
theorem o_nz {β : Type} {c : Prop} {i : Decidable c} {t : Option β} {r : β} (hf : (if c then none else t) = some r) : ¬ c ∧ t = some r := by
  by_cases q : c
  · rw [if_pos q] at hf; cases hf
  · rw [if_neg q] at hf; exact ⟨q, hf⟩
/-- an index within; a boolean -/
def vin (i : Int32) (n : Nat) : Bool := decide (¬ (i < 0 ∨ n ≤ i.toNatClampNeg))
theorem vin_ok {i : Int32} {n : Nat} (q : vin i n = true) : vp_in i n := (of_decide_eq_true q : ¬ (i < 0 ∨ n ≤ i.toNatClampNeg))
def zb (v : Int32) : Bool := decide (v = 0 ∨ v = 1)
theorem zb_ok {v : Int32} (q : zb v = true) : narrow .boolean (.int v) = .int v := by
  rcases (of_decide_eq_true q : v = 0 ∨ v = 1) with rfl | rfl
  · decide
  · decide
theorem o_bind {β γ : Type} {o : Option β} {k : β → Option γ} {r : γ} (hf : o.bind k = some r) : ∃ a : β, o = some a ∧ k a = some r := by
  cases o with
  | none => cases hf
  | some a => exact ⟨a, rfl, hf⟩
def letm {β γ : Type} (a : β) (k : β → Option γ) : Option γ := k a
theorem o_let {β γ : Type} {a : β} {k : β → Option γ} {r : γ} (hf : letm a k = some r) : ∃ b : β, a = b ∧ k b = some r := ⟨a, rfl, hf⟩
theorem sw_out {x : Int32} {n : Nat} (hn : n < 1000) (q : ∀ v : Nat, v ≤ n → x ≠ Int32.ofNat v) : x.toInt < 0 ∨ (n : Int) < x.toInt := by
  by_cases h0 : x.toInt < 0
  · exact Or.inl h0
  · by_cases h1 : (n : Int) < x.toInt
    · exact Or.inr h1
    · exact absurd (show x = Int32.ofNat x.toInt.toNat by
        apply Int32.toInt_inj.mp
        rw [Int32.toInt_ofNat_of_lt (by omega)]
        omega) (q x.toInt.toNat (by omega))
end HCALLS
