/-! clone of an int array, Arrays.copyOf of the same length -/
section XCPY
variable {M : hM} {R : Room} {Q : Option Value → hH → Prop} {cells slots : Nat} {h : hH} {pc pc' : Nat} {ls : List (Nat × Value)} {st : List Value}
theorem j_clone {idx key nk n : Nat} {f : Nat → Int32} (hd : fnd (h_tab M) pc = some (.invokevirtual idx, 3)) (hp : pc + 3 = pc') (w1 : Cond.methodLink (h_own M) idx ⟨"[I", "clone", "()Ljava/lang/Object;"⟩ ∈ lw_tbl) (w2 : Cond.sameMethod "[I" "java/lang/Object" "clone" "()Ljava/lang/Object;" ∈ lw_tbl) (w3 : Cond.native ⟨"java/lang/Object", "clone", "()Ljava/lang/Object;"⟩ ∈ lw_tbl) (w4 : Cond.instanceMethod ⟨"java/lang/Object", "clone", "()Ljava/lang/Object;"⟩ ∈ lw_tbl) (w5 : Cond.selects "[I" ⟨"[I", "clone", "()Ljava/lang/Object;"⟩ ⟨"java/lang/Object", "clone", "()Ljava/lang/Object;"⟩ ∈ lw_tbl)
    (hk : h key = some (.inl (.int, n, .inl f))) (hnk : h nk = none) (hnk9 : nk < 9000) (hR : 1 ≤ R.frames ∧ (st.map fun v => v.category).sum + 14 ≤ R.locals) (hcells : cells + 1 ≤ R.cells) (hslots : slots + n ≤ R.slots)
    (kk : J M R Q (cells + 1) (slots + n) (hup h nk (.inl (.int, n, .inl f))) pc' ls (.ref nk :: st)) : J M R Q cells slots h pc ls (.ref key :: st) := by
  subst hp
  intro p l e s m args below meth c H locs D α α0 h0 lsA hC hW hll hcl hl
  have hts := hC.2.2.2.2.1
  have hK := hC.2.2.2.2.2.2.2.2.1.1
  have hcl2 := hC.2.2.2.2.2.2.2.2.1.2.2.2.2.2.2.2.2
  obtain ⟨c0, t0', f1, f2, f3⟩ := Cond.castable_spec (va_Nw.use (A := args) rfl hcl2)
  have hnm : s.vm.findClass "[I" = some (D.2 .int) := (hK.2 0 _ rfl).2
  cases hnm.symm.trans f1
  have hsz : (vp_cell (D.2 .int) (n, .inl f)).slots.size = n := arrV_size _ _ _
  have hcellE : ({ cls := (vp_cell (D.2 .int) (n, .inl f)).cls, slots := (vp_cell (D.2 .int) (n, .inl f)).slots } : Cell) = vp_cell (D.2 .int) (n, .inl f) := rfl
  intro T hT X
  have hcellT : T.heap[α key]? = some (vp_cell (D.2 .int) (n, .inl f)) := by rw [hT]; exact hW.1 key _ hk
  obtain ⟨-, kA, hkA, comp, hkind⟩ := State.isArrayOf_alike X.warmed.alike ((hK.2 0 _ rfl).1 0 (fun _ => .null))
  obtain ⟨-, kS, hkS, compS, hkindS⟩ := (hK.2 0 _ rfl).1 0 (fun _ => .null)
  obtain ⟨vm', X', stp⟩ := X.cloneArray hC.1 hC.2.2.2.1 (hts _ (h_in w1 rfl)) (hts _ (h_in w2 rfl)) (hts _ (h_in w3 rfl)) (hts _ (h_in w4 rfl)) (hts _ (h_in w5 rfl)) (a := α key) (cell := vp_cell (D.2 .int) (n, .inl f)) hcellT (fun k h => by cases h) (fun h => by cases h) hnm f2 f3
    (fun i v hv => by
      have hk' : T.vm.classes[D.2 .int]? = some kA := hkA
      have hfit : fits .int v = true := by
        have hlt : i < n := by
          have := (Array.getElem?_eq_some_iff.mp hv).1
          rw [hsz] at this
          exact this
        have hr : (arrV (D.2 .int) n (fun j => Value.int (f j))).slots[i]? = some (.int (f i)) := arrV_read _ _ hlt
        have := (show some v = some (Value.int (f i)) from hv.symm.trans hr)
        cases this
        rfl
      show T.fitsSlot (D.2 .int) .none i v = true
      simpa [State.fitsSlot, State.slotType?, hk', hkind] using hfit)
    (g := F0 m pc lsA ((Value.ref key :: st).map (h_rv α))) rfl (by rw [hC.2.2.1]; exact hl.1) rfl (by rw [hC.2.1]; exact h_dec hC hd) hR.1 (by show 2 * 0 + ((st.map (h_rv α)).map fun v => v.category).sum + 14 ≤ _; rw [h_cat2]; omega) hcells (by rw [hsz]; exact hslots) (hloader := Vm.clonesLoader_of_array hkS hkindS)
  rw [hcellE, hsz] at X'
  generalize hH1 : H.push (vp_cell (D.2 .int) (n, .inl f)) = H1
  have z1 : H1.size = H.size + 1 := by rw [← hH1, Array.size_push]
  have e1 : H1[H.size]? = some (vp_cell (D.2 .int) (n, .inl f)) := by rw [← hH1, Array.getElem?_push_size]
  have o1 : ∀ q : Nat, q < H.size → H1[q]? = H[q]? := fun q hq => by rw [← hH1, Array.getElem?_push, if_neg (Nat.ne_of_lt hq)]
  obtain ⟨hW', hal⟩ := hW.push hnk hnk9 (e := .inl (.int, n, .inl f)) trivial (show va_at D.1 vwCl (H.size, h_re D α (.inl (.int, n, .inl f))) H1 from e1) z1 o1
  have hself : h_al α nk H.size nk = H.size := if_pos rfl
  have K := j_ext (l := l) (e := e) (below := below) kk hC hW' hup_mono hal hll (h_cl_cons (show h_ok (hup h nk _) nk from Or.inl (hup_some h nk _)) (h_cl_mono hup_mono (h_cl_tl hcl))) hl
  rw [List.map_cons, h_map_ext hal (h_cl_tl hcl)] at K
  have e9 : h_rv (h_al α nk H.size) (.ref nk) = .ref H.size := congrArg Value.ref hself
  rw [e9] at K
  obtain ⟨t, b1, b2⟩ := K _ (by rw [← hH1, ← hT]; rfl) X'
  refine ⟨t, stp t ?_, b2⟩
  rw [hT]
  exact b1
theorem j_castA {idx key n : Nat} {f : Nat → Int32} (hd : fnd (h_tab M) pc = some (.checkcast idx, 3)) (hp : pc + 3 = pc') (w1 : Cond.classLink (h_own M) idx "[I" ∈ lw_tbl) (hk : h key = some (.inl (.int, n, .inl f))) (kk : J M R Q cells slots h pc' ls (.ref key :: st)) : J M R Q cells slots h pc ls (.ref key :: st) := by
  subst hp
  intro p l e s m args below meth c H locs D α α0 h0 lsA hC hW hll hcl hl
  exact va_castA hC.1 hC.2.1 hC.2.2.2.1 (hC.2.2.2.2.1 _ (h_in w1 rfl)) (h_one hW.1 hk) 0 rfl (hC.2.2.2.2.2.2.2.2.1.1.2 0 _ rfl).2 (h_dec hC hd) (kk p l e s m args below meth c H locs D α α0 h0 lsA hC hW hll hcl hl)
theorem kS_316 : Cond.methodLink RJ7 316 ⟨"[I", "clone", "()Ljava/lang/Object;"⟩ ∈ lw_tbl := List.mem_of_getElem? (i := 483) (by decide +kernel)
theorem kS_same : Cond.sameMethod "[I" "java/lang/Object" "clone" "()Ljava/lang/Object;" ∈ lw_tbl := List.mem_of_getElem? (i := 484) (by decide +kernel)
theorem kS_nat : Cond.native ⟨"java/lang/Object", "clone", "()Ljava/lang/Object;"⟩ ∈ lw_tbl := List.mem_of_getElem? (i := 485) (by decide +kernel)
theorem kS_inst : Cond.instanceMethod ⟨"java/lang/Object", "clone", "()Ljava/lang/Object;"⟩ ∈ lw_tbl := List.mem_of_getElem? (i := 486) (by decide +kernel)
theorem kS_sel : Cond.selects "[I" ⟨"[I", "clone", "()Ljava/lang/Object;"⟩ ⟨"java/lang/Object", "clone", "()Ljava/lang/Object;"⟩ ∈ lw_tbl := List.mem_of_getElem? (i := 487) (by decide +kernel)
theorem kS_317 : Cond.classLink RJ7 317 "[I" ∈ lw_tbl := List.mem_of_getElem? (i := 489) (by decide +kernel)
def rJ7_copyOf : Room := { frames := 1, cells := 1, slots := 8, locals := 30 }
theorem s_copyOf {key nk : Nat} {f : Nat → Int32} {h : hH} (hk : h key = some (.inl (.int, 8, .inl f))) (hnk : h nk = none) (hnk9 : nk < 9000) : SpD mJ7_copyOf_59c91 rJ7_copyOf [.ref key, .int 8] h (some (.ref nk)) (hup h nk (.inl (.int, 8, .inl f))) := by
  refine sp_of miJ7_copyOf_59c91 (Nat.le_of_ble_eq_true rfl) ?_
  show J _ _ _ 0 0 _ 0 [(0, .ref key), (1, .int 8)] []
  refine j_iload_n (pc' := 1) rfl rfl rfl ?_
  refine j_aload_n (pc' := 2) rfl rfl rfl ?_
  refine j_alen (pc' := 3) (v := 8) (t0 := 0) rfl rfl hk (fun _ => rfl) (show Int32.ofNat 8 = 8 by decide) ?_
  refine j_icmp_ne (tgt := 14) (pc' := 6) rfl rfl rfl (fun c => absurd rfl c) (fun _ => ?_)
  refine j_aload_n (pc' := 7) rfl rfl rfl ?_
  refine j_clone (pc' := 10) rfl rfl kS_316 kS_same kS_nat kS_inst kS_sel hk hnk hnk9 ⟨Nat.le_of_ble_eq_true rfl, Nat.le_of_ble_eq_true rfl⟩ (Nat.le_of_ble_eq_true rfl) (Nat.le_of_ble_eq_true rfl) ?_
  refine j_castA (pc' := 13) rfl rfl kS_317 (hup_self _ _ _) ?_
  exact j_aret rfl rfl (Or.inr ⟨_, rfl⟩) (Or.inr ⟨_, rfl⟩) (Nat.le_of_ble_eq_true rfl) (Nat.le_of_ble_eq_true rfl) ⟨rfl, rfl⟩
end XCPY
