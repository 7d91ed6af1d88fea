/-! JDK MEMBERS over the abstract heap: Math.min, Math.max, System.arraycopy -/
section XJDK
variable {M : hM} {R : Room} {Q : Option Value → hH → Prop} {cells slots : Nat} {h : hH} {pc pc' : Nat} {ls : List (Nat × Value)} {st : List Value}
theorem h_cat2 (α : Nat → Nat) (st : List Value) : ((st.map (h_rv α)).map fun v => v.category) = st.map (fun v => v.category) := by
  rw [List.map_map]
  exact List.map_congr_left fun v _ => h_rv_cat α v
theorem j_mmin {idx : Nat} {x y : Int32} (hd : fnd (h_tab M) pc = some (.invokestatic idx, 3)) (hp : pc + 3 = pc') (h1 : Cond.methodLink (h_own M) idx Lib.Math.min.name ∈ lw_tbl) (h2 : Cond.static Lib.Math.min.name ∈ lw_tbl) (h3 : Cond.initialized "java/lang/Math" ∈ lw_tbl) (h4 : Cond.code Lib.Math.min.name Lib.Math.min.code 2 (some .int) ∈ lw_tbl) (hR : 1 ≤ R.frames ∧ (st.map fun v => v.category).sum + 13 ≤ R.locals) (hcs : cells ≤ R.cells) (hss : slots ≤ R.slots)
    (kk : J M R Q cells slots h pc' ls (.int (if y < x then y else x) :: st)) : J M R Q cells slots h pc ls (.int y :: .int x :: st) := by
  subst hp
  intro p l e s m args below meth c H locs D α α0 h0 lsA hC hW hll hcl hl
  have hts := hC.2.2.2.2.1
  exact va_mmin hC.1 hC.2.1 (hC.2.2.1.trans hl.1.symm) hC.2.2.2.1 (hts _ (h_in h1 rfl)) (hts _ (h_in h2 rfl)) (hts _ (h_in h3 rfl)) (hts _ (h_in h4 rfl)) hR.1 (by rw [h_cat2]; exact hR.2) hcs hss (h_dec hC hd) (kk p l e s m args below meth c H locs D α α0 h0 lsA hC hW hll (h_cl_i (h_cl_tl (h_cl_tl hcl))) hl)
theorem j_mmaxl {idx : Nat} {x y : Int64} (hd : fnd (h_tab M) pc = some (.invokestatic idx, 3)) (hp : pc + 3 = pc') (h1 : Cond.methodLink (h_own M) idx Lib.MathLoose.max_long.x ∈ lw_tbl) (h2 : Cond.static Lib.MathLoose.max_long.x ∈ lw_tbl) (h3 : Cond.initialized "java/lang/Math" ∈ lw_tbl) (h4 : Cond.code Lib.MathLoose.max_long.x Lib.MathLoose.max_long.code 4 (some .long) ∈ lw_tbl) (hR : 1 ≤ R.frames ∧ (st.map fun v => v.category).sum + 15 ≤ R.locals) (hcs : cells ≤ R.cells) (hss : slots ≤ R.slots)
    (kk : J M R Q cells slots h pc' ls (.long (if y < x then x else y) :: st)) : J M R Q cells slots h pc ls (.long y :: .long x :: st) := by
  subst hp
  intro p l e s m args below meth c H locs D α α0 h0 lsA hC hW hll hcl hl
  have hts := hC.2.2.2.2.1
  exact va_mmax_long hC.1 hC.2.1 (hC.2.2.1.trans hl.1.symm) hC.2.2.2.1 (hts _ (h_in h1 rfl)) (hts _ (h_in h2 rfl)) (hts _ (h_in h3 rfl)) (hts _ (h_in h4 rfl)) hR.1 (by rw [h_cat2]; exact hR.2) hcs hss (h_dec hC hd) (kk p l e s m args below meth c H locs D α α0 h0 lsA hC hW hll (h_cl_l (h_cl_tl (h_cl_tl hcl))) hl)
theorem h_Wd.putL {D : hG} {α : Nat → Nat} {h : hH} {α0 : Nat → Nat} {h0 : hH} {s : State} {H H1 : Heap} {locs L : List Loc} (hW : h_Wd D α h α0 h0 s H locs) {k : Nat} {e0 e : hE} (hk : h k = some e0) (hro : k < 9000) (hc : h_ce h e)
    (he : va_at D.1 vwCl (α k, h_re D α e) H1) (hz : H1.size = H.size) (oq : ∀ q : Nat, q ≠ α k → H1[q]? = H[q]?) (hL : ∀ q ∈ L, q.base = α k) : h_Wd D α (hup h k e) α0 h0 s H1 (locs ++ L) := by
  have h1 := hW.put (i := 0) hk hro hc he hz oq
  refine ⟨h1.1, h1.2.1, ⟨h1.2.2.1.1, h1.2.2.1.2.1, fun q hq => ?_⟩, h1.2.2.2⟩
  rcases List.mem_append.mp hq with z | z
  · exact hW.2.2.1.2.2 q z
  · rw [hL q z]
    exact hW.2.1.2 k hro (by rw [hk]; exact fun z => by cases z)
theorem j_copyi {idx k0 k1 n0 n1 : Nat} {f g : Nat → Int32} {sp dp n : Int32} (hd : fnd (h_tab M) pc = some (.invokestatic idx, 3)) (hp : pc + 3 = pc') (w1 : Cond.methodLink (h_own M) idx arraycopyName ∈ lw_tbl) (w2 : Cond.native arraycopyName ∈ lw_tbl) (w3 : Cond.static arraycopyName ∈ lw_tbl) (w4 : Cond.initialized "java/lang/System" ∈ lw_tbl)
    (hk0 : h k0 = some (.inl (.int, n0, .inl f))) (hk1 : h k1 = some (.inl (.int, n1, .inl g))) (hro : k1 < 9000) (h1 : ¬ sp < 0) (h2 : ¬ dp < 0) (h3 : ¬ n < 0) (h4 : sp.toNatClampNeg + n.toNatClampNeg ≤ n0) (h5 : dp.toNatClampNeg + n.toNatClampNeg ≤ n1)
    (hR : 1 ≤ R.frames ∧ (st.map fun v => v.category).sum + (nativeFrameWords "java/lang/System" "arraycopy" 5 + 11) ≤ R.locals)
    (kk : J M R Q cells slots (hup h k1 (.inl (.int, n1, .inl (va_cpy f g sp.toNatClampNeg dp.toNatClampNeg n.toNatClampNeg)))) pc' ls st) : J M R Q cells slots h pc ls (.int n :: .int dp :: .ref k1 :: .int sp :: .ref k0 :: st) := by
  subst hp
  intro p l e s m args below meth c H locs D α α0 h0 lsA hC hW hll hcl hl
  have hts := hC.2.2.2.2.1
  have hK := hC.2.2.2.2.2.2.2.2.1.1
  have nn : ∀ z : Int32, ¬ z < 0 → z.toInt = (z.toNatClampNeg : Int) := by
    intro z hz
    have hz0 : (0 : Int) ≤ z.toInt := by
      have := Int32.not_lt.mp hz
      simpa using Int32.le_iff_toInt_le.mp this
    show z.toInt = ((z.toInt.toNat : Nat) : Int)
    omega
  intro T hT X
  have hc0 : H[α k0]? = some (vp_cell (D.2 .int) (n0, .inl f)) := hW.1 k0 _ hk0
  have hc1 : H[α k1]? = some (vp_cell (D.2 .int) (n1, .inl g)) := hW.1 k1 _ hk1
  obtain ⟨-, kk0, hkk0, cm0, hkkk0⟩ := (hK.2 0 _ rfl).1 n0 (fun j => .int (f j))
  obtain ⟨-, kk1, hkk1, cm1, hkkk1⟩ := (hK.2 0 _ rfl).1 n1 (fun j => .int (g j))
  obtain ⟨vm', X', step⟩ := X.arraycopy hC.1 hC.2.2.2.1 (hts _ (h_in w1 rfl)) (hts _ (h_in w2 rfl)) (hts _ (h_in w3 rfl)) (hts _ (h_in w4 rfl)) (src := α k0) (dst := α k1) (cs := vp_cell (D.2 .int) (n0, .inl f)) (cd := vp_cell (D.2 .int) (n1, .inl g)) (srcPos := sp) (destPos := dp) (n := n) (by rw [hT]; exact hc0) (by rw [hT]; exact hc1)
    (fun _ h => by cases h) (fun _ h => by cases h) (fun h => by cases h) (fun h => by cases h) hkk0 hkk1 hkkk0 hkkk1 (by simp [show refKind .int = false from rfl]) h1 h2 h3
    (by rw [nn sp h1, nn n h3]; show ¬ _ > ((arrV (D.2 .int) n0 (fun j => .int (f j))).slots.size : Int); rw [arrV_size]; omega)
    (by rw [nn dp h2, nn n h3]; show ¬ _ > ((arrV (D.2 .int) n1 (fun j => .int (g j))).slots.size : Int); rw [arrV_size]; omega)
    (fun vm₁ _ i hi => by
      have e : (vp_cell (D.2 .int) (n0, .inl f)).slots.getD (sp.toNatClampNeg + i) .null = .int (f (sp.toNatClampNeg + i)) := by
        show (arrV (D.2 .int) n0 (fun j => .int (f j))).slots.getD _ _ = _
        rw [Array.getD_eq_getD_getElem?, arrV_read _ _ (by omega)]
        rfl
      refine ⟨?_, ?_⟩
      · rw [e]; rfl
      · rw [e]; exact trivial)
    (g := F0 m pc lsA ((Value.int n :: Value.int dp :: Value.ref k1 :: Value.int sp :: Value.ref k0 :: st).map (h_rv α))) rfl (by rw [hC.2.2.1]; exact hl.1) (rest := st.map (h_rv α)) rfl (by rw [hC.2.1]; exact h_dec hC hd) hR.1 (by rw [h_cat2]; show 2 * 0 + _ + _ ≤ _; omega)
  have e1 : copied (vp_cell (D.2 .int) (n0, .inl f)) (vp_cell (D.2 .int) (n1, .inl g)) sp dp n = vp_cell (D.2 .int) (n1, .inl (va_cpy f g sp.toNatClampNeg dp.toNatClampNeg n.toNatClampNeg)) := va_copied (fun z => .int z) (D.2 .int) (D.2 .int) f g h4
  rw [e1] at X' step
  have hl1 : α k1 < H.size := (Array.getElem?_eq_some_iff.mp hc1).1
  have hheap : ((T.setVm vm').setCell (α k1) (vp_cell (D.2 .int) (n1, .inl (va_cpy f g sp.toNatClampNeg dp.toNatClampNeg n.toNatClampNeg)))).heap = H.setIfInBounds (α k1) (vp_cell (D.2 .int) (n1, .inl (va_cpy f g sp.toNatClampNeg dp.toNatClampNeg n.toNatClampNeg))) := by rw [← hT]; rfl
  have oq : ∀ q : Nat, q ≠ α k1 → (H.setIfInBounds (α k1) (vp_cell (D.2 .int) (n1, .inl (va_cpy f g sp.toNatClampNeg dp.toNatClampNeg n.toNatClampNeg))))[q]? = H[q]? := fun q hq => by simp [Array.getElem?_setIfInBounds, Ne.symm hq]
  have hat : va_at D.1 vwCl (α k1, h_re D α (.inl (.int, n1, .inl (va_cpy f g sp.toNatClampNeg dp.toNatClampNeg n.toNatClampNeg)))) (H.setIfInBounds (α k1) (vp_cell (D.2 .int) (n1, .inl (va_cpy f g sp.toNatClampNeg dp.toNatClampNeg n.toNatClampNeg)))) := by
    show (H.setIfInBounds (α k1) _)[α k1]? = some _
    simp [Array.getElem?_setIfInBounds, hl1]
    rfl
  have hW' : ∀ L : List Loc, (∀ q ∈ L, q.base = α k1) → h_Wd D α (hup h k1 (.inl (.int, n1, .inl (va_cpy f g sp.toNatClampNeg dp.toNatClampNeg n.toNatClampNeg)))) α0 h0 s (H.setIfInBounds (α k1) (vp_cell (D.2 .int) (n1, .inl (va_cpy f g sp.toNatClampNeg dp.toNatClampNeg n.toNatClampNeg)))) (locs ++ L) :=
    fun L hL => hW.putL hk1 hro (show h_ce h (Sum.inl (FieldType.int, n1, Sum.inl (va_cpy f g sp.toNatClampNeg dp.toNatClampNeg n.toNatClampNeg))) from trivial) hat (by simp) oq hL
  obtain ⟨t, a1, b1⟩ := kk p l e s m args below meth c _ _ D α α0 h0 lsA hC (hW' _ (fun q hq => by
      obtain ⟨z, -, hz⟩ := List.mem_map.mp hq
      rw [← hz])) (h_ll_mono hup_mono hll) (h_cl_mono hup_mono (h_cl_tl (h_cl_tl (h_cl_tl (h_cl_tl (h_cl_tl hcl)))))) hl _ hheap X'
  exact ⟨t, step t a1, b1⟩
end XJDK
