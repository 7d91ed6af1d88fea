/-! FIELDS, ARRAYS, NEW CELLS, CALLS, ENDS, over the abstract heap (J). -/
section HMEM
variable {M : hM} {R : Room} {Q : Option Value → hH → Prop} {cells slots : Nat} {h : hH} {pc pc' : Nat} {ls : List (Nat × Value)} {st : List Value}
theorem h_one {D : hG} {α : Nat → Nat} {h : hH} {H : Heap} (hP : h_P D α h H) {k : Nat} {e : hE} (hk : h k = some e) : va_P D.1 vwCl [(α k, h_re D α e)] H := by
  intro j q hq
  match j, hq with
  | 0, hq => cases hq; exact hP k e hk
  | j + 1, hq => simp at hq
theorem h_narrow {ty : FieldType} {v : Value} (α : Nat → Nat) (hn : narrow ty v = v) : narrow ty (h_rv α v) = h_rv α v := by
  cases v with
  | ref k => cases ty <;> rfl
  | _ => exact hn
theorem h_fits {ty : FieldType} {v : Value} (α : Nat → Nat) (hn : fits ty v = true) : fits ty (h_rv α v) = true := by
  cases v with
  | ref k => cases ty <;> first | exact hn | rfl
  | _ => exact hn
/-- getfield -/
theorem j_get {idx ci k key : Nat} {ty : FieldType} {fin : Bool} {fs : List Value} {v : Value} (hd : fnd (h_tab M) pc = some (.getfield idx, 3)) (hp : pc + 3 = pc') (F : h_FL (h_own M) idx ci k ty fin) (hk : h key = some (.inr (ci, fs))) (hv : fs[k]? = some v)
    (kk : J M R Q cells slots h pc' ls (v :: st)) : J M R Q cells slots h pc ls (.ref key :: st) := by
  subst hp
  intro p l e s m args below meth c H locs D α α0 h0 lsA hC hW hll hcl hl
  obtain ⟨C, T, N, hc, hkN, hdecl, hfin, hty, hlink⟩ := F
  have hck := h_cls _ _ _ _ hc
  refine va_get (D := D.1) (ci := ci) (C := C) (T := T) (N := N) (fs := fs.map (h_rv α)) (v := h_rv α v) (Ts := hw_tbl) hC.1 hC.2.1 hC.2.2.2.2.1 (fun w hw => h_in (hck.1 w hw) (by obtain ⟨j, -, rfl⟩ := List.mem_map.mp hw; unfold u_lay; split <;> rfl)) hC.2.2.2.1 hC.2.2.2.2.2.2.2.2.1.1 (h_one hW.1 hk) 0 rfl hc k hkN (ref := C) (hC.2.2.2.2.1 _ (h_in hlink rfl)) (fun x hx => by rw [← hdecl]; rw [hdecl] at hx ⊢; exact hx) (by rw [List.getElem?_map, hv]; rfl) (h_dec hC hd) ?_
  exact kk p l e s m args below meth c H locs D α α0 h0 lsA hC hW hll (h_cl_cons (hW.2.2.2.2.1 _ _ hk v (List.mem_of_getElem? hv)) (h_cl_tl hcl)) hl
/-- putfield -/
theorem j_put {idx ci k key : Nat} {ty : FieldType} {fs : List Value} {v : Value} (hd : fnd (h_tab M) pc = some (.putfield idx, 3)) (hp : pc + 3 = pc') (F : h_FL (h_own M) idx ci k ty false) (hk : h key = some (.inr (ci, fs))) (hro : key < 9000) (hkf : k < fs.length) (hn : narrow ty v = v) (hf : fits ty v = true)
    (kk : J M R Q cells slots (hup h key (.inr (ci, fs.set k v))) pc' ls st) : J M R Q cells slots h pc ls (v :: .ref key :: st) := by
  subst hp
  intro p l e s m args below meth c H locs D α α0 h0 lsA hC hW hll hcl hl
  obtain ⟨C, T, N, hc, hkN, hdecl, hfin, hty, hlink⟩ := F
  have hck := h_cls _ _ _ _ hc
  obtain ⟨ty0, hty0⟩ := hck.2.1
  have hts := hC.2.2.2.2.1
  have hin : ∀ w ∈ u_ws C T N, w ∈ hw_tbl := fun w hw => h_in (hck.1 w hw) (by obtain ⟨j, -, rfl⟩ := List.mem_map.mp hw; unfold u_lay; split <;> rfl)
  have hK := hC.2.2.2.2.2.2.2.2.1.1
  have hap := va_apart (own := h_own M) hts hin ty0 hty0 hck.2.2.1 hK hc
  obtain ⟨r, h1, cell, q1, q2, q3, q4⟩ := hW.1 key _ hk
  have hr : r = (C, T, N) := Option.some.inj (h1.symm.trans hc)
  subst hr
  obtain ⟨hS, hfc, kC, hkC, hkind⟩ := hK.1 ci _ hc
  obtain ⟨cf, kf, fi, f, hi, hsl⟩ := hS k hkN
  have hlay := hts _ (hin _ (u_in_lay hkN))
  unfold u_lay at hlay
  rw [if_neg (by rw [hfin]; decide)] at hlay
  have hst := (u_facts hfc hkC (u_lays hts hin hkN) hi).1
  have h6 := u_store hfc hkC hkind hlay hi hty (h_narrow α hn) (h_fits α hf)
  have hi' := hi
  rw [hdecl] at hi'
  refine W.putK hC.1 hC.2.1 (f := f) ⟨hC.2.2.2.1, hts _ (h_in hlink rfl), ⟨_, _, _, hi'⟩, hst⟩ (by rw [q2]; exact h6) q1 q3 (by rw [hsl]; exact k2_hasslot (q4 k hkN)) rfl rfl (h_dec hC hd) fun H' e1 e2 e3 => ?_
  rw [hsl] at e1 ⊢
  have hat : va_at D.1 vwCl (α key, h_re D α (.inr (ci, fs.set k v))) H' := by
    refine ⟨_, hc, ?_⟩
    show t_OB _ _ _ _ _ (vp_V ((fs.set k v).map (h_rv α)))
    rw [List.map_set]
    exact t_OB.to (V := updV (vp_V (fs.map (h_rv α))) k (h_rv α v)) ⟨_, e1, q2, q3, t_set q4 hap hkN (h_rv α v)⟩ (fun j _ => vp_updV_set (by rw [List.length_map]; exact hkf) _ j)
  have hce : h_ce h (.inr (ci, fs.set k v)) := fun w hw => by
    rcases List.mem_or_eq_of_mem_set hw with q | q
    · exact hW.2.2.2.2.1 _ _ hk w q
    · rw [q]; exact h_cl_hd hcl
  exact kk p l e s m args below meth c H' _ D α α0 h0 lsA hC (hW.put hk hro hce hat e2 e3) (h_ll_mono hup_mono hll) (h_cl_mono hup_mono (h_cl_tl (h_cl_tl hcl))) hl
/-- putfield of a final field, in a constructor -/
theorem j_putF {idx ci k key : Nat} {ty : FieldType} {fs : List Value} {v : Value} (hd : fnd (h_tab M) pc = some (.putfield idx, 3)) (hp : pc + 3 = pc') (F : h_FL (h_own M) idx ci k ty true) (hown : (vwCl[ci]?).map (fun q => q.1) = some (h_own M)) (hini : (h_y M).name = "<init>") (hk : h key = some (.inr (ci, fs))) (hro : key < 9000) (hkf : k < fs.length) (hn : narrow ty v = v) (hf : fits ty v = true)
    (kk : J M R Q cells slots (hup h key (.inr (ci, fs.set k v))) pc' ls st) : J M R Q cells slots h pc ls (v :: .ref key :: st) := by
  subst hp
  intro p l e s m args below meth c H locs D α α0 h0 lsA hC hW hll hcl hl
  obtain ⟨C, T, N, hc, hkN, hdecl, hfin, hty, hlink⟩ := F
  have hCo : C = h_own M := by rw [hc] at hown; exact Option.some.inj hown
  have hck := h_cls _ _ _ _ hc
  obtain ⟨ty0, hty0⟩ := hck.2.1
  have hts := hC.2.2.2.2.1
  have hin : ∀ w ∈ u_ws C T N, w ∈ hw_tbl := fun w hw => h_in (hck.1 w hw) (by obtain ⟨j, -, rfl⟩ := List.mem_map.mp hw; unfold u_lay; split <;> rfl)
  have hK := hC.2.2.2.2.2.2.2.2.1.1
  have hap := va_apart (own := h_own M) hts hin ty0 hty0 hck.2.2.1 hK hc
  obtain ⟨r, h1, cell, q1, q2, q3, q4⟩ := hW.1 key _ hk
  have hr : r = (C, T, N) := Option.some.inj (h1.symm.trans hc)
  subst hr
  obtain ⟨hS, hfc, kC, hkC, hkind⟩ := hK.1 ci _ hc
  obtain ⟨cf, kf, fi, f, hi, hsl⟩ := hS k hkN
  have hlay := hts _ (hin _ (u_in_lay hkN))
  unfold u_lay at hlay
  rw [if_pos hfin] at hlay
  have hst := (u_facts hfc hkC (u_lays hts hin hkN) hi).1
  have hcf : m.cls = cf := by
    obtain ⟨_, _, c', _, _, _, -, -, hf', -, -, -, hown2, -⟩ := Cond.laysFinal_spec hlay
    have e1 : c' = cf := by have := hi.symm.trans hf'; simp at this; exact this.1.symm
    rw [hdecl, hCo] at hown2
    rw [← e1]; exact Option.some.inj (hC.2.2.2.1.symm.trans hown2)
  have h6 := u_fits hfc hkC hkind (Or.inr hlay) hi hty (h_narrow α hn) (h_fits α hf)
  have hi' := hi
  rw [hdecl] at hi'
  refine W.putFinK hC.1 hC.2.1 hC.2.2.2.1 (hts _ (h_in hlink rfl)) hi' hst hcf (hC.2.2.2.2.2.2.2.1 hini) (by rw [q2]; exact h6) q1 q3 (by rw [hsl]; exact k2_hasslot (q4 k hkN)) rfl rfl (h_dec hC hd) fun H' e1 e2 e3 => ?_
  rw [hsl] at e1 ⊢
  have hat : va_at D.1 vwCl (α key, h_re D α (.inr (ci, fs.set k v))) H' := by
    refine ⟨_, hc, ?_⟩
    show t_OB _ _ _ _ _ (vp_V ((fs.set k v).map (h_rv α)))
    rw [List.map_set]
    exact t_OB.to (V := updV (vp_V (fs.map (h_rv α))) k (h_rv α v)) ⟨_, e1, q2, q3, t_set q4 hap hkN (h_rv α v)⟩ (fun j _ => vp_updV_set (by rw [List.length_map]; exact hkf) _ j)
  have hce : h_ce h (.inr (ci, fs.set k v)) := fun w hw => by
    rcases List.mem_or_eq_of_mem_set hw with q | q
    · exact hW.2.2.2.2.1 _ _ hk w q
    · rw [q]; exact h_cl_hd hcl
  exact kk p l e s m args below meth c H' _ D α α0 h0 lsA hC (hW.put hk hro hce hat e2 e3) (h_ll_mono hup_mono hll) (h_cl_mono hup_mono (h_cl_tl (h_cl_tl hcl))) hl
theorem j_iald {key n : Nat} {f : Nat → Int32} {i : Int32} (hd : fnd (h_tab M) pc = some (.iaload, 1)) (hp : pc + 1 = pc') (hk : h key = some (.inl (.int, n, .inl f))) (hi : vp_in i n) (kk : J M R Q cells slots h pc' ls (.int (f i.toNatClampNeg) :: st)) : J M R Q cells slots h pc ls (.int i :: .ref key :: st) := by
  subst hp
  intro p l e s m args below meth c H locs D α α0 h0 lsA hC hW hll hcl hl
  exact va_iald hC.1 hC.2.1 hC.2.2.2.2.2.2.2.2.1.1 (h_one hW.1 hk) 0 0 rfl rfl hi (h_dec hC hd) (kk p l e s m args below meth c H locs D α α0 h0 lsA hC hW hll (h_cl_i (h_cl_tl (h_cl_tl hcl))) hl)
theorem j_bald {key n : Nat} {f : Nat → Int32} {i : Int32} (hd : fnd (h_tab M) pc = some (.baload, 1)) (hp : pc + 1 = pc') (hk : h key = some (.inl (.byte, n, .inl f))) (hi : vp_in i n) (kk : J M R Q cells slots h pc' ls (.int (f i.toNatClampNeg) :: st)) : J M R Q cells slots h pc ls (.int i :: .ref key :: st) := by
  subst hp
  intro p l e s m args below meth c H locs D α α0 h0 lsA hC hW hll hcl hl
  exact va_bald hC.1 hC.2.1 hC.2.2.2.2.2.2.2.2.1.1 (h_one hW.1 hk) 0 2 rfl rfl hi (h_dec hC hd) (kk p l e s m args below meth c H locs D α α0 h0 lsA hC hW hll (h_cl_i (h_cl_tl (h_cl_tl hcl))) hl)
theorem j_zald {key n : Nat} {f : Nat → Int32} {i : Int32} (hd : fnd (h_tab M) pc = some (.baload, 1)) (hp : pc + 1 = pc') (hk : h key = some (.inl (.boolean, n, .inl f))) (hi : vp_in i n) (kk : J M R Q cells slots h pc' ls (.int (f i.toNatClampNeg) :: st)) : J M R Q cells slots h pc ls (.int i :: .ref key :: st) := by
  subst hp
  intro p l e s m args below meth c H locs D α α0 h0 lsA hC hW hll hcl hl
  exact va_zald hC.1 hC.2.1 hC.2.2.2.2.2.2.2.2.1.1 (h_one hW.1 hk) 0 3 rfl rfl hi (h_dec hC hd) (kk p l e s m args below meth c H locs D α α0 h0 lsA hC hW hll (h_cl_i (h_cl_tl (h_cl_tl hcl))) hl)
theorem j_lald {key n : Nat} {f : Nat → Int64} {i : Int32} (hd : fnd (h_tab M) pc = some (.laload, 1)) (hp : pc + 1 = pc') (hk : h key = some (.inl (.long, n, .inr (.inl f)))) (hi : vp_in i n) (kk : J M R Q cells slots h pc' ls (.long (f i.toNatClampNeg) :: st)) : J M R Q cells slots h pc ls (.int i :: .ref key :: st) := by
  subst hp
  intro p l e s m args below meth c H locs D α α0 h0 lsA hC hW hll hcl hl
  exact va_lald hC.1 hC.2.1 hC.2.2.2.2.2.2.2.2.1.1 (h_one hW.1 hk) 0 1 rfl rfl hi (h_dec hC hd) (kk p l e s m args below meth c H locs D α α0 h0 lsA hC hW hll (h_cl_l (h_cl_tl (h_cl_tl hcl))) hl)
theorem h_rf (α : Nat → Nat) (r : Option Nat) : va_rf (r.map α) = h_rv α (va_rf r) := by cases r <;> rfl
theorem h_of_tys {D : hG} {C : String} (hC : C ∈ [RX4, RX1, RX2, RX3]) : ∃ t0 : Nat, (h_tys D)[t0]? = some (D.2 (.object C), .object C) := by
  simp only [List.mem_cons, List.not_mem_nil, or_false] at hC
  rcases hC with rfl | rfl | rfl | rfl
  · exact ⟨4, rfl⟩
  · exact ⟨5, rfl⟩
  · exact ⟨6, rfl⟩
  · exact ⟨7, rfl⟩
theorem j_aald {key n : Nat} {f : Nat → Option Nat} {i : Int32} {C : String} (hd : fnd (h_tab M) pc = some (.aaload, 1)) (hp : pc + 1 = pc') (hc : C ∈ [RX4, RX1, RX2, RX3]) (hk : h key = some (.inl (.object C, n, .inr (.inr (.inr (.inr f)))))) (hi : vp_in i n) (kk : J M R Q cells slots h pc' ls (va_rf (f i.toNatClampNeg) :: st)) : J M R Q cells slots h pc ls (.int i :: .ref key :: st) := by
  subst hp
  intro p l e s m args below meth c H locs D α α0 h0 lsA hC hW hll hcl hl
  obtain ⟨t0, ht0⟩ := h_of_tys (D := D) hc
  refine va_aldq hC.1 hC.2.1 hC.2.2.2.2.2.2.2.2.1.1 (h_one hW.1 hk) 0 t0 rfl ht0 hi (h_dec hC hd) ?_
  have hcv : h_cv h (va_rf (f i.toNatClampNeg)) := by
    cases hj : f i.toNatClampNeg with
    | none => trivial
    | some k => exact hW.2.2.2.2.1 _ _ hk _ k hj
  have := kk p l e s m args below meth c H locs D α α0 h0 lsA hC hW hll (h_cl_cons hcv (h_cl_tl (h_cl_tl hcl))) hl
  rw [List.map_cons, ← h_rf] at this
  exact this
theorem j_iast {key n : Nat} {f : Nat → Int32} {i : Int32} {x : Int32} (hd : fnd (h_tab M) pc = some (.iastore, 1)) (hp : pc + 1 = pc') (hk : h key = some (.inl (.int, n, .inl f))) (hro : key < 9000) (hi : vp_in i n) (kk : J M R Q cells slots (hup h key (.inl (.int, n, .inl (va_up f i.toNatClampNeg x)))) pc' ls st) : J M R Q cells slots h pc ls (.int x :: .int i :: .ref key :: st) := by
  subst hp
  intro p l e s m args below meth c H locs D α α0 h0 lsA hC hW hll hcl hl
  refine W.iast hC.1 hC.2.1 (hW.1 _ _ hk) ((hC.2.2.2.2.2.2.2.2.1.1.2 0 _ rfl).1 n (fun j => .int (f j))) (fun q => by cases q) (by show ¬ (i < 0 ∨ (arrV _ _ _).slots.size ≤ _); rw [arrV_size]; exact hi) rfl rfl (h_dec hC hd) fun H1 e1 z oq => ?_
  have hat : va_at D.1 vwCl (α key, h_re D α (.inl (.int, n, .inl (va_up f i.toNatClampNeg x)))) H1 := by
    show H1[α key]? = some (vp_cell _ _)
    rw [e1]
    show some ((vp_cell _ (n, _)).setSlot _ _) = some (vp_cell _ (n, _))
    rw [vp_cell_i, vp_cell_i, arrV_store]
    congr 2
    funext q
    by_cases hq : q = i.toNatClampNeg
    · subst hq
      simp [updV, va_up, vp_nar]
      try rfl
    · simp [updV, va_up, hq]
  exact kk p l e s m args below meth c H1 _ D α α0 h0 lsA hC (hW.put hk hro trivial hat z oq) (h_ll_mono hup_mono hll) (h_cl_mono hup_mono (h_cl_tl (h_cl_tl (h_cl_tl hcl)))) hl
theorem j_bast {key n : Nat} {f : Nat → Int32} {i : Int32} {x : Int32} (hd : fnd (h_tab M) pc = some (.bastore, 1)) (hp : pc + 1 = pc') (hk : h key = some (.inl (.byte, n, .inl f))) (hro : key < 9000) (hi : vp_in i n) (kk : J M R Q cells slots (hup h key (.inl (.byte, n, .inl (va_up f i.toNatClampNeg (vp_nar .byte x))))) pc' ls st) : J M R Q cells slots h pc ls (.int x :: .int i :: .ref key :: st) := by
  subst hp
  intro p l e s m args below meth c H locs D α α0 h0 lsA hC hW hll hcl hl
  refine W.bast hC.1 hC.2.1 (hW.1 _ _ hk) ((hC.2.2.2.2.2.2.2.2.1.1.2 2 _ rfl).1 n (fun j => .int (f j))) (fun q => by cases q) (by show ¬ (i < 0 ∨ (arrV _ _ _).slots.size ≤ _); rw [arrV_size]; exact hi) rfl rfl (h_dec hC hd) fun H1 e1 z oq => ?_
  have hat : va_at D.1 vwCl (α key, h_re D α (.inl (.byte, n, .inl (va_up f i.toNatClampNeg (vp_nar .byte x))))) H1 := by
    show H1[α key]? = some (vp_cell _ _)
    rw [e1]
    show some ((vp_cell _ (n, _)).setSlot _ _) = some (vp_cell _ (n, _))
    rw [vp_cell_i, vp_cell_i, arrV_store]
    congr 2
    funext q
    by_cases hq : q = i.toNatClampNeg
    · subst hq
      simp [updV, va_up, vp_nar]
      try rfl
    · simp [updV, va_up, hq]
  exact kk p l e s m args below meth c H1 _ D α α0 h0 lsA hC (hW.put hk hro trivial hat z oq) (h_ll_mono hup_mono hll) (h_cl_mono hup_mono (h_cl_tl (h_cl_tl (h_cl_tl hcl)))) hl
theorem j_zast {key n : Nat} {f : Nat → Int32} {i : Int32} {x : Int32} (hd : fnd (h_tab M) pc = some (.bastore, 1)) (hp : pc + 1 = pc') (hk : h key = some (.inl (.boolean, n, .inl f))) (hro : key < 9000) (hi : vp_in i n) (kk : J M R Q cells slots (hup h key (.inl (.boolean, n, .inl (va_up f i.toNatClampNeg (vp_nar .boolean x))))) pc' ls st) : J M R Q cells slots h pc ls (.int x :: .int i :: .ref key :: st) := by
  subst hp
  intro p l e s m args below meth c H locs D α α0 h0 lsA hC hW hll hcl hl
  refine W.zast hC.1 hC.2.1 (hW.1 _ _ hk) ((hC.2.2.2.2.2.2.2.2.1.1.2 3 _ rfl).1 n (fun j => .int (f j))) (fun q => by cases q) (by show ¬ (i < 0 ∨ (arrV _ _ _).slots.size ≤ _); rw [arrV_size]; exact hi) rfl rfl (h_dec hC hd) fun H1 e1 z oq => ?_
  have hat : va_at D.1 vwCl (α key, h_re D α (.inl (.boolean, n, .inl (va_up f i.toNatClampNeg (vp_nar .boolean x))))) H1 := by
    show H1[α key]? = some (vp_cell _ _)
    rw [e1]
    show some ((vp_cell _ (n, _)).setSlot _ _) = some (vp_cell _ (n, _))
    rw [vp_cell_i, vp_cell_i, arrV_store]
    congr 2
    funext q
    by_cases hq : q = i.toNatClampNeg
    · subst hq
      simp [updV, va_up, vp_nar]
      try rfl
    · simp [updV, va_up, hq]
  exact kk p l e s m args below meth c H1 _ D α α0 h0 lsA hC (hW.put hk hro trivial hat z oq) (h_ll_mono hup_mono hll) (h_cl_mono hup_mono (h_cl_tl (h_cl_tl (h_cl_tl hcl)))) hl
theorem j_last {key n : Nat} {f : Nat → Int64} {i : Int32} {x : Int64} (hd : fnd (h_tab M) pc = some (.lastore, 1)) (hp : pc + 1 = pc') (hk : h key = some (.inl (.long, n, .inr (.inl f)))) (hro : key < 9000) (hi : vp_in i n) (kk : J M R Q cells slots (hup h key (.inl (.long, n, .inr (.inl (va_up f i.toNatClampNeg x))))) pc' ls st) : J M R Q cells slots h pc ls (.long x :: .int i :: .ref key :: st) := by
  subst hp
  intro p l e s m args below meth c H locs D α α0 h0 lsA hC hW hll hcl hl
  refine W.last hC.1 hC.2.1 (hW.1 _ _ hk) ((hC.2.2.2.2.2.2.2.2.1.1.2 1 _ rfl).1 n (fun j => .long (f j))) (fun q => by cases q) (by show ¬ (i < 0 ∨ (arrV _ _ _).slots.size ≤ _); rw [arrV_size]; exact hi) rfl rfl (h_dec hC hd) fun H1 e1 z oq => ?_
  have hat : va_at D.1 vwCl (α key, h_re D α (.inl (.long, n, .inr (.inl (va_up f i.toNatClampNeg x))))) H1 := by
    show H1[α key]? = some (vp_cell _ _)
    rw [e1]
    show some ((vp_cell _ (n, _)).setSlot _ _) = some (vp_cell _ (n, _))
    rw [vp_cell_l, vp_cell_l, arrV_store]
    congr 2
    funext q
    by_cases hq : q = i.toNatClampNeg
    · subst hq
      simp [updV, va_up, vp_nar]
      try rfl
    · simp [updV, va_up, hq]
  exact kk p l e s m args below meth c H1 _ D α α0 h0 lsA hC (hW.put hk hro trivial hat z oq) (h_ll_mono hup_mono hll) (h_cl_mono hup_mono (h_cl_tl (h_cl_tl (h_cl_tl hcl)))) hl
theorem j_aast {key n v ci : Nat} {r : vw_C} {vs : List Value} {f : Nat → Option Nat} {i : Int32} (hd : fnd (h_tab M) pc = some (.aastore, 1)) (hp : pc + 1 = pc') (hc : r.1 ∈ [RX4, RX1, RX2, RX3]) (hk : h key = some (.inl (.object r.1, n, .inr (.inr (.inr (.inr f)))))) (hro : key < 9000) (hi : vp_in i n) (hv : h v = some (.inr (ci, vs))) (hci : vwCl[ci]? = some r) (kk : J M R Q cells slots (hup h key (.inl (.object r.1, n, .inr (.inr (.inr (.inr (va_up f i.toNatClampNeg (some v)))))))) pc' ls st) : J M R Q cells slots h pc ls (.ref v :: .int i :: .ref key :: st) := by
  subst hp
  intro p l e s m args below meth c H locs D α α0 h0 lsA hC hW hll hcl hl
  obtain ⟨t0, ht0⟩ := h_of_tys (D := D) hc
  have hK := hC.2.2.2.2.2.2.2.2.1.1
  have hlt : i.toNatClampNeg < n := Nat.not_le.mp fun q => hi (Or.inr q)
  have hlo : ¬ i < 0 := fun q => hi (Or.inl q)
  obtain ⟨r', hr', cellV, g1, g2, g3, -⟩ := hW.1 v _ hv
  have hcls := (hK.1 ci r hci).2
  obtain ⟨kA, comp, k1, k2, k3, -⟩ := (hK.2 t0 _ ht0).2
  have hcomp : comp = D.1.1 ci := Option.some.inj (k3.symm.trans hcls.1)
  subst hcomp
  obtain ⟨kC, hkC, -⟩ := hcls.2
  refine W.aast hC.1 hC.2.1 (hW.1 _ _ hk) (fun q h => by cases h) (fun h => by cases h) k1 k2 rfl hkC ⟨hlo, by show _ < (arrV _ _ _).slots.size; rw [arrV_size]; exact hlt⟩ g1 (fun q h => by rw [g3] at h; cases h) (by rw [g2]; exact hkC) (by rw [g2]; exact va_assign hcls) rfl rfl (h_dec hC hd) fun H1 e1 z oq => ?_
  have hat : va_at D.1 vwCl (α key, h_re D α (.inl (.object r.1, n, .inr (.inr (.inr (.inr (va_up f i.toNatClampNeg (some v)))))))) H1 := by
    show H1[α key]? = some (vp_cell _ _)
    rw [e1]
    show some ((vp_cell _ (n, _)).setSlot _ _) = some (vp_cell _ (n, _))
    rw [vp_cell_q, vp_cell_q, arrV_store]
    congr 2
    funext q
    by_cases hq : q = i.toNatClampNeg
    · subst hq
      simp [updV, va_up, va_rf]
    · simp [updV, va_up, hq]
  have hce : h_ce h (.inl (.object r.1, n, .inr (.inr (.inr (.inr (va_up f i.toNatClampNeg (some v))))))) := fun j k hj => by
    by_cases hq : j = i.toNatClampNeg
    · subst hq
      simp [va_up] at hj
      rw [← hj]; exact Or.inl (by rw [hv]; exact fun z => by cases z)
    · simp [va_up, hq] at hj
      exact hW.2.2.2.2.1 _ _ hk j k hj
  exact kk p l e s m args below meth c H1 _ D α α0 h0 lsA hC (hW.put hk hro hce hat z oq) (h_ll_mono hup_mono hll) (h_cl_mono hup_mono (h_cl_tl (h_cl_tl (h_cl_tl hcl)))) hl
theorem j_alen {key : Nat} {ty : FieldType} {x : vp_A} {v : Int32} {t0 : Nat} (hd : fnd (h_tab M) pc = some (.arraylength, 1)) (hp : pc + 1 = pc') (hk : h key = some (.inl (ty, x))) (ht : ∀ D : hG, (h_tys D)[t0]? = some (D.2 ty, ty)) (hv : Int32.ofNat x.1 = v) (kk : J M R Q cells slots h pc' ls (.int v :: st)) : J M R Q cells slots h pc ls (.ref key :: st) := by
  subst hp
  intro p l e s m args below meth c H locs D α α0 h0 lsA hC hW hll hcl hl
  refine va_alen hC.1 hC.2.1 hC.2.2.2.2.2.2.2.2.1.1 (h_one hW.1 hk) 0 t0 rfl (ht D) (x := h_ra α x) (v := v) ?_ (h_dec hC hd) (kk p l e s m args below meth c H locs D α α0 h0 lsA hC hW hll (h_cl_i (h_cl_tl hcl)) hl)
  obtain ⟨n, f | f | f | f | f⟩ := x <;> exact hv
end HMEM
