/-! THE ABSTRACT HEAP: keys instead of addresses; a method's contract speaks of keys and cells alone. -/
section HCORE
abbrev hG : Type := va_G × (FieldType → ClassId)
abbrev hE : Type := (FieldType × vp_A) ⊕ (Nat × List Value)
abbrev hH : Type := Nat → Option hE
def h_rv (α : Nat → Nat) (v : Value) : Value := match v with
  | .ref k => .ref (α k)
  | v => v
def h_ra (α : Nat → Nat) (a : vp_A) : vp_A := match a with
  | (n, .inr (.inr (.inr (.inr f)))) => (n, .inr (.inr (.inr (.inr (fun j => (f j).map α)))))
  | a => a
def h_re (D : hG) (α : Nat → Nat) (e : hE) : va_E := match e with
  | .inl q => .inl (D.2 q.1, h_ra α q.2)
  | .inr q => .inr (q.1, q.2.map (h_rv α))
def h_P (D : hG) (α : Nat → Nat) (h : hH) (H : Heap) : Prop := ∀ (k : Nat) (e : hE), h k = some e → va_at D.1 vwCl (α k, h_re D α e) H
def h_D (A : Nat → Prop) (α : Nat → Nat) (h : hH) : Prop := (∀ i j : Nat, h i ≠ none → h j ≠ none → α i = α j → i = j) ∧ ∀ k : Nat, k < 9000 → h k ≠ none → A (α k)
/-- closed: a reference is to a key that is there, or to a constant (9000 and on) -/
def h_ok (h : hH) (k : Nat) : Prop := h k ≠ none ∨ 9000 ≤ k
def h_cv (h : hH) (v : Value) : Prop := match v with
  | .ref k => h_ok h k
  | _ => True
def h_ce (h : hH) (e : hE) : Prop := match e with
  | .inl (_, _, .inr (.inr (.inr (.inr f)))) => ∀ (j k : Nat), f j = some k → h_ok h k
  | .inl _ => True
  | .inr q => ∀ v ∈ q.2, h_cv h v
def h_cH (h : hH) : Prop := ∀ (k : Nat) (e : hE), h k = some e → h_ce h e
def h_cl (h : hH) (st : List Value) : Prop := ∀ v ∈ st, h_cv h v
def h_ll (h : hH) (ls : List (Nat × Value)) : Prop := ∀ q ∈ ls, h_cv h q.2
def h_AA (α0 : Nat → Nat) (h0 : hH) (n : Nat) : Nat → Prop := fun q => (∃ k : Nat, k < 9000 ∧ h0 k ≠ none ∧ q = α0 k) ∨ n ≤ q
abbrev h_tys (D : hG) : List (ClassId × FieldType) := [(D.2 .int, .int), (D.2 .long, .long), (D.2 .byte, .byte), (D.2 .boolean, .boolean), (D.2 (.object RX4), .object RX4), (D.2 (.object RX1), .object RX1), (D.2 (.object RX2), .object RX2), (D.2 (.object RX3), .object RX3)]
/-- below h_B lie the String constants and the statics; h_sK, h_sV: the four Strings of the Tape, and their bytes -/
def h_B (D : hG) : Nat := D.2 (.object "#B")
def h_ct : Nat → FieldType
  | 0 => .object "#C"
  | n + 1 => .array (h_ct n)
def h_cn (D : hG) (i : Nat) : Nat := D.2 (h_ct i)
def h_sK (D : hG) : Nat → Nat := fun i => h_cn D i
def h_sV (D : hG) : Nat → Nat := fun i => h_cn D (10 + i)
def h_len : List Nat := [1, 4, 3, 11]
def h_byt : List (List Int32) := [[59], [32, 105, 115, 32], [111, 117, 116], [32, 98, 121, 32, 119, 101, 105, 103, 104, 116, 32]]
def h_SS (D : hG) (U : State) : Prop := h_B D ≤ U.heap.size ∧ vk_S 4 h_len h_byt (h_sK D) (h_sV D) (fun q => h_B D ≤ q) U U.heap ∧ (vk_R RX5 39 ";" (h_sK D 0) U ∧ vk_R RX5 56 " is " (h_sK D 1) U ∧ vk_R RX5 62 "out" (h_sK D 2) U ∧ vk_R RX5 72 " by weight " (h_sK D 3) U) ∧ va_Z "java/lang/String" "COMPACT_STRINGS" "Z" (.int 1) (fun q => h_B D ≤ q) U U.heap ∧ (va_Z "jdk/internal/util/Preconditions" "SIOOBE_FORMATTER" "Ljava/util/function/BiFunction;" .null (fun q => h_B D ≤ q) U U.heap ∨ va_Z "jdk/internal/util/Preconditions" "SIOOBE_FORMATTER" "Ljava/util/function/BiFunction;" (.ref (h_cn D 20)) (fun q => h_B D ≤ q) U U.heap) ∧ va_Nw (.castable "[I" "java/lang/Cloneable") U
def h_K (D : hG) (U : State) : Prop := va_K D.1 vwCl (h_tys D) U ∧ (∀ q ∈ h_nest, va_Nw (.methodLinkNest q.1 q.2.1 q.2.2.1 q.2.2.2) U) ∧ (∀ C ∈ [RX4, RX1, RX2, RX3], va_AO C U) ∧ h_SS D U
/-- the world lies above, the constants' keys are the constants -/
def h_up (D : hG) (α : Nat → Nat) (h : hH) : Prop := (∀ k : Nat, k < 9000 → h k ≠ none → h_B D ≤ α k) ∧ ∀ i : Nat, α (9001 + i) = h_cn D i
def hw_tbl : List Cond := lw_tbl.filter goodWord
theorem h_in {w : Cond} (h : w ∈ lw_tbl) (g : goodWord w = true) : w ∈ hw_tbl := List.mem_filter.mpr ⟨h, g⟩
theorem h_good : GoodIn hw_tbl hw_tbl := fun w h => ⟨h, good_of_word (List.mem_filter.mp h).2⟩
def h_ws (M : hM) : List Cond := Cond.code (h_y M) (h_cc M) (h_nL M) (h_ret M) :: hw_tbl
def fnd {β : Type} : List (Nat × β) → Nat → Option β
  | [], _ => none
  | (a, b) :: l, k => bif Nat.beq a k then some b else fnd l k
theorem fnd_mem {β : Type} : ∀ (l : List (Nat × β)) (k : Nat) (b : β), fnd l k = some b → (k, b) ∈ l
  | [], k, b, h => by cases h
  | (a, c) :: l, k, b, h => by
    unfold fnd at h
    cases hq : Nat.beq a k with
    | true =>
      rw [hq] at h
      have e1 := Nat.eq_of_beq_eq_true hq
      cases h
      subst e1
      exact List.mem_cons_self
    | false =>
      rw [hq] at h
      exact List.mem_cons_of_mem _ (fnd_mem l k b h)
def h_Cx (M : hM) (p : Program) (s : State) (m : MethodId) (args : Array Value) (meth : Method) (c : Code) (D : hG) : Prop :=
  p.tables.exec = Jvm.exec ∧ c.code = h_cc M ∧ c.maxLocals = h_nL M ∧ s.vm.findClass (h_own M) = some m.cls ∧ (∀ w ∈ hw_tbl, w.before args s = true) ∧ meth.sig.returnType = h_ret M ∧ meth.locks = false ∧ ((h_y M).name = "<init>" → meth.name = "<init>") ∧ h_K D s ∧ (∀ q ∈ h_tab M, decode (h_cc M) q.1 = .ok q.2)
def h_Wd (D : hG) (α : Nat → Nat) (h : hH) (α0 : Nat → Nat) (h0 : hH) (s : State) (H : Heap) (locs : List Loc) : Prop :=
  h_P D α h H ∧ h_D (h_AA α0 h0 s.heap.size) α h ∧ va_S (h_AA α0 h0 s.heap.size) s.heap H locs ∧ (∀ k : Nat, h_ok h0 k → h_ok h k ∧ α k = α0 k) ∧ h_cH h ∧ h_up D α h ∧ h_B D ≤ s.heap.size
def h_QQ (D : hG) (α0 : Nat → Nat) (h0 : hH) (Q : Option Value → hH → Prop) : Array Value → State → Outcome → State → Prop := fun _ st o t =>
  ∃ (v : Option Value) (h' : hH) (α' : Nat → Nat), o = .returned (v.map (h_rv α')) ∧ Q v h' ∧ h_P D α' h' t.heap ∧ h_D (h_AA α0 h0 st.heap.size) α' h' ∧ (∀ k : Nat, h_ok h0 k → h_ok h' k ∧ α' k = α0 k) ∧ (h_cH h' ∧ h_up D α' h') ∧ (∀ w : Value, v = some w → h_cv h' w) ∧ va_F (h_AA α0 h0 st.heap.size) st t
/-- FROM HERE THE METHOD ENDS WITH Q: at pc, with locals ls and stack st, over the abstract heap h -/
def J (M : hM) (R : Room) (Q : Option Value → hH → Prop) (cells slots : Nat) (h : hH) (pc : Nat) (ls : List (Nat × Value)) (st : List Value) : Prop :=
  ∀ (p : Program) (l : Launch) (e : Env) (s : State) (m : MethodId) (args : Array Value) (below : List Frame) (meth : Method) (c : Code) (H : Heap) (locs : List Loc) (D : hG) (α α0 : Nat → Nat) (h0 : hH) (lsA : Array Slot),
    h_Cx M p s m args meth c D → h_Wd D α h α0 h0 s H locs → h_ll h ls → h_cl h st → lv_has lsA (h_nL M) (ls.map (fun q => (q.1, h_rv α q.2))) →
    W p l e R s m args below meth c H locs cells slots (MQ below (h_QQ D α0 h0 Q) args s R.cells R.slots (h_AA α0 h0 s.heap.size)) (F0 m pc lsA (st.map (h_rv α)))
/-- A METHOD'S CONTRACT over the abstract heap -/
def Sp (M : hM) (R : Room) (av : List Value) (h : hH) (Q : Option Value → hH → Prop) : Prop :=
  ∀ (l : Launch) (D : hG) (α : Nat → Nat) (sz : Nat), Met l (h_y M) (h_ws M) R
    (va_Pc (av.map (h_rv α)) (fun U => U.heap.size = sz ∧ h_K D U ∧ h_P D α h U.heap ∧ h_D (fun _ => True) α h ∧ h_cH h ∧ h_cl h av ∧ h_up D α h)) (h_QQ D α h Q) R.cells R.slots (h_AA α h sz)
theorem h_rv_cat (α : Nat → Nat) (v : Value) : (h_rv α v).category = v.category := by cases v <;> rfl
theorem h_rv_ext {h : hH} {α α' : Nat → Nat} (e : ∀ k : Nat, h_ok h k → α' k = α k) {v : Value} (c : h_cv h v) : h_rv α' v = h_rv α v := by
  cases v with
  | ref k => show Value.ref _ = Value.ref _; rw [e k c]
  | _ => rfl
theorem h_map_ext {h : hH} {α α' : Nat → Nat} (e : ∀ k : Nat, h_ok h k → α' k = α k) {st : List Value} (c : h_cl h st) : st.map (h_rv α') = st.map (h_rv α) := List.map_congr_left fun v hv => h_rv_ext e (c v hv)
theorem h_lmap_ext {h : hH} {α α' : Nat → Nat} (e : ∀ k : Nat, h_ok h k → α' k = α k) {ls : List (Nat × Value)} (c : h_ll h ls) : ls.map (fun q => (q.1, h_rv α' q.2)) = ls.map (fun q => (q.1, h_rv α q.2)) := List.map_congr_left fun q hq => by rw [h_rv_ext e (c q hq)]
theorem h_re_ext {D : hG} {h : hH} {α α' : Nat → Nat} (e : ∀ k : Nat, h_ok h k → α' k = α k) {x : hE} (c : h_ce h x) : h_re D α' x = h_re D α x := by
  cases x with
  | inl q =>
    obtain ⟨t, n, f | f | f | f | f⟩ := q
    · rfl
    · rfl
    · rfl
    · rfl
    · show Sum.inl _ = Sum.inl _
      congr 2
      show (n, _) = (n, _)
      congr 5
      funext j
      cases hj : f j with
      | none => rfl
      | some k => show some _ = some _; rw [e k (c j k hj)]
  | inr q =>
    show Sum.inr _ = Sum.inr _
    rw [h_map_ext e c]
theorem h_cv_mono {h h' : hH} (e : ∀ k : Nat, h_ok h k → h_ok h' k) {v : Value} (c : h_cv h v) : h_cv h' v := by
  cases v with
  | ref k => exact e k c
  | _ => trivial
theorem h_cl_mono {h h' : hH} (e : ∀ k : Nat, h_ok h k → h_ok h' k) {st : List Value} (c : h_cl h st) : h_cl h' st := fun v hv => h_cv_mono e (c v hv)
theorem h_ll_mono {h h' : hH} (e : ∀ k : Nat, h_ok h k → h_ok h' k) {ls : List (Nat × Value)} (c : h_ll h ls) : h_ll h' ls := fun v hv => h_cv_mono e (c v hv)
theorem h_ce_mono {h h' : hH} (e : ∀ k : Nat, h_ok h k → h_ok h' k) {x : hE} (c : h_ce h x) : h_ce h' x := by
  cases x with
  | inl q =>
    obtain ⟨t, n, f | f | f | f | f⟩ := q
    · trivial
    · trivial
    · trivial
    · trivial
    · exact fun j k hj => e k (c j k hj)
  | inr q => exact fun v hv => h_cv_mono e (c v hv)
theorem h_cl_cons {h : hH} {v : Value} {st : List Value} (a : h_cv h v) (b : h_cl h st) : h_cl h (v :: st) := fun w hw => by
  rcases List.mem_cons.mp hw with e | e
  · rw [e]; exact a
  · exact b w e
theorem h_cl_hd {h : hH} {v : Value} {st : List Value} (b : h_cl h (v :: st)) : h_cv h v := b v List.mem_cons_self
theorem h_cl_tl {h : hH} {v : Value} {st : List Value} (b : h_cl h (v :: st)) : h_cl h st := fun w hw => b w (List.mem_cons_of_mem _ hw)
theorem h_cl_i {h : hH} {x : Int32} {st : List Value} (b : h_cl h st) : h_cl h (.int x :: st) := h_cl_cons trivial b
theorem h_cl_l {h : hH} {x : Int64} {st : List Value} (b : h_cl h st) : h_cl h (.long x :: st) := h_cl_cons trivial b
def hup (h : hH) (k : Nat) (e : hE) : hH := fun j => if j = k then some e else h j
theorem hup_self (h : hH) (k : Nat) (e : hE) : hup h k e k = some e := if_pos rfl
theorem hup_ne {h : hH} {k j : Nat} {e : hE} (n : j ≠ k) : hup h k e j = h j := if_neg n
theorem hup_some (h : hH) (k : Nat) (e : hE) : hup h k e k ≠ none := by rw [hup_self]; exact fun z => by cases z
theorem hup_mono {h : hH} {k : Nat} {e : hE} (j : Nat) (q : h_ok h j) : h_ok (hup h k e) j := by
  rcases q with q | q
  · refine Or.inl ?_
    by_cases hj : j = k
    · rw [hj]; exact hup_some h k e
    · rw [hup_ne hj]; exact q
  · exact Or.inr q
/-- a cell is written -/
theorem h_Wd.put {D : hG} {α : Nat → Nat} {h : hH} {α0 : Nat → Nat} {h0 : hH} {s : State} {H H1 : Heap} {locs : List Loc} {i : Nat} (hW : h_Wd D α h α0 h0 s H locs) {k : Nat} {e0 e : hE} (hk : h k = some e0) (hro : k < 9000) (hc : h_ce h e)
    (he : va_at D.1 vwCl (α k, h_re D α e) H1) (hz : H1.size = H.size) (oq : ∀ q : Nat, q ≠ α k → H1[q]? = H[q]?) : h_Wd D α (hup h k e) α0 h0 s H1 (locs ++ [⟨α k, i⟩]) := by
  obtain ⟨hP, hD, hS, hX, hC, hU, hB⟩ := hW
  have hne : ∀ j : Nat, hup h k e j ≠ none → h j ≠ none := fun j q => by
    by_cases hj : j = k
    · rw [hj, hk]; exact fun z => by cases z
    · rwa [hup_ne hj] at q
  have hkn : h k ≠ none := by rw [hk]; exact fun z => by cases z
  refine ⟨fun j x hj => ?_, ⟨fun i j hi hj => hD.1 i j (hne i hi) (hne j hj), fun j hj q => hD.2 j hj (hne j q)⟩, hS.put hz oq (hD.2 k hro hkn), fun j q => ⟨hup_mono j (hX j q).1, (hX j q).2⟩, fun j x hj => ?_, ⟨fun j hj q => hU.1 j hj (hne j q), hU.2⟩, hB⟩
  · by_cases hjk : j = k
    · subst hjk
      rw [hup_self] at hj
      cases hj
      exact he
    · rw [hup_ne hjk] at hj
      exact (hP j x hj).kept (oq _ fun z => hjk (hD.1 j k (by rw [hj]; exact fun z => by cases z) hkn z))
  · by_cases hjk : j = k
    · subst hjk
      rw [hup_self] at hj
      cases hj
      exact h_ce_mono hup_mono hc
    · rw [hup_ne hjk] at hj
      exact h_ce_mono hup_mono (hC j x hj)
def h_al (α : Nat → Nat) (k a : Nat) : Nat → Nat := fun j => if j = k then a else α j
/-- a cell is made -/
theorem h_Wd.push {D : hG} {α : Nat → Nat} {h : hH} {α0 : Nat → Nat} {h0 : hH} {s : State} {H H1 : Heap} {locs : List Loc} (hW : h_Wd D α h α0 h0 s H locs) {k : Nat} {e : hE} (hk : h k = none) (hk9 : k < 9000) (hc : h_ce h e)
    (he : va_at D.1 vwCl (H.size, h_re D α e) H1) (hz : H1.size = H.size + 1) (oq : ∀ q : Nat, q < H.size → H1[q]? = H[q]?) : h_Wd D (h_al α k H.size) (hup h k e) α0 h0 s H1 locs ∧ ∀ j : Nat, h_ok h j → h_al α k H.size j = α j := by
  obtain ⟨hP, hD, hS, hX, hC, hU, hB⟩ := hW
  have hal : ∀ j : Nat, h_ok h j → h_al α k H.size j = α j := fun j q => if_neg fun z => by
    rcases q with q | q
    · exact q (by rw [z]; exact hk)
    · omega
  have hlt : ∀ j : Nat, h j ≠ none → α j < H.size := fun j q => by
    cases hj : h j with
    | none => exact absurd hj q
    | some x => exact (hP j x hj).lt
  have hne : ∀ j : Nat, hup h k e j ≠ none → j = k ∨ h j ≠ none := fun j q => by
    by_cases hj : j = k
    · exact Or.inl hj
    · rw [hup_ne hj] at q; exact Or.inr q
  have hself : h_al α k H.size k = H.size := if_pos rfl
  refine ⟨⟨fun j x hj => ?_, ⟨fun i j hi hj hij => ?_, fun j hj q => ?_⟩, ⟨Nat.le_trans hS.1 (by omega), fun q h1 h2 => (oq q (Nat.lt_of_lt_of_le h1 hS.1)).trans (hS.2.1 q h1 h2), hS.2.2⟩, fun j q => ⟨hup_mono j (hX j q).1, (hal j (hX j q).1).trans (hX j q).2⟩, fun j x hj => ?_, ⟨fun j hj q => ?_, fun i => (hal _ (Or.inr (by omega))).trans (hU.2 i)⟩, hB⟩, hal⟩
  · by_cases hjk : j = k
    · subst hjk
      rw [hup_self] at hj
      cases hj
      rw [hself, h_re_ext hal hc]
      exact he
    · rw [hup_ne hjk] at hj
      have q : h j ≠ none := by rw [hj]; exact fun z => by cases z
      rw [hal j (Or.inl q), h_re_ext hal (hC j x hj)]
      exact (hP j x hj).kept (oq _ (hlt j q))
  · rcases hne i hi with ei | qi
    · rcases hne j hj with ej | qj
      · rw [ei, ej]
      · rw [ei, hself, hal j (Or.inl qj)] at hij; exact absurd (hlt j qj) (by omega)
    · rcases hne j hj with ej | qj
      · rw [ej, hself, hal i (Or.inl qi)] at hij; exact absurd (hlt i qi) (by omega)
      · rw [hal i (Or.inl qi), hal j (Or.inl qj)] at hij; exact hD.1 i j qi qj hij
  · rcases hne j q with rfl | q
    · rw [hself]; exact Or.inr hS.1
    · rw [hal j (Or.inl q)]; exact hD.2 j hj q
  · by_cases hjk : j = k
    · subst hjk
      rw [hup_self] at hj
      cases hj
      exact h_ce_mono hup_mono hc
    · rw [hup_ne hjk] at hj
      exact h_ce_mono hup_mono (hC j x hj)
  · rcases hne j q with rfl | q
    · rw [hself]; exact Nat.le_trans hB hS.1
    · rw [hal j (Or.inl q)]; exact hU.1 j hj q
theorem h_has {lsA : Array Slot} {n : Nat} {α : Nat → Nat} {ls : List (Nat × Value)} (hl : lv_has lsA n (ls.map (fun q => (q.1, h_rv α q.2)))) {i : Nat} {v : Value} (hv : fnd ls i = some v) : lsA[i]? = some (.val (h_rv α v)) :=
  hl.2.2 (i, h_rv α v) (List.mem_map.mpr ⟨(i, v), fnd_mem _ _ _ hv, rfl⟩)
theorem h_lat {h : hH} {ls : List (Nat × Value)} (c : h_ll h ls) {i : Nat} {v : Value} (hv : fnd ls i = some v) : h_cv h v := c (i, v) (fnd_mem _ _ _ hv)
theorem h_dec {M : hM} {p : Program} {s : State} {m : MethodId} {args : Array Value} {meth : Method} {c : Code} {D : hG} (C : h_Cx M p s m args meth c D) {pc : Nat} {x : Instr × Nat} (hd : fnd (h_tab M) pc = some x) : decode (h_cc M) pc = .ok x := C.2.2.2.2.2.2.2.2.2 (pc, x) (fnd_mem _ _ _ hd)
/-- locals after a store of one word, of two -/
def lset1 (i : Nat) (v : Value) (ls : List (Nat × Value)) : List (Nat × Value) := (i, v) :: ls.filter (fun q => !(q.1 == i) && !(q.1 + 1 == i && q.2.category == 2))
def lset2 (i : Nat) (v : Value) (ls : List (Nat × Value)) : List (Nat × Value) := (i, v) :: ls.filter (fun q => !(q.1 == i) && (!(q.1 == i + 1) && !(q.1 + 1 == i && q.2.category == 2)))
theorem h_lset1 (α : Nat → Nat) (i : Nat) (v : Value) (ls : List (Nat × Value)) : (i, h_rv α v) :: (ls.map (fun q => (q.1, h_rv α q.2))).filter (fun q => !(q.1 == i) && !(q.1 + 1 == i && q.2.category == 2)) = (lset1 i v ls).map (fun q => (q.1, h_rv α q.2)) := by
  unfold lset1
  rw [List.map_cons, List.filter_map]
  congr 2
  apply List.filter_congr
  intro q _
  simp [Function.comp, h_rv_cat]
theorem h_lset2 (α : Nat → Nat) (i : Nat) (v : Value) (ls : List (Nat × Value)) : (i, h_rv α v) :: (ls.map (fun q => (q.1, h_rv α q.2))).filter (fun q => !(q.1 == i) && (!(q.1 == i + 1) && !(q.1 + 1 == i && q.2.category == 2))) = (lset2 i v ls).map (fun q => (q.1, h_rv α q.2)) := by
  unfold lset2
  rw [List.map_cons, List.filter_map]
  congr 2
  apply List.filter_congr
  intro q _
  simp [Function.comp, h_rv_cat]
theorem h_ll1 {h : hH} {ls : List (Nat × Value)} {i : Nat} {v : Value} (a : h_cv h v) (b : h_ll h ls) : h_ll h (lset1 i v ls) := fun q hq => by
  rcases List.mem_cons.mp hq with e | e
  · rw [e]; exact a
  · exact b q (List.mem_filter.mp e).1
theorem h_ll2 {h : hH} {ls : List (Nat × Value)} {i : Nat} {v : Value} (a : h_cv h v) (b : h_ll h ls) : h_ll h (lset2 i v ls) := fun q hq => by
  rcases List.mem_cons.mp hq with e | e
  · rw [e]; exact a
  · exact b q (List.mem_filter.mp e).1
/-- fewer locals -/
def subL (ls : List (Nat × Value)) : List (Nat × Value) → Prop
  | [] => True
  | q :: r => fnd ls q.1 = some q.2 ∧ subL ls r
theorem subL_all {ls : List (Nat × Value)} : ∀ {r : List (Nat × Value)}, subL ls r → ∀ q ∈ r, fnd ls q.1 = some q.2
  | [], _, q, h => by cases h
  | a :: r, c, q, h => by
    rcases List.mem_cons.mp h with e | e
    · rw [e]; exact c.1
    · exact subL_all c.2 q e
theorem j_sub {M : hM} {R : Room} {Q : Option Value → hH → Prop} {cells slots : Nat} {h : hH} {pc : Nat} {ls ls' : List (Nat × Value)} {st : List Value} (c : subL ls ls') (k : J M R Q cells slots h pc ls' st) : J M R Q cells slots h pc ls st := by
  intro p l e s m args below meth c0 H locs D α α0 h0 lsA hC hW hll hcl hl
  refine k p l e s m args below meth c0 H locs D α α0 h0 lsA hC hW (fun q hq => h_lat hll (subL_all c q hq)) hcl ⟨hl.1, hl.2.1, fun q hq => ?_⟩
  obtain ⟨x, hx, rfl⟩ := List.mem_map.mp hq
  exact h_has hl (subL_all c x hx)
theorem j_heap {M : hM} {R : Room} {Q : Option Value → hH → Prop} {cells slots : Nat} {h h' : hH} {pc : Nat} {ls : List (Nat × Value)} {st : List Value} (e : h = h') (k : J M R Q cells slots h' pc ls st) : J M R Q cells slots h pc ls st := e ▸ k
theorem j_widen {M : hM} {R : Room} {Q : Option Value → hH → Prop} {cells slots : Nat} {h : hH} {pc : Nat} {ls : List (Nat × Value)} {st : List Value} {a b : Nat} (h1 : cells ≤ a) (h2 : slots ≤ b) (k : J M R Q a b h pc ls st) : J M R Q cells slots h pc ls st := by
  intro p l e s m args below meth c0 H locs D α α0 h0 lsA hC hW hll hcl hl
  exact W.widen h1 h2 (k p l e s m args below meth c0 H locs D α α0 h0 lsA hC hW hll hcl hl)
/-- the contract out of the walk -/
theorem sp_of {M : hM} {R : Room} {av : List Value} {h : hH} {Q : Option Value → hH → Prop} {n : Nat} (I : h_MI M n) (hsz : (lg_sl av).length ≤ h_nL M) (k : J M R Q 0 0 h 0 (lv_args 0 av) []) : Sp M R av h Q := by
  intro l D α sz
  refine Met.ofW (cc := h_cc M) (maxL := h_nL M) (ret := h_ret M) I.2.1 rfl ?_
  intro p e s m args below meth c s₁ B hml hv
  obtain ⟨rfl, hsz0, hK, hP, hD, hcH, hcl, hup⟩ := hv
  subst hsz0
  have hts := atoms_spec (ws := h_ws M) B.pre
  have hown : s.vm.findClass (h_own M) = some m.cls := by rw [← I.2.2.1]; exact findClass_of_methodNamed B.named
  have hin : (h_y M).name = "<init>" → meth.name = "<init>" := fun q => (name_of_methodNamed B.named B.method).1.trans q
  have hsl : (lg_sl (av.map (h_rv α))).length ≤ h_nL M := by
    have : ∀ l : List Value, (lg_sl (l.map (h_rv α))).length = (lg_sl l).length := by
      intro l
      induction l with
      | nil => rfl
      | cons v l ih =>
        have h1 : ∀ (n : Nat) (a b d : Slot), (if n = 2 then [a, b] else [d]).length = if n = 2 then 2 else 1 := by
          intro n a b d
          split <;> rfl
        simp only [lg_sl, List.map_cons, List.flatMap_cons, List.length_append, h1, h_rv_cat] at ih ⊢
        omega
    rw [this]; exact hsz
  have hl := lv_entry (av.map (h_rv α)) (n := h_nL M) hsl
  rw [lg_entry_eq]
  have hla : ∀ (i : Nat) (l : List Value), lv_args i (l.map (h_rv α)) = (lv_args i l).map (fun q => (q.1, h_rv α q.2)) := by
    intro i l
    induction l generalizing i with
    | nil => rfl
    | cons v l ih => simp only [List.map_cons, lv_args, h_rv_cat, ih]
  rw [hla] at hl
  have hll : h_ll h (lv_args 0 av) := by
    have : ∀ (i : Nat) (l : List Value), h_cl h l → h_ll h (lv_args i l) := by
      intro i l
      induction l generalizing i with
      | nil => intro _ q hq; cases hq
      | cons v l ih =>
        intro c q hq
        rcases List.mem_cons.mp hq with e | e
        · rw [e]; exact h_cl_hd c
        · exact ih _ (h_cl_tl c) q e
    exact this 0 av hcl
  exact k p l e s m _ below meth c s.heap [] D α α h _ ⟨B.exec, B.bytes, hml, hown, fun w hw => hts w (List.mem_cons_of_mem _ hw), B.returns, B.notSynchronized, hin, hK, I.2.2.2.2⟩ ⟨hP, ⟨hD.1, fun k hk q => Or.inl ⟨k, hk, q, rfl⟩⟩, va_S.rf, fun k q => ⟨q, rfl⟩, hcH, hup, hK.2.2.2.1⟩ hll (fun _ hv => by cases hv) hl
end HCORE
