/-! THE LAW FROM ITS ENTRY: the tables' facts, the constants, the two constructors, the loop -/
section START
def unct : FieldType → Option Nat
  | .object n => if n = "#C" then some 0 else none
  | .array t => (unct t).map (· + 1)
  | _ => none
theorem unct_ct : ∀ i : Nat, unct (h_ct i) = some i
  | 0 => by simp [unct, h_ct]
  | n + 1 => by
    show (unct (h_ct n)).map (· + 1) = some (n + 1)
    rw [unct_ct n]
    rfl
def stD (dC : Nat → ClassId) (dI : Nat → Nat → Nat) (cst : Nat → Nat) (B c0 c1 c2 c3 c4 c5 c6 c7 : Nat) : hG := ((dC, dI), fun t => match unct t with
  | some i => cst i
  | none => if t = .int then c0 else if t = .long then c1 else if t = .byte then c2 else if t = .boolean then c3 else if t = .object RX4 then c4 else if t = .object RX1 then c5 else if t = .object RX2 then c6 else if t = .object RX3 then c7 else if t = .object "#B" then B else 0)
theorem st_prim {s : State} {args : Array Value} {ty : FieldType} (h : (Cond.arrayClass ty).before args s = true) : ∃ cA : ClassId, ArrOfT s cA ty ∧ s.vm.findClass ("[" ++ ty.toString) = some cA := by
  obtain ⟨cA, kA, comp, h1, h2, h3⟩ := Cond.arrayClass_spec h
  exact ⟨cA, fun n z => ⟨fun k h => (by cases h), kA, h2, comp, h3⟩, h1⟩
theorem st_obj {s : State} {args : Array Value} {K : String} (h : (Cond.arrayOver (.object K)).before args s = true) : ∃ cA : ClassId, ArrOfT s cA (.object K) ∧ va_RA s cA (.object K) := by
  obtain ⟨comp, cA, k, h1, h2, h3, h4, h5⟩ := Cond.arrayOver_spec h
  exact ⟨cA, fun n z => ⟨fun k h => (by cases h), k, h3, comp, h4⟩, k, comp, h3, h4, h1, h5⟩
theorem st_cls {s : State} {args : Array Value} (hts : ∀ w ∈ lw_tbl, w.before args s = true) : ∃ (dC : Nat → ClassId) (dI : Nat → Nat → Nat), ∀ (k : Nat) (q : vw_C), vwCl[k]? = some q → u_Kn s q.1 q.2.1 q.2.2 (dC k) (dI k) := by
  have h0 : ∀ k : Nat, ∃ x : ClassId × (Nat → Nat), ∀ q : vw_C, vwCl[k]? = some q → u_Kn s q.1 q.2.1 q.2.2 x.1 x.2 := by
    intro k
    cases hq : vwCl[k]? with
    | none => exact ⟨(0, fun _ => 0), fun q h => by cases h⟩
    | some q =>
      obtain ⟨K, TT, N⟩ := q
      have hck := h_cls k K TT N hq
      obtain ⟨cC, iS, hKn⟩ := u_known (C := K) (T := TT) (N := N) (n := N) hts hck.1 (hts _ hck.2.2.2.1)
      exact ⟨(cC, iS), fun q h => by cases h; exact hKn⟩
  obtain ⟨x, hx⟩ := Classical.axiomOfChoice h0
  exact ⟨fun k => (x k).1, fun k => (x k).2, hx⟩
def tmS (i : Nat) : Term := .string "NewSilver$Tape" ([39, 56, 62, 72].getD i 0)
abbrev prS : List Cond := flatC (Jvm.Cond.and given_1 narrow_1)
theorem sx_1 : ∀ i : Nat, i < 4 → Cond.exactly (tmS i) "java/lang/String" ∈ prS := by decide +kernel
theorem sx_2 : ∀ i : Nat, i < 4 → Cond.eq (.field (tmS i) "java/lang/String" "coder" "B") (.int 0) ∈ prS := by decide +kernel
theorem sx_3 : ∀ i : Nat, i < 4 → Cond.arrayOf (.field (tmS i) "java/lang/String" "value" "[B") .byte ∈ prS := by decide +kernel
theorem sx_4 : ∀ i : Nat, i < 4 → Cond.eq (.length (.field (tmS i) "java/lang/String" "value" "[B")) (.int (Int32.ofNat (h_len.getD i 0))) ∈ prS := by decide +kernel
theorem sx_5 : ∀ i : Nat, i < 4 → ∀ j : Nat, j < h_len.getD i 0 → Cond.eq (.elem (.field (tmS i) "java/lang/String" "value" "[B") (.int (Int32.ofNat j))) (.int ((h_byt.getD i []).getD j 0)) ∈ prS := by decide +kernel
theorem sx_6 : ∀ i : Nat, i < 4 → ∀ j : Nat, j < 4 → i ≠ j → (Cond.not (Cond.eq (tmS i) (tmS j)) ∈ prS ∨ Cond.not (Cond.eq (tmS j) (tmS i)) ∈ prS) := by decide +kernel
theorem sx_7 : Cond.eq (.static "java/lang/String" "COMPACT_STRINGS" "Z") (.int 1) ∈ prS ∧ Cond.isRef (.static "jdk/internal/util/Preconditions" "SIOOBE_FORMATTER" "Ljava/util/function/BiFunction;") ∈ prS := by decide +kernel
theorem sx_8 : ∀ i : Nat, i < 4 → h_len.getD i 0 < 2 ^ 31 := by decide +kernel
theorem st_nest : ∀ q ∈ h_nest, Cond.methodLinkNest q.1 q.2.1 q.2.2.1 q.2.2.2 ∈ lw_tbl := by decide +kernel
theorem st_w1 : Cond.arrayClass .int ∈ lw_tbl ∧ Cond.arrayClass .long ∈ lw_tbl ∧ Cond.arrayClass .byte ∈ lw_tbl ∧ Cond.arrayClass .boolean ∈ lw_tbl := ⟨ka_int, ka_long, ka_byte, ka_boolean⟩
theorem st_w2 : Cond.arrayOver (.object RX4) ∈ lw_tbl ∧ Cond.arrayOver (.object RX1) ∈ lw_tbl ∧ Cond.arrayOver (.object RX2) ∈ lw_tbl ∧ Cond.arrayOver (.object RX3) ∈ lw_tbl := ⟨List.mem_of_getElem? (i := 74) (by decide +kernel), List.mem_of_getElem? (i := 76) (by decide +kernel), List.mem_of_getElem? (i := 78) (by decide +kernel), List.mem_of_getElem? (i := 107) (by decide +kernel)⟩
theorem st_w3 : Cond.stringRef RX5 39 ";" ∈ lw_tbl ∧ Cond.stringRef RX5 56 " is " ∈ lw_tbl ∧ Cond.stringRef RX5 62 "out" ∈ lw_tbl ∧ Cond.stringRef RX5 72 " by weight " ∈ lw_tbl := ⟨List.mem_of_getElem? (i := 398) (by decide +kernel), List.mem_of_getElem? (i := 464) (by decide +kernel), List.mem_of_getElem? (i := 465) (by decide +kernel), List.mem_of_getElem? (i := 474) (by decide +kernel)⟩
theorem st_w4 : Cond.laysStatic "java/lang/String" "COMPACT_STRINGS" "Z" ∈ lw_tbl ∧ Cond.laysStatic "jdk/internal/util/Preconditions" "SIOOBE_FORMATTER" "Ljava/util/function/BiFunction;" ∈ lw_tbl ∧ Cond.initialized "java/lang/String" ∈ lw_tbl ∧ Cond.initialized "jdk/internal/util/Preconditions" ∈ lw_tbl ∧ Cond.castable "[I" "java/lang/Cloneable" ∈ lw_tbl := ⟨List.mem_of_getElem? (i := 412) (by decide +kernel), List.mem_of_getElem? (i := 428) (by decide +kernel), List.mem_of_getElem? (i := 58) (by decide +kernel), List.mem_of_getElem? (i := 60) (by decide +kernel), List.mem_of_getElem? (i := 488) (by decide +kernel)⟩
set_option maxHeartbeats 4000000 in
set_option maxRecDepth 100000 in
theorem st_ctx {p : Program} {s : State} {m : MethodId} {meth : Method} {c : Code} {b L : Nat} {xs : Nat → Int32} (C0 : lw_At p s m meth c b L xs) : ∃ D : hG, h_LC p s m meth c b L xs D ∧ h_B D = s.heap.size := by
  obtain ⟨hx, hb, hr, hml, hown, hts, hX, hbl, hlocks, hgv⟩ := id C0
  have hfl := flat_of_before _ hgv
  have hA : ∀ a : Nat, a < s.heap.size → ¬ (fun q : Nat => s.heap.size ≤ q) a := fun a h => Nat.not_le.mpr h
  obtain ⟨dC, dI, hcls⟩ := st_cls hts
  obtain ⟨c0, a0, n0⟩ := st_prim (hts _ st_w1.1)
  obtain ⟨c1, a1, n1⟩ := st_prim (hts _ st_w1.2.1)
  obtain ⟨c2, a2, n2⟩ := st_prim (hts _ st_w1.2.2.1)
  obtain ⟨c3, a3, n3⟩ := st_prim (hts _ st_w1.2.2.2)
  obtain ⟨c4, a4, n4⟩ := st_obj (hts _ st_w2.1)
  obtain ⟨c5, a5, n5⟩ := st_obj (hts _ st_w2.2.1)
  obtain ⟨c6, a6, n6⟩ := st_obj (hts _ st_w2.2.2.1)
  obtain ⟨c7, a7, n7⟩ := st_obj (hts _ st_w2.2.2.2)
  obtain ⟨adK, adV, hS, hE⟩ := vk_Sof (args := #[Value.ref b]) (s := s) (N := 4) (tm := tmS) (len := h_len) (byt := h_byt) (A := fun q => s.heap.size ≤ q) sx_8 (fun i hi => hfl _ (sx_1 i hi)) (fun i hi => hfl _ (sx_2 i hi)) (fun i hi => hfl _ (sx_3 i hi)) (fun i hi => hfl _ (sx_4 i hi)) (fun i hi j hj => hfl _ (sx_5 i hi j hj)) (fun i j hi hj hn => (sx_6 i hi j hj hn).imp (hfl _) (hfl _)) hA
  have hZ := va_Zof (hts _ st_w4.1) (hts _ st_w4.2.2.1) (va_eqi (hfl _ sx_7.1)) hA
  have hZq := va_Zqof (hts _ st_w4.2.1) (hts _ st_w4.2.2.2.1) (hfl _ sx_7.2) hA
  obtain ⟨tF, hF⟩ : ∃ tF : Nat, va_Z "jdk/internal/util/Preconditions" "SIOOBE_FORMATTER" "Ljava/util/function/BiFunction;" .null (fun q => s.heap.size ≤ q) s s.heap ∨ va_Z "jdk/internal/util/Preconditions" "SIOOBE_FORMATTER" "Ljava/util/function/BiFunction;" (.ref tF) (fun q => s.heap.size ≤ q) s s.heap := by
    rcases hZq with h | ⟨t, h⟩
    · exact ⟨0, Or.inl h⟩
    · exact ⟨t, Or.inr h⟩
  obtain ⟨cst, hcst⟩ : ∃ cst : Nat → Nat, cst = fun i => if i < 10 then adK i else if i < 20 then adV (i - 10) else if i = 20 then tF else if i = 30 then b else 0 := ⟨_, rfl⟩
  obtain ⟨D, hD⟩ : ∃ D : hG, D = stD dC dI cst s.heap.size c0 c1 c2 c3 c4 c5 c6 c7 := ⟨_, rfl⟩
  have hcn : ∀ i : Nat, h_cn D i = cst i := fun i => by
    rw [hD]
    show (match unct (h_ct i) with | some i => cst i | none => _) = cst i
    rw [unct_ct i]
  have hB : h_B D = s.heap.size := by rw [hD]; simp [h_B, stD, unct, RX4, RX1, RX2, RX3]
  have e0 : D.2 .int = c0 := by rw [hD]; simp [stD, unct]
  have e1 : D.2 .long = c1 := by rw [hD]; simp [stD, unct]
  have e2 : D.2 .byte = c2 := by rw [hD]; simp [stD, unct]
  have e3 : D.2 .boolean = c3 := by rw [hD]; simp [stD, unct]
  have e4 : D.2 (.object RX4) = c4 := by rw [hD]; simp [stD, unct, RX4]
  have e5 : D.2 (.object RX1) = c5 := by rw [hD]; simp [stD, unct, RX4, RX1]
  have e6 : D.2 (.object RX2) = c6 := by rw [hD]; simp [stD, unct, RX4, RX1, RX2]
  have e7 : D.2 (.object RX3) = c7 := by rw [hD]; simp [stD, unct, RX4, RX1, RX2, RX3]
  have eD : D.1 = (dC, dI) := by rw [hD]; rfl
  have eK : ∀ i : Nat, i < 4 → h_sK D i = adK i := fun i hi => by
    show h_cn D i = _
    rw [hcn, hcst]
    show (if i < 10 then adK i else _) = _
    rw [if_pos (by omega)]
  have eV : ∀ i : Nat, i < 4 → h_sV D i = adV i := fun i hi => by
    show h_cn D (10 + i) = _
    rw [hcn, hcst]
    show (if 10 + i < 10 then _ else if 10 + i < 20 then adV (10 + i - 10) else _) = _
    rw [if_neg (by omega), if_pos (by omega), Nat.add_sub_cancel_left]
  have eF : h_cn D 20 = tF := by rw [hcn, hcst]; rfl
  have eb : h_cn D 30 = b := by rw [hcn, hcst]; rfl
  refine ⟨D, ⟨C0, ⟨⟨?_, ?_⟩, ?_, ?_, ?_⟩, eb⟩, hB⟩
  · rw [eD]; exact hcls
  · intro k q hq
    match k, hq with
    | 0, hq => cases hq; dsimp only; rw [e0]; exact ⟨a0, n0⟩
    | 1, hq => cases hq; dsimp only; rw [e1]; exact ⟨a1, n1⟩
    | 2, hq => cases hq; dsimp only; rw [e2]; exact ⟨a2, n2⟩
    | 3, hq => cases hq; dsimp only; rw [e3]; exact ⟨a3, n3⟩
    | 4, hq => cases hq; dsimp only; rw [e4]; exact ⟨a4, n4⟩
    | 5, hq => cases hq; dsimp only; rw [e5]; exact ⟨a5, n5⟩
    | 6, hq => cases hq; dsimp only; rw [e6]; exact ⟨a6, n6⟩
    | 7, hq => cases hq; dsimp only; rw [e7]; exact ⟨a7, n7⟩
    | k + 8, hq => simp [h_tys] at hq
  · intro q hq
    exact va_Nw.of rfl (hts _ (st_nest q hq))
  · intro K hK
    simp only [List.mem_cons, List.not_mem_nil, or_false] at hK
    rcases hK with rfl | rfl | rfl | rfl
    · exact va_AO.of (hts _ st_w2.1)
    · exact va_AO.of (hts _ st_w2.2.1)
    · exact va_AO.of (hts _ st_w2.2.2.1)
    · exact va_AO.of (hts _ st_w2.2.2.2)
  · refine ⟨by rw [hB]; exact Nat.le_refl _, ?_, ⟨?_, ?_, ?_, ?_⟩, ?_, ?_, va_Nw.of rfl (hts _ st_w4.2.2.2.2)⟩
    · rw [hB]
      exact ⟨fun i hi => by rw [eK i hi, eV i hi]; exact hS.1 i hi, fun i j hi hj q => hS.2 i j hi hj (by rw [← eK i hi, ← eK j hj]; exact q)⟩
    · rw [eK 0 (by decide)]; exact vk_R.of (hts _ st_w3.1) (hE 0 (by decide))
    · rw [eK 1 (by decide)]; exact vk_R.of (hts _ st_w3.2.1) (hE 1 (by decide))
    · rw [eK 2 (by decide)]; exact vk_R.of (hts _ st_w3.2.2.1) (hE 2 (by decide))
    · rw [eK 3 (by decide)]; exact vk_R.of (hts _ st_w3.2.2.2) (hE 3 (by decide))
    · rw [hB]; exact hZ
    · rw [hB, eF]; exact hF
end START
