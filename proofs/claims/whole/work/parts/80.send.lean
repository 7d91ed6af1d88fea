/-! THE PURE PART: flow: the reference sends piece by piece, and ends -/
section SEND
def FrW (μ' μ : mS) : Prop := μ'.2 = μ.2 ∧ ∀ c, c ≠ 44 → μ'.1 c = μ.1 c
theorem FrW_r (μ : mS) : FrW μ μ := ⟨rfl, fun _ _ => rfl⟩
theorem FrW_up {a b : mS} (h : FrW b a) (f : Nat → Int32) : FrW (seti b 44 f) a := ⟨h.1, fun k h1 => (va_up_ne _ _ h1).trans (h.2 k h1)⟩
def FrM (μ' μ : mS) : Prop := μ'.2 = μ.2 ∧ ∀ c, c < 44 ∨ 48 < c → μ'.1 c = μ.1 c
theorem FrM_r (μ : mS) : FrM μ μ := ⟨rfl, fun _ _ => rfl⟩
theorem FrM_t {a b e : mS} (h : FrM b a) (g : FrM e b) : FrM e a := ⟨g.1.trans h.1, fun c h1 => (g.2 c h1).trans (h.2 c h1)⟩
theorem FrM_F {a b : mS} (h : FrF b a) : FrM b a := ⟨h.1, fun c h1 => h.2 c (by omega) (by omega)⟩
theorem FrM_W {a b : mS} (h : FrW b a) : FrM b a := ⟨h.1, fun c h1 => h.2 c (by omega)⟩
theorem FrM_up {a b : mS} (h : FrM b a) (c : Nat) (f : Nat → Int32) (h1 : 44 ≤ c) (h2 : c ≤ 48) : FrM (seti b c f) a := ⟨h.1, fun k hk => (va_up_ne _ _ (show k ≠ c by omega)).trans (h.2 k hk)⟩
theorem chp_m {μ : mS} {S : lbl} (hS : SM μ S) : ∀ (n k f : Nat) (r : Int32), k + n = 6 → n < f → Chp (cI (μ.1 46)) S.1 k r → ∃ r', f_X7_sendOne_L8 f μ r (Int32.ofNat k) = some r' ∧ Chp (cI (μ.1 46)) S.1 6 r' := by
  intro n
  induction n with
  | zero =>
    intro k f r hk hf h
    obtain ⟨f, rfl⟩ : ∃ z, f = z + 1 := ⟨f - 1, by omega⟩
    have e : k = 6 := by omega
    subst e
    exact ⟨r, by rw [f_X7_sendOne_L8, if_pos (by decide)], h⟩
  | succ n ih =>
    intro k f r hk hf h
    obtain ⟨f, rfl⟩ : ∃ z, f = z + 1 := ⟨f - 1, by omega⟩
    have hk6 : k < 6 := by omega
    have vt : vin (Int32.ofNat k) 6 = true := ofn_vin hk6 (by decide)
    have nt : (Int32.ofNat k).toNatClampNeg = k := ofn_nat (by omega)
    have vt3 : vin (Int32.ofNat (3 + k)) 9 = true := ofn_vin (by omega) (by decide)
    have nt3 : (Int32.ofNat (3 + k)).toNatClampNeg = 3 + k := ofn_nat (by omega)
    have b1 := (hS (3 + k) (by omega)).1
    rw [f_X7_sendOne_L8, if_neg (lt6 hk6)]
    simp only [vt, nt, o3, vt3, nt3, cond_true, ofn_succ, pos_le]
    by_cases c0 : 0 < (μ.1 46 k).toInt
    · rw [if_neg (fun z => z c0)]
      by_cases c1 : 1000000 ≤ μ.1 47 (3 + k)
      · have c1' : 1000000 ≤ S.1 (3 + k) := by rw [le_int, mil, b1] at c1; exact c1
        rw [if_pos c1]
        exact ih (k + 1) f r (by omega) (by omega) (Chp_no h (fun z => by omega))
      · have c1' : S.1 (3 + k) < 1000000 := by rw [le_int, mil, b1] at c1; omega
        rw [if_neg c1]
        rcases id h with ⟨z1, z2⟩ | ⟨u, z1, z2, z3, z4⟩
        · rw [if_pos (show r < 0 by rw [z1]; decide)]
          refine ih (k + 1) f _ (by omega) (by omega) (Chp_new h ⟨c0, c1'⟩ (fun u hu hr => ?_))
          exact absurd (hr.symm.trans z1) (neg1_ne u (by omega))
        · subst z2
          have vu : vin (Int32.ofNat (3 + u)) 9 = true := ofn_vin (by omega) (by decide)
          have nu : (Int32.ofNat (3 + u)).toNatClampNeg = 3 + u := ofn_nat (by omega)
          have bu := (hS (3 + u) (by omega)).1
          rw [if_neg (show ¬ Int32.ofNat u < 0 from fun z => absurd ((ofn_lt (n := u) (m := 0) (by omega) (by decide)).mp z) (Nat.not_lt_zero _))]
          simp only [o3, vu, nu, cond_true, le_int, bu, b1]
          by_cases c3 : S.1 (3 + u) ≤ S.1 (3 + k)
          · rw [if_pos c3]
            exact ih (k + 1) f _ (by omega) (by omega) (Chp_old z1 z3 z4 c3)
          · rw [if_neg c3]
            refine ih (k + 1) f _ (by omega) (by omega) (Chp_new h ⟨c0, c1'⟩ (fun u' hu' hr => ?_))
            have e1 : u = u' := (ofn_eq (by omega) (by omega)).mp hr
            rw [← e1]; omega
    · rw [if_pos c0]
      exact ih (k + 1) f r (by omega) (by omega) (Chp_no h (fun z => c0 z.1))
theorem ix3m {t m : Nat} (ht : t < 6) (hm : m < 3) : 3 * (Int32.ofNat (3 + t) - 3) + Int32.ofNat m = Int32.ofNat (3 * t + m) := by
  have e : Int32.ofNat (3 + t) - 3 = Int32.ofNat t := by
    apply eq_int.mpr
    have e3 : (3 : Int32).toInt = 3 := by decide
    have e4 : (Int32.ofNat (3 + t)).toInt = ((3 + t : Nat) : Int) := ofn_int (by omega)
    rw [sub_int (by omega) (by omega), e3, e4, ofn_int (by omega)]
    omega
  rw [e]
  exact (ix3 ht hm).2.2.2
theorem one_i : (1 : Int32).toInt = 1 := by decide
theorem nneg (n : Nat) (hn : n < 100000) : ¬ Int32.ofNat n < 0 := fun z => absurd ((ofn_lt (n := n) (m := 0) hn (by decide)).mp z) (Nat.not_lt_zero _)
theorem walk_L {d g nd x L W p : Nat → Int} {C D : Int} {ρ : Nat → Nat} {S : lbl} {μ0 : mS} (hd : ∀ i, i < 18 → 1 ≤ d i ∧ d i ≤ 30) (hg : ∀ m, m < 3 → g m ≤ 1000) (h : FI d g nd x L W C p D) (hf : LF d x L p S.1 S.2 ρ) (hS : SM μ0 S) {u : Nat} (hu : u < 6) (hw : 0 < W u) (hch : ∀ t, t < 6 → 0 < W t → S.1 (3 + u) ≤ S.1 (3 + t)) (x1 : Int32) : ∀ (K f t : Nat) (μ : mS), 2 * K < f → FrW μ μ0 → AW d g nd x L W C p S.1 S.2 D ρ u 1 (cI (μ.1 44)) t → Rm S.2 x L 1 K t → ∃ (m : Nat) (μ' : mS), f_X7_sendOne_L87 f μ x1 (Int32.ofNat (3 + t)) = some (Int32.ofNat m, μ') ∧ m < 3 ∧ FrW μ' μ0 ∧ 1 ≤ L m ∧ FI d g nd (cI (μ'.1 44)) (va_up L m (L m - 1)) (va_up W u (W u - 1)) (C + 1 * S.1 (3 + u)) (pn S.1 p (S.1 (3 + u) - D)) (S.1 (3 + u)) := by
  intro K
  induction K with
  | zero => intro f t μ _ _ _ hR; exact hR.elim
  | succ K ih =>
    intro f t μ hf' hF hA hR
    obtain ⟨f, rfl⟩ : ∃ z, f = z + 1 + 1 := ⟨f - 2, by omega⟩
    obtain ⟨m, hm, hB, hR⟩ := hR
    have ht := hA.1
    have e48 : μ.1 48 = μ0.1 48 := hF.2 48 (by decide)
    have em : μ0.1 48 (3 + t) = Int32.ofNat m := int_eq_nat ((hS (3 + t) (by omega)).2.trans hB) (by omega)
    have vt : vin (Int32.ofNat (3 + t)) 9 = true := ofn_vin (by omega) (by decide)
    have nt : (Int32.ofNat (3 + t)).toNatClampNeg = 3 + t := ofn_nat (by omega)
    have vm : vin (Int32.ofNat m) 9 = true := ofn_vin (by omega) (by decide)
    have nm : (Int32.ofNat m).toNatClampNeg = m := ofn_nat (by omega)
    obtain ⟨-, i2, i3, -⟩ := ix3 ht hm
    have i1 := ix3m ht hm
    have bd : ∀ t', t' < 6 → 0 ≤ (μ.1 44 (3 * t' + m)).toInt ∧ (μ.1 44 (3 * t' + m)).toInt ≤ 1000 := by
      intro t' ht'
      have a1 : 0 ≤ (μ.1 44 (3 * t' + m)).toInt := hA.2.1 _ (by omega)
      have a2 : (μ.1 44 (3 * t' + m)).toInt ≤ col (cI (μ.1 44)) m := x_col hA.2.1 ht' hm
      have a3 := hA.2.2.1 m hm
      have a4 := (h.2.1 m hm).1
      have a5 := hg m hm
      omega
    have b1 := bd t ht
    have o1 := one_i
    have e1 : (μ.1 44 (3 * t + m) + 1).toInt = cI (μ.1 44) (3 * t + m) + 1 := by
      rw [add_int (by omega) (by omega), one_i]; rfl
    let μ1 : mS := seti μ 44 (va_up (μ.1 44) (3 * t + m) (μ.1 44 (3 * t + m) + 1))
    have s1 : f_X7_sendOne_L87 (f + 1 + 1) μ x1 (Int32.ofNat (3 + t)) = f_X7_sendOne_L87 (f + 1) μ1 x1 (Int32.ofNat m) := by
      rw [f_X7_sendOne_L87]
      simp only [vt, nt, cond_true, e48, em]
      rw [if_neg (nneg m (by omega)), if_neg (lt3 hm)]
      simp only [i1, i2, i3, cond_true, letm]
      rfl
    have F1 : FrW μ1 μ0 := FrW_up hF _
    have x48 : μ1.1 48 = μ0.1 48 := F1.2 48 (by decide)
    rw [s1, f_X7_sendOne_L87]
    simp only [vm, nm, cond_true, x48]
    rcases hR with ⟨h1, h2⟩ | ⟨t', h1, h2, h3, h4⟩
    · have eb : (μ0.1 48 m).toInt = -1 := (hS m (by omega)).2.trans h1
      have z0 : (0 : Int32).toInt = 0 := by decide
      rw [if_pos (lt_int.mpr (by omega))]
      refine ⟨m, _, rfl, hm, F1, h2, ?_⟩
      have hA0 := LF_root hd hf ht hm hB h1
      have := AW_root h hf hu hw hch (q := 1) (by decide) (by omega) hA hm hB hA0 h2
      show FI d g nd (cI (va_up (μ.1 44) (3 * t + m) (μ.1 44 (3 * t + m) + 1))) _ _ _ _ _
      rw [cI_up, e1]
      exact this
    · have eb : μ0.1 48 m = Int32.ofNat (3 + t') := int_eq_nat ((hS m (by omega)).2.trans h2) (by omega)
      obtain ⟨-, j2, j3, -⟩ := ix3 h1 hm
      have j1 := ix3m h1 hm
      obtain ⟨s1, s2, s3⟩ := AW_step hd h hf (q := 1) (by decide) hA hm hB h1 h2 h3
      have b2 := bd t' h1
      have e2 : va_up (μ.1 44) (3 * t + m) (μ.1 44 (3 * t + m) + 1) (3 * t' + m) = μ.1 44 (3 * t' + m) := va_up_ne _ _ (by omega)
      have e3 : (μ.1 44 (3 * t' + m) - 1).toInt = cI (μ.1 44) (3 * t' + m) - 1 := by
        rw [sub_int (by omega) (by omega), one_i]; rfl
      have g3 : (3 : Int32) ≤ Int32.ofNat (3 + t') := by
        rw [show (3 : Int32) = Int32.ofNat 3 from rfl, ofn_le (by omega) (by omega)]; omega
      have x44 : μ1.1 44 = va_up (μ.1 44) (3 * t + m) (μ.1 44 (3 * t + m) + 1) := rfl
      rw [eb, if_neg (nneg (3 + t') (by omega)), if_pos g3]
      simp only [j1, j2, j3, cond_true, letm, x44, e2]
      refine ih (f + 0) t' _ (by omega) (FrW_up F1 _) ?_ h4
      show AW d g nd x L W C p S.1 S.2 D ρ u 1 (cI (va_up (va_up (μ.1 44) (3 * t + m) (μ.1 44 (3 * t + m) + 1)) (3 * t' + m) (μ.1 44 (3 * t' + m) - 1))) t'
      rw [cI_up, cI_up, e1, e3]
      exact s3
theorem send_eq {d g nd p : Nat → Int} {C D : Int} {μ : mS} (hd : ∀ i, i < 18 → 1 ≤ d i ∧ d i ≤ 30) (hg : ∀ m, m < 3 → g m ≤ 1000) (hn : ∀ t, t < 6 → nd t ≤ 1000) (h : FI d g nd (cI (μ.1 44)) (cI (μ.1 45)) (cI (μ.1 46)) C p D) (h8 : ∀ i, i < 18 → (μ.1 32 i).toInt = d i) : ∃ (r : Int32) (μ' : mS), f_X7_sendOne μ = some (r, μ') ∧ FrM μ' μ ∧ ((r = -1 ∧ FI d g nd (cI (μ'.1 44)) (cI (μ'.1 45)) (cI (μ'.1 46)) C p D ∧ Endd (cI (μ'.1 45)) (cI (μ'.1 46))) ∨ (0 ≤ r.toInt ∧ r.toInt ≤ 30 ∧ (∃ p' D', FI d g nd (cI (μ'.1 44)) (cI (μ'.1 45)) (cI (μ'.1 46)) (C + r.toInt) p' D') ∧ sm (cI (μ'.1 45)) 3 = sm (cI (μ.1 45)) 3 - 1)) := by
  obtain ⟨bL, bW, -⟩ := FI_b h hd hg hn
  obtain ⟨μ1, S, a1, a2, a3, a4, a5⟩ := far_eq hd h h8
  have e44 : μ1.1 44 = μ.1 44 := a2.2 44 (by decide) (by decide)
  have e45 : μ1.1 45 = μ.1 45 := a2.2 45 (by decide) (by decide)
  have e46 : μ1.1 46 = μ.1 46 := a2.2 46 (by decide) (by decide)
  obtain ⟨r, b1, b2⟩ := chp_m a3 6 0 4000 (-1) (by decide) (by decide) (Or.inl ⟨rfl, fun t ht => by omega⟩)
  have b1' : f_X7_sendOne_L8 4000 μ1 (-1) 0 = some r := b1
  rcases b2 with ⟨z1, z2⟩ | ⟨u, z1, z2, z3, z4⟩
  · refine ⟨-1, μ1, ?_, FrM_F a2, Or.inl ⟨rfl, by rw [e44, e45, e46]; exact h, ?_⟩⟩
    · unfold f_X7_sendOne
      rw [a1, Option.bind_some, b1', Option.bind_some, z1, if_neg (by decide)]
    · by_cases hz : ∃ m0, m0 < 3 ∧ 0 < cI (μ.1 45) m0
      · obtain ⟨m0, y1, y2⟩ := hz
        obtain ⟨ρ, y⟩ := a5 m0 y1 y2
        right
        intro t ht
        have w1 := y.2.1 t ht
        have w2 := z2 t ht
        have w3 : 0 ≤ cI (μ1.1 46) t := by rw [e46]; exact (bW t ht).1
        omega
      · left
        intro m hm
        rw [e45]
        have w1 := (bL m hm).1
        by_cases w2 : 0 < cI (μ.1 45) m
        · exact absurd ⟨m, hm, w2⟩ hz
        · omega
  · subst z2
    have hz : ∃ m0, m0 < 3 ∧ 0 < cI (μ.1 45) m0 := by
      by_cases hz : ∃ m0, m0 < 3 ∧ 0 < cI (μ.1 45) m0
      · exact hz
      · exfalso
        have := a4 (fun m hm w => hz ⟨m, hm, w⟩) u z1 (by rw [← e46]; exact z3.1)
        omega
    obtain ⟨m0, y1, y2⟩ := hz
    obtain ⟨ρ, y⟩ := a5 m0 y1 y2
    have hch : ∀ t, t < 6 → 0 < cI (μ.1 46) t → S.1 (3 + u) ≤ S.1 (3 + t) := fun t ht w => z4 t ht (by rw [e46]; exact w) (by have := y.2.1 t ht; omega)
    have hwu : 0 < cI (μ.1 46) u := by rw [← e46]; exact z3.1
    have bu : 0 < (μ.1 46 u).toInt ∧ (μ.1 46 u).toInt ≤ 1000 := ⟨hwu, (bW u z1).2⟩
    have vu : vin (Int32.ofNat u) 6 = true := ofn_vin z1 (by decide)
    have nu : (Int32.ofNat u).toNatClampNeg = u := ofn_nat (by omega)
    have v3 : vin (Int32.ofNat (3 + u)) 9 = true := ofn_vin (by omega) (by decide)
    have n3 : (Int32.ofNat (3 + u)).toNatClampNeg = 3 + u := ofn_nat (by omega)
    let μ2 : mS := seti μ1 46 (va_up (μ1.1 46) u (μ1.1 46 u - 1))
    have S2 : SM μ2 S := a3
    have A0 : AW d g nd (cI (μ.1 44)) (cI (μ.1 45)) (cI (μ.1 46)) C p S.1 S.2 D ρ u 1 (cI (μ2.1 44)) u := by
      have w : μ2.1 44 = μ.1 44 := e44
      rw [w]
      exact AW_0 h y z1 hwu 1
    obtain ⟨m, μ3, k1, k2, k3, k4, k5⟩ := walk_L hd hg h y S2 z1 hwu hch (Int32.ofNat u) 3 4000 u μ2 (by decide) (FrW_r _) A0 (way_3 hd y z1)
    have vm : vin (Int32.ofNat m) 3 = true := ofn_vin k2 (by decide)
    have nm : (Int32.ofNat m).toNatClampNeg = m := ofn_nat (by omega)
    have o1 := one_i
    have f45 : μ3.1 45 = μ.1 45 := (k3.2 45 (by decide)).trans e45
    have f46 : μ3.1 46 = va_up (μ.1 46) u (μ.1 46 u - 1) := by
      rw [k3.2 46 (by decide)]
      show va_up (μ1.1 46) u (μ1.1 46 u - 1) = _
      rw [e46]
    have f47 : μ3.1 47 = μ1.1 47 := k3.2 47 (by decide)
    have bm : 0 ≤ (μ.1 45 m).toInt ∧ (μ.1 45 m).toInt ≤ 1000 := bL m k2
    have t1 : (μ.1 45 m - 1).toInt = cI (μ.1 45) m - 1 := by
      rw [sub_int (by omega) (by omega), one_i]; rfl
    have t2 : (μ.1 46 u - 1).toInt = cI (μ.1 46) u - 1 := by
      rw [sub_int (by omega) (by omega), one_i]; rfl
    let μ4 : mS := seti μ3 45 (va_up (μ3.1 45) m (μ3.1 45 m - 1))
    have c45 : cI (μ4.1 45) = va_up (cI (μ.1 45)) m (cI (μ.1 45) m - 1) := by
      show cI (va_up (μ3.1 45) m (μ3.1 45 m - 1)) = _
      rw [f45, cI_up, t1]
    have c46 : cI (μ4.1 46) = va_up (cI (μ.1 46)) u (cI (μ.1 46) u - 1) := by
      show cI (μ3.1 46) = _
      rw [f46, cI_up, t2]
    have A1 : (μ1.1 47 (3 + u)).toInt = S.1 (3 + u) := (a3 (3 + u) (by omega)).1
    have A2 : 0 ≤ S.1 (3 + u) := by
      have w1 := (y.2.2.2.2.2 (3 + u) (by omega)).1
      have w2 := (h.2.2.2.2.2.2.2.2 (3 + u) (by omega)).1
      omega
    have A3 := y.2.1 u z1
    refine ⟨μ1.1 47 (3 + u), μ4, ?_, FrM_up (FrM_t (FrM_up (FrM_F a2) 46 _ (by decide) (by decide)) (FrM_W k3)) 45 _ (by decide) (by decide), Or.inr ⟨by omega, by omega, ⟨pn S.1 p (S.1 (3 + u) - D), S.1 (3 + u), ?_⟩, ?_⟩⟩
    · unfold f_X7_sendOne
      rw [a1, Option.bind_some, b1', Option.bind_some, if_pos (show (0 : Int32) ≤ Int32.ofNat u from (ofn_le (n := 0) (by decide) (by omega)).mpr (Nat.zero_le u))]
      simp only [vu, nu, cond_true, letm, o3, v3, n3]
      show (f_X7_sendOne_L87 4000 μ2 (Int32.ofNat u) (Int32.ofNat (3 + u))).bind _ = _
      rw [k1, Option.bind_some]
      simp only [vm, nm, cond_true]
      show some (μ3.1 47 (3 + u), μ4) = _
      rw [f47]
    · rw [c45, c46, A1]
      have := k5
      rw [Int.one_mul] at this
      exact this
    · rw [c45, sm_up _ _ _ _ k2]
      omega
theorem flow_79 {d g nd : Nat → Int} (hd : ∀ i, i < 18 → 1 ≤ d i ∧ d i ≤ 30) (hg : ∀ m, m < 3 → g m ≤ 1000) (hn : ∀ t, t < 6 → nd t ≤ 1000) : ∀ (n f : Nat) (μ : mS) (c y : Int32) (C : Int) (p : Nat → Int) (D : Int), n + 1 < f → (∀ i, i < 18 → (μ.1 32 i).toInt = d i) → FI d g nd (cI (μ.1 44)) (cI (μ.1 45)) (cI (μ.1 46)) C p D → 0 ≤ c.toInt → ((y = -1 ∧ c.toInt = C ∧ Endd (cI (μ.1 45)) (cI (μ.1 46))) ∨ (0 ≤ y.toInt ∧ c.toInt + y.toInt = C ∧ sm (cI (μ.1 45)) 3 ≤ (n : Int))) → ∃ (r : Int32) (μ' : mS), f_X7_flow_L79 f μ c y = some (r, μ') ∧ FrM μ' μ ∧ ∃ x L W p D, FI d g nd x L W r.toInt p D ∧ Endd L W := by
  intro n
  have z0 : (0 : Int32).toInt = 0 := by decide
  induction n with
  | zero =>
    intro f μ c y C p D hf h8 h hc hy
    obtain ⟨f, rfl⟩ : ∃ z, f = z + 1 + 1 := ⟨f - 2, by omega⟩
    rcases hy with ⟨y1, y2, y3⟩ | ⟨y1, y2, y3⟩
    · exact ⟨c, μ, by rw [f_X7_flow_L79, if_pos (by rw [y1]; decide)], FrM_r _, _, _, _, p, D, by rw [y2]; exact h, y3⟩
    · obtain ⟨bL, bW, bC1, bC2⟩ := FI_b h hd hg hn
      have M : (c + y).toInt = C := by rw [add_int (by omega) (by omega)]; exact y2
      obtain ⟨r, μ1, a1, a2, a3⟩ := send_eq hd hg hn h h8
      rcases a3 with ⟨w1, w2, w3⟩ | ⟨w1, w2, ⟨p', D', w3⟩, w4⟩
      · refine ⟨c + y, μ1, ?_, a2, _, _, _, p, D, by rw [M]; exact w2, w3⟩
        rw [f_X7_flow_L79, if_neg (fun z => absurd (lt_int.mp z) (by omega)), a1, Option.bind_some]
        show f_X7_flow_L79 (f + 1) μ1 (c + y) r = _
        rw [f_X7_flow_L79, if_pos (by rw [w1]; decide)]
      · exfalso
        have b := (tot_eq w3).2.2
        omega
  | succ n ih =>
    intro f μ c y C p D hf h8 h hc hy
    obtain ⟨f, rfl⟩ : ∃ z, f = z + 1 := ⟨f - 1, by omega⟩
    rcases hy with ⟨y1, y2, y3⟩ | ⟨y1, y2, y3⟩
    · exact ⟨c, μ, by rw [f_X7_flow_L79, if_pos (by rw [y1]; decide)], FrM_r _, _, _, _, p, D, by rw [y2]; exact h, y3⟩
    · obtain ⟨bL, bW, bC1, bC2⟩ := FI_b h hd hg hn
      have M : (c + y).toInt = C := by rw [add_int (by omega) (by omega)]; exact y2
      obtain ⟨r, μ1, a1, a2, a3⟩ := send_eq hd hg hn h h8
      have h8' : ∀ i, i < 18 → (μ1.1 32 i).toInt = d i := fun i hi => by rw [a2.2 32 (by decide)]; exact h8 i hi
      have fin : ∃ (r' : Int32) (μ' : mS), f_X7_flow_L79 f μ1 (c + y) r = some (r', μ') ∧ FrM μ' μ1 ∧ ∃ x L W p D, FI d g nd x L W r'.toInt p D ∧ Endd L W := by
        rcases a3 with ⟨w1, w2, w3⟩ | ⟨w1, w2, ⟨p', D', w3⟩, w4⟩
        · exact ih f μ1 (c + y) r C p D (by omega) h8' w2 (by omega) (Or.inl ⟨w1, M, w3⟩)
        · exact ih f μ1 (c + y) r _ p' D' (by omega) h8' w3 (by omega) (Or.inr ⟨w1, by rw [M], by omega⟩)
      obtain ⟨r', μ', k1, k2, k3⟩ := fin
      refine ⟨r', μ', ?_, FrM_t a2 k2, k3⟩
      rw [f_X7_flow_L79, if_neg (fun z => absurd (lt_int.mp z) (by omega)), a1, Option.bind_some]
      exact k1
theorem fl_2 : ∀ (n k f : Nat) (μ : mS), k + n = 18 → n < f → ∃ V, f_X7_flow_L2 f μ (Int32.ofNat k) = some (seti μ 44 V) ∧ (∀ j, k ≤ j → j < 18 → V j = 0) ∧ ∀ j, j < k → V j = μ.1 44 j := by
  intro n
  induction n with
  | zero =>
    intro k f μ hk hf
    obtain ⟨f, rfl⟩ : ∃ z, f = z + 1 := ⟨f - 1, by omega⟩
    have e : k = 18 := by omega
    subst e
    exact ⟨μ.1 44, by rw [f_X7_flow_L2, if_pos (by decide), seti_id], fun j h1 h2 => by omega, fun _ _ => rfl⟩
  | succ n ih =>
    intro k f μ hk hf
    obtain ⟨f, rfl⟩ : ∃ z, f = z + 1 := ⟨f - 1, by omega⟩
    have hle : ¬ (18 : Int32) ≤ Int32.ofNat k := by
      rw [show (18 : Int32) = Int32.ofNat 18 from rfl, ofn_le (by omega) (by omega)]; omega
    have vk : vin (Int32.ofNat k) 18 = true := ofn_vin (by omega) (by decide)
    have nk : (Int32.ofNat k).toNatClampNeg = k := ofn_nat (by omega)
    obtain ⟨V, v1, v2, v3⟩ := ih (k + 1) f (seti μ 44 (va_up (μ.1 44) k 0)) (by omega) (by omega)
    rw [seti_seti] at v1
    refine ⟨V, ?_, fun j h1 h2 => ?_, fun j hj => ?_⟩
    · rw [f_X7_flow_L2, if_neg hle]
      simp only [vk, nk, cond_true, letm, ofn_succ]
      exact v1
    · by_cases q : j = k
      · subst q
        have w : V j = va_up (μ.1 44) j 0 j := v3 j (by omega)
        rw [w, va_up_self]
      · exact v2 j (by omega) h2
    · have w : V j = va_up (μ.1 44) k 0 j := v3 j (by omega)
      rw [w, va_up_ne _ _ (by omega)]
theorem fl_23 : ∀ (n k f : Nat) (μ : mS), k + n = 3 → n < f → ∃ V, f_X7_flow_L23 f μ (Int32.ofNat k) = some (seti μ 45 V) ∧ (∀ j, k ≤ j → j < 3 → V j = μ.1 42 j) ∧ ∀ j, j < k → V j = μ.1 45 j := by
  intro n
  induction n with
  | zero =>
    intro k f μ hk hf
    obtain ⟨f, rfl⟩ : ∃ z, f = z + 1 := ⟨f - 1, by omega⟩
    have e : k = 3 := by omega
    subst e
    exact ⟨μ.1 45, by rw [f_X7_flow_L23, if_pos (by decide), seti_id], fun j h1 h2 => by omega, fun _ _ => rfl⟩
  | succ n ih =>
    intro k f μ hk hf
    obtain ⟨f, rfl⟩ : ∃ z, f = z + 1 := ⟨f - 1, by omega⟩
    have vk : vin (Int32.ofNat k) 3 = true := ofn_vin (by omega) (by decide)
    have nk : (Int32.ofNat k).toNatClampNeg = k := ofn_nat (by omega)
    obtain ⟨V, v1, v2, v3⟩ := ih (k + 1) f (seti μ 45 (va_up (μ.1 45) k (μ.1 42 k))) (by omega) (by omega)
    rw [seti_seti] at v1
    refine ⟨V, ?_, fun j h1 h2 => ?_, fun j hj => ?_⟩
    · rw [f_X7_flow_L23, if_neg (lt3 (by omega))]
      simp only [vk, nk, cond_true, letm, ofn_succ]
      exact v1
    · by_cases q : j = k
      · subst q
        have w : V j = va_up (μ.1 45) j (μ.1 42 j) j := v3 j (by omega)
        rw [w, va_up_self]
      · exact v2 j (by omega) h2
    · have w : V j = va_up (μ.1 45) k (μ.1 42 k) j := v3 j (by omega)
      rw [w, va_up_ne _ _ (by omega)]
theorem fl_48 : ∀ (n k f : Nat) (μ : mS), k + n = 6 → n < f → ∃ V, f_X7_flow_L48 f μ (Int32.ofNat k) = some (seti μ 46 V) ∧ (∀ j, k ≤ j → j < 6 → V j = μ.1 43 j) ∧ ∀ j, j < k → V j = μ.1 46 j := by
  intro n
  induction n with
  | zero =>
    intro k f μ hk hf
    obtain ⟨f, rfl⟩ : ∃ z, f = z + 1 := ⟨f - 1, by omega⟩
    have e : k = 6 := by omega
    subst e
    exact ⟨μ.1 46, by rw [f_X7_flow_L48, if_pos (by decide), seti_id], fun j h1 h2 => by omega, fun _ _ => rfl⟩
  | succ n ih =>
    intro k f μ hk hf
    obtain ⟨f, rfl⟩ : ∃ z, f = z + 1 := ⟨f - 1, by omega⟩
    have vk : vin (Int32.ofNat k) 6 = true := ofn_vin (by omega) (by decide)
    have nk : (Int32.ofNat k).toNatClampNeg = k := ofn_nat (by omega)
    obtain ⟨V, v1, v2, v3⟩ := ih (k + 1) f (seti μ 46 (va_up (μ.1 46) k (μ.1 43 k))) (by omega) (by omega)
    rw [seti_seti] at v1
    refine ⟨V, ?_, fun j h1 h2 => ?_, fun j hj => ?_⟩
    · rw [f_X7_flow_L48, if_neg (lt6 (by omega))]
      simp only [vk, nk, cond_true, letm, ofn_succ]
      exact v1
    · by_cases q : j = k
      · subst q
        have w : V j = va_up (μ.1 46) j (μ.1 43 j) j := v3 j (by omega)
        rw [w, va_up_self]
      · exact v2 j (by omega) h2
    · have w : V j = va_up (μ.1 46) k (μ.1 43 k) j := v3 j (by omega)
      rw [w, va_up_ne _ _ (by omega)]
/-- the reference's flow -/
theorem flow_m {d g nd : Nat → Int} (hd : ∀ i, i < 18 → 1 ≤ d i ∧ d i ≤ 30) (hg : ∀ m, m < 3 → 0 ≤ g m ∧ g m ≤ 1000) (hn : ∀ t, t < 6 → 0 ≤ nd t ∧ nd t ≤ 1000) {μ : mS} (h8 : ∀ i, i < 18 → (μ.1 32 i).toInt = d i) (h42 : ∀ m, m < 3 → (μ.1 42 m).toInt = g m) (h43 : ∀ t, t < 6 → (μ.1 43 t).toInt = nd t) : ∃ (r : Int32) (μ' : mS), f_X7_flow μ = some (r, μ') ∧ FrM μ' μ ∧ ∃ x L W p D, FI d g nd x L W r.toInt p D ∧ Endd L W := by
  obtain ⟨V1, v1, v2, -⟩ := fl_2 18 0 4000 μ (by decide) (by decide)
  obtain ⟨V2, w1, w2, -⟩ := fl_23 3 0 4000 (seti μ 44 V1) (by decide) (by decide)
  obtain ⟨V3, u1, u2, -⟩ := fl_48 6 0 4000 (seti (seti μ 44 V1) 45 V2) (by decide) (by decide)
  have v1' : f_X7_flow_L2 4000 μ 0 = some (seti μ 44 V1) := v1
  have w1' : f_X7_flow_L23 4000 (seti μ 44 V1) 0 = some (seti (seti μ 44 V1) 45 V2) := w1
  have u1' : f_X7_flow_L48 4000 (seti (seti μ 44 V1) 45 V2) 0 = some (seti (seti (seti μ 44 V1) 45 V2) 46 V3) := u1
  let μ3 : mS := seti (seti (seti μ 44 V1) 45 V2) 46 V3
  have c45 : ∀ m, m < 3 → cI (μ3.1 45) m = g m := by
    intro m hm
    show (V2 m).toInt = g m
    rw [w2 m (Nat.zero_le _) hm]
    exact h42 m hm
  have c46 : ∀ t, t < 6 → cI (μ3.1 46) t = nd t := by
    intro t ht
    show (V3 t).toInt = nd t
    rw [u2 t (Nat.zero_le _) ht]
    exact h43 t ht
  have c44 : ∀ i, i < 18 → cI (μ3.1 44) i = 0 := by
    intro i hi
    show (V1 i).toInt = 0
    rw [v2 i (Nat.zero_le _) hi]; rfl
  have h0 : FI d g nd (cI (μ3.1 44)) (cI (μ3.1 45)) (cI (μ3.1 46)) 0 (fun _ => 0) 0 := FI_0 hd (fun m hm => (hg m hm).1) (fun t ht => (hn t ht).1) c44 c45 c46
  have hs : sm (cI (μ3.1 45)) 3 ≤ 3000 := by
    have a := sm_le (f := cI (μ3.1 45)) (g := fun _ => 1000) 3 (fun m hm => by rw [c45 m hm]; exact (hg m hm).2)
    have e : sm (fun _ => (1000 : Int)) 3 = 3000 := by decide
    omega
  have hg' : ∀ m, m < 3 → g m ≤ 1000 := fun m hm => (hg m hm).2
  have hn' : ∀ t, t < 6 → nd t ≤ 1000 := fun t ht => (hn t ht).2
  have f3 : FrM μ3 μ := FrM_up (FrM_up (FrM_up (FrM_r μ) 44 _ (by decide) (by decide)) 45 _ (by decide) (by decide)) 46 _ (by decide) (by decide)
  have h83 : ∀ i, i < 18 → (μ3.1 32 i).toInt = d i := h8
  obtain ⟨r, μ4, a1, a2, a3⟩ := send_eq hd hg' hn' h0 h83
  have h84 : ∀ i, i < 18 → (μ4.1 32 i).toInt = d i := fun i hi => by rw [a2.2 32 (by decide)]; exact h83 i hi
  have fin : ∃ (r' : Int32) (μ' : mS), f_X7_flow_L79 4000 μ4 0 r = some (r', μ') ∧ FrM μ' μ4 ∧ ∃ x L W p D, FI d g nd x L W r'.toInt p D ∧ Endd L W := by
    have z0 : (0 : Int32).toInt = 0 := by decide
    rcases a3 with ⟨w1, w2, w3⟩ | ⟨w1, w2, ⟨p', D', w3⟩, w4⟩
    · exact flow_79 hd hg' hn' 3000 4000 μ4 0 r _ _ _ (by decide) h84 w2 (by decide) (Or.inl ⟨w1, z0, w3⟩)
    · exact flow_79 hd hg' hn' 3000 4000 μ4 0 r _ p' D' (by decide) h84 w3 (by decide) (Or.inr ⟨w1, by rw [z0], by omega⟩)
  obtain ⟨r', μ', k1, k2, k3⟩ := fin
  refine ⟨r', μ', ?_, FrM_t (FrM_t f3 a2) k2, k3⟩
  unfold f_X7_flow
  rw [v1', Option.bind_some, w1', Option.bind_some, u1', Option.bind_some, a1, Option.bind_some]
  show (f_X7_flow_L79 4000 μ4 0 r).bind _ = _
  rw [k1]; rfl
end SEND
