/-! THE PURE PART: flow: the class carries by a way, and ends -/
section CARRY
def FrC (σ' σ : xS) : Prop := σ'.2 = σ.2 ∧ ∀ c, c ≠ 42 → σ'.1 c = σ.1 c
theorem FrC_r (σ : xS) : FrC σ σ := ⟨rfl, fun _ _ => rfl⟩
theorem FrC_up {a b : xS} (h : FrC b a) (f : Nat → Int32) : FrC (xi b 42 f) a := ⟨h.1, fun k h1 => (xi_ne h1).trans (h.2 k h1)⟩
def FrX (σ' σ : xS) : Prop := σ'.2 = σ.2 ∧ ∀ c, c < 40 ∨ 46 < c → σ'.1 c = σ.1 c
theorem FrX_t {a b e : xS} (h : FrX b a) (g : FrX e b) : FrX e a := ⟨g.1.trans h.1, fun c h1 => (g.2 c h1).trans (h.2 c h1)⟩
theorem FrX_L {a b : xS} (h : FrL b a) : FrX b a := ⟨h.1, fun c h1 => h.2 c (by omega) (by omega) (by omega) (by omega)⟩
theorem FrX_C {a b : xS} (h : FrC b a) : FrX b a := ⟨h.1, fun c h1 => h.2 c (by omega)⟩
theorem FrX_r (σ : xS) : FrX σ σ := ⟨rfl, fun _ _ => rfl⟩
theorem FrX_up {a b : xS} (h : FrX b a) (c : Nat) (f : Nat → Int32) (h1 : 40 ≤ c) (h2 : c ≤ 46) : FrX (xi b c f) a := ⟨h.1, fun k hk => (xi_ne (by omega)).trans (h.2 k hk)⟩
theorem x_col {x : Nat → Int} (h : ∀ i, i < 18 → 0 ≤ x i) {t m : Nat} (ht : t < 6) (hm : m < 3) : x (3 * t + m) ≤ col x m := sm_ge (f := fun t => x (3 * t + m)) 6 (fun k hk => h _ (by omega)) t ht
theorem LF_root {d x L p A B : Nat → Int} {ρ : Nat → Nat} (hd : ∀ i, i < 18 → 1 ≤ d i ∧ d i ≤ 30) (hf : LF d x L p A B ρ) {t m : Nat} (ht : t < 6) (hm : m < 3) (hB : B (3 + t) = (m : Int)) (h : B m = -1) : A m = 0 := by
  obtain ⟨f1, f2, f3, f4, f5, f6⟩ := hf
  obtain ⟨m', q1, q2, q3, q4⟩ := f4 t ht
  have e : m' = m := by
    have : (m' : Int) = (m : Int) := q2.symm.trans hB
    omega
  subst e
  have := f2 t ht
  have := hd (3 * t + m') (by omega)
  rcases f5 m' hm (by omega) with ⟨_, y, _⟩ | ⟨t', y1, y2, _⟩
  · exact y
  · omega
theorem carry_L {d g nd x L W p : Nat → Int} {C D : Int} {ρ : Nat → Nat} {S : lbl} {σ0 : xS} (hd : ∀ i, i < 18 → 1 ≤ d i ∧ d i ≤ 30) (hg : ∀ m, m < 3 → g m ≤ 1000) (h : FI d g nd x L W C p D) (hf : LF d x L p S.1 S.2 ρ) (hS : SX σ0 S) {u : Nat} (hu : u < 6) (hw : 0 < W u) (hch : ∀ t, t < 6 → 0 < W t → S.1 (3 + u) ≤ S.1 (3 + t)) {q : Int32} (hq : 0 < q.toInt) (hqw : q.toInt ≤ W u) (hq1 : q.toInt ≤ 1000) : ∀ (K n f t : Nat) (σ : xS), n + K = 3 → K < f → FrC σ σ0 → AW d g nd x L W C p S.1 S.2 D ρ u q.toInt (cI (σ.1 42)) t → Rm S.2 x L q.toInt K t → ∃ (m : Nat) (σ' : xS), f_X0_carry_L15 f σ q (Int32.ofNat t) (Int32.ofNat n) = some (2, Int32.ofNat m, σ') ∧ m < 3 ∧ FrC σ' σ0 ∧ q.toInt ≤ L m ∧ FI d g nd (cI (σ'.1 42)) (va_up L m (L m - q.toInt)) (va_up W u (W u - q.toInt)) (C + q.toInt * S.1 (3 + u)) (pn S.1 p (S.1 (3 + u) - D)) (S.1 (3 + u)) := by
  intro K
  induction K with
  | zero => intro n f t σ _ _ _ _ hR; exact hR.elim
  | succ K ih =>
    intro n f t σ hn hf' hF hA hR
    obtain ⟨f, rfl⟩ : ∃ z, f = z + 1 := ⟨f - 1, by omega⟩
    obtain ⟨m, hm, hB, hR⟩ := hR
    have ht := hA.1
    have em : σ.1 46 t = Int32.ofNat m := by rw [hF.2 46 (by decide)]; exact SX_m hS ht hB
    have e45 : σ.1 45 = σ0.1 45 := hF.2 45 (by decide)
    have vt : vin (Int32.ofNat t) 6 = true := ofn_vin ht (by decide)
    have nt : (Int32.ofNat t).toNatClampNeg = t := ofn_nat (by omega)
    have vm : vin (Int32.ofNat m) 3 = true := ofn_vin hm (by decide)
    have nm : (Int32.ofNat m).toNatClampNeg = m := ofn_nat (by omega)
    obtain ⟨i1, i2, i3, -⟩ := ix3 ht hm
    have bd : ∀ t', t' < 6 → 0 ≤ (σ.1 42 (3 * t' + m)).toInt ∧ (σ.1 42 (3 * t' + m)).toInt ≤ 1000 := by
      intro t' ht'
      have a1 : 0 ≤ (σ.1 42 (3 * t' + m)).toInt := hA.2.1 _ (by omega)
      have a2 : (σ.1 42 (3 * t' + m)).toInt ≤ col (cI (σ.1 42)) m := x_col hA.2.1 ht' hm
      have a3 := hA.2.2.1 m hm
      have a4 := (h.2.1 m hm).1
      have a5 := hg m hm
      omega
    have b1 := bd t ht
    have e1 : (σ.1 42 (3 * t + m) + q).toInt = cI (σ.1 42) (3 * t + m) + q.toInt := add_int (by omega) (by omega)
    have x45 : ∀ V, (xi σ 42 V).1 45 = σ0.1 45 := fun V => e45
    have x42 : ∀ V, (xi σ 42 V).1 42 = V := fun V => rfl
    rw [f_X0_carry_L15, if_neg (lt3 (show n < 3 by omega))]
    simp only [vt, nt, cond_true, em, mint_b hm, Option.bind_some, i10, if_false, vm, nm, i1, i2, i3, letm, x45, x42]
    rcases hR with ⟨h1, h2⟩ | ⟨t', h1, h2, h3, h4⟩
    · rw [SX_r hS hm h1, town_n, Option.bind_some, if_pos rfl]
      refine ⟨m, _, rfl, hm, FrC_up hF _, h2, ?_⟩
      have hA0 := LF_root hd hf ht hm hB h1
      have := AW_root h hf hu hw hch hq hqw hA hm hB hA0 h2
      show FI d g nd (cI (va_up (σ.1 42) (3 * t + m) (σ.1 42 (3 * t + m) + q))) _ _ _ _ _
      rw [cI_up, e1]
      exact this
    · obtain ⟨j1, j2, j3, -⟩ := ix3 h1 hm
      obtain ⟨s1, s2, s3⟩ := AW_step hd h hf hq hA hm hB h1 h2 h3
      have b2 := bd t' h1
      have e2 : va_up (σ.1 42) (3 * t + m) (σ.1 42 (3 * t + m) + q) (3 * t' + m) = σ.1 42 (3 * t' + m) := va_up_ne _ _ (by omega)
      have e3 : (σ.1 42 (3 * t' + m) - q).toInt = cI (σ.1 42) (3 * t' + m) - q.toInt := sub_int (by omega) (by omega)
      rw [SX_t hS hm h2, town_b h1, Option.bind_some, if_neg (by decide)]
      simp only [j1, j2, j3, cond_true, ofn_succ, e2]
      refine ih (n + 1) f t' _ (by omega) (by omega) (FrC_up (FrC_up hF _) _) ?_ h4
      show AW d g nd x L W C p S.1 S.2 D ρ u q.toInt (cI (va_up (va_up (σ.1 42) (3 * t + m) (σ.1 42 (3 * t + m) + q)) (3 * t' + m) (σ.1 42 (3 * t' + m) - q))) t'
      rw [cI_up, cI_up, e1, e3]
      exact s3
theorem FI_b {d g nd x L W p : Nat → Int} {C D : Int} (h : FI d g nd x L W C p D) (hd : ∀ i, i < 18 → 1 ≤ d i ∧ d i ≤ 30) (hg : ∀ m, m < 3 → g m ≤ 1000) (hn : ∀ t, t < 6 → nd t ≤ 1000) : (∀ m, m < 3 → 0 ≤ L m ∧ L m ≤ 1000) ∧ (∀ t, t < 6 → 0 ≤ W t ∧ W t ≤ 1000) ∧ 0 ≤ C ∧ C ≤ 180000 := by
  obtain ⟨h1, h2, h3, h4, -⟩ := h
  refine ⟨fun m hm => ?_, fun t ht => ?_, ?_⟩
  · have a1 := h2 m hm
    have a2 := col_nn h1 hm
    have a3 := hg m hm
    omega
  · have a1 := h3 t ht
    have a2 := row_nn h1 ht
    have a3 := hn t ht
    omega
  · have c := CS_nn h1 hd
    have s : sm (fun t => row x t) 6 ≤ sm (fun _ => 1000) 6 := sm_le 6 (fun t ht => by
      have a1 := h3 t ht
      have a3 := hn t ht
      show row x t ≤ 1000
      omega)
    have e : sm (fun _ => (1000 : Int)) 6 = 6000 := by decide
    omega
theorem carry_eq {d g nd p : Nat → Int} {C D : Int} {ρ : Nat → Nat} {S : lbl} {σ : xS} (hd : ∀ i, i < 18 → 1 ≤ d i ∧ d i ≤ 30) (hg : ∀ m, m < 3 → g m ≤ 1000) (hn : ∀ t, t < 6 → nd t ≤ 1000) (h : FI d g nd (cI (σ.1 42)) (cI (σ.1 40)) (cI (σ.1 41)) C p D) (hf : LF d (cI (σ.1 42)) (cI (σ.1 40)) p S.1 S.2 ρ) (hS : SX σ S) {u : Nat} (hu : u < 6) (hch : ∀ t, t < 6 → 0 < cI (σ.1 41) t → S.1 (3 + u) ≤ S.1 (3 + t)) {q : Int32} (hq : 0 < q.toInt) (hqw : q.toInt ≤ cI (σ.1 41) u) (hR : Rm S.2 (cI (σ.1 42)) (cI (σ.1 40)) q.toInt 3 u) : ∃ σ', f_X0_carry σ (Int32.ofNat u) q = some σ' ∧ FrX σ' σ ∧ FI d g nd (cI (σ'.1 42)) (cI (σ'.1 40)) (cI (σ'.1 41)) (C + q.toInt * S.1 (3 + u)) (pn S.1 p (S.1 (3 + u) - D)) (S.1 (3 + u)) ∧ sm (cI (σ'.1 40)) 3 = sm (cI (σ.1 40)) 3 - q.toInt := by
  obtain ⟨bL, bW, -⟩ := FI_b h hd hg hn
  have bu : 0 ≤ (σ.1 41 u).toInt ∧ (σ.1 41 u).toInt ≤ 1000 := bW u hu
  have hqw' : q.toInt ≤ (σ.1 41 u).toInt := hqw
  have vu : vin (Int32.ofNat u) 6 = true := ofn_vin hu (by decide)
  have nu : (Int32.ofNat u).toNatClampNeg = u := ofn_nat (by omega)
  let σ9 : xS := xi σ 41 (va_up (σ.1 41) u (σ.1 41 u - q))
  have hS9 : SX σ9 S := hS
  obtain ⟨m, σ1, k1, k2, k3, k4, k5⟩ := carry_L hd hg h hf hS9 hu (by omega) hch hq hqw (by omega) 3 0 4000 u σ9 (by decide) (by decide) (FrC_r _) (AW_0 h hf hu (by omega) q.toInt) hR
  have k1' : f_X0_carry_L15 4000 σ9 q (Int32.ofNat u) 0 = some (2, Int32.ofNat m, σ1) := k1
  have vm : vin (Int32.ofNat m) 3 = true := ofn_vin k2 (by decide)
  have nm : (Int32.ofNat m).toNatClampNeg = m := ofn_nat (by omega)
  have e40 : σ1.1 40 = σ.1 40 := k3.2 40 (by decide)
  have e41 : σ1.1 41 = va_up (σ.1 41) u (σ.1 41 u - q) := k3.2 41 (by decide)
  have bm : 0 ≤ (σ.1 40 m).toInt ∧ (σ.1 40 m).toInt ≤ 1000 := bL m k2
  have k4' : q.toInt ≤ (σ.1 40 m).toInt := k4
  have s1 : (σ.1 40 m - q).toInt = cI (σ.1 40) m - q.toInt := sub_int (by omega) (by omega)
  have s2 : (σ.1 41 u - q).toInt = cI (σ.1 41) u - q.toInt := sub_int (by omega) (by omega)
  have c40 : cI ((xi σ1 40 (va_up (σ1.1 40) m (σ1.1 40 m - q))).1 40) = va_up (cI (σ.1 40)) m (cI (σ.1 40) m - q.toInt) := by
    show cI (va_up (σ1.1 40) m (σ1.1 40 m - q)) = _
    rw [e40, cI_up, s1]
  have c41 : cI ((xi σ1 40 (va_up (σ1.1 40) m (σ1.1 40 m - q))).1 41) = va_up (cI (σ.1 41)) u (cI (σ.1 41) u - q.toInt) := by
    show cI (σ1.1 41) = _
    rw [e41, cI_up, s2]
  refine ⟨xi σ1 40 (va_up (σ1.1 40) m (σ1.1 40 m - q)), ?_, FrX_up (FrX_t (FrX_up (FrX_r σ) 41 _ (by decide) (by decide)) (FrX_C k3)) 40 _ (by decide) (by decide), ?_, ?_⟩
  · unfold f_X0_carry
    rw [vu, nu]
    show (f_X0_carry_L15 4000 σ9 q (Int32.ofNat u) 0).bind _ = _
    rw [k1', Option.bind_some]
    simp [vm, nm, letm]
  · rw [c40, c41]
    exact k5
  · rw [c40, sm_up _ _ _ _ k2]
    omega
theorem z_of {f : Nat → Int} {n : Nat} (h : ∀ m, m < n → 0 ≤ f m) (hs : sm f n ≤ 0) : ∀ m, m < n → f m = 0 := by
  intro m hm
  have a1 := sm_ge n h m hm
  have a2 := h m hm
  omega
theorem neg1_ne (u : Nat) (hu : u < 100000) : ¬ Int32.ofNat u = -1 := by
  intro z
  have := congrArg Int32.toInt z
  rw [ofn_int hu] at this
  have e1 : (-1 : Int32).toInt = -1 := by decide
  omega
theorem least_L {d g nd : Nat → Int} (hd : ∀ i, i < 18 → 1 ≤ d i ∧ d i ≤ 30) (hg : ∀ m, m < 3 → g m ≤ 1000) (hn : ∀ t, t < 6 → nd t ≤ 1000) : ∀ (n k f : Nat) (σ : xS) (c : Int32) (p : Nat → Int) (D : Int), k + n = 3000 → n < f → (∀ i, i < 18 → (σ.1 8 i).toInt = d i) → FI d g nd (cI (σ.1 42)) (cI (σ.1 40)) (cI (σ.1 41)) c.toInt p D → sm (cI (σ.1 40)) 3 ≤ (n : Int) → ∃ (a : Nat) (r : Int32) (σ' : xS), f_X0_leastCost__9_10_5_L37 f σ c (Int32.ofNat k) = some (a, r, σ') ∧ (a = 0 ∨ a = 1) ∧ FrX σ' σ ∧ ∃ x L W p D, FI d g nd x L W r.toInt p D ∧ Endd L W := by
  intro n
  induction n with
  | zero =>
    intro k f σ c p D hk hf h8 h hs
    obtain ⟨f, rfl⟩ : ∃ z, f = z + 1 := ⟨f - 1, by omega⟩
    have e : k = 3000 := by omega
    subst e
    exact ⟨0, c, σ, by rw [f_X0_leastCost__9_10_5_L37, if_pos (by decide)], Or.inl rfl, FrX_r _, _, _, _, p, D, h, Or.inl (z_of (fun m hm => (h.2.1 m hm).1) hs)⟩
  | succ n ih =>
    intro k f σ c p D hk hf h8 h hs
    obtain ⟨f, rfl⟩ : ∃ z, f = z + 1 := ⟨f - 1, by omega⟩
    have hle : ¬ (3000 : Int32) ≤ Int32.ofNat k := by
      rw [show (3000 : Int32) = Int32.ofNat 3000 from rfl, ofn_le (by omega) (by omega)]; omega
    obtain ⟨bL, bW, bC1, bC2⟩ := FI_b h hd hg hn
    obtain ⟨σ1, S, a1, a2, a3, a4, a5⟩ := findW_eq h (fun i hi => ⟨h8 i hi, hd i hi⟩)
    have e40 : σ1.1 40 = σ.1 40 := a2.2 40 (by decide) (by decide) (by decide) (by decide)
    have e41 : σ1.1 41 = σ.1 41 := a2.2 41 (by decide) (by decide) (by decide) (by decide)
    have e42 : σ1.1 42 = σ.1 42 := a2.2 42 (by decide) (by decide) (by decide) (by decide)
    have h' : FI d g nd (cI (σ1.1 42)) (cI (σ1.1 40)) (cI (σ1.1 41)) c.toInt p D := by rw [e40, e41, e42]; exact h
    obtain ⟨r, b1, b2⟩ := chp_x a3 6 0 4000 (-1) (by decide) (by decide) (Or.inl ⟨rfl, fun t ht => by omega⟩)
    have b1' : f_X0_cheapestTown σ1 = some r := by
      have z : f_X0_cheapestTown_L4 4000 σ1 (-1) 0 = some r := b1
      unfold f_X0_cheapestTown
      rw [z]; rfl
    rw [f_X0_leastCost__9_10_5_L37, if_neg hle, a1, Option.bind_some, b1', Option.bind_some]
    rcases b2 with ⟨z1, z2⟩ | ⟨u, z1, z2, z3, z4⟩
    · rw [if_pos z1]
      refine ⟨1, c, σ1, rfl, Or.inr rfl, FrX_L a2, _, _, _, p, D, h', ?_⟩
      by_cases hz : ∃ m0, m0 < 3 ∧ 0 < cI (σ.1 40) m0
      · obtain ⟨m0, y1, y2⟩ := hz
        obtain ⟨ρ, y⟩ := a5 m0 y1 y2
        right
        intro t ht
        have w1 := y.2.1 t ht
        have w2 := z2 t ht
        have w3 : 0 ≤ cI (σ1.1 41) t := by rw [e41]; exact (bW t ht).1
        omega
      · left
        intro m hm
        rw [e40]
        have w1 := (bL m hm).1
        by_cases w2 : 0 < cI (σ.1 40) m
        · exact absurd ⟨m, hm, w2⟩ hz
        · omega
    · subst z2
      rw [if_neg (neg1_ne u (by omega))]
      have hz : ∃ m0, m0 < 3 ∧ 0 < cI (σ.1 40) m0 := by
        by_cases hz : ∃ m0, m0 < 3 ∧ 0 < cI (σ.1 40) m0
        · exact hz
        · exfalso
          have := a4 (fun m hm w => hz ⟨m, hm, w⟩) u z1
          omega
      obtain ⟨m0, y1, y2⟩ := hz
      obtain ⟨ρ, y⟩ := a5 m0 y1 y2
      have y' : LF d (cI (σ1.1 42)) (cI (σ1.1 40)) p S.1 S.2 ρ := by rw [e40, e42]; exact y
      obtain ⟨q, q1, q2, q3, q4⟩ := room_eq a3 z1 z3.1 (way_3 hd y' z1)
      have hch : ∀ t, t < 6 → 0 < cI (σ1.1 41) t → S.1 (3 + u) ≤ S.1 (3 + t) := fun t ht w => z4 t ht w (by have := y.2.1 t ht; omega)
      obtain ⟨σ2, k1, k2, k3, k4⟩ := carry_eq hd hg hn h' y' a3 z1 hch q2 q3 q4
      have vu : vin (Int32.ofNat u) 6 = true := ofn_vin z1 (by decide)
      have nu : (Int32.ofNat u).toNatClampNeg = u := ofn_nat (by omega)
      have A1 : (σ1.1 44 u).toInt = S.1 (3 + u) := (a3.2 u z1).1
      have A2 : 0 ≤ S.1 (3 + u) := by
        have w1 := (y.2.2.2.2.2 (3 + u) (by omega)).1
        have w2 := (h.2.2.2.2.2.2.2.2 (3 + u) (by omega)).1
        omega
      have A3 := y.2.1 u z1
      have bq : q.toInt ≤ 1000 := by
        have w : cI (σ1.1 41) u ≤ 1000 := by rw [e41]; exact (bW u z1).2
        omega
      have P1 : 0 ≤ q.toInt * S.1 (3 + u) := Int.mul_nonneg (by omega) A2
      have P2 : q.toInt * S.1 (3 + u) ≤ 1000 * 30 := Int.mul_le_mul bq A3 A2 (by decide)
      have M1 : (q * σ1.1 44 u).toInt = q.toInt * S.1 (3 + u) := by
        rw [mul_int (by rw [A1]; omega) (by rw [A1]; omega), A1]
      have M2 : (c + q * σ1.1 44 u).toInt = c.toInt + q.toInt * S.1 (3 + u) := by
        rw [add_int (by rw [M1]; omega) (by rw [M1]; omega), M1]
      rw [← M2] at k3
      obtain ⟨a, r, σ', i1, i2, i3, i4⟩ := ih (k + 1) f σ2 (c + q * σ1.1 44 u) _ _ (by omega) (by omega) (fun i hi => by rw [k2.2 8 (by decide), a2.2 8 (by decide) (by decide) (by decide) (by decide)]; exact h8 i hi) k3 (by
        rw [k4, e40]
        omega)
      refine ⟨a, r, σ', ?_, i2, FrX_t (FrX_t (FrX_L a2) k2) i3, i4⟩
      rw [q1, Option.bind_some, vu, cond_true, nu]
      show (f_X0_carry σ1 (Int32.ofNat u) q).bind _ = _
      rw [k1, Option.bind_some, ofn_succ]
      exact i1
/-- a flow of nothing -/
theorem FI_0 {d g nd x L W : Nat → Int} (hd : ∀ i, i < 18 → 1 ≤ d i ∧ d i ≤ 30) (hg : ∀ m, m < 3 → 0 ≤ g m) (hn : ∀ t, t < 6 → 0 ≤ nd t) (hx : ∀ i, i < 18 → x i = 0) (hL : ∀ m, m < 3 → L m = g m) (hW : ∀ t, t < 6 → W t = nd t) : FI d g nd x L W 0 (fun _ => 0) 0 := by
  have z6 : ∀ {f : Nat → Int} {n : Nat}, (∀ m, m < n → f m = 0) → sm f n = 0 := fun {f n} hz => (sm_c n hz).trans (sm_zero n)
  refine ⟨fun i hi => by rw [hx i hi]; exact Int.le_refl _, fun m hm => ⟨by rw [hL m hm]; exact hg m hm, ?_⟩, fun t ht => ⟨by rw [hW t ht]; exact hn t ht, ?_⟩, ?_, fun t m ht hm => ⟨?_, fun z => ?_⟩, fun _ _ _ => rfl, fun t ht => ⟨fun _ => Int.le_refl _, fun _ => Int.le_refl _⟩, Int.le_refl _, fun n _ => ⟨Int.le_refl _, show (0 : Int) ≤ 1000000 by decide⟩⟩
  · rw [hL m hm, Int.sub_self]
    exact z6 (fun k hk => hx _ (by omega))
  · rw [hW t ht, Int.sub_self]
    exact z6 (fun k hk => hx _ (by omega))
  · refine (z6 (fun t ht => z6 (fun m hm => ?_))).symm
    rw [hx _ (by omega), Int.zero_mul]
  · have := (hd (3 * t + m) (by omega)).1
    show (0 : Int) ≤ 0 + d (3 * t + m)
    omega
  · rw [hx _ (by omega)] at z
    exact absurd z (by decide)
/-- the class's flow -/
theorem flow_x {d g nd : Nat → Int} (hd : ∀ i, i < 18 → 1 ≤ d i ∧ d i ≤ 30) (hg : ∀ m, m < 3 → 0 ≤ g m ∧ g m ≤ 1000) (hn : ∀ t, t < 6 → 0 ≤ nd t ∧ nd t ≤ 1000) {σ : xS} (h8 : ∀ i, i < 18 → (σ.1 8 i).toInt = d i) (h13 : ∀ m, m < 3 → (σ.1 13 m).toInt = g m) (h14 : ∀ t, t < 6 → (σ.1 14 t).toInt = nd t) : ∃ (r : Int32) (σ' : xS), f_X6_flow σ = some (r, σ') ∧ FrX σ' σ ∧ ∃ x L W p D, FI d g nd x L W r.toInt p D ∧ Endd L W := by
  let σ8 : xS := xi σ 40 (va_cpy (σ.1 13) (σ.1 40) 0 0 3)
  let σ20 : xS := xi σ8 41 (va_cpy (σ.1 14) (σ.1 41) 0 0 6)
  let σ28 : xS := xi σ20 42 (fillf 18 0 (σ.1 42))
  have c40 : ∀ m, m < 3 → cI (σ28.1 40) m = g m := by
    intro m hm
    show (va_cpy (σ.1 13) (σ.1 40) 0 0 3 m).toInt = g m
    unfold va_cpy
    rw [if_pos ⟨Nat.zero_le _, by omega⟩, show 0 + (m - 0) = m by omega]
    exact h13 m hm
  have c41 : ∀ t, t < 6 → cI (σ28.1 41) t = nd t := by
    intro t ht
    show (va_cpy (σ.1 14) (σ.1 41) 0 0 6 t).toInt = nd t
    unfold va_cpy
    rw [if_pos ⟨Nat.zero_le _, by omega⟩, show 0 + (t - 0) = t by omega]
    exact h14 t ht
  have c42 : ∀ i, i < 18 → cI (σ28.1 42) i = 0 := by
    intro i hi
    show (fillf 18 0 (σ.1 42) i).toInt = 0
    unfold fillf
    rw [if_pos hi]; rfl
  have h0 : FI d g nd (cI (σ28.1 42)) (cI (σ28.1 40)) (cI (σ28.1 41)) (0 : Int32).toInt (fun _ => 0) 0 := FI_0 hd (fun m hm => (hg m hm).1) (fun t ht => (hn t ht).1) c42 c40 c41
  have hs : sm (cI (σ28.1 40)) 3 ≤ ((3000 : Nat) : Int) := by
    have a := sm_le (f := cI (σ28.1 40)) (g := fun _ => 1000) 3 (fun m hm => by rw [c40 m hm]; exact (hg m hm).2)
    have e : sm (fun _ => (1000 : Int)) 3 = 3000 := by decide
    omega
  obtain ⟨a, r, σ', i1, i2, i3, i4⟩ := least_L hd (fun m hm => (hg m hm).2) (fun t ht => (hn t ht).2) 3000 0 4000 σ28 0 _ _ (by decide) (by decide) h8 h0 hs
  have i1' : f_X0_leastCost__9_10_5_L37 4000 σ28 0 0 = some (a, r, σ') := i1
  refine ⟨r, σ', ?_, FrX_t (FrX_up (FrX_up (FrX_up (FrX_r σ) 40 _ (by decide) (by decide)) 41 _ (by decide) (by decide)) 42 _ (by decide) (by decide)) i3, i4⟩
  unfold f_X6_flow f_X0_leastCost__9_10_5
  show (Option.bind (Option.bind (f_X0_leastCost__9_10_5_L37 4000 σ28 0 0) _) _) = _
  rw [i1']
  rcases i2 with rfl | rfl <;> rfl
end CARRY
