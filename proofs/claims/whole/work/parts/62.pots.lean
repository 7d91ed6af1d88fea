/-! THE PURE PART: melt, refine, strike -/
section POTS
theorem xl_1 (σ : xS) (k : Nat) (f : Nat → Int64) : (xl σ k f).1 = σ.1 := rfl
theorem xi_21 (σ : xS) (k : Nat) (f : Nat → Int32) : (xi σ k f).2.1 = σ.2.1 := rfl
theorem xl_self (σ : xS) (k : Nat) (f : Nat → Int64) : (xl σ k f).2.1 k = f := va_up_self _ _ _
theorem xl_ne {σ : xS} {k j : Nat} {f : Nat → Int64} (h : j ≠ k) : (xl σ k f).2.1 j = σ.2.1 j := va_up_ne _ _ h
theorem isL_xl (σ : xS) (c : Nat) (f : Nat → Int64) (k : Nat) : isL (xl σ c f) k = isL σ k := rfl
theorem ml_1 (μ : mS) (k : Nat) (f : Nat → Int64) : (setl μ k f).1 = μ.1 := rfl
theorem mi_2 (μ : mS) (k : Nat) (f : Nat → Int32) : (seti μ k f).2 = μ.2 := rfl
theorem ml_self (μ : mS) (k : Nat) (f : Nat → Int64) : (setl μ k f).2 k = f := va_up_self _ _ _
theorem ml_ne {μ : mS} {k j : Nat} {f : Nat → Int64} (h : j ≠ k) : (setl μ k f).2 j = μ.2 j := va_up_ne _ _ h
theorem RO_xl {σ : xS} {μ : mS} {c : Nat} {f : Nat → Int64} (h : RO σ μ) : RO (xl σ c f) μ := h
theorem add64 {x y : Int64} (h : -9223372036854775808 ≤ x.toInt + y.toInt) (h' : x.toInt + y.toInt < 9223372036854775808) : (x + y).toInt = x.toInt + y.toInt := by
  rw [Int64.toInt_add]
  exact Int.bmod_eq_of_le (by omega) (by omega)
theorem sub64 {x y : Int64} (h : -9223372036854775808 ≤ x.toInt - y.toInt) (h' : x.toInt - y.toInt < 9223372036854775808) : (x - y).toInt = x.toInt - y.toInt := by
  rw [Int64.toInt_sub]
  exact Int.bmod_eq_of_le (by omega) (by omega)
theorem mul64 {x y : Int64} (h : -9223372036854775808 ≤ x.toInt * y.toInt) (h' : x.toInt * y.toInt < 9223372036854775808) : (x * y).toInt = x.toInt * y.toInt := by
  rw [Int64.toInt_mul]
  exact Int.bmod_eq_of_le (by omega) (by omega)
theorem mcn_le (f : Nat → Int32) : ∀ n, mcn f n ≤ n := by
  intro n
  induction n with
  | zero => exact Nat.le_refl _
  | succ n ih =>
    rw [mcn]
    split <;> omega
theorem mcn_ne (f : Nat → Int32) (i : Nat) (v : Int32) : ∀ n, n ≤ i → mcn (va_up f i v) n = mcn f n := by
  intro n
  induction n with
  | zero => intro _; rfl
  | succ n ih =>
    intro h
    rw [mcn, mcn, ih (by omega), va_up_ne _ _ (show n ≠ i by omega)]
theorem mcn_up (f : Nat → Int32) (i : Nat) (h0 : f i = 0) : ∀ n, i < n → mcn (va_up f i 1) n = mcn f n + 1 := by
  intro n
  induction n with
  | zero => intro h; exact absurd h (Nat.not_lt_zero _)
  | succ n ih =>
    intro h
    rw [mcn, mcn]
    by_cases q : i = n
    · subst q
      rw [mcn_ne f i 1 i (Nat.le_refl _), va_up_self, h0, if_pos rfl, if_neg (by decide)]
    · rw [ih (by omega), va_up_ne _ _ (show n ≠ i by omega)]
      omega
theorem melt_bd {σ : xS} {μ : mS} {k : Nat} (hD : RD σ μ) (hM : RM σ μ) (hk : k < 3) : 0 ≤ (if μ.1 40 k = μ.1 6 0 then μ.1 39 k else 0) ∧ (if μ.1 40 k = μ.1 6 0 then μ.1 39 k else 0) ≤ 1000000 := by
  obtain ⟨q0, q7, q8, q9⟩ := hM.1 k hk
  rcases q9 with z | z
  · by_cases e : μ.1 40 k = μ.1 6 0
    · rw [if_pos e]; exact z.2.2
    · rw [if_neg e]; decide
  · have e : ¬ μ.1 40 k = μ.1 6 0 := by
      rw [z.2.2]
      intro y
      have := hD.2.1
      rw [← y] at this
      exact absurd this (by decide)
    rw [if_neg e]; decide
abbrev meltX (σ : xS) (i k : Nat) (m d : Int32) (w s : Int64) : xS := ui (ui (ui (xl (xl (ui (ui σ 147 k m) 148 k d) 140 (va_up (σ.2.1 140) k (σ.2.1 140 k + w))) 141 (va_up (σ.2.1 141) k (σ.2.1 141 k + s))) 142 k 0) 109 i 1) 107 i (-1)
abbrev meltM (μ : mS) (i k : Nat) (m d : Int32) (w s : Int64) : mS := um (um (setl (setl (um (um μ 39 k m) 40 k d) 33 (va_up (μ.2 33) k (μ.2 33 k + w))) 34 (va_up (μ.2 34) k (μ.2 34 k + s))) 35 k 0) 16 i 1
theorem melt_R {σ : xS} {μ : mS} (hR : Rel σ μ) {i k : Nat} (hi : i < nLo σ) (hk : k < 3) (m : Int32) (hm : 0 ≤ m ∧ m ≤ 1000000) (z : μ.1 16 i = 0 ∧ σ.1 106 i = μ.1 13 i ∧ σ.1 107 i = μ.1 14 i) (ht : 0 ≤ μ.1 14 i) (hu : μ.1 15 i ≤ μ.1 6 0) : Rel (meltX σ i k m (μ.1 6 0) (μ.1 11 i).toInt64 ((μ.1 11 i).toInt64 * (σ.1 103 i).toInt64)) (meltM μ i k m (μ.1 6 0) (μ.1 11 i).toInt64 ((μ.1 11 i).toInt64 * (σ.1 103 i).toInt64)) := by
  obtain ⟨hC, hD, hS, hL, hT, hO, hP, hK, hRr, hG, hM⟩ := hR
  have h30 := hC.1.2.1
  obtain ⟨⟨p100, p102, p104, p105, p109, p110, p111⟩, p2, p3, p4, p5, p6, p7, p8, p9, p10, p11⟩ := hL i hi
  have h13 : μ.1 13 i = -1 := by
    rcases p8.2 with y | y
    · rw [y.2] at ht; exact absurd ht (by decide)
    · exact y.1
  have h17 : μ.1 17 i = 0 := by
    rcases p7.2.1 with y | y
    · exact y
    · have := (p10 y).1
      rw [h13] at this; exact absurd this (by decide)
  refine ⟨hC, hD, hS, fun j hj => ?_, ⟨hT.1, hT.2.1, fun j hj hj2 => ?_⟩, ?_, hP, hK, hRr, hG, ⟨fun j hj => ?_, hM.2.1, fun j hj => ?_⟩⟩
  · by_cases qj : j = i
    · subst qj
      simp only [RLot, meltX, meltM, ui, um, xi, xl, seti, setl, va_up, ↓reduceIte, Nat.reduceEqDiff]
      exact ⟨⟨p100, p102, p104, p105, trivial, p110, p111⟩, p2, p3, p4, p5, p6, ⟨by decide, p7.2.1, p7.2.2⟩, p8, Or.inr ⟨trivial, z.2.1.trans h13, trivial, h13, h17, hu⟩, p10, p11⟩
    · have := hL j hj
      simp only [RLot, meltX, meltM, ui, um, xi, xl, seti, setl, va_up, qj, ↓reduceIte, Nat.reduceEqDiff]
      exact this
  · have hj' : nLo σ ≤ j := hj2
    have := hT.2.2 j hj hj'
    exact ⟨(va_up_ne _ _ (show j ≠ i by omega)).trans this.1, this.2⟩
  · exact RO_xi (by decide) (RO_xi (by decide) (RO_xi (by decide) (RO_xl (RO_xl (RO_xi (by decide) (RO_xi (by decide) hO))))))
  · obtain ⟨⟨q1, q2, q3, q4, q5, q6⟩, q7, q8, q9⟩ := hM.1 j hj
    by_cases qj : j = k
    · subst qj
      simp only [meltX, meltM, ui, um, xi, xl, seti, setl, va_up, ↓reduceIte, Nat.reduceEqDiff]
      exact ⟨⟨by rw [q1], by rw [q2], trivial, q4, q5, q6⟩, by decide, q8, Or.inl ⟨trivial, trivial, hm⟩⟩
    · simp only [meltX, meltM, ui, um, xi, xl, seti, setl, va_up, qj, ↓reduceIte, Nat.reduceEqDiff]
      exact ⟨⟨q1, q2, q3, q4, q5, q6⟩, q7, q8, q9⟩
  · have hc : mcn ((meltM μ i k m (μ.1 6 0) (μ.1 11 i).toInt64 ((μ.1 11 i).toInt64 * (σ.1 103 i).toInt64)).1 16) 30 = mcn (μ.1 16) 30 + 1 := mcn_up (μ.1 16) i z.1 30 (by omega)
    rw [hc]
    have hb := hM.2.2 j hj
    have hc2 := mcn_le (μ.1 16) 30
    by_cases qj : j = k
    · subst qj
      have w1 : (1 : Int) ≤ (μ.1 11 i).toInt := by
        rcases p6 with y | y
        · exact i_le y.2.2.1
        · exact i_le y.2.2.2.1
      have w2 : (μ.1 11 i).toInt ≤ 500000 := by
        rcases p6 with y | y
        · have : (μ.1 11 i).toInt ≤ 100000 := i_le y.2.2.2
          omega
        · exact i_le y.2.2.2.2
      have f1 : (0 : Int) ≤ (σ.1 103 i).toInt := i_le p5.1
      have f2 : (σ.1 103 i).toInt ≤ 1000 := i_le p5.2
      have t1 : 0 ≤ (μ.1 11 i).toInt * (σ.1 103 i).toInt := Int.mul_nonneg (by omega) f1
      have t2 : (μ.1 11 i).toInt * (σ.1 103 i).toInt ≤ (μ.1 11 i).toInt * 1000 := Int.mul_le_mul_of_nonneg_left f2 (by omega)
      have m1 : ((μ.1 11 i).toInt64 * (σ.1 103 i).toInt64).toInt = (μ.1 11 i).toInt * (σ.1 103 i).toInt := by
        rw [mul64 (by rw [Int32.toInt_toInt64, Int32.toInt_toInt64]; omega) (by rw [Int32.toInt_toInt64, Int32.toInt_toInt64]; omega), Int32.toInt_toInt64, Int32.toInt_toInt64]
      have a1 : (μ.2 33 j + (μ.1 11 i).toInt64).toInt = (μ.2 33 j).toInt + (μ.1 11 i).toInt := by
        rw [add64 (by rw [Int32.toInt_toInt64]; omega) (by rw [Int32.toInt_toInt64]; omega), Int32.toInt_toInt64]
      have a2 : (μ.2 34 j + (μ.1 11 i).toInt64 * (σ.1 103 i).toInt64).toInt = (μ.2 34 j).toInt + (μ.1 11 i).toInt * (σ.1 103 i).toInt := by
        rw [add64 (by rw [m1]; omega) (by rw [m1]; omega), m1]
      have c1 : (meltM μ i j m (μ.1 6 0) (μ.1 11 i).toInt64 ((μ.1 11 i).toInt64 * (σ.1 103 i).toInt64)).2 33 j = μ.2 33 j + (μ.1 11 i).toInt64 := va_up_self _ _ _
      have c2 : (meltM μ i j m (μ.1 6 0) (μ.1 11 i).toInt64 ((μ.1 11 i).toInt64 * (σ.1 103 i).toInt64)).2 34 j = μ.2 34 j + (μ.1 11 i).toInt64 * (σ.1 103 i).toInt64 := va_up_self _ _ _
      rw [c1, c2, a1, a2]
      omega
    · have c1 : (meltM μ i k m (μ.1 6 0) (μ.1 11 i).toInt64 ((μ.1 11 i).toInt64 * (σ.1 103 i).toInt64)).2 33 j = μ.2 33 j := va_up_ne _ _ qj
      have c2 : (meltM μ i k m (μ.1 6 0) (μ.1 11 i).toInt64 ((μ.1 11 i).toInt64 * (σ.1 103 i).toInt64)).2 34 j = μ.2 34 j := va_up_ne _ _ qj
      rw [c1, c2]
      omega
theorem H_melt : ∀ (σ : xS) (μ : mS), Rel σ μ → ∀ (a0 : Int32), ∃ (r : Int32) (σ1 : xS) (μ1 : mS), f_X6_melt σ a0 = some (r, σ1) ∧ f_X7_melt μ a0 = some (r, μ1) ∧ Rel σ1 μ1 := by
  intro σ μ hR a
  obtain ⟨hC, hD, hS, hL, hT, hO, hP, hK, hRr, hG, hM⟩ := id hR
  unfold f_X6_melt f_X7_melt
  rw [xl_eq hC, ml_eq hC, hD.1]
  have h30 := hC.1.2.1
  by_cases c : 0 ≤ a ∧ a ≤ Int32.ofNat (nLo σ) - 1
  · obtain ⟨h1, h2, h3⟩ := lot_ix hC c
    have hl := hL _ h1
    have hi := isL_of h1 hC.1.2.1
    have ho := onroad_eq hD h1 hC.1.2.1 hl
    have hu := atmint_eq h3 hl
    have hfn := found_L a (μ.1 9 a.toNatClampNeg) (nLo σ) 0 4000 4000 σ μ hR h3 rfl (by omega) (by omega) (by omega)
    have hsil : ∀ f39 f40 f33, f_X7_silverOf (setl (seti (seti μ 39 f39) 40 f40) 33 f33) a = some ((μ.1 11 a.toNatClampNeg).toInt64 * (σ.1 103 a.toNatClampNeg).toInt64) := fun f39 f40 f33 => silver_eq (σ := σ) (μ := setl (seti (seti μ 39 f39) 40 f40) 33 f33) hC h3 hl
    have hheld := held_eq h1 hC.1.2.1 hl
    have hRm := fun k hk m hm z ht hu => melt_R hR (i := a.toNatClampNeg) (k := k) h1 hk m hm z ht hu
    obtain ⟨⟨p100, p102, p104, p105, p109, p110, p111⟩, p2, p3, p4, p5, p6, p7, p8, p9, p10, p11⟩ := hl
    generalize hj : a.toNatClampNeg = i at *
    by_cases t : 0 ≤ σ.1 107 i ∧ σ.1 107 i ≤ 2
    · by_cases q : μ.1 15 i ≤ μ.1 6 0
      · obtain ⟨z1, z2, z3⟩ : μ.1 16 i = 0 ∧ σ.1 106 i = μ.1 13 i ∧ σ.1 107 i = μ.1 14 i := by
          rcases p9 with z | ⟨z1, z2, z3, z4, z5, z6⟩
          · exact z
          · rw [z3] at t; exact absurd t (by decide)
        rw [if_pos ⟨t, q⟩] at hu
        rw [if_pos q] at ho
        rw [z3] at t
        obtain ⟨k1, k2⟩ := pot_ix t
        have hp : f_X6_potAt σ (μ.1 14 i) = some (some (23 + (μ.1 14 i).toNatClampNeg)) := by rw [xp_eq hC, if_pos t]
        obtain ⟨m1, m2⟩ := melt_eq hD hM t
        obtain ⟨mb1, mb2⟩ := melt_bd hD hM k1
        by_cases k5 : μ.1 8 i = 5
        · obtain ⟨σ1, μ1, f1, f2, f3⟩ := hfn
          rw [show Int32.ofNat 0 = 0 from rfl] at f1 f2
          refine ⟨0, σ1, μ1, ?_, ?_, f3⟩
          · unfold f_X6_findFalse
            simp only [c, and_self, ↓reduceIte, Option.bind_some, oq, hi, cond_true, Nat.add_sub_cancel_left, z3, hp, ho, p104, k5, p100, f1]
          · simp only [c, and_self, ↓reduceIte, Option.bind_some, hu, h3, hj, cond_true, k5, f2, i10]
        · generalize hk : (μ.1 14 i).toNatClampNeg = k at *
          obtain ⟨⟨q1, q2, q3, q4, q5, q6⟩, q7, q8, q9⟩ := hM.1 k k1
          generalize hMm : (if μ.1 40 k = μ.1 6 0 then μ.1 39 k else 0) = M at *
          by_cases w : M + μ.1 11 i ≤ μ.1 38 k
          · have w1 : (0 : Int) ≤ (μ.1 11 i).toInt ∧ (μ.1 11 i).toInt ≤ 500000 := by
              rcases p6 with y | y
              · have a1 : (1 : Int) ≤ (μ.1 11 i).toInt := i_le y.2.2.1
                have a2 : (μ.1 11 i).toInt ≤ 100000 := i_le y.2.2.2
                omega
              · have a1 : (1 : Int) ≤ (μ.1 11 i).toInt := i_le y.2.2.2.1
                have a2 : (μ.1 11 i).toInt ≤ 500000 := i_le y.2.2.2.2
                omega
            have b1 : (0 : Int) ≤ M.toInt := i_le mb1
            have b2 : M.toInt ≤ 1000000 := i_le mb2
            have e := add_int (x := M) (y := μ.1 11 i) (by omega) (by omega)
            have hm : 0 ≤ M + μ.1 11 i ∧ M + μ.1 11 i ≤ 1000000 := ⟨le_int.mpr (by show (0 : Int) ≤ _; omega), Int32.le_trans w q8.2⟩
            refine ⟨1, _, _, ?_, ?_, hRm k k1 (M + μ.1 11 i) hm ⟨z1, z2, z3⟩ t.1 q⟩
            · unfold f_X3_takeIn f_X1_vanish
              simp [c, oq, hi, z3, hp, ho, p104, k5, isP_of k1, m2, p105, q6, w, hheld, letm, isL_xi, isL_xl, xi_ne, xi_21, xl_1, xl_ne, xl_self, ui]
              rfl
            · simp [c, hu, h3, hj, k5, m1, k2, hk, w, letm, mi_ne, mi_2, ml_1, ml_ne, ml_self, hsil, nar0, nar1, um]
              rfl
          · exact ⟨-4, σ, μ, by simp [c, oq, hi, z3, hp, ho, p104, k5, isP_of k1, m2, p105, q6, w], by simp [c, hu, h3, hj, k5, m1, k2, hk, w], hR⟩
      · have hp : f_X6_potAt σ (σ.1 107 i) = some (some (23 + (σ.1 107 i).toNatClampNeg)) := by rw [xp_eq hC, if_pos t]
        rw [if_neg (fun z => q z.2)] at hu
        rw [if_neg q] at ho
        exact ⟨-3, σ, μ, by simp [c, oq, hi, hp, ho], by simp [c, hu], hR⟩
    · have hp : f_X6_potAt σ (σ.1 107 i) = some none := by rw [xp_eq hC, if_neg t]
      rw [if_neg (fun z => t z.1)] at hu
      exact ⟨-3, σ, μ, by simp [c, oq, hi, hp], by simp [c, hu], hR⟩
  · exact ⟨-1, σ, μ, by simp [c, oq], by simp [c], hR⟩
theorem lg_neg (x : Int64) : lg_cmp x 0 < 0 ↔ x.toInt < 0 := by
  have h0 : (0 : Int64).toInt = 0 := by decide
  have h := lg_ge x 0
  rw [Int64.le_iff_toInt_le, h0] at h
  rw [← Int32.not_le, h]
  omega
theorem lg_pos (x : Int64) : 0 < lg_cmp x 0 ↔ 0 < x.toInt := by
  have h0 : (0 : Int64).toInt = 0 := by decide
  unfold lg_cmp
  by_cases a : x > 0
  · rw [if_pos a]
    have := Int64.lt_iff_toInt_lt.mp a
    rw [h0] at this
    exact ⟨fun _ => this, fun _ => by decide⟩
  · rw [if_neg a]
    have a' : ¬ 0 < x.toInt := by
      intro z
      exact a (Int64.lt_iff_toInt_lt.mpr (by rw [h0]; exact z))
    by_cases b : x = 0
    · rw [if_pos b]
      exact ⟨fun z => absurd z (by decide), fun z => absurd z a'⟩
    · rw [if_neg b]
      exact ⟨fun z => absurd z (by decide), fun z => absurd z a'⟩
theorem sum3_up (f : Nat → Int64) (k : Nat) (hk : k < 3) (z : Int64) : va_up f k (f k + z) 0 + va_up f k (f k + z) 1 + va_up f k (f k + z) 2 = f 0 + f 1 + f 2 + z := by
  match k, hk with
  | 0, _ => show (f 0 + z) + f 1 + f 2 = _; ac_rfl
  | 1, _ => show f 0 + (f 1 + z) + f 2 = _; ac_rfl
  | 2, _ => show f 0 + f 1 + (f 2 + z) = _; ac_rfl
theorem va_up_up {β : Type} (f : Nat → β) (k : Nat) (a b : β) : va_up (va_up f k a) k b = va_up f k b := by
  funext j
  unfold va_up
  by_cases q : j = k
  · rw [if_pos q, if_pos q]
  · rw [if_neg q, if_neg q, if_neg q]
theorem H_refine : ∀ (σ : xS) (μ : mS), Rel σ μ → ∀ (a0 : Int32), ∃ (r : Int32) (σ1 : xS) (μ1 : mS), f_X6_refine σ a0 = some (r, σ1) ∧ f_X7_refine μ a0 = some (r, μ1) ∧ Rel σ1 μ1 := by
  intro σ μ hR a
  obtain ⟨hC, hD, hS, hL, hT, hO, hP, hK, hRr, hG, hM⟩ := id hR
  unfold f_X6_refine f_X7_refine f_X3_bringToLaw
  rw [xp_eq hC, mm_eq]
  by_cases c : 0 ≤ a ∧ a ≤ 2
  · obtain ⟨h1, h2⟩ := pot_ix c
    obtain ⟨⟨q1, q2, q3, q4, q5, q6⟩, q7, q8, q9⟩ := hM.1 _ h1
    obtain ⟨b1, b2, b3⟩ := hM.2.2 _ h1
    have bc := mcn_le (μ.1 16) 30
    generalize hj : a.toNatClampNeg = k at *
    by_cases z : lg_cmp (μ.2 33 k) 0 = 0
    · exact ⟨-3, σ, μ, by simp [c, oq, isP_of h1, q1, z], by simp [c, h2, hj, z], hR⟩
    · have n925 : (925 : Int64).toInt = 925 := by decide
      have n74 : (74 : Int64).toInt = 74 := by decide
      have n75 : (75 : Int64).toInt = 75 := by decide
      have n1000 : (1000 : Int64).toInt = 1000 := by decide
      have n1 : (1 : Int64).toInt = 1 := by decide
      have e1 : (925 * μ.2 33 k).toInt = 925 * (μ.2 33 k).toInt := by
        rw [mul64 (by rw [n925]; omega) (by rw [n925]; omega), n925]
      have e2 : (μ.2 34 k - 925 * μ.2 33 k).toInt = (μ.2 34 k).toInt - 925 * (μ.2 33 k).toInt := by
        rw [sub64 (by rw [e1]; omega) (by rw [e1]; omega), e1]
      have e3 : (925 * μ.2 33 k - μ.2 34 k).toInt = 925 * (μ.2 33 k).toInt - (μ.2 34 k).toInt := by
        rw [sub64 (by rw [e1]; omega) (by rw [e1]; omega), e1]
      by_cases y : (μ.2 34 k).toInt - 925 * (μ.2 33 k).toInt < 0
      · have y1 : lg_cmp (μ.2 34 k - 925 * μ.2 33 k) 0 < 0 := (lg_neg _).mpr (by rw [e2]; exact y)
        have y2 : 0 < lg_cmp (925 * μ.2 33 k - μ.2 34 k) 0 := (lg_pos _).mpr (by rw [e3]; omega)
        have e4 : (74 - (μ.2 34 k - 925 * μ.2 33 k)).toInt = 74 - ((μ.2 34 k).toInt - 925 * (μ.2 33 k).toInt) := by
          rw [sub64 (by rw [n74, e2]; omega) (by rw [n74, e2]; omega), n74, e2]
        have e5 : (925 * μ.2 33 k - μ.2 34 k + 1000).toInt = 925 * (μ.2 33 k).toInt - (μ.2 34 k).toInt + 1000 := by
          rw [add64 (by rw [e3, n1000]; omega) (by rw [e3, n1000]; omega), e3, n1000]
        have e6 : (925 * μ.2 33 k - μ.2 34 k + 1000 - 925).toInt = 925 * (μ.2 33 k).toInt - (μ.2 34 k).toInt + 1000 - 925 := by
          rw [sub64 (by rw [e5, n925]; omega) (by rw [e5, n925]; omega), e5, n925]
        have e7 : 925 * μ.2 33 k - μ.2 34 k + 1000 - 925 - 1 = 74 - (μ.2 34 k - 925 * μ.2 33 k) := by
          apply Int64.toInt_inj.mp
          rw [sub64 (by rw [e6, n1]; omega) (by rw [e6, n1]; omega), e6, n1, e4]
          omega
        generalize hN : (74 - (μ.2 34 k - 925 * μ.2 33 k)) / 75 = N
        have e8 : N.toInt = (74 - ((μ.2 34 k).toInt - 925 * (μ.2 33 k).toInt)) / 75 := by
          rw [← hN, Int64.toInt_div, e4, n75, Int.tdiv_eq_ediv_of_nonneg (by omega)]
          exact Int.bmod_eq_of_le (by omega) (by omega)
        have e9 : (μ.2 33 k + N).toInt = (μ.2 33 k).toInt + N.toInt := add64 (by omega) (by omega)
        have e10 : (925 * (μ.2 33 k + N)).toInt = 925 * ((μ.2 33 k).toInt + N.toInt) := by
          rw [mul64 (by rw [n925, e9]; omega) (by rw [n925, e9]; omega), n925, e9]
        refine ⟨N.toInt32, ui (xl (xl (xl (xl (xl σ 144 (va_up (σ.2.1 144) k (μ.2 37 k + N))) 141 (va_up (σ.2.1 141) k (μ.2 34 k + N * 1000))) 140 (va_up (σ.2.1 140) k (μ.2 33 k + N))) 145 (va_up (σ.2.1 145) k (σ.2.1 145 k + (μ.2 34 k + N * 1000 - 925 * (μ.2 33 k + N))))) 141 (va_up (σ.2.1 141) k (925 * (μ.2 33 k + N)))) 142 k 1, um (setl (setl (setl (setl (setl μ 37 (va_up (μ.2 37) k (μ.2 37 k + N))) 34 (va_up (μ.2 34) k (μ.2 34 k + 1000 * N))) 33 (va_up (μ.2 33) k (μ.2 33 k + N))) 41 (fun _ => μ.2 41 0 + (μ.2 34 k + 1000 * N - 925 * (μ.2 33 k + N)))) 34 (va_up (μ.2 34) k (925 * (μ.2 33 k + N)))) 35 k 1, ?_, ?_, ?_⟩
        · simp [c, oq, isP_of h1, z, q1, q2, q5, y1, letm, hN, xl_ne, xl_self, xl_1, xi_21, va_up_self, va_up_up, ui]
        · simp [c, h2, hj, z, y2, letm, e7, hN, ml_ne, ml_self, ml_1, mi_2, va_up_self, va_up_up, nar1, um]
        · refine ⟨hC, hD, hS, hL, hT, RO_xi (by decide) hO, hP, hK, hRr, hG, ⟨fun j hj => ?_, ?_, fun j hj => ?_⟩⟩
          · obtain ⟨⟨r1, r2, r3, r4, r5, r6⟩, r7, r8, r9⟩ := hM.1 j hj
            by_cases qj : j = k
            · subst qj
              simp only [ui, um, xi, xl, seti, setl, va_up, ↓reduceIte, Nat.reduceEqDiff]
              exact ⟨⟨trivial, trivial, trivial, r4, trivial, r6⟩, by decide, r8, r9⟩
            · simp only [ui, um, xi, xl, seti, setl, va_up, qj, ↓reduceIte, Nat.reduceEqDiff]
              exact ⟨⟨r1, r2, r3, r4, r5, r6⟩, r7, r8, r9⟩
          · show va_up (σ.2.1 145) k (σ.2.1 145 k + (μ.2 34 k + N * 1000 - 925 * (μ.2 33 k + N))) 0 + va_up (σ.2.1 145) k (σ.2.1 145 k + (μ.2 34 k + N * 1000 - 925 * (μ.2 33 k + N))) 1 + va_up (σ.2.1 145) k (σ.2.1 145 k + (μ.2 34 k + N * 1000 - 925 * (μ.2 33 k + N))) 2 = μ.2 41 0 + (μ.2 34 k + 1000 * N - 925 * (μ.2 33 k + N))
            rw [sum3_up _ _ h1, hM.2.1, Int64.mul_comm N]
          · have hb := hM.2.2 j hj
            by_cases qj : j = k
            · subst qj
              simp only [um, seti, setl, va_up, ↓reduceIte, Nat.reduceEqDiff]
              rw [e9, e10]
              omega
            · simp only [um, seti, setl, va_up, qj, ↓reduceIte, Nat.reduceEqDiff]
              exact hb
      · have y1 : ¬ lg_cmp (μ.2 34 k - 925 * μ.2 33 k) 0 < 0 := fun w => y (by rw [← e2]; exact (lg_neg _).mp w)
        have y2 : ¬ 0 < lg_cmp (925 * μ.2 33 k - μ.2 34 k) 0 := fun w => by
          have := (lg_pos _).mp w
          rw [e3] at this
          omega
        have e7 : -(925 * μ.2 33 k - μ.2 34 k) = μ.2 34 k - 925 * μ.2 33 k := Int64.neg_sub
        generalize hN : (μ.2 34 k - 925 * μ.2 33 k) / 925 = N
        have e8 : N.toInt = ((μ.2 34 k).toInt - 925 * (μ.2 33 k).toInt) / 925 := by
          rw [← hN, Int64.toInt_div, e2, n925, Int.tdiv_eq_ediv_of_nonneg (by omega)]
          exact Int.bmod_eq_of_le (by omega) (by omega)
        have e9 : (μ.2 33 k + N).toInt = (μ.2 33 k).toInt + N.toInt := add64 (by omega) (by omega)
        have e10 : (925 * (μ.2 33 k + N)).toInt = 925 * ((μ.2 33 k).toInt + N.toInt) := by
          rw [mul64 (by rw [n925, e9]; omega) (by rw [n925, e9]; omega), n925, e9]
        refine ⟨N.toInt32, ui (xl (xl (xl (xl σ 143 (va_up (σ.2.1 143) k (μ.2 36 k + N))) 140 (va_up (σ.2.1 140) k (μ.2 33 k + N))) 145 (va_up (σ.2.1 145) k (σ.2.1 145 k + (μ.2 34 k - 925 * (μ.2 33 k + N))))) 141 (va_up (σ.2.1 141) k (925 * (μ.2 33 k + N)))) 142 k 1, um (setl (setl (setl (setl μ 36 (va_up (μ.2 36) k (μ.2 36 k + N))) 33 (va_up (μ.2 33) k (μ.2 33 k + N))) 41 (fun _ => μ.2 41 0 + (μ.2 34 k - 925 * (μ.2 33 k + N)))) 34 (va_up (μ.2 34) k (925 * (μ.2 33 k + N)))) 35 k 1, ?_, ?_, ?_⟩
        · simp [c, oq, isP_of h1, z, q1, q2, q4, y1, letm, hN, xl_ne, xl_self, xl_1, xi_21, va_up_self, va_up_up, ui]
        · simp [c, h2, hj, z, y2, letm, e7, hN, ml_ne, ml_self, ml_1, mi_2, va_up_self, va_up_up, nar1, um]
        · refine ⟨hC, hD, hS, hL, hT, RO_xi (by decide) hO, hP, hK, hRr, hG, ⟨fun j hj => ?_, ?_, fun j hj => ?_⟩⟩
          · obtain ⟨⟨r1, r2, r3, r4, r5, r6⟩, r7, r8, r9⟩ := hM.1 j hj
            by_cases qj : j = k
            · subst qj
              simp only [ui, um, xi, xl, seti, setl, va_up, ↓reduceIte, Nat.reduceEqDiff]
              exact ⟨⟨trivial, trivial, trivial, trivial, r5, r6⟩, by decide, r8, r9⟩
            · simp only [ui, um, xi, xl, seti, setl, va_up, qj, ↓reduceIte, Nat.reduceEqDiff]
              exact ⟨⟨r1, r2, r3, r4, r5, r6⟩, r7, r8, r9⟩
          · show va_up (σ.2.1 145) k (σ.2.1 145 k + (μ.2 34 k - 925 * (μ.2 33 k + N))) 0 + va_up (σ.2.1 145) k (σ.2.1 145 k + (μ.2 34 k - 925 * (μ.2 33 k + N))) 1 + va_up (σ.2.1 145) k (σ.2.1 145 k + (μ.2 34 k - 925 * (μ.2 33 k + N))) 2 = μ.2 41 0 + (μ.2 34 k - 925 * (μ.2 33 k + N))
            rw [sum3_up _ _ h1, hM.2.1]
          · have hb := hM.2.2 j hj
            by_cases qj : j = k
            · subst qj
              simp only [um, seti, setl, va_up, ↓reduceIte, Nat.reduceEqDiff]
              rw [e9, e10]
              omega
            · simp only [um, seti, setl, va_up, qj, ↓reduceIte, Nat.reduceEqDiff]
              exact hb
  · exact ⟨-1, σ, μ, by simp [c, oq], by simp [c], hR⟩
end POTS
