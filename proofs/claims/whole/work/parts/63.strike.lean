/-! THE PURE PART: strike -/
section STRIKE
abbrev pourX (σ : xS) (k : Nat) (w : Int64) : xS := xl (xl σ 140 (va_up (σ.2.1 140) k (σ.2.1 140 k - w))) 141 (va_up (σ.2.1 141) k (σ.2.1 141 k - 925 * w))
abbrev pourM (μ : mS) (k : Nat) (w : Int64) : mS := setl (setl μ 33 (va_up (μ.2 33) k (μ.2 33 k - w))) 34 (va_up (μ.2 34) k (μ.2 34 k - 925 * w))
theorem pour_R {σ : xS} {μ : mS} (hR : Rel σ μ) {k : Nat} (hk : k < 3) (w : Int64) (h0 : 0 ≤ w.toInt) (h1 : w.toInt ≤ (μ.2 33 k).toInt) : Rel (pourX σ k w) (pourM μ k w) := by
  obtain ⟨hC, hD, hS, hL, hT, hO, hP, hK, hRr, hG, hM⟩ := hR
  refine ⟨hC, hD, hS, hL, hT, hO, hP, hK, hRr, hG, ⟨fun j hj => ?_, hM.2.1, fun j hj => ?_⟩⟩
  · obtain ⟨⟨r1, r2, r3, r4, r5, r6⟩, r7, r8, r9⟩ := hM.1 j hj
    by_cases qj : j = k
    · subst qj
      simp only [pourX, pourM, xl, setl, va_up, ↓reduceIte, Nat.reduceEqDiff]
      exact ⟨⟨by rw [r1], by rw [r2], r3, r4, r5, r6⟩, r7, r8, r9⟩
    · simp only [pourX, pourM, xl, setl, va_up, qj, ↓reduceIte, Nat.reduceEqDiff]
      exact ⟨⟨r1, r2, r3, r4, r5, r6⟩, r7, r8, r9⟩
  · have hb := hM.2.2 j hj
    have hc2 := mcn_le (μ.1 16) 30
    by_cases qj : j = k
    · subst qj
      have n925 : (925 : Int64).toInt = 925 := by decide
      have e0 : (925 * w).toInt = 925 * w.toInt := by
        rw [mul64 (by rw [n925]; omega) (by rw [n925]; omega), n925]
      have e1 : (μ.2 33 j - w).toInt = (μ.2 33 j).toInt - w.toInt := sub64 (by omega) (by omega)
      have e2 : (μ.2 34 j - 925 * w).toInt = (μ.2 34 j).toInt - 925 * w.toInt := by
        rw [sub64 (by rw [e0]; omega) (by rw [e0]; omega), e0]
      simp only [pourM, setl, va_up, ↓reduceIte, Nat.reduceEqDiff]
      rw [e1, e2]
      omega
    · simp only [pourM, setl, va_up, qj, ↓reduceIte, Nat.reduceEqDiff]
      exact hb
theorem H_strike : ∀ (σ : xS) (μ : mS), Rel σ μ → ∀ (a0 : Int32) (a1 : Int32) (a2 : Int32), ∃ (r : Int32) (σ1 : xS) (μ1 : mS), f_X6_strike σ a0 a1 a2 = some (r, σ1) ∧ f_X7_strike μ a0 a1 a2 = some (r, μ1) ∧ Rel σ1 μ1 := by
  intro σ μ hR a s n
  obtain ⟨hC, hD, hS, hL, hT, hO, hP, hK, hRr, hG, hM⟩ := id hR
  unfold f_X6_strike f_X7_strike f_X3_pourOut
  rw [xp_eq hC, mm_eq, xs_eq hC, msr_eq hC, w_eq, i_eq]
  by_cases c : 0 ≤ a ∧ a ≤ 2
  · obtain ⟨h1, h2⟩ := pot_ix c
    obtain ⟨⟨q1, q2, q3, q4, q5, q6⟩, q7, q8, q9⟩ := hM.1 _ h1
    obtain ⟨b1, b2, b3⟩ := hM.2.2 _ h1
    by_cases c1 : 0 ≤ s ∧ s ≤ Int32.ofNat (nS σ) - 1
    · have hs1 : s.toNatClampNeg < nS σ := ix_lt c1.1 c1.2 (by have := hC.1.1; omega)
      have his := isS_of hs1 hC.1.1
      have hs := hS _ hs1
      have hv : vin s 8 = true := vin_of c1.1 (by have := hC.1.1; omega)
      have hpR := fun w h0 h1' => pour_R hR (k := a.toNatClampNeg) h1 w h0 h1'
      by_cases c2 : 1 ≤ n ∧ n ≤ 1000
      · by_cases c3 : μ.1 4 s.toNatClampNeg = 925
        · obtain ⟨wb1, wb2, wb3⟩ := mul_bd c2 ⟨Int32.le_trans hs.2.1.1 hs.2.1.2.1, hs.2.1.2.2⟩
          generalize hj : a.toNatClampNeg = k at *
          generalize hw : n * μ.1 3 s.toNatClampNeg = w at *
          by_cases c4 : μ.1 35 k = 0
          · exact ⟨-3, σ, μ, by simp [c, c1, c2, oq, his, hs.1.2.2.1, hs.1.2.1, c3, letm, isP_of h1, q3, c4], by simp [c, c1, c2, hv, c3, letm, h2, hj, c4], hR⟩
          · by_cases c5 : 0 ≤ lg_cmp (μ.2 33 k) w.toInt64
            · by_cases h8 : nLo σ < 30
              · have l1 : Int32.ofNat (nLo σ) < 30 := (ofn_lt (m := 30) (by omega) (by decide)).mpr h8
                have l2 : nLo σ < 1000 := by omega
                have l3 : ¬ Int32.ofNat (nLo σ) = 30 := fun z => absurd ((ofn_eq (m := 30) (by omega) (by decide)).mp z) (by omega)
                have w0 : (1 : Int) ≤ w.toInt := i_le wb2
                have w1 : w.toInt64.toInt ≤ (μ.2 33 k).toInt := Int64.le_iff_toInt_le.mp ((lg_ge _ _).mp c5)
                have hR2 := hpR w.toInt64 (by rw [Int32.toInt_toInt64]; omega) w1
                have hC2 : RC (pourX σ k w.toInt64) (pourM μ k w.toInt64) := hR2.1
                have h82 : nLo (pourX σ k w.toInt64) < 30 := h8
                have hin := init_eq (σ := pourX σ k w.toInt64) h82 4 s (2000 + s.toNatClampNeg) n w 925
                have hkp := keep_eq hC2 h82 4 s (2000 + s.toNatClampNeg) n w 925 107 a (Or.inr rfl)
                have h7 := newLot_eq hC2 h82 4 s n w 0 (-1) a
                have hi1 : isL (initX (pourX σ k w.toInt64) (nLo σ) 4 s (2000 + s.toNatClampNeg) n w 925) (1000 + nLo σ) = true := decide_eq_true ⟨by omega, by omega, by show 1000 + nLo σ - 1000 < nLo σ + 1; omega⟩
                have l4 : (pourX σ k w.toInt64).2.2.2 1 < 1000 := l2
                refine ⟨Int32.ofNat (nLo σ), lotX (pourX σ k w.toInt64) 4 s (2000 + s.toNatClampNeg) n w 925 107 a, lotM (pourM μ k w.toInt64) (nLo σ) 4 s n w 0 (-1) a, ?_, ?_, lot_R hR2 h82 4 s n w 0 925 (-1) a 107 a ⟨hs1, c1.1⟩ (by decide) ?_ (by decide) (Or.inr ⟨by decide, c2.1, c2.2, wb2, wb3⟩) (Or.inr ⟨rfl, rfl, rfl, c⟩)⟩
                · simp only [c, c1, c2, oq, his, hs.1.2.2.1, hs.1.2.1, c3, hw, letm, isP_of h1, q3, c4, q1, q2, c5, hC.2.2.1.1, l1, and_self, Option.bind_some, cond_true, ↓reduceIte, i10, Nat.add_sub_cancel_left, xl_ne, xl_self, ne_eq, Nat.reduceEqDiff, not_false_eq_true]
                  have e1 : xl (xl σ 140 (va_up (σ.2.1 140) k (μ.2 33 k - w.toInt64))) 141 (va_up (σ.2.1 141) k (μ.2 34 k - 925 * w.toInt64)) = pourX σ k w.toInt64 := by
                    rw [← q1, ← q2]
                  rw [e1, decide_eq_true l4]
                  show (f_X1_init (newlot (pourX σ k w.toInt64)) (1000 + nLo (pourX σ k w.toInt64)) 4 s (2000 + s.toNatClampNeg) n w 925).bind _ = _
                  rw [hin]
                  show (bif isL (initX (pourX σ k w.toInt64) (nLo σ) 4 s (2000 + s.toNatClampNeg) n w 925) (1000 + nLo σ) then _ else none) = _
                  rw [hi1]
                  exact congrArg (fun z => Option.bind z (fun r94 : Int32 × xS => some (r94.1, r94.2))) hkp
                · simp only [c, c1, c2, hv, c3, hw, letm, h2, hj, c4, c5, hC.2.2.1.2, l3, and_self, Option.bind_some, cond_true, ↓reduceIte, i10, ml_ne, ml_self, ne_eq, Nat.reduceEqDiff, not_false_eq_true]
                  exact congrArg (fun z => Option.bind z (fun r94 : Int32 × mS => some (r94.1, r94.2))) h7
                · rw [if_neg (by decide)]
                  exact c3.symm
              · have h9 : nLo σ = 30 := by have := hC.1.2.1; omega
                have l1 : ¬ Int32.ofNat (nLo σ) < 30 := by rw [h9]; decide
                have l3 : Int32.ofNat (nLo σ) = 30 := by rw [h9]; rfl
                exact ⟨-4, σ, μ, by simp [c, c1, c2, oq, his, hs.1.2.2.1, hs.1.2.1, c3, hw, letm, isP_of h1, q3, c4, q1, c5, hC.2.2.1.1, l1], by simp [c, c1, c2, hv, c3, hw, letm, h2, hj, c4, c5, hC.2.2.1.2, l3], hR⟩
            · exact ⟨-3, σ, μ, by simp [c, c1, c2, oq, his, hs.1.2.2.1, hs.1.2.1, c3, hw, letm, isP_of h1, q3, c4, q1, c5], by simp [c, c1, c2, hv, c3, hw, letm, h2, hj, c4, c5], hR⟩
        · exact ⟨-2, σ, μ, by simp [c, c1, c2, oq, his, hs.1.2.2.1, c3], by simp [c, c1, c2, hv, c3], hR⟩
      · exact ⟨-2, σ, μ, by simp [c, c1, c2, oq], by simp [c, c1, c2], hR⟩
    · exact ⟨-1, σ, μ, by simp [c, c1, oq], by simp [c, c1], hR⟩
  · refine ⟨-1, σ, μ, ?_, by simp [c], hR⟩
    by_cases c1 : 0 ≤ s ∧ s ≤ Int32.ofNat (nS σ) - 1
    · simp [c, c1, oq]
    · simp [c, c1, oq]
end STRIKE
