/-! THE PURE PART: drawn, light, give -/
section DRAWN
def loOf (μ : mS) (i : Nat) : Int32 := if μ.1 8 i = 1 ∨ μ.1 8 i = 5 then 1 else μ.1 2 (μ.1 9 i).toNatClampNeg
theorem lowest_eq {σ : xS} {μ : mS} {x : Int32} (hC : RC σ μ) (hv : vin x 30 = true) (hl : RLot σ μ x.toNatClampNeg) : f_X7_lowest μ x = some (loOf μ x.toNatClampNeg) := by
  unfold f_X7_lowest loOf
  by_cases k1 : μ.1 8 x.toNatClampNeg = 1
  · simp [hv, k1]
  · by_cases k5 : μ.1 8 x.toNatClampNeg = 5
    · simp [hv, k5]
    · simp [hv, k1, k5, sn_ix hC hl]
theorem least_eq {σ : xS} {μ : mS} {i : Nat} (hC : RC σ μ) (hS : RS σ μ) (hl : RLot σ μ i) : f_X4_leastOfCoin σ (2000 + (μ.1 9 i).toNatClampNeg) (μ.1 8 i) = some (loOf μ i) := by
  unfold f_X4_leastOfCoin loOf
  have hs := (hS _ hl.2.1.1).1.1
  by_cases k1 : μ.1 8 i = 1
  · simp [k1]
  · by_cases k5 : μ.1 8 i = 5
    · simp [k5]
    · simp [k1, k5, isS_of hl.2.1.1 hC.1.1, hs]
theorem lo_bd {σ : xS} {μ : mS} {i : Nat} (hS : RS σ μ) (hl : RLot σ μ i) : 1 ≤ loOf μ i ∧ loOf μ i ≤ 500 := by
  unfold loOf
  have hs := (hS _ hl.2.1.1).2.1
  by_cases k1 : μ.1 8 i = 1 ∨ μ.1 8 i = 5
  · rw [if_pos k1]; decide
  · rw [if_neg k1]
    exact ⟨hs.1, Int32.le_trans hs.2.1 hs.2.2⟩
theorem draw_eq {σ : xS} {μ : mS} {x : Int32} (hC : RC σ μ) (hS : RS σ μ) (h1 : x.toNatClampNeg < nLo σ) (hv : vin x 30 = true) (hl : RLot σ μ x.toNatClampNeg) (a b : Int32) : ∃ d, f_X7_isDrawn μ x a b = some d ∧ f_X1_canDraw σ (1000 + x.toNatClampNeg) a b = some d ∧ (d = 0 ∨ (d = 1 ∧ μ.1 8 x.toNatClampNeg ≠ 3 ∧ (0 ≤ a ∧ a ≤ μ.1 10 x.toNatClampNeg) ∧ (a * loOf μ x.toNatClampNeg ≤ b ∧ b ≤ a * μ.1 3 (μ.1 9 x.toNatClampNeg).toNatClampNeg))) := by
  have hi := isL_of h1 hC.1.2.1
  have hn := sn_ix hC hl
  have his := isS_of hl.2.1.1 hC.1.1
  have hs := hS _ hl.2.1.1
  have lw := lowest_eq hC hv hl
  have ls := least_eq hC hS hl
  unfold f_X7_isDrawn f_X1_canDraw
  generalize hj : x.toNatClampNeg = i at *
  simp only [hv, hi, cond_true, Nat.add_sub_cancel_left, hl.1.2.1, i_eq, w_eq, lw, hn, hl.2.1.2.2, Option.bind_some, his, hl.1.2.2.1, ls, hs.1.2.1]
  by_cases c0 : μ.1 10 i ≤ 0
  · exact ⟨0, by simp [c0], by simp [c0], Or.inl rfl⟩
  · have k3 : μ.1 8 i ≠ 3 := by
      intro z
      rcases hl.2.2.2.2.2.1 with y | y
      · rw [y.2.1] at c0
        exact c0 (by decide)
      · exact y.1 z
    by_cases c1 : 0 ≤ a ∧ a ≤ μ.1 10 i
    · by_cases c2 : a * loOf μ i ≤ b ∧ b ≤ a * μ.1 3 (μ.1 9 i).toNatClampNeg
      · exact ⟨1, by simp [c0, c1, c2], by simp [c0, c1, c2], Or.inr ⟨rfl, k3, c1, c2⟩⟩
      · exact ⟨0, by simp [c0, c1, c2], by simp [c0, c1, c2], Or.inl rfl⟩
    · exact ⟨0, by simp [c0, c1], by simp [c0, c1], Or.inl rfl⟩
theorem H_drawn : ∀ (σ : xS) (μ : mS), Rel σ μ → ∀ (a0 : Int32) (a1 : Int32) (a2 : Int32) (a3 : Int32), ∃ (r : Int32), f_X6_drawn σ a0 a1 a2 a3 = some r ∧ f_X7_drawn μ a0 a1 a2 a3 = some r ∧ Rel σ μ := by
  intro σ μ hR x a b w
  obtain ⟨hC, hD, hS, hL, hT, hO, hP, hK, hRr, hG, hM⟩ := id hR
  unfold f_X6_drawn f_X7_drawn
  rw [xl_eq hC, ml_eq hC, w_eq, i_eq]
  by_cases c : 0 ≤ x ∧ x ≤ Int32.ofNat (nLo σ) - 1
  · obtain ⟨h1, h2, h3⟩ := lot_ix hC c
    have hl := hL _ h1
    have hi := isL_of h1 hC.1.2.1
    obtain ⟨d, d1, d2, d3⟩ := draw_eq hC hS h1 h3 hl a b
    have lw := lowest_eq hC h3 hl
    have ls := least_eq hC hS hl
    have hn := sn_ix hC hl
    have his := isS_of hl.2.1.1 hC.1.1
    have hs := hS _ hl.2.1.1
    by_cases c2 : 0 ≤ w ∧ w ≤ 1
    · rcases d3 with z | ⟨z, _⟩
      · subst z
        exact ⟨-2, by simp [c, c2, oq, hi, d2], by simp [c, c2, d1], hR⟩
      · subst z
        by_cases w0 : w = 0
        · subst w0
          refine ⟨b + (μ.1 10 x.toNatClampNeg - a) * loOf μ x.toNatClampNeg, ?_, ?_, hR⟩
          · unfold f_X1_leastDrawn
            simp [c, oq, hi, d2, hl.2.1.2.2, his, hl.1.2.2.1, ls, hl.1.2.1]
          · simp [c, d1, h3, lw]
        · refine ⟨b + (μ.1 10 x.toNatClampNeg - a) * μ.1 3 (μ.1 9 x.toNatClampNeg).toNatClampNeg, ?_, ?_, hR⟩
          · unfold f_X1_mostDrawn
            simp [c, c2, w0, oq, hi, d2, hl.2.1.2.2, his, hl.1.2.1, hs.1.2.1]
          · simp [c, c2, w0, d1, h3, hn]
    · exact ⟨-1, by simp [c, c2, oq], by simp [c, c2], hR⟩
  · exact ⟨-1, by simp [c, oq], by simp [c], hR⟩
theorem lg_ge (x y : Int64) : 0 ≤ lg_cmp x y ↔ y ≤ x := by
  unfold lg_cmp
  by_cases a : x > y
  · rw [if_pos a]
    exact ⟨fun _ => Int64.le_of_lt a, fun _ => by decide⟩
  · rw [if_neg a]
    by_cases b : x = y
    · rw [if_pos b, b]
      exact ⟨fun _ => Int64.le_refl _, fun _ => by decide⟩
    · rw [if_neg b]
      constructor
      · intro z; exact absurd z (by decide)
      · intro z
        exact absurd (Int64.le_antisymm (Int64.not_lt.mp a) z) b
theorem H_light : ∀ (σ : xS) (μ : mS), Rel σ μ → ∀ (a0 : Int32) (a1 : Int32) (a2 : Int32) (a3 : Int32), ∃ (r : Int32), f_X6_light σ a0 a1 a2 a3 = some r ∧ f_X7_light μ a0 a1 a2 a3 = some r ∧ Rel σ μ := by
  intro σ μ hR x a b t
  obtain ⟨hC, hD, hS, hL, hT, hO, hP, hK, hRr, hG, hM⟩ := id hR
  unfold f_X6_light f_X7_light
  rw [xl_eq hC, ml_eq hC, xt_eq, mt_eq, hD.1]
  by_cases c : 0 ≤ x ∧ x ≤ Int32.ofNat (nLo σ) - 1
  · obtain ⟨h1, h2, h3⟩ := lot_ix hC c
    have hl := hL _ h1
    have hi := isL_of h1 hC.1.2.1
    obtain ⟨d, d1, d2, d3⟩ := draw_eq hC hS h1 h3 hl a b
    have hn := sn_ix hC hl
    have his := isS_of hl.2.1.1 hC.1.1
    have hs := hS _ hl.2.1.1
    have hlo := lo_bd hS hl
    have hO0 := hC.1.2.2
    have hS0 := hC.1.1
    by_cases c2 : 0 ≤ t ∧ t ≤ 5
    · rcases d3 with z | ⟨z, k3, aa, bb⟩
      · subst z
        exact ⟨-2, by simp [c, c2, oq, hi, d2], by simp [c, c2, d1], hR⟩
      · subst z
        obtain ⟨r, o, e1, e2, e3, e4⟩ := force_eq hC hO t (μ.1 6 0) c2
        rcases e4 with ⟨z1, z2⟩ | ⟨j, z1, z2, z3⟩
        · subst z1 z2
          exact ⟨0, by simp [c, c2, oq, hi, d2, e2, e3], by simp [c, c2, d1, e1, h3, letm], hR⟩
        · subst z2 z3
          have g1 : ¬ Int32.ofNat j < 0 := by rw [show (0 : Int32) = Int32.ofNat 0 from rfl, ofn_lt (by omega) (by decide)]; omega
          obtain ⟨n1, n2⟩ := eight_ix (k := j) (s := μ.1 9 x.toNatClampNeg) (by omega) hl.2.1.2.1 (by have := hl.2.1.1; omega)
          have hr := hC.2.2.2.2.2.2.2.1 j z1
          obtain ⟨hs1, hs2⟩ := (hO j z1).1 (μ.1 9 x.toNatClampNeg).toNatClampNeg (by have := hl.2.1.1; omega)
          obtain ⟨q1, q2, q3, q4⟩ : 1 ≤ μ.1 10 x.toNatClampNeg ∧ μ.1 10 x.toNatClampNeg ≤ 1000 ∧ 1 ≤ μ.1 11 x.toNatClampNeg ∧ μ.1 11 x.toNatClampNeg ≤ 500000 := by
            rcases hl.2.2.2.2.2.1 with y | y
            · exact absurd y.1 k3
            · exact y.2
          have i1 : (1 : Int) ≤ (μ.1 10 x.toNatClampNeg).toInt := i_le q1
          have i2 : (μ.1 10 x.toNatClampNeg).toInt ≤ 1000 := i_le q2
          have i3 : (0 : Int) ≤ a.toInt := i_le aa.1
          have i4 := i_le aa.2
          have i5 : (1 : Int) ≤ (loOf μ x.toNatClampNeg).toInt := i_le hlo.1
          have i6 : (loOf μ x.toNatClampNeg).toInt ≤ 500 := i_le hlo.2
          have i7 : (1 : Int) ≤ (μ.1 3 (μ.1 9 x.toNatClampNeg).toNatClampNeg).toInt := i_le (Int32.le_trans hs.2.1.1 hs.2.1.2.1)
          have i8 : (μ.1 3 (μ.1 9 x.toNatClampNeg).toNatClampNeg).toInt ≤ 500 := i_le hs.2.1.2.2
          have v9 := i_le bb.1
          have v10 := i_le bb.2
          have j1 := mul_b2 (x := a) (y := loOf μ x.toNatClampNeg) i3 (show a.toInt ≤ 1000 by omega) (by omega) i6 (by decide) (by decide)
          have j2 := mul_b2 (x := a) (y := μ.1 3 (μ.1 9 x.toNatClampNeg).toNatClampNeg) i3 (show a.toInt ≤ 1000 by omega) (by omega) i8 (by decide) (by decide)
          have j3 := sub_int (x := μ.1 10 x.toNatClampNeg) (y := a) (by omega) (by omega)
          have j4 := mul_b2 (x := μ.1 10 x.toNatClampNeg - a) (y := μ.1 3 (μ.1 9 x.toNatClampNeg).toNatClampNeg) (by omega) (show (μ.1 10 x.toNatClampNeg - a).toInt ≤ 1000 by omega) (by omega) i8 (by decide) (by decide)
          have j5 := add_int (x := b) (y := (μ.1 10 x.toNatClampNeg - a) * μ.1 3 (μ.1 9 x.toNatClampNeg).toNatClampNeg) (by omega) (by omega)
          generalize hMst : b + (μ.1 10 x.toNatClampNeg - a) * μ.1 3 (μ.1 9 x.toNatClampNeg).toNatClampNeg = M at *
          have hM0 : 0 ≤ M := le_int.mpr (by show (0 : Int) ≤ _; omega)
          have hmd : f_X1_mostDrawn σ (1000 + x.toNatClampNeg) a b = some M := by
            unfold f_X1_mostDrawn
            rw [← hMst]
            simp [hi, hl.2.1.2.2, his, hl.1.2.1, hs.1.2.1]
          generalize hy : 8 * j + (μ.1 9 x.toNatClampNeg).toNatClampNeg = y at *
          have cls : ∀ g, σ.1 (3000 + j) (μ.1 9 x.toNatClampNeg).toNatClampNeg = g → ((bif isL σ (1000 + x.toNatClampNeg) then (f_X1_canDraw σ (1000 + x.toNatClampNeg) a b).bind fun r26 => if r26 = 0 then some (-2) else (f_X6_orderInForce σ t (μ.1 6 0)).bind fun r43 => (f_X6_orderAt σ r43).bind fun r46 => oq r46 (some 0) (fun k49_3 => (f_X1_mostDrawn σ (1000 + x.toNatClampNeg) a b).bind fun r62 => bif isO σ k49_3 then (σ.2.2.1 131 (k49_3 - 3000)).bind fun a67_5 => bif isGr σ a67_5 then bif vin (σ.1 100 (1000 + x.toNatClampNeg - 1000)) 8 then if ((σ.1 (3000 + (a67_5 - 3600)) ((σ.1 100 (1000 + x.toNatClampNeg - 1000))).toNatClampNeg) * (σ.1 102 (1000 + x.toNatClampNeg - 1000))) ≤ r62 then (f_X6_oneIf 0).bind fun r90 => some r90 else (f_X6_oneIf 1).bind fun r90 => some r90 else none else none else none) else none : Option Int32)) = some (if g * μ.1 10 x.toNatClampNeg ≤ M then 0 else 1) := by
            intro g hg
            simp only [hi, d2, e2, e3, oq, hmd, isO_of z1 hO0, Nat.add_sub_cancel_left, hr.2.2.1, isGr_of hC z1, hl.1.1, hn, hg, hl.1.2.1, cond_true, Option.bind_some, f_X6_oneIf, i10, ↓reduceIte]
            by_cases w : g * μ.1 10 x.toNatClampNeg ≤ M
            · simp [w]
            · simp [w]
          suffices fin : ∃ (g v : Int32), σ.1 (3000 + j) (μ.1 9 x.toNatClampNeg).toNatClampNeg = g ∧ (if g * μ.1 10 x.toNatClampNeg ≤ M then (0 : Int32) else 1) = v ∧ (bif vin (8 * Int32.ofNat j + μ.1 9 x.toNatClampNeg) 80 then if μ.1 22 y = 2 then (if 0 ≤ lg_cmp M.toInt64 ((μ.1 24 y).toInt64 * (μ.1 10 x.toNatClampNeg).toInt64) then some 0 else some 1) else some 0 else none : Option Int32) = some v by
            obtain ⟨g, v, hg, hv, hm⟩ := fin
            refine ⟨v, ?_, ?_, hR⟩
            · simp only [c, c2, and_self, ↓reduceIte, Option.bind_some, oq, i10]
              rw [← hv]
              exact cls g hg
            · simp only [c, c2, and_self, ↓reduceIte, Option.bind_some, i10, d1, e1, h3, cond_true, letm, g1, n2, hn, n1, hMst]
              rw [n1] at hm
              exact hm
          rcases hs1 with w | w | w | w
          · refine ⟨0, 0, hs2 w.2, by rw [Int32.zero_mul, if_pos hM0], ?_⟩
            rw [n1, w.1]
            rfl
          · refine ⟨0, 0, w.2.2, by rw [Int32.zero_mul, if_pos hM0], ?_⟩
            rw [n1, w.1]
            rfl
          · refine ⟨0, 0, w.2.2.1, by rw [Int32.zero_mul, if_pos hM0], ?_⟩
            rw [n1, w.1]
            rfl
          · obtain ⟨w1, w2, w3, w4, w5, w6, w7⟩ := w
            refine ⟨μ.1 24 y, _, w3, rfl, ?_⟩
            rw [n1, w1]
            have u1 : (1 : Int) ≤ (μ.1 24 y).toInt := i_le w6
            have u2 : (μ.1 24 y).toInt ≤ 9999 := i_le w7
            have u3 := mul_b2 (x := μ.1 24 y) (y := μ.1 10 x.toNatClampNeg) (by omega) u2 (by omega) i2 (by decide) (by decide)
            have u4 : ((μ.1 24 y).toInt64 * (μ.1 10 x.toNatClampNeg).toInt64).toInt = (μ.1 24 y).toInt * (μ.1 10 x.toNatClampNeg).toInt := by
              rw [Int64.toInt_mul, Int32.toInt_toInt64, Int32.toInt_toInt64]
              exact Int.bmod_eq_of_le (by omega) (by omega)
            have u5 : 0 ≤ lg_cmp M.toInt64 ((μ.1 24 y).toInt64 * (μ.1 10 x.toNatClampNeg).toInt64) ↔ μ.1 24 y * μ.1 10 x.toNatClampNeg ≤ M := by
              rw [lg_ge, Int64.le_iff_toInt_le, u4, Int32.toInt_toInt64, le_int, u3.1]
            by_cases u6 : μ.1 24 y * μ.1 10 x.toNatClampNeg ≤ M
            · rw [if_pos u6, if_pos (u5.mpr u6)]
              rfl
            · rw [if_neg u6, if_neg (fun z => u6 (u5.mp z))]
              rfl
    · exact ⟨-1, by simp [c, c2, oq], by simp [c, c2], hR⟩
  · exact ⟨-1, by simp [c, oq], by simp [c], hR⟩
end DRAWN
