/-! THE PURE PART: mint, wish, about, sort, open, send, bring -/
section LOTS
theorem isL_xi (σ : xS) (c : Nat) (f : Nat → Int32) (k : Nat) : isL (xi σ c f) k = isL σ k := rfl
theorem isS_xi (σ : xS) (c : Nat) (f : Nat → Int32) (k : Nat) : isS (xi σ c f) k = isS σ k := rfl
theorem isL_xr (σ : xS) (c : Nat) (f : Nat → Option Nat) (k : Nat) : isL (xr σ c f) k = isL σ k := rfl
theorem isS_xr (σ : xS) (c : Nat) (f : Nat → Option Nat) (k : Nat) : isS (xr σ c f) k = isS σ k := rfl
theorem melt_eq {σ : xS} {μ : mS} {x : Int32} (hD : RD σ μ) (hM : RM σ μ) (c : 0 ≤ x ∧ x ≤ 2) : f_X7_meltedToday μ x = some (if μ.1 40 x.toNatClampNeg = μ.1 6 0 then μ.1 39 x.toNatClampNeg else 0) ∧ f_X3_meltedOn σ (23 + x.toNatClampNeg) (μ.1 6 0) = some (if μ.1 40 x.toNatClampNeg = μ.1 6 0 then μ.1 39 x.toNatClampNeg else 0) := by
  obtain ⟨h1, h2⟩ := pot_ix c
  unfold f_X7_meltedToday f_X3_meltedOn
  obtain ⟨q0, q7, q8, q9⟩ := hM.1 _ h1
  constructor
  · by_cases e : μ.1 40 x.toNatClampNeg = μ.1 6 0
    · simp [e, h2]
    · simp [e, h2]
  · rw [isP_of h1, Nat.add_sub_cancel_left]
    rcases q9 with ⟨z1, z2, z3⟩ | ⟨z1, z2, z3⟩
    · rw [z1, z2]
      by_cases e : μ.1 40 x.toNatClampNeg = μ.1 6 0
      · simp [e]
      · simp [e, Ne.symm e]
    · rw [z1, z2, z3]
      have e : ¬ (-1 : Int32) = μ.1 6 0 := fun z => absurd (z ▸ hD.2.1) (by decide)
      simp [e]
theorem H_mint : ∀ (σ : xS) (μ : mS), Rel σ μ → ∀ (a0 : Int32) (a1 : Int32), ∃ (r : Int64), f_X6_mint σ a0 a1 = some r ∧ f_X7_mint μ a0 a1 = some r ∧ Rel σ μ := by
  intro σ μ hR a b
  obtain ⟨hC, hD, hS, hL, hT, hO, hP, hK, hRr, hG, hM⟩ := id hR
  unfold f_X6_mint f_X7_mint
  rw [xp_eq hC, mm_eq, hD.1]
  by_cases c : 0 ≤ a ∧ a ≤ 2
  · obtain ⟨h1, h2⟩ := pot_ix c
    obtain ⟨m1, m2⟩ := melt_eq hD hM c
    obtain ⟨⟨q1, q2, q3, q4, q5, q6⟩, q7, q8, q9⟩ := hM.1 _ h1
    by_cases e0 : b = 0
    · exact ⟨μ.2 33 a.toNatClampNeg, by simp [c, oq, isP_of h1, e0, q1], by simp [c, h2, e0], hR⟩
    by_cases e1 : b = 1
    · exact ⟨μ.2 34 a.toNatClampNeg, by simp [c, oq, isP_of h1, e1, q2], by simp [c, h2, e1], hR⟩
    by_cases e2 : b = 2
    · by_cases z : μ.1 35 a.toNatClampNeg = 0
      · exact ⟨0, by simp [c, oq, isP_of h1, e2, q3, z, f_X6_oneIf], by simp [c, h2, e2, z], hR⟩
      · exact ⟨1, by simp [c, oq, isP_of h1, e2, q3, z, f_X6_oneIf], by simp [c, h2, e2, z], hR⟩
    by_cases e3 : b = 3
    · exact ⟨μ.2 36 a.toNatClampNeg, by simp [c, oq, isP_of h1, e3, q4], by simp [c, h2, e3], hR⟩
    by_cases e4 : b = 4
    · exact ⟨μ.2 37 a.toNatClampNeg, by simp [c, oq, isP_of h1, e4, q5], by simp [c, h2, e4], hR⟩
    by_cases e5 : b = 5
    · exact ⟨(if μ.1 40 a.toNatClampNeg = μ.1 6 0 then μ.1 39 a.toNatClampNeg else 0).toInt64, by simp [c, oq, isP_of h1, e5, m2], by simp [c, h2, e5, m1], hR⟩
    exact ⟨-1, by simp [c, oq, e0, e1, e2, e3, e4, e5], by simp [c, e0, e1, e2, e3, e4, e5], hR⟩
  · exact ⟨-1, by simp [c, oq], by simp [c], hR⟩
theorem town_ix {x : Int32} (c : 0 ≤ x ∧ x ≤ 5) : x.toNatClampNeg < 6 ∧ vin x 6 = true := by
  have := ix_le (n := 5) c.1 c.2 (by decide)
  exact ⟨by omega, vin_of c.1 (by omega)⟩
theorem in_01 (x : Int32) : (0 ≤ x ∧ x ≤ 1) ↔ (x = 0 ∨ x = 1) := by
  constructor
  · intro ⟨h1, h2⟩
    have a := ix_le (n := 1) h1 h2 (by decide)
    have b := ix_of h1
    generalize x.toNatClampNeg = k at a b
    match k, a with
    | 0, _ => exact Or.inl b
    | 1, _ => exact Or.inr b
  · rintro (h | h) <;> subst h <;> decide
theorem H_wish : ∀ (σ : xS) (μ : mS), Rel σ μ → ∀ (a0 : Int32) (a1 : Int32) (a2 : Int32), ∃ (r : Int32) (σ1 : xS) (μ1 : mS), f_X6_wish σ a0 a1 a2 = some (r, σ1) ∧ f_X7_wish μ a0 a1 a2 = some (r, μ1) ∧ Rel σ1 μ1 := by
  intro σ μ hR w a b
  obtain ⟨hC, hD, hS, hL, hT, hO, hP, hK, hRr, hG, hM⟩ := id hR
  unfold f_X6_wish f_X7_wish
  rw [xm_eq, mm_eq, xt_eq, mt_eq, w_eq, i_eq, i_eq]
  by_cases e0 : w = 0
  · subst e0
    by_cases c : 0 ≤ a ∧ a ≤ 2
    · obtain ⟨h1, h2⟩ := pot_ix c
      by_cases c2 : 0 ≤ b ∧ b ≤ 1000
      · refine ⟨μ.1 42 a.toNatClampNeg, xi σ 13 (va_up (σ.1 13) a.toNatClampNeg b), seti μ 42 (va_up (μ.1 42) a.toNatClampNeg b), ?_, ?_, hC, hD, hS, hL, hT, RO_xi (by decide) hO, hP, hK, hRr, ⟨?_, hG.2⟩, hM⟩
        · simp [c, c2, h2, letm, (hG.1 _ h1).1]
        · simp [c, c2, h2, letm]
        · exact up_eq (P := fun y => 0 ≤ y ∧ y ≤ 1000) hG.1 c2
      · exact ⟨-2, σ, μ, by simp [c, c2], by simp [c, c2], hR⟩
    · exact ⟨-1, σ, μ, by simp [c], by simp [c], hR⟩
  by_cases e1 : w = 1
  · subst e1
    by_cases c : 0 ≤ a ∧ a ≤ 5
    · obtain ⟨h1, h2⟩ := town_ix c
      by_cases c2 : 0 ≤ b ∧ b ≤ 1000
      · refine ⟨μ.1 43 a.toNatClampNeg, xi σ 14 (va_up (σ.1 14) a.toNatClampNeg b), seti μ 43 (va_up (μ.1 43) a.toNatClampNeg b), ?_, ?_, hC, hD, hS, hL, hT, RO_xi (by decide) hO, hP, hK, hRr, ⟨hG.1, ?_⟩, hM⟩
        · simp [c, c2, h2, letm, (hG.2 _ h1).1]
        · simp [c, c2, h2, letm]
        · exact up_eq (P := fun y => 0 ≤ y ∧ y ≤ 1000) hG.2 c2
      · exact ⟨-2, σ, μ, by simp [c, c2], by simp [c, c2], hR⟩
    · exact ⟨-1, σ, μ, by simp [c], by simp [c], hR⟩
  · have e2 : ¬ (0 ≤ w ∧ w ≤ 1) := fun z => ((in_01 w).mp z).elim e0 e1
    exact ⟨-1, σ, μ, by simp [e0, e1], by simp [e2], hR⟩
theorem under_eq {μ : mS} {x : Int32} (hv : vin x 30 = true) : f_X7_isUnderWay μ x = some (if μ.1 15 x.toNatClampNeg ≤ μ.1 6 0 then 0 else 1) := by
  unfold f_X7_isUnderWay
  by_cases e : μ.1 15 x.toNatClampNeg ≤ μ.1 6 0
  · simp [e, hv]
  · simp [e, hv]
theorem onroad_eq {σ : xS} {μ : mS} {i : Nat} (hD : RD σ μ) (h : i < nLo σ) (h1 : nLo σ ≤ 30) (hl : RLot σ μ i) : f_X1_isOnRoad σ (1000 + i) (μ.1 6 0) = some (if μ.1 15 i ≤ μ.1 6 0 then 0 else 1) := by
  unfold f_X1_isOnRoad
  rw [isL_of h h1, Nat.add_sub_cancel_left]
  obtain ⟨r1, r2⟩ := road_iff hD hl
  by_cases e : μ.1 15 i ≤ μ.1 6 0
  · simp [e, r1]
  · simp [e, r1]
theorem H_about : ∀ (σ : xS) (μ : mS), Rel σ μ → ∀ (a0 : Int32) (a1 : Int32), ∃ (r : Int32), f_X6_about σ a0 a1 = some r ∧ f_X7_about μ a0 a1 = some r ∧ Rel σ μ := by
  intro σ μ hR a b
  obtain ⟨hC, hD, hS, hL, hT, hO, hP, hK, hRr, hG, hM⟩ := id hR
  unfold f_X6_about f_X7_about
  rw [xl_eq hC, ml_eq hC, hD.1]
  by_cases c : 0 ≤ a ∧ a ≤ Int32.ofNat (nLo σ) - 1
  · obtain ⟨h1, h2, h3⟩ := lot_ix hC c
    have hl := hL _ h1
    have hi := isL_of h1 hC.1.2.1
    have ho := onroad_eq hD h1 hC.1.2.1 hl
    have hr := (road_iff hD hl).2
    have hf := fine_eq hC h3 hl
    have hu := under_eq (μ := μ) h3
    obtain ⟨⟨p100, p102, p104, p105, p109, p110, p111⟩, p2, p3, p4, p5, p6, p7, p8, p9, p10, p11⟩ := hl
    by_cases e0 : b = 0
    · exact ⟨μ.1 8 a.toNatClampNeg, by simp [c, oq, hi, e0, p104], by simp [c, h3, e0], hR⟩
    by_cases e1 : b = 1
    · exact ⟨μ.1 9 a.toNatClampNeg, by simp [c, oq, hi, e1, p100], by simp [c, h3, e1], hR⟩
    by_cases e2 : b = 2
    · exact ⟨μ.1 10 a.toNatClampNeg, by simp [c, oq, hi, e2, p102], by simp [c, h3, e2], hR⟩
    by_cases e3 : b = 3
    · exact ⟨μ.1 11 a.toNatClampNeg, by simp [c, oq, hi, e3, p105], by simp [c, h3, e3], hR⟩
    by_cases e4 : b = 4
    · exact ⟨σ.1 103 a.toNatClampNeg, by simp [c, oq, hi, e4], by simp [c, h3, e4, hf], hR⟩
    by_cases e5 : b = 5
    · rcases p9 with ⟨z1, z2, z3⟩ | ⟨z1, z2, z3, z4, z5, z6⟩
      · exact ⟨μ.1 13 a.toNatClampNeg, by simp [c, oq, hi, e5, z2], by simp [c, h3, e5, z1], hR⟩
      · exact ⟨-1, by simp [c, oq, hi, e5, z2], by simp [c, h3, e5, z1], hR⟩
    by_cases e6 : b = 6
    · rcases p9 with ⟨z1, z2, z3⟩ | ⟨z1, z2, z3, z4, z5, z6⟩
      · exact ⟨μ.1 14 a.toNatClampNeg, by simp [c, oq, hi, e6, z3], by simp [c, h3, e6, z1], hR⟩
      · exact ⟨-1, by simp [c, oq, hi, e6, z3], by simp [c, h3, e6, z1], hR⟩
    by_cases e7 : b = 7
    · rcases p9 with ⟨z1, z2, z3⟩ | ⟨z1, z2, z3, z4, z5, z6⟩
      · by_cases q : μ.1 15 a.toNatClampNeg ≤ μ.1 6 0
        · exact ⟨-1, by simp [c, oq, hi, e7, ho, q], by simp [c, h3, e7, z1, hu, q], hR⟩
        · exact ⟨μ.1 15 a.toNatClampNeg, by simp [c, oq, hi, e7, ho, q, hr q], by simp [c, h3, e7, z1, hu, q], hR⟩
      · exact ⟨-1, by simp [c, oq, hi, e7, ho, z6], by simp [c, h3, e7, z1], hR⟩
    by_cases e8 : b = 8
    · by_cases z : μ.1 16 a.toNatClampNeg = 0
      · exact ⟨0, by simp [c, oq, hi, e8, p109, z, f_X6_oneIf], by simp [c, h3, e8, z], hR⟩
      · exact ⟨1, by simp [c, oq, hi, e8, p109, z, f_X6_oneIf], by simp [c, h3, e8, z], hR⟩
    by_cases e9 : b = 9
    · by_cases z : μ.1 17 a.toNatClampNeg = 0
      · exact ⟨0, by simp [c, oq, hi, e9, p110, z, f_X6_oneIf], by simp [c, h3, e9, z], hR⟩
      · exact ⟨1, by simp [c, oq, hi, e9, p110, z, f_X6_oneIf], by simp [c, h3, e9, z], hR⟩
    by_cases e10 : b = 10
    · by_cases z : μ.1 18 a.toNatClampNeg = 0
      · exact ⟨0, by simp [c, oq, hi, e10, p111, z, f_X6_oneIf], by simp [c, h3, e10, z], hR⟩
      · exact ⟨1, by simp [c, oq, hi, e10, p111, z, f_X6_oneIf], by simp [c, h3, e10, z], hR⟩
    exact ⟨-1, by simp [c, oq, e0, e1, e2, e3, e4, e5, e6, e7, e8, e9, e10], by simp [c, e0, e1, e2, e3, e4, e5, e6, e7, e8, e9, e10], hR⟩
  · exact ⟨-1, by simp [c, oq], by simp [c], hR⟩
end LOTS
