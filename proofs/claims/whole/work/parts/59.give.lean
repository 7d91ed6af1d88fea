/-! THE PURE PART: give, count, sent, all -/
section GIVE
theorem nar1 : vp_nar .boolean 1 = 1 := by decide
theorem nar0 : vp_nar .boolean 0 = 0 := by decide
theorem give_L (t : Int32) : ∀ (d k f1 f2 : Nat) (σ : xS) (μ : mS) (x2 : Int32), Rel σ μ → k + d = nLo σ → d < f1 → d < f2 → ∃ r σ1 μ1, f_X6_give_L13 f1 σ t x2 (Int32.ofNat k) = some (r, σ1) ∧ f_X7_give_L13 f2 μ t x2 (Int32.ofNat k) = some (r, μ1) ∧ Rel σ1 μ1 := by
  intro d
  induction d with
  | zero =>
    intro k f1 f2 σ μ x2 hR hk hf1 hf2
    obtain ⟨f1, rfl⟩ : ∃ z, f1 = z + 1 := ⟨f1 - 1, by omega⟩
    obtain ⟨f2, rfl⟩ : ∃ z, f2 = z + 1 := ⟨f2 - 1, by omega⟩
    have e : k = nLo σ := by omega
    subst e
    obtain ⟨hC, hD, hS, hL, hT, hO, hP, hK, hRr, hG, hM⟩ := id hR
    rw [f_X6_give_L13, f_X7_give_L13, hC.2.2.1.1, hC.2.2.1.2, if_pos (Int32.le_refl _), if_pos (Int32.le_refl _)]
    exact ⟨_, _, _, rfl, rfl, hR⟩
  | succ d ih =>
    intro k f1 f2 σ μ x2 hR hk hf1 hf2
    obtain ⟨f1, rfl⟩ : ∃ z, f1 = z + 1 := ⟨f1 - 1, by omega⟩
    obtain ⟨f2, rfl⟩ : ∃ z, f2 = z + 1 := ⟨f2 - 1, by omega⟩
    obtain ⟨hC, hD, hS, hL, hT, hO, hP, hK, hRr, hG, hM⟩ := id hR
    have hkn : k < nLo σ := by omega
    have h30 := hC.1.2.1
    have hle : ¬ Int32.ofNat (nLo σ) ≤ Int32.ofNat k := by rw [ofn_le (by omega) (by omega)]; omega
    have hv : vin (Int32.ofNat k) 30 = true := ofn_vin (by omega) (by decide)
    have hn : (Int32.ofNat k).toNatClampNeg = k := ofn_nat (by omega)
    have hl := hL k hkn
    have skip := ih (k + 1) f1 f2 σ μ x2 hR (by omega) (by omega) (by omega)
    rw [f_X6_give_L13, f_X7_give_L13, hC.2.2.1.1, hC.2.2.1.2, if_neg hle, if_neg hle, lot_k hC hkn]
    simp only [hv, hn, cond_true, Option.bind_some, oq, isL_of hkn h30, Nat.add_sub_cancel_left, hl.1.2.2.2.2.2.1, ofn_succ, letm, nar0]
    by_cases a1 : μ.1 17 k = 0
    · rw [if_pos a1, if_pos a1]
      exact skip
    · rw [if_neg a1, if_neg a1]
      have h106 : σ.1 106 k = μ.1 13 k := by
        rcases hl.2.2.2.2.2.2.2.2.1 with y | y
        · exact y.2.1
        · exact absurd y.2.2.2.2.1 a1
      rw [h106]
      by_cases a2 : μ.1 13 k = t
      · rw [if_pos a2, if_pos a2]
        refine ih (k + 1) f1 f2 (ui σ 110 k 0) (um μ 17 k 0) (x2 + 1) ?_ (by show k + 1 + d = nLo σ; omega) (by omega) (by omega)
        refine ⟨hC, hD, hS, fun j hj => ?_, ⟨hT.1, hT.2.1, fun i hi hj => ?_⟩, RO_xi (by decide) hO, hP, hK, hRr, hG, hM⟩
        · by_cases qj : j = k
          · subst qj
            obtain ⟨⟨p100, p102, p104, p105, p109, p110, p111⟩, p2, p3, p4, p5, p6, p7, p8, p9, p10, p11⟩ := hl
            simp only [RLot, ui, um, xi, seti, va_up, ↓reduceIte, Nat.reduceEqDiff]
            refine ⟨⟨p100, p102, p104, p105, p109, trivial, p111⟩, p2, p3, p4, p5, p6, ⟨p7.1, by decide, p7.2.2⟩, p8, ?_, fun z => absurd z (by decide), p11⟩
            rcases p9 with y | y
            · exact Or.inl y
            · exact absurd y.2.2.2.2.1 a1
          · have := hL j hj
            simp only [RLot, ui, um, xi, seti, va_up, qj, ↓reduceIte, Nat.reduceEqDiff]
            exact this
        · have hj' : nLo σ ≤ i := hj
          have := hT.2.2 i hi hj'
          refine ⟨this.1, ?_, this.2.2⟩
          exact (va_up_ne _ _ (show i ≠ k by omega)).trans this.2.1
      · rw [if_neg a2, if_neg a2]
        exact skip
theorem H_give : ∀ (σ : xS) (μ : mS), Rel σ μ → ∀ (a0 : Int32), ∃ (r : Int32) (σ1 : xS) (μ1 : mS), f_X6_give σ a0 = some (r, σ1) ∧ f_X7_give μ a0 = some (r, μ1) ∧ Rel σ1 μ1 := by
  intro σ μ hR t
  unfold f_X6_give f_X7_give
  rw [xt_eq, mt_eq]
  by_cases c : 0 ≤ t ∧ t ≤ 5
  · have h30 := hR.1.1.2.1
    obtain ⟨r, σ1, μ1, e1, e2, e3⟩ := give_L t (nLo σ) 0 4000 4000 σ μ 0 hR (by omega) (by omega) (by omega)
    have e1' : f_X6_give_L13 4000 σ t 0 0 = some (r, σ1) := e1
    have e2' : f_X7_give_L13 4000 μ t 0 0 = some (r, μ1) := e2
    exact ⟨r, σ1, μ1, by simp [c, e1'], by simp [c, e2'], e3⟩
  · exact ⟨-1, σ, μ, by simp [c], by simp [c], hR⟩
theorem count_L {σ : xS} {μ : mS} (hR : Rel σ μ) : ∀ (d k f1 f2 : Nat) (x : Int32), k + d = nLo σ → d < f1 → d < f2 → (∃ r, f_X6_countMelted_L4 f1 σ x (Int32.ofNat k) = some r ∧ f_X7_count_L70 f2 μ x (Int32.ofNat k) = some r) ∧ (∃ r, f_X6_countOnRoads_L4 f1 σ x (Int32.ofNat k) = some r ∧ f_X7_count_L105 f2 μ x (Int32.ofNat k) = some r) ∧ (∃ r, f_X6_countInChests_L4 f1 σ x (Int32.ofNat k) = some r ∧ f_X7_count_L148 f2 μ x (Int32.ofNat k) = some r) := by
  obtain ⟨hC, hD, hS, hL, hT, hO, hP, hK, hRr, hG, hM⟩ := id hR
  have h30 := hC.1.2.1
  intro d
  induction d with
  | zero =>
    intro k f1 f2 x hk hf1 hf2
    obtain ⟨f1, rfl⟩ : ∃ z, f1 = z + 1 := ⟨f1 - 1, by omega⟩
    obtain ⟨f2, rfl⟩ : ∃ z, f2 = z + 1 := ⟨f2 - 1, by omega⟩
    have e : k = nLo σ := by omega
    subst e
    rw [f_X6_countMelted_L4, f_X7_count_L70, f_X6_countOnRoads_L4, f_X7_count_L105, f_X6_countInChests_L4, f_X7_count_L148, hC.2.2.1.1, hC.2.2.1.2]
    simp only [if_pos (Int32.le_refl (Int32.ofNat (nLo σ)))]
    exact ⟨⟨_, rfl, rfl⟩, ⟨_, rfl, rfl⟩, ⟨_, rfl, rfl⟩⟩
  | succ d ih =>
    intro k f1 f2 x hk hf1 hf2
    obtain ⟨f1, rfl⟩ : ∃ z, f1 = z + 1 := ⟨f1 - 1, by omega⟩
    obtain ⟨f2, rfl⟩ : ∃ z, f2 = z + 1 := ⟨f2 - 1, by omega⟩
    have hkn : k < nLo σ := by omega
    have hle : ¬ Int32.ofNat (nLo σ) ≤ Int32.ofNat k := by rw [ofn_le (by omega) (by omega)]; omega
    have hv : vin (Int32.ofNat k) 30 = true := ofn_vin (by omega) (by decide)
    have hn : (Int32.ofNat k).toNatClampNeg = k := ofn_nat (by omega)
    have hl := hL k hkn
    have ho := onroad_eq hD hkn h30 hl
    have hu := under_eq (μ := μ) hv
    rw [hn] at hu
    have i0 := ih (k + 1) f1 f2 (x + 0) (by omega) (by omega) (by omega)
    have i1 := ih (k + 1) f1 f2 (x + 1) (by omega) (by omega) (by omega)
    rw [f_X6_countMelted_L4, f_X7_count_L70, f_X6_countOnRoads_L4, f_X7_count_L105, f_X6_countInChests_L4, f_X7_count_L148, hC.2.2.1.1, hC.2.2.1.2, lot_k hC hkn]
    simp only [if_neg hle, hv, hn, cond_true, Option.bind_some, oq, isL_of hkn h30, Nat.add_sub_cancel_left, hl.1.2.2.2.2.2.1, hl.1.2.2.2.2.1, ofn_succ, f_X6_oneIf, hD.1, ho, hu, ↓reduceIte, i10]
    refine ⟨?_, ?_, ?_⟩
    · by_cases a1 : μ.1 16 k = 0
      · simp only [if_pos a1]; exact i0.1
      · simp only [if_neg a1]; exact i1.1
    · by_cases a1 : μ.1 16 k = 0
      · by_cases a2 : μ.1 15 k ≤ μ.1 6 0
        · simp only [if_pos a1, if_pos a2, ↓reduceIte]; exact i0.2.1
        · simp only [if_pos a1, if_neg a2, i10, ↓reduceIte]; exact i1.2.1
      · have a2 : μ.1 15 k ≤ μ.1 6 0 := by
          rcases hl.2.2.2.2.2.2.2.2.1 with y | y
          · exact absurd y.1 a1
          · exact y.2.2.2.2.2
        simp only [if_neg a1, if_pos a2, ↓reduceIte]; exact i0.2.1
    · by_cases a1 : μ.1 17 k = 0
      · simp only [if_pos a1]; exact i0.2.2
      · simp only [if_neg a1]; exact i1.2.2
theorem H_count : ∀ (σ : xS) (μ : mS), Rel σ μ → ∀ (a0 : Int32), ∃ (r : Int32), f_X6_count σ a0 = some r ∧ f_X7_count μ a0 = some r ∧ Rel σ μ := by
  intro σ μ hR a
  obtain ⟨hC, hD, hS, hL, hT, hO, hP, hK, hRr, hG, hM⟩ := id hR
  have h30 := hC.1.2.1
  obtain ⟨⟨r4, e4, m4⟩, ⟨r5, e5, m5⟩, ⟨r6, e6, m6⟩⟩ := count_L hR (nLo σ) 0 4000 4000 0 (by omega) (by omega) (by omega)
  have e4' : f_X6_countMelted_L4 4000 σ 0 0 = some r4 := e4
  have e5' : f_X6_countOnRoads_L4 4000 σ 0 0 = some r5 := e5
  have e6' : f_X6_countInChests_L4 4000 σ 0 0 = some r6 := e6
  have m4' : f_X7_count_L70 4000 μ 0 0 = some r4 := m4
  have m5' : f_X7_count_L105 4000 μ 0 0 = some r5 := m5
  have m6' : f_X7_count_L148 4000 μ 0 0 = some r6 := m6
  unfold f_X6_count f_X7_count f_X6_countMelted f_X6_countOnRoads f_X6_countInChests
  by_cases c0 : a = 0
  · exact ⟨μ.1 1 0, by simp [c0, hC.2.1.1, hC.2.1.2], by simp [c0], hR⟩
  by_cases c1 : a = 1
  · exact ⟨μ.1 7 0, by simp [c1, hC.2.2.1.1, hC.2.2.1.2], by simp [c1], hR⟩
  by_cases c2 : a = 2
  · exact ⟨μ.1 21 0, by simp [c2, hC.2.2.2.1.1, hC.2.2.2.1.2], by simp [c2], hR⟩
  by_cases c3 : a = 3
  · exact ⟨μ.1 6 0, by simp [c3, hD.1], by simp [c3], hR⟩
  by_cases c4 : a = 4
  · exact ⟨r4, by simp [c4, e4'], by simp [c4, m4'], hR⟩
  by_cases c5 : a = 5
  · exact ⟨r5, by simp [c5, e5'], by simp [c5, m5'], hR⟩
  by_cases c6 : a = 6
  · exact ⟨r6, by simp [c6, e6'], by simp [c6, m6'], hR⟩
  by_cases c7 : a = 7
  · exact ⟨μ.1 20 0, by simp [c7, hT.1.1], by simp [c7], hR⟩
  exact ⟨-1, by simp [c0, c1, c2, c3, c4, c5, c6, c7], by simp [c0, c1, c2, c3, c4, c5, c6, c7], hR⟩
end GIVE
