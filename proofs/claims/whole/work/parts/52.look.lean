/-! THE PURE PART: finding lots, sorts, orders, pots; silver, about, furnace, mint -/
section LOOK
theorem ml_eq {σ : xS} {μ : mS} (hC : RC σ μ) (x : Int32) : f_X7_isLot μ x = some (if 0 ≤ x ∧ x ≤ Int32.ofNat (nLo σ) - 1 then 1 else 0) := by
  unfold f_X7_isLot
  rw [i_eq, hC.2.2.1.2]
  show (bif zb _ then _ else none) = _
  rw [zb_ite]
  rfl
theorem msr_eq {σ : xS} {μ : mS} (hC : RC σ μ) (x : Int32) : f_X7_isSort μ x = some (if 0 ≤ x ∧ x ≤ Int32.ofNat (nS σ) - 1 then 1 else 0) := by
  unfold f_X7_isSort
  rw [i_eq, hC.2.1.2]
  show (bif zb _ then _ else none) = _
  rw [zb_ite]
  rfl
theorem mo_eq {σ : xS} {μ : mS} (hC : RC σ μ) (x : Int32) : f_X7_isOrder μ x = some (if 0 ≤ x ∧ x ≤ Int32.ofNat (nO σ) - 1 then 1 else 0) := by
  unfold f_X7_isOrder
  rw [i_eq, hC.2.2.2.1.2]
  show (bif zb _ then _ else none) = _
  rw [zb_ite]
  rfl
/-- a lot's number within: its place -/
theorem lot_ix {σ : xS} {μ : mS} (hC : RC σ μ) {x : Int32} (c : 0 ≤ x ∧ x ≤ Int32.ofNat (nLo σ) - 1) : x.toNatClampNeg < nLo σ ∧ x.toNatClampNeg < 30 ∧ vin x 30 = true := by
  have h1 := hC.1.2.1
  have h2 : x.toNatClampNeg < nLo σ := ix_lt c.1 c.2 (by omega)
  have h3 : x.toNatClampNeg < 30 := by omega
  exact ⟨h2, h3, vin_of c.1 h3⟩
theorem xl_eq {σ : xS} {μ : mS} (hC : RC σ μ) (x : Int32) : f_X6_lotAt σ x = some (if 0 ≤ x ∧ x ≤ Int32.ofNat (nLo σ) - 1 then some (1000 + x.toNatClampNeg) else none) := by
  unfold f_X6_lotAt
  rw [w_eq, hC.2.2.1.1]
  by_cases c : 0 ≤ x ∧ x ≤ Int32.ofNat (nLo σ) - 1
  · obtain ⟨h1, h2, h3⟩ := lot_ix hC c
    simp [c, h3, hC.2.2.2.2.2.2.1 _ h1]
  · simp [c]
theorem xs_eq {σ : xS} {μ : mS} (hC : RC σ μ) (x : Int32) : f_X6_sortAt σ x = some (if 0 ≤ x ∧ x ≤ Int32.ofNat (nS σ) - 1 then some (2000 + x.toNatClampNeg) else none) := by
  unfold f_X6_sortAt
  rw [w_eq, hC.2.1.1]
  by_cases c : 0 ≤ x ∧ x ≤ Int32.ofNat (nS σ) - 1
  · have h0 := hC.1.1
    have h1 : x.toNatClampNeg < nS σ := ix_lt c.1 c.2 (by omega)
    have h3 : vin x 8 = true := vin_of c.1 (by omega)
    simp [c, h3, hC.2.2.2.2.2.1 _ h1]
  · simp [c]
theorem xo_eq {σ : xS} {μ : mS} (hC : RC σ μ) (x : Int32) : f_X6_orderAt σ x = some (if 0 ≤ x ∧ x ≤ Int32.ofNat (nO σ) - 1 then some (3000 + x.toNatClampNeg) else none) := by
  unfold f_X6_orderAt
  rw [w_eq, hC.2.2.2.1.1]
  by_cases c : 0 ≤ x ∧ x ≤ Int32.ofNat (nO σ) - 1
  · have h0 := hC.1.2.2
    have h1 : x.toNatClampNeg < nO σ := ix_lt c.1 c.2 (by omega)
    have h3 : vin x 10 = true := vin_of c.1 (by omega)
    simp [c, h3, (hC.2.2.2.2.2.2.2.1 _ h1).1]
  · simp [c]
theorem pot_ix {x : Int32} (c : 0 ≤ x ∧ x ≤ 2) : x.toNatClampNeg < 3 ∧ vin x 3 = true := by
  have := ix_le (n := 2) c.1 c.2 (by decide)
  exact ⟨by omega, vin_of c.1 (by omega)⟩
theorem xp_eq {σ : xS} {μ : mS} (hC : RC σ μ) (x : Int32) : f_X6_potAt σ x = some (if 0 ≤ x ∧ x ≤ 2 then some (23 + x.toNatClampNeg) else none) := by
  unfold f_X6_potAt
  rw [xm_eq]
  by_cases c : 0 ≤ x ∧ x ≤ 2
  · obtain ⟨h1, h2⟩ := pot_ix c
    simp [c, h2, hC.2.2.2.2.2.2.2.2 _ h1]
  · simp [c]
theorem isL_of {σ : xS} {i : Nat} (h : i < nLo σ) (h1 : nLo σ ≤ 30) : isL σ (1000 + i) = true := decide_eq_true ⟨by omega, by omega, by show 1000 + i - 1000 < nLo σ; omega⟩
theorem isS_of {σ : xS} {i : Nat} (h : i < nS σ) (h1 : nS σ ≤ 8) : isS σ (2000 + i) = true := decide_eq_true ⟨by omega, by omega, by show 2000 + i - 2000 < nS σ; omega⟩
theorem isO_of {σ : xS} {i : Nat} (h : i < nO σ) (h1 : nO σ ≤ 10) : isO σ (3000 + i) = true := decide_eq_true ⟨by omega, by omega, by show 3000 + i - 3000 < nO σ; omega⟩
theorem isP_of {σ : xS} {i : Nat} (h : i < 3) : isP σ (23 + i) = true := decide_eq_true ⟨by omega, by omega⟩
theorem sn_ix {σ : xS} {μ : mS} {i : Nat} (hC : RC σ μ) (h : RLot σ μ i) : vin (μ.1 9 i) 8 = true := vin_of h.2.1.2.1 (by have := h.2.1.1; have := hC.1.1; omega)
/-- the fineness -/
theorem fine_eq {σ : xS} {μ : mS} {x : Int32} (hC : RC σ μ) (hv : vin x 30 = true) (h : RLot σ μ x.toNatClampNeg) : f_X7_fine μ x = some (σ.1 103 x.toNatClampNeg) := by
  unfold f_X7_fine
  rw [h.2.2.1]
  by_cases c3 : μ.1 8 x.toNatClampNeg = 3
  · simp [hv, c3]
  · by_cases c5 : μ.1 8 x.toNatClampNeg = 5
    · simp [hv, c5]
    · simp [hv, c3, c5, sn_ix hC h]
theorem silver_eq {σ : xS} {μ : mS} {x : Int32} (hC : RC σ μ) (hv : vin x 30 = true) (h : RLot σ μ x.toNatClampNeg) : f_X7_silverOf μ x = some ((μ.1 11 x.toNatClampNeg).toInt64 * (σ.1 103 x.toNatClampNeg).toInt64) := by
  unfold f_X7_silverOf
  rw [fine_eq hC hv h]
  simp [hv]
theorem held_eq {σ : xS} {μ : mS} {i : Nat} (h : i < nLo σ) (h1 : nLo σ ≤ 30) (hl : RLot σ μ i) : f_X1_silverHeld σ (1000 + i) = some ((μ.1 11 i).toInt64 * (σ.1 103 i).toInt64) := by
  unfold f_X1_silverHeld
  rw [isL_of h h1, Nat.add_sub_cancel_left, hl.1.2.2.2.1]
  rfl
theorem H_silver : ∀ (σ : xS) (μ : mS), Rel σ μ → ∀ (a0 : Int32), ∃ (r : Int64), f_X6_silver σ a0 = some r ∧ f_X7_silver μ a0 = some r ∧ Rel σ μ := by
  intro σ μ hR a
  obtain ⟨hC, hD, hS, hL, hT, hO, hP, hK, hRr, hG, hM⟩ := id hR
  unfold f_X6_silver f_X7_silver
  rw [xl_eq hC, ml_eq hC]
  by_cases c : 0 ≤ a ∧ a ≤ Int32.ofNat (nLo σ) - 1
  · obtain ⟨h1, h2, h3⟩ := lot_ix hC c
    have hl := hL _ h1
    refine ⟨(μ.1 11 a.toNatClampNeg).toInt64 * (σ.1 103 a.toNatClampNeg).toInt64, ?_, ?_, hR⟩
    · simp [c, oq, isL_of h1 hC.1.2.1, held_eq h1 hC.1.2.1 hl]
    · simp [c, silver_eq hC h3 hl]
  · exact ⟨-1, by simp [c, oq], by simp [c], hR⟩
/-- on the road: the same on both sides -/
theorem road_iff {σ : xS} {μ : mS} {i : Nat} (hD : RD σ μ) (h : RLot σ μ i) : (σ.1 108 i ≤ μ.1 6 0 ↔ μ.1 15 i ≤ μ.1 6 0) ∧ (¬ μ.1 15 i ≤ μ.1 6 0 → σ.1 108 i = μ.1 15 i) := by
  obtain ⟨p1, p2, p3, p4, p5, p6, p7, p8, p9, p10, p11⟩ := h
  rcases p11.1 with z | ⟨z1, z2⟩
  · rw [z]; exact ⟨Iff.rfl, fun _ => rfl⟩
  · rw [z1, z2]
    have h2 : (-1 : Int32) ≤ μ.1 6 0 := Int32.le_trans (by decide) hD.2.1
    exact ⟨⟨fun _ => h2, fun _ => hD.2.1⟩, fun q => absurd h2 q⟩
theorem H_furnace : ∀ (σ : xS) (μ : mS), Rel σ μ → ∀ (a0 : Int32) (a1 : Int32), ∃ (r : Int32) (σ1 : xS) (μ1 : mS), f_X6_furnace σ a0 a1 = some (r, σ1) ∧ f_X7_furnace μ a0 a1 = some (r, μ1) ∧ Rel σ1 μ1 := by
  intro σ μ hR a b
  obtain ⟨hC, hD, hS, hL, hT, hO, hP, hK, hRr, hG, hM⟩ := id hR
  unfold f_X6_furnace f_X7_furnace
  rw [xp_eq hC, mm_eq, w_eq, i_eq]
  by_cases c : 0 ≤ a ∧ a ≤ 2
  · obtain ⟨h1, h2⟩ := pot_ix c
    by_cases c2 : 1 ≤ b ∧ b ≤ 1000000
    · refine ⟨μ.1 38 a.toNatClampNeg, xi σ 146 (va_up (σ.1 146) a.toNatClampNeg b), seti μ 38 (va_up (μ.1 38) a.toNatClampNeg b), ?_, ?_, hC, hD, hS, hL, hT, RO_xi (by decide) hO, hP, hK, hRr, hG, ⟨fun k hk => ?_, hM.2⟩⟩
      · simp [c, c2, oq, isP_of h1, letm, (hM.1 _ h1).1.2.2.2.2.2]
      · simp [c, c2, h2, letm]
      · obtain ⟨⟨q1, q2, q3, q4, q5, q6⟩, q7, q8, q9⟩ := hM.1 k hk
        have hu := up_eq (n := 3) (i := a.toNatClampNeg) (x := b) (P := fun y => 1 ≤ y ∧ y ≤ 1000000) (f := σ.1 146) (g := μ.1 38) (fun k hk => ⟨(hM.1 k hk).1.2.2.2.2.2, (hM.1 k hk).2.2.1⟩) c2 k hk
        exact ⟨⟨q1, q2, q3, q4, q5, hu.1⟩, q7, hu.2, q9⟩
    · exact ⟨-2, σ, μ, by simp [c, c2, oq], by simp [c, c2], hR⟩
  · exact ⟨-1, σ, μ, by simp [c, oq], by simp [c], hR⟩
end LOOK
