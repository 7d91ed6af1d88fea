/-! THE PURE PART: first state; today, paid, credit, road, furnace -/
section EASY
theorem R_0 : Rel σ0 μ0 := by
  refine ⟨⟨⟨by decide, by decide, by decide⟩, ⟨rfl, rfl⟩, ⟨rfl, rfl⟩, ⟨rfl, rfl⟩, ⟨rfl, rfl, rfl⟩, fun j h => absurd h (Nat.not_lt_zero _), fun j h => absurd h (Nat.not_lt_zero _), fun j h => absurd h (Nat.not_lt_zero _), ?_⟩, ?_, fun i h => absurd h (Nat.not_lt_zero _), fun i h => absurd h (Nat.not_lt_zero _), ?_, fun i h => absurd h (Nat.not_lt_zero _), ?_, ?_, ?_, ?_, ?_⟩
  · decide +kernel
  · unfold RD; decide +kernel
  · unfold RT; decide +kernel
  · unfold RP; decide +kernel
  · unfold RK; decide +kernel
  · unfold RR; decide +kernel
  · unfold RG; decide +kernel
  · unfold RM; decide +kernel
theorem H_today : ∀ (σ : xS) (μ : mS), Rel σ μ → ∀ (a0 : Int32), ∃ (r : Int32) (σ1 : xS) (μ1 : mS), f_X6_today σ a0 = some (r, σ1) ∧ f_X7_today μ a0 = some (r, μ1) ∧ Rel σ1 μ1 := by
  intro σ μ hR a
  obtain ⟨hC, hD, hS, hL, hT, hO, hP, hK, hRr, hG, hM⟩ := id hR
  unfold f_X6_today f_X7_today
  rw [w_eq, i_eq, hD.1]
  by_cases c : μ.1 6 0 ≤ a ∧ a ≤ 999
  · refine ⟨μ.1 6 0, xi σ 16 (fun _ => a), seti μ 6 (fun _ => a), by simp [c, letm], by simp [c, letm], hC, ⟨rfl, Int32.le_trans hD.2.1 c.1, c.2⟩, hS, fun i hi => ?_, hT, RO_xi (by decide) hO, hP, hK, hRr, hG, hM⟩
    obtain ⟨p1, p2, p3, p4, p5, p6, p7, p8, p9, p10, p11⟩ := hL i hi
    refine ⟨p1, p2, p3, p4, p5, p6, p7, p8, ?_, fun z => ⟨(p10 z).1, Int32.le_trans (p10 z).2 c.1⟩, p11⟩
    rcases p9 with z | ⟨z1, z2, z3, z4, z5, z6⟩
    · exact Or.inl z
    · exact Or.inr ⟨z1, z2, z3, z4, z5, Int32.le_trans z6 c.1⟩
  · exact ⟨-2, σ, μ, by simp [c], by simp [c], hR⟩
theorem H_paid : ∀ (σ : xS) (μ : mS), Rel σ μ → ∀ (a0 : Int32), ∃ (r : Int32), f_X6_paid σ a0 = some r ∧ f_X7_paid μ a0 = some r ∧ Rel σ μ := by
  intro σ μ hR a
  obtain ⟨hC, hD, hS, hL, hT, hO, hP, hK, hRr, hG, hM⟩ := id hR
  unfold f_X6_paid f_X7_paid
  rw [w_eq, i_eq, hP.1.1]
  by_cases c : 0 ≤ a ∧ a ≤ μ.1 29 0 - 1
  · have h1 : (μ.1 29 0).toNatClampNeg ≤ 30 := ix_le hP.1.2.1 hP.1.2.2 (by decide)
    have h2 : a.toNatClampNeg < (μ.1 29 0).toNatClampNeg := ix_lt c.1 (by rw [← ix_of hP.1.2.1]; exact c.2) (by omega)
    have h3 : a.toNatClampNeg < 30 := by omega
    exact ⟨μ.1 30 a.toNatClampNeg, by simp [c, vin_of c.1 h3, hP.2 _ h3], by simp [c, vin_of c.1 h3], hR⟩
  · exact ⟨-1, by simp [c], by simp [c], hR⟩
theorem H_credit : ∀ (σ : xS) (μ : mS), Rel σ μ → ∀ (a0 : Int32), ∃ (r : Int64), f_X6_credit σ a0 = some r ∧ f_X7_credit μ a0 = some r ∧ Rel σ μ := by
  intro σ μ hR a
  obtain ⟨hC, hD, hS, hL, hT, hO, hP, hK, hRr, hG, hM⟩ := id hR
  unfold f_X6_credit f_X7_credit
  rw [xt_eq, mt_eq]
  by_cases c : 0 ≤ a ∧ a ≤ 5
  · have h3 : a.toNatClampNeg < 6 := by
      have := ix_le (n := 5) c.1 c.2 (by decide)
      omega
    exact ⟨μ.2 28 a.toNatClampNeg, by simp [c, vin_of c.1 h3, hK _ h3], by simp [c, vin_of c.1 h3], hR⟩
  · exact ⟨-1, by simp [c], by simp [c], hR⟩
theorem tm_ix {t m : Int32} (ht : 0 ≤ t ∧ t ≤ 5) (hm : 0 ≤ m ∧ m ≤ 2) : t.toNatClampNeg < 6 ∧ m.toNatClampNeg < 3 ∧ t * 3 + m = 3 * t + m ∧ vin (3 * t + m) 18 = true ∧ (3 * t + m).toNatClampNeg = 3 * t.toNatClampNeg + m.toNatClampNeg := by
  have h1 := ix_le (n := 5) ht.1 ht.2 (by decide)
  have h2 := ix_le (n := 2) hm.1 hm.2 (by decide)
  have e1 := ix_of ht.1
  have e2 := ix_of hm.1
  generalize t.toNatClampNeg = a at h1 e1
  generalize m.toNatClampNeg = b at h2 e2
  subst e1; subst e2
  have e3 : (3 : Int32) * Int32.ofNat a + Int32.ofNat b = Int32.ofNat (3 * a + b) := by
    rw [Int32.ofNat_add, Int32.ofNat_mul]; rfl
  have e4 : (Int32.ofNat (3 * a + b)).toNatClampNeg = 3 * a + b := Int32.toNatClampNeg_ofNat_of_lt (by omega)
  refine ⟨by omega, by omega, by rw [Int32.mul_comm], ?_, by rw [e3, e4]⟩
  rw [e3]
  refine vin_of ?_ (by omega)
  apply Int32.le_iff_toInt_le.mpr
  rw [Int32.toInt_ofNat_of_lt (by omega)]
  have h0 : (0 : Int32).toInt = 0 := by decide
  omega
theorem up_eq {f g : Nat → Int32} {n i : Nat} {x : Int32} {P : Int32 → Prop} (h : ∀ k, k < n → f k = g k ∧ P (g k)) (hx : P x) : ∀ k, k < n → va_up f i x k = va_up g i x k ∧ P (va_up g i x k) := by
  intro k hk
  unfold va_up
  by_cases q : k = i
  · rw [if_pos q, if_pos q]; exact ⟨rfl, hx⟩
  · rw [if_neg q, if_neg q]; exact h k hk
theorem H_road : ∀ (σ : xS) (μ : mS), Rel σ μ → ∀ (a0 : Int32) (a1 : Int32) (a2 : Int32), ∃ (r : Int32) (σ1 : xS) (μ1 : mS), f_X6_road σ a0 a1 a2 = some (r, σ1) ∧ f_X7_road μ a0 a1 a2 = some (r, μ1) ∧ Rel σ1 μ1 := by
  intro σ μ hR a b d
  obtain ⟨hC, hD, hS, hL, hT, hO, hP, hK, hRr, hG, hM⟩ := id hR
  unfold f_X6_road f_X7_road
  rw [xt_eq, mt_eq, xm_eq, mm_eq, w_eq, i_eq]
  by_cases c1 : 0 ≤ a ∧ a ≤ 5
  · by_cases c2 : 0 ≤ b ∧ b ≤ 2
    · by_cases c3 : 1 ≤ d ∧ d ≤ 30
      · obtain ⟨t1, t2, t3, t4, t5⟩ := tm_ix c1 c2
        have hlt : (3 * a + b).toNatClampNeg < 18 := by omega
        refine ⟨μ.1 32 (3 * a + b).toNatClampNeg, xi σ 8 (va_up (σ.1 8) (3 * a + b).toNatClampNeg d), seti μ 32 (va_up (μ.1 32) (3 * a + b).toNatClampNeg d), by simp [c1, c2, c3, t3, t4, letm, (hRr _ hlt).1], by simp [c1, c2, c3, t4, letm], hC, hD, hS, hL, hT, RO_xi (by decide) hO, hP, hK, ?_, hG, hM⟩
        exact up_eq (P := fun y => 1 ≤ y ∧ y ≤ 30) hRr c3
      · exact ⟨-2, σ, μ, by simp [c1, c2, c3], by simp [c1, c2, c3], hR⟩
    · exact ⟨-1, σ, μ, by simp [c1, c2], by simp [c1, c2], hR⟩
  · exact ⟨-1, σ, μ, by simp [c1], by simp [c1], hR⟩
end EASY
