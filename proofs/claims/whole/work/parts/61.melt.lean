/-! THE PURE PART: feed, melt -/
section MELT
theorem feed_L (x : Int64) : ∀ (d f1 f2 : Nat) (σ : xS) (μ : mS), Rel σ μ → (μ.1 20 0).toInt + d ≤ 160 → d ≤ 8 → d < f1 → d < f2 → ∃ σ1 μ1, f_X5_append_L19 f1 σ x (Int32.ofNat d - 1) = some σ1 ∧ f_X7_feed_L33 f2 μ x (Int32.ofNat d - 1) = some μ1 ∧ Rel σ1 μ1 := by
  intro d
  induction d with
  | zero =>
    intro f1 f2 σ μ hR hl h8 hf1 hf2
    obtain ⟨f1, rfl⟩ : ∃ z, f1 = z + 1 := ⟨f1 - 1, by omega⟩
    obtain ⟨f2, rfl⟩ : ∃ z, f2 = z + 1 := ⟨f2 - 1, by omega⟩
    rw [f_X5_append_L19, f_X7_feed_L33, if_pos (by decide), if_pos (by decide)]
    exact ⟨_, _, rfl, rfl, hR⟩
  | succ d ih =>
    intro f1 f2 σ μ hR hl h8 hf1 hf2
    obtain ⟨f1, rfl⟩ : ∃ z, f1 = z + 1 := ⟨f1 - 1, by omega⟩
    obtain ⟨f2, rfl⟩ : ∃ z, f2 = z + 1 := ⟨f2 - 1, by omega⟩
    obtain ⟨hC, hD, hS, hL, hT, hO, hP, hK, hRr, hG, hM⟩ := id hR
    have e1 : Int32.ofNat (d + 1) - 1 = Int32.ofNat d := by rw [← ofn_succ, Int32.add_sub_cancel]
    have hlt : ¬ Int32.ofNat d < 0 := by rw [show (0 : Int32) = Int32.ofNat 0 from rfl, ofn_lt (by omega) (by decide)]; omega
    have l0 : (0 : Int) ≤ (μ.1 20 0).toInt := i_le hT.1.2.1
    have e3 := ix_nat hT.1.2.1
    have hv : vin (μ.1 20 0) 160 = true := vin_of hT.1.2.1 (by omega)
    have e4 : Int32.ofNat d + -1 = Int32.ofNat d - 1 := by rw [Int32.sub_eq_add_neg]
    rw [e1, f_X5_append_L19, f_X7_feed_L33, if_neg hlt, if_neg hlt, hT.1.1]
    simp only [letm, hv, cond_true, e4]
    generalize vp_nar .byte ((x >>> ((8 * Int32.ofNat d).toInt64 &&& 63)).toInt32).toInt8.toInt32 = v
    have e5 := add_int (x := μ.1 20 0) (y := 1) (by show _ ≤ _ + 1; omega) (by show _ + 1 < _; omega)
    have e5' : (μ.1 20 0 + 1).toInt = (μ.1 20 0).toInt + 1 := e5
    refine ih f1 f2 _ _ ?_ (by show (μ.1 20 0 + 1).toInt + (d : Int) ≤ 160; omega) (by omega) (by omega) (by omega)
    refine ⟨hC, hD, hS, hL, ⟨⟨rfl, le_int.mpr (by show (0 : Int) ≤ (μ.1 20 0 + 1).toInt; omega), le_int.mpr (by show (μ.1 20 0 + 1).toInt ≤ 160; omega)⟩, fun j hj => ?_, hT.2.2⟩, RO_xi (by decide) (RO_xi (by decide) hO), hP, hK, hRr, hG, hM⟩
    show va_up (σ.1 24) (μ.1 20 0).toNatClampNeg v j = va_up (μ.1 19) (μ.1 20 0).toNatClampNeg v j
    by_cases q : j = (μ.1 20 0).toNatClampNeg
    · rw [q, va_up_self, va_up_self]
    · rw [va_up_ne _ _ q, va_up_ne _ _ q]
      exact hT.2.1 j hj
theorem H_feed : ∀ (σ : xS) (μ : mS), Rel σ μ → ∀ (a0 : Int64) (a1 : Int32), ∃ (r : Int32) (σ1 : xS) (μ1 : mS), f_X6_feed σ a0 a1 = some (r, σ1) ∧ f_X7_feed μ a0 a1 = some (r, μ1) ∧ Rel σ1 μ1 := by
  intro σ μ hR x n
  obtain ⟨hC, hD, hS, hL, hT, hO, hP, hK, hRr, hG, hM⟩ := id hR
  unfold f_X6_feed f_X7_feed f_X5_append
  rw [w_eq, i_eq, hT.1.1]
  by_cases c : 1 ≤ n ∧ n ≤ 8
  · have l0 : (0 : Int) ≤ (μ.1 20 0).toInt := i_le hT.1.2.1
    have l1 : (μ.1 20 0).toInt ≤ 160 := i_le hT.1.2.2
    have n0 : (1 : Int) ≤ n.toInt := i_le c.1
    have n1 : n.toInt ≤ 8 := i_le c.2
    have e := add_int (x := μ.1 20 0) (y := n) (by omega) (by omega)
    have en := ix_of (Int32.le_trans (by decide) c.1 : (0 : Int32) ≤ n)
    have en2 := ix_nat (Int32.le_trans (by decide) c.1 : (0 : Int32) ≤ n)
    by_cases c2 : μ.1 20 0 + n ≤ 160
    · have c3 : (μ.1 20 0 + n).toInt ≤ 160 := i_le c2
      obtain ⟨σ1, μ1, f1, f2, f3⟩ := feed_L x n.toNatClampNeg 4000 4000 σ μ hR (by omega) (by omega) (by omega) (by omega)
      rw [← en] at f1 f2
      have hT1 : RT σ1 μ1 := f3.2.2.2.2.1
      refine ⟨μ1.1 20 0, σ1, μ1, ?_, ?_, f3⟩
      · simp [c, c2, f1, hT1.1.1]
      · simp [c, c2, f2]
    · exact ⟨-4, σ, μ, by simp [c, c2], by simp [c, c2], hR⟩
  · exact ⟨-2, σ, μ, by simp [c], by simp [c], hR⟩
/-- found: the false ones of a sort -/
theorem found_L (x s : Int32) : ∀ (d k f1 f2 : Nat) (σ : xS) (μ : mS), Rel σ μ → vin x 30 = true → μ.1 9 x.toNatClampNeg = s → k + d = nLo σ → d < f1 → d < f2 → ∃ σ1 μ1, f_X6_findFalse_L2 f1 σ s (Int32.ofNat k) = some σ1 ∧ f_X7_melt_L33 f2 μ x (Int32.ofNat k) = some μ1 ∧ Rel σ1 μ1 := by
  intro d
  induction d with
  | zero =>
    intro k f1 f2 σ μ hR hx hs hk hf1 hf2
    obtain ⟨f1, rfl⟩ : ∃ z, f1 = z + 1 := ⟨f1 - 1, by omega⟩
    obtain ⟨f2, rfl⟩ : ∃ z, f2 = z + 1 := ⟨f2 - 1, by omega⟩
    have e : k = nLo σ := by omega
    subst e
    obtain ⟨hC, hD, hS, hL, hT, hO, hP, hK, hRr, hG, hM⟩ := id hR
    rw [f_X6_findFalse_L2, f_X7_melt_L33, hC.2.2.1.1, hC.2.2.1.2, if_pos (Int32.le_refl _), if_pos (Int32.le_refl _)]
    exact ⟨_, _, rfl, rfl, hR⟩
  | succ d ih =>
    intro k f1 f2 σ μ hR hx hs hk hf1 hf2
    obtain ⟨f1, rfl⟩ : ∃ z, f1 = z + 1 := ⟨f1 - 1, by omega⟩
    obtain ⟨f2, rfl⟩ : ∃ z, f2 = z + 1 := ⟨f2 - 1, by omega⟩
    obtain ⟨hC, hD, hS, hL, hT, hO, hP, hK, hRr, hG, hM⟩ := id hR
    have hkn : k < nLo σ := by omega
    have h30 := hC.1.2.1
    have hle : ¬ Int32.ofNat (nLo σ) ≤ Int32.ofNat k := by rw [ofn_le (by omega) (by omega)]; omega
    have hv : vin (Int32.ofNat k) 30 = true := ofn_vin (by omega) (by decide)
    have hn : (Int32.ofNat k).toNatClampNeg = k := ofn_nat (by omega)
    have hl := hL k hkn
    rw [f_X6_findFalse_L2, f_X7_melt_L33, hC.2.2.1.1, hC.2.2.1.2, if_neg hle, if_neg hle, lot_k hC hkn]
    simp only [hv, hn, hx, hs, cond_true, Option.bind_some, oq, isL_of hkn h30, Nat.add_sub_cancel_left, hl.1.2.2.1, hl.1.1, ofn_succ, letm, nar0, nar1]
    -- what becomes of the lot's mark
    have fin : ∀ (v : Int32), (v = 0 ∨ v = 1) → Rel (ui σ 111 k v) (um μ 18 k v) := by
      intro v hv01
      refine ⟨hC, hD, hS, fun j hj => ?_, ⟨hT.1, hT.2.1, fun i hi hj => ?_⟩, RO_xi (by decide) hO, hP, hK, hRr, hG, hM⟩
      · by_cases qj : j = k
        · subst qj
          obtain ⟨⟨p100, p102, p104, p105, p109, p110, p111⟩, p2, p3, p4, p5, p6, p7, p8, p9, p10, p11⟩ := hl
          simp only [RLot, ui, um, xi, seti, va_up, ↓reduceIte, Nat.reduceEqDiff]
          exact ⟨⟨p100, p102, p104, p105, p109, p110, trivial⟩, p2, p3, p4, p5, p6, ⟨p7.1, p7.2.1, hv01⟩, p8, p9, p10, p11⟩
        · have := hL j hj
          simp only [RLot, ui, um, xi, seti, va_up, qj, ↓reduceIte, Nat.reduceEqDiff]
          exact this
      · have hj' : nLo σ ≤ i := hj
        have := hT.2.2 i hi hj'
        refine ⟨this.1, this.2.1, ?_⟩
        exact (va_up_ne _ _ (show i ≠ k by omega)).trans this.2.2
    have same : va_up (μ.1 18) k (μ.1 18 k) = μ.1 18 := by
      funext j
      unfold va_up
      by_cases q : j = k
      · rw [if_pos q, q]
      · rw [if_neg q]
    have sameM : seti μ 18 (μ.1 18) = μ := by
      have : va_up μ.1 18 (μ.1 18) = μ.1 := by
        funext c
        unfold va_up
        by_cases q : c = 18
        · rw [if_pos q, q]
        · rw [if_neg q]
      show (va_up μ.1 18 (μ.1 18), μ.2) = μ
      rw [this]
    have stay := ih (k + 1) f1 f2 σ μ hR hx hs (by omega) (by omega) (by omega)
    have set1 := ih (k + 1) f1 f2 (ui σ 111 k 1) (um μ 18 k 1) (fin 1 (Or.inr rfl)) hx hs (by show k + 1 + d = nLo σ; omega) (by omega) (by omega)
    by_cases a0 : μ.1 18 k = 0
    · rw [if_pos a0]
      have s0 : seti μ 18 (va_up (μ.1 18) k 0) = μ := by
        rw [a0] at same
        rw [same, sameM]
      by_cases a1 : μ.1 8 k = 5
      · rw [if_pos a1, if_pos a1]
        by_cases a2 : μ.1 9 k = s
        · rw [if_pos a2, if_pos a2]
          exact set1
        · rw [if_neg a2, if_neg a2, s0]
          exact stay
      · rw [if_neg a1, if_neg a1, s0]
        exact stay
    · rw [if_neg a0]
      have a1' : μ.1 18 k = 1 := by
        rcases hl.2.2.2.2.2.2.1.2.2 with z | z
        · exact absurd z a0
        · exact z
      have s1 : seti μ 18 (va_up (μ.1 18) k 1) = μ := by
        rw [a1'] at same
        rw [same, sameM]
      have x1 : xi σ 111 (va_up (σ.1 111) k 1) = σ := by
        have e : va_up (σ.1 111) k 1 = σ.1 111 := by
          funext j
          unfold va_up
          by_cases q : j = k
          · rw [if_pos q, q, hl.1.2.2.2.2.2.2, a1']
          · rw [if_neg q]
        have e2 : va_up σ.1 111 (σ.1 111) = σ.1 := by
          funext c
          unfold va_up
          by_cases q : c = 111
          · rw [if_pos q, q]
          · rw [if_neg q]
        show (va_up σ.1 111 (va_up (σ.1 111) k 1), σ.2) = σ
        rw [e, e2]
      rw [s1]
      by_cases a1 : μ.1 8 k = 5
      · rw [if_pos a1]
        by_cases a2 : μ.1 9 k = s
        · rw [if_pos a2, x1]
          exact stay
        · rw [if_neg a2]
          exact stay
      · rw [if_neg a1]
        exact stay
end MELT
