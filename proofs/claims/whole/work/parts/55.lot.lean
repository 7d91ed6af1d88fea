/-! THE PURE PART: lot -/
section LOT
/-- what a weight must be -/
def WOK (μ : mS) (k : Int32) (s : Nat) (c w : Int32) : Prop := if k = 3 then c = 0 ∧ 1 ≤ w ∧ w ≤ 100000 else (1 ≤ c ∧ c ≤ 1000) ∧ (if k = 4 then w = c * μ.1 3 s else if k = 1 ∨ k = 5 then c ≤ w ∧ w ≤ c * μ.1 3 s else c * μ.1 2 s ≤ w ∧ w ≤ c * μ.1 3 s)
theorem weigh_eq {μ : mS} {s : Int32} (hv : vin s 8 = true) (k c w : Int32) (d : Decidable (WOK μ k s.toNatClampNeg c w)) : f_X7_isWeight μ k s c w = some (@ite _ (WOK μ k s.toNatClampNeg c w) d 1 0) := by
  unfold f_X7_isWeight
  simp only [i_eq]
  unfold WOK at *
  by_cases k3 : k = 3
  · by_cases c0 : c = 0
    · by_cases w0 : 1 ≤ w ∧ w ≤ 100000
      · simp [k3, c0, w0]
      · simp [k3, c0, w0]
    · simp [k3, c0]
  · by_cases c0 : 1 ≤ c ∧ c ≤ 1000
    · by_cases k4 : k = 4
      · by_cases w0 : w = c * μ.1 3 s.toNatClampNeg
        · simp [k4, c0, hv, ← w0]
        · simp [k4, c0, hv, w0]
      · by_cases k1 : k = 1
        · by_cases w0 : c ≤ w ∧ w ≤ c * μ.1 3 s.toNatClampNeg
          · simp [k1, c0, hv, w0, zb]
          · simp [k1, c0, hv, w0, zb]
        · by_cases k5 : k = 5
          · by_cases w0 : c ≤ w ∧ w ≤ c * μ.1 3 s.toNatClampNeg
            · simp [k5, c0, hv, w0, zb]
            · simp [k5, c0, hv, w0, zb]
          · by_cases w0 : c * μ.1 2 s.toNatClampNeg ≤ w ∧ w ≤ c * μ.1 3 s.toNatClampNeg
            · simp [k1, k3, k4, k5, c0, hv, w0, zb]
            · simp [k1, k3, k4, k5, c0, hv, w0, zb]
    · simp [k3, c0]
theorem told_eq {σ : xS} {μ : mS} {s : Nat} (hs : isS σ (2000 + s) = true) (h0 : σ.1 120 s = μ.1 2 s) (h1 : σ.1 121 s = μ.1 3 s) (k c w f : Int32) (d : Decidable ((0 ≤ k ∧ k ≤ 5) ∧ WOK μ k s c w ∧ (if k = 3 ∨ k = 5 then 0 ≤ f ∧ f ≤ 1000 else f = 0))) : f_X6_isLotAsTold σ k (2000 + s) c w f = some (@ite _ ((0 ≤ k ∧ k ≤ 5) ∧ WOK μ k s c w ∧ (if k = 3 ∨ k = 5 then 0 ≤ f ∧ f ≤ 1000 else f = 0)) d 1 0) := by
  unfold f_X6_isLotAsTold f_X6_hasOwnFine f_X4_leastOfCoin
  simp only [w_eq, Nat.add_sub_cancel_left, h0, h1]
  have ff : (0 ≤ f ∧ f ≤ 0) ↔ f = 0 := ⟨fun q => Int32.le_antisymm q.2 q.1, fun q => by rw [q]; decide⟩
  unfold WOK at *
  by_cases kk : 0 ≤ k ∧ k ≤ 5
  · by_cases k3 : k = 3
    · by_cases f0 : 0 ≤ f ∧ f ≤ 1000
      · by_cases c0 : c = 0
        · by_cases w0 : 1 ≤ w ∧ w ≤ 100000
          · simp [k3, c0, w0, f0]
          · simp [k3, c0, w0, f0]
        · simp [k3, c0, f0]
      · simp [k3, f0]
    · by_cases k5 : k = 5
      · by_cases f0 : 0 ≤ f ∧ f ≤ 1000
        · by_cases c0 : 1 ≤ c ∧ c ≤ 1000
          · by_cases w0 : c ≤ w ∧ w ≤ c * μ.1 3 s
            · simp [k5, c0, w0, f0, hs]
            · simp [k5, c0, w0, f0, hs]
          · simp [k5, c0, f0, hs]
        · simp [k5, f0]
      · by_cases f0 : f = 0
        · by_cases c0 : 1 ≤ c ∧ c ≤ 1000
          · by_cases k4 : k = 4
            · by_cases w0 : w = c * μ.1 3 s
              · simp [k4, c0, f0, hs, ← w0]
              · have w1 : ¬ (c * μ.1 3 s ≤ w ∧ w ≤ c * μ.1 3 s) := fun q => w0 (Int32.le_antisymm q.2 q.1)
                simp [k4, c0, f0, hs, w0, w1]
            · by_cases k1 : k = 1
              · by_cases w0 : c ≤ w ∧ w ≤ c * μ.1 3 s
                · simp [k1, c0, w0, f0, hs]
                · simp [k1, c0, w0, f0, hs]
              · by_cases w0 : c * μ.1 2 s ≤ w ∧ w ≤ c * μ.1 3 s
                · simp [kk, k1, k3, k4, k5, c0, w0, f0, hs]
                · simp [kk, k1, k3, k4, k5, c0, w0, f0, hs]
          · by_cases k4 : k = 4
            · simp [k4, c0, f0, hs]
            · by_cases k1 : k = 1
              · simp [k1, c0, f0, hs]
              · simp [kk, k1, k3, k4, k5, c0, f0, hs]
        · simp [kk, k3, k5, f0, ff]
  · simp [kk]
theorem WOK_bd {μ : mS} {k c w : Int32} {s : Nat} (h : WOK μ k s c w) (hs : 1 ≤ μ.1 2 s ∧ μ.1 2 s ≤ μ.1 3 s ∧ μ.1 3 s ≤ 500) : (k = 3 ∧ c = 0 ∧ 1 ≤ w ∧ w ≤ 100000) ∨ (k ≠ 3 ∧ 1 ≤ c ∧ c ≤ 1000 ∧ 1 ≤ w ∧ w ≤ 500000) := by
  unfold WOK at h
  by_cases k3 : k = 3
  · rw [if_pos k3] at h
    exact Or.inl ⟨k3, h⟩
  · rw [if_neg k3] at h
    obtain ⟨c0, h⟩ := h
    refine Or.inr ⟨k3, c0.1, c0.2, ?_⟩
    have b3 := mul_bd c0 ⟨Int32.le_trans hs.1 hs.2.1, hs.2.2⟩
    have b2 := mul_bd c0 ⟨hs.1, Int32.le_trans hs.2.1 hs.2.2⟩
    by_cases k4 : k = 4
    · rw [if_pos k4] at h
      rw [h]
      exact b3.2
    · rw [if_neg k4] at h
      by_cases k1 : k = 1 ∨ k = 5
      · rw [if_pos k1] at h
        exact ⟨Int32.le_trans c0.1 h.1, Int32.le_trans h.2 b3.2.2⟩
      · rw [if_neg k1] at h
        exact ⟨Int32.le_trans b2.2.1 h.1, Int32.le_trans h.2 b3.2.2⟩
abbrev initX (σ : xS) (n : Nat) (k s : Int32) (sk : Nat) (c w g : Int32) : xS := ui (ui (ui (xr (ui (ui (ui (ui (newlot σ) 106 n (-1)) 107 n (-1)) 104 n k) 100 n s) 101 (va_up ((newlot σ).2.2.1 101) n (some sk))) 102 n c) 105 n w) 103 n g
abbrev lotX (σ : xS) (k s : Int32) (sk : Nat) (c w g : Int32) (p : Nat) (v : Int32) : xS := xi (xr (ui (initX σ (nLo σ) k s sk c w g) p (nLo σ) v) 2 (va_up ((newlot σ).2.2.1 2) (nLo σ) (some (1000 + nLo σ)))) 3 (fun _ => Int32.ofNat (nLo σ) + 1)
abbrev lotM (μ : mS) (n : Nat) (k s c w f t m : Int32) : mS := seti (um (um (um (um (um (um (um (um μ 8 n k) 9 n s) 10 n c) 11 n w) 12 n f) 13 n t) 14 n m) 15 n (-1)) 7 (fun _ => Int32.ofNat n + 1)
theorem newLot_eq {σ : xS} {μ : mS} (hC : RC σ μ) (h8 : nLo σ < 30) (k s c w f t m : Int32) : f_X7_newLot μ k s c w f t m = some (Int32.ofNat (nLo σ), lotM μ (nLo σ) k s c w f t m) := by
  have v1 := ofn_vin h8 (by decide)
  unfold f_X7_newLot
  simp [letm, hC.2.2.1.2, v1, mi_ne, mi_self, ofn_nat (show nLo σ < 100000 by omega), Int32.add_sub_cancel, um]
  rfl
theorem init_eq {σ : xS} (h8 : nLo σ < 30) (k s : Int32) (sk : Nat) (c w g : Int32) : f_X1_init (newlot σ) (1000 + nLo σ) k s sk c w g = some (initX σ (nLo σ) k s sk c w g) := by
  have i1 : isL (newlot σ) (1000 + nLo σ) = true := decide_eq_true ⟨by omega, by omega, by show 1000 + nLo σ - 1000 < nLo σ + 1; omega⟩
  unfold f_X1_init
  simp [letm, i1, isL_xi, isL_xr]
  rfl
theorem keep_eq {σ : xS} {μ : mS} (hC : RC σ μ) (h8 : nLo σ < 30) (k s : Int32) (sk : Nat) (c w g : Int32) (p : Nat) (v : Int32) (hp : p = 106 ∨ p = 107) : f_X6_keepLot (ui (initX σ (nLo σ) k s sk c w g) p (nLo σ) v) (1000 + nLo σ) = some (Int32.ofNat (nLo σ), lotX σ k s sk c w g p v) := by
  have i1 : isL (ui (initX σ (nLo σ) k s sk c w g) p (nLo σ) v) (1000 + nLo σ) = true := decide_eq_true ⟨by omega, by omega, by show 1000 + nLo σ - 1000 < nLo σ + 1; omega⟩
  have e0 : (newlot σ).1 3 0 = Int32.ofNat (nLo σ) := by
    rw [← hC.2.2.1.1]
    show (if (100 ≤ 3 ∧ 3 < 112) ∧ 0 = σ.2.2.2 1 then (0 : Int32) else σ.1 3 0) = _
    simp
  have e1 : (ui (initX σ (nLo σ) k s sk c w g) p (nLo σ) v).1 3 0 = Int32.ofNat (nLo σ) := by
    rcases hp with q | q <;> subst q <;> exact e0
  have v1 := ofn_vin h8 (by decide)
  unfold f_X6_keepLot
  rw [i1, e1, v1, ofn_nat (by omega)]
  simp only [letm, cond_true, xr_1, e1]
  rfl
theorem lot_R {σ : xS} {μ : mS} (hR : Rel σ μ) (h8 : nLo σ < 30) (k s c w f g t m : Int32) (p : Nat) (v : Int32) (hs : s.toNatClampNeg < nS σ ∧ 0 ≤ s) (hk : 0 ≤ k ∧ k ≤ 5) (hg : g = if k = 3 ∨ k = 5 then f else μ.1 4 s.toNatClampNeg) (hgb : 0 ≤ g ∧ g ≤ 1000) (hw : (k = 3 ∧ c = 0 ∧ 1 ≤ w ∧ w ≤ 100000) ∨ (k ≠ 3 ∧ 1 ≤ c ∧ c ≤ 1000 ∧ 1 ≤ w ∧ w ≤ 500000)) (hp : (p = 106 ∧ v = t ∧ m = -1 ∧ 0 ≤ t ∧ t ≤ 5) ∨ (p = 107 ∧ v = m ∧ t = -1 ∧ 0 ≤ m ∧ m ≤ 2)) : Rel (lotX σ k s (2000 + s.toNatClampNeg) c w g p v) (lotM μ (nLo σ) k s c w f t m) := by
  obtain ⟨hC, hD, hS, hL, hT, hO, hP, hK, hRr, hG, hM⟩ := hR
  have hz := hT.2.2 (nLo σ) h8 (Nat.le_refl _)
  have hd : (-1 : Int32) ≤ μ.1 6 0 := Int32.le_trans (by decide) hD.2.1
  refine ⟨⟨⟨hC.1.1, by show nLo σ + 1 ≤ 30; omega, hC.1.2.2⟩, ?_, ⟨ofn_succ _, ofn_succ _⟩, ?_, hC.2.2.2.2.1, ?_, fun j hj => ?_, ?_, ?_⟩, ?_, ?_, fun i hi => ?_, ?_, RO_of hO rfl (fun c hc => ?_) rfl rfl rfl rfl, ?_, hK, ?_, ?_, ?_⟩
  · rcases hp with ⟨q, _⟩ | ⟨q, _⟩ <;> subst q <;> exact hC.2.1
  · rcases hp with ⟨q, _⟩ | ⟨q, _⟩ <;> subst q <;> exact hC.2.2.2.1
  · exact hC.2.2.2.2.2.1
  · by_cases q : j = nLo σ
    · subst q
      exact va_up_self _ _ _
    · have hj' : j < nLo σ + 1 := hj
      exact (va_up_ne _ _ q).trans (hC.2.2.2.2.2.2.1 j (by omega))
  · exact hC.2.2.2.2.2.2.2.1
  · exact hC.2.2.2.2.2.2.2.2
  · rcases hp with ⟨q, _⟩ | ⟨q, _⟩ <;> subst q <;> exact hD
  · rcases hp with ⟨q, _⟩ | ⟨q, _⟩ <;> subst q <;> exact hS
  · by_cases q : i = nLo σ
    · rcases hp with ⟨z1, z2, z3, z4⟩ | ⟨z1, z2, z3, z4⟩
      · subst z1 z2 z3 q
        simp only [RLot, lotX, lotM, initX, ui, um, xi, xr, seti, newlot, va_up, ↓reduceIte, Nat.reduceEqDiff, nS, hz, and_true]
        refine ⟨by simp, ⟨hs.1, hs.2⟩, hg, hk, hgb, hw, by decide, ⟨⟨Int32.le_trans (by decide) z4.1, z4.2, by decide, by decide⟩, Or.inl z4.1⟩, Or.inl trivial, fun z => absurd z (by decide), Or.inr (by simp), by decide, by decide⟩
      · subst z1 z2 z3 q
        simp only [RLot, lotX, lotM, initX, ui, um, xi, xr, seti, newlot, va_up, ↓reduceIte, Nat.reduceEqDiff, nS, hz, and_true]
        refine ⟨by simp, ⟨hs.1, hs.2⟩, hg, hk, hgb, hw, by decide, ⟨⟨by decide, by decide, Int32.le_trans (by decide) z4.1, z4.2⟩, Or.inr ⟨trivial, z4.1⟩⟩, Or.inl trivial, fun z => absurd z (by decide), Or.inr (by simp), by decide, by decide⟩
    · have hi' : i < nLo σ + 1 := hi
      have := hL i (by omega)
      rcases hp with ⟨z1, z2, z3, z4⟩ | ⟨z1, z2, z3, z4⟩ <;> subst z1
      · simp only [RLot, lotX, lotM, initX, ui, um, xi, xr, seti, newlot, va_up, q, ↓reduceIte, Nat.reduceEqDiff, nS, and_false]
        exact this
      · simp only [RLot, lotX, lotM, initX, ui, um, xi, xr, seti, newlot, va_up, q, ↓reduceIte, Nat.reduceEqDiff, nS, and_false]
        exact this
  · refine ⟨?_, ?_, fun i hi hj => ?_⟩
    · rcases hp with ⟨q, _⟩ | ⟨q, _⟩ <;> subst q <;> exact hT.1
    · rcases hp with ⟨q, _⟩ | ⟨q, _⟩ <;> subst q <;> exact hT.2.1
    · have hj' : nLo σ + 1 ≤ i := hj
      exact hT.2.2 i hi (by omega)
  · have hq : c ≠ p := by rcases hp with ⟨q, _⟩ | ⟨q, _⟩ <;> omega
    exact (xi_ne (show c ≠ 3 by omega)).trans ((xi_ne hq).trans ((xi_ne (show c ≠ 103 by omega)).trans ((xi_ne (show c ≠ 105 by omega)).trans ((xi_ne (show c ≠ 102 by omega)).trans ((xi_ne (show c ≠ 100 by omega)).trans ((xi_ne (show c ≠ 104 by omega)).trans ((xi_ne (show c ≠ 107 by omega)).trans ((xi_ne (show c ≠ 106 by omega)).trans (newlot_hi σ c (by omega))))))))))
  · rcases hp with ⟨q, _⟩ | ⟨q, _⟩ <;> subst q <;> exact hP
  · rcases hp with ⟨q, _⟩ | ⟨q, _⟩ <;> subst q <;> exact hRr
  · rcases hp with ⟨q, _⟩ | ⟨q, _⟩ <;> subst q <;> exact hG
  · rcases hp with ⟨q, _⟩ | ⟨q, _⟩ <;> subst q <;> exact hM
theorem i10 : ((1 : Int32) = 0) = False := by decide
theorem i53 : ((5 : Int32) = 3) = False := by decide
theorem own_eq (k : Int32) : f_X6_hasOwnFine k = some (if k = 3 ∨ k = 5 then 1 else 0) := by
  unfold f_X6_hasOwnFine
  by_cases k3 : k = 3
  · simp [k3]
  · by_cases k5 : k = 5
    · simp [k5]
    · simp [k3, k5]
theorem H_lot : ∀ (σ : xS) (μ : mS), Rel σ μ → ∀ (a0 : Int32) (a1 : Int32) (a2 : Int32) (a3 : Int32) (a4 : Int32) (a5 : Int32), ∃ (r : Int32) (σ1 : xS) (μ1 : mS), f_X6_lot σ a0 a1 a2 a3 a4 a5 = some (r, σ1) ∧ f_X7_lot μ a0 a1 a2 a3 a4 a5 = some (r, μ1) ∧ Rel σ1 μ1 := by
  intro σ μ hR k s c w f t
  obtain ⟨hC, hD, hS, hL, hT, hO, hP, hK, hRr, hG, hM⟩ := id hR
  unfold f_X6_lot f_X7_lot
  rw [xs_eq hC, msr_eq hC, xt_eq, mt_eq, i_eq, i_eq, own_eq]
  by_cases q1 : 0 ≤ s ∧ s ≤ Int32.ofNat (nS σ) - 1
  · have hs1 : s.toNatClampNeg < nS σ := ix_lt q1.1 q1.2 (by have := hC.1.1; omega)
    have his := isS_of hs1 hC.1.1
    have hs := hS _ hs1
    have hv : vin s 8 = true := vin_of q1.1 (by have := hC.1.1; omega)
    by_cases q2 : 0 ≤ t ∧ t ≤ 5
    · have d1 := Classical.propDecidable (WOK μ k s.toNatClampNeg c w)
      have d2 := Classical.propDecidable ((0 ≤ k ∧ k ≤ 5) ∧ WOK μ k s.toNatClampNeg c w ∧ (if k = 3 ∨ k = 5 then 0 ≤ f ∧ f ≤ 1000 else f = 0))
      have ew := weigh_eq (μ := μ) hv k c w d1
      have et := told_eq his hs.1.1 hs.1.2.1 k c w f d2
      by_cases q3 : (0 ≤ k ∧ k ≤ 5) ∧ WOK μ k s.toNatClampNeg c w ∧ (if k = 3 ∨ k = 5 then 0 ≤ f ∧ f ≤ 1000 else f = 0)
      · rw [if_pos q3] at et
        rw [if_pos q3.2.1] at ew
        by_cases h8 : nLo σ < 30
        · have l1 : Int32.ofNat (nLo σ) < 30 := (ofn_lt (m := 30) (by omega) (by decide)).mpr h8
          have l2 : nLo σ < 1000 := by omega
          have l3 : ¬ Int32.ofNat (nLo σ) = 30 := fun z => absurd ((ofn_eq (m := 30) (by omega) (by decide)).mp z) (by omega)
          have hin : ∀ g, isL (initX σ (nLo σ) k s (2000 + s.toNatClampNeg) c w g) (1000 + nLo σ) = true := fun g => decide_eq_true ⟨by omega, by omega, by show 1000 + nLo σ - 1000 < nLo σ + 1; omega⟩
          have h51 : isS (newlot σ) (2000 + s.toNatClampNeg) = true := his
          have h22 : (newlot σ).1 122 s.toNatClampNeg = μ.1 4 s.toNatClampNeg := by
            rw [← hs.1.2.2.1]
            show (if (100 ≤ 122 ∧ 122 < 112) ∧ s.toNatClampNeg = σ.2.2.2 1 then (0 : Int32) else σ.1 122 s.toNatClampNeg) = _
            simp
          have hg : ∀ g, f_X6_keepLot (ui (initX σ (nLo σ) k s (2000 + s.toNatClampNeg) c w g) 106 (nLo σ) t) (1000 + nLo σ) = _ := fun g => keep_eq hC h8 k s (2000 + s.toNatClampNeg) c w g 106 t (Or.inl rfl)
          have h7 := newLot_eq hC h8 k s c w f t (-1)
          have hb := WOK_bd q3.2.1 hs.2.1
          by_cases k35 : k = 3 ∨ k = 5
          · have kf := q3.2.2
            rw [if_pos k35] at kf
            refine ⟨Int32.ofNat (nLo σ), lotX σ k s (2000 + s.toNatClampNeg) c w f 106 t, lotM μ (nLo σ) k s c w f t (-1), ?_, ?_, lot_R hR h8 k s c w f f t (-1) 106 t ⟨hs1, q1.1⟩ q3.1 (if_pos k35).symm kf hb (Or.inl ⟨rfl, rfl, rfl, q2⟩)⟩
            · simp only [q1, q2, et, hC.2.2.1.1, l1, l2, k35, letm, oq, init_eq h8, hin, Nat.add_sub_cancel_left, and_self, Option.bind_some, decide_true, cond_true, ↓reduceIte, i10, i53]
              exact congrArg (fun z => Option.bind z (fun r94 : Int32 × xS => some (r94.1, r94.2))) (hg f)
            · rcases k35 with z | z
              · subst z
                simp only [q1, q2, q3.1, ew, kf, hC.2.2.1.2, l3, h7, and_self, Option.bind_some, ↓reduceIte, i10, i53]
              · subst z
                simp only [q1, q2, q3.1, ew, kf, hC.2.2.1.2, l3, h7, and_self, Option.bind_some, ↓reduceIte, i10, i53]
          · have kf := q3.2.2
            rw [if_neg k35] at kf
            have k3 : ¬ k = 3 := fun z => k35 (Or.inl z)
            have k5 : ¬ k = 5 := fun z => k35 (Or.inr z)
            refine ⟨Int32.ofNat (nLo σ), lotX σ k s (2000 + s.toNatClampNeg) c w (μ.1 4 s.toNatClampNeg) 106 t, lotM μ (nLo σ) k s c w f t (-1), ?_, ?_, lot_R hR h8 k s c w f (μ.1 4 s.toNatClampNeg) t (-1) 106 t ⟨hs1, q1.1⟩ q3.1 (if_neg k35).symm hs.2.2.1 hb (Or.inl ⟨rfl, rfl, rfl, q2⟩)⟩
            · simp only [q1, q2, et, hC.2.2.1.1, l1, l2, k35, letm, oq, init_eq h8, hin, h51, h22, Nat.add_sub_cancel_left, and_self, Option.bind_some, decide_true, cond_true, ↓reduceIte, i10, i53]
              exact congrArg (fun z => Option.bind z (fun r94 : Int32 × xS => some (r94.1, r94.2))) (hg (μ.1 4 s.toNatClampNeg))
            · simp only [q1, q2, q3.1, k3, k5, ew, kf, hC.2.2.1.2, l3, and_self, Option.bind_some, ↓reduceIte, i10, i53]
              rw [kf] at h7
              rw [h7]
              rfl
        · have h9 : nLo σ = 30 := by have := hC.1.2.1; omega
          have l1 : ¬ Int32.ofNat (nLo σ) < 30 := by rw [h9]; decide
          have l3 : Int32.ofNat (nLo σ) = 30 := by rw [h9]; rfl
          refine ⟨-4, σ, μ, ?_, ?_, hR⟩
          · simp [q1, q2, et, hC.2.2.1.1, l1, oq]
          · by_cases k3 : k = 3
            · have kf := q3.2.2
              rw [if_pos (Or.inl k3)] at kf
              subst k3
              simp [q1, q2, ew, kf, hC.2.2.1.2, l3]
            · by_cases k5 : k = 5
              · have kf := q3.2.2
                rw [if_pos (Or.inr k5)] at kf
                subst k5
                simp [q1, q2, ew, kf, hC.2.2.1.2, l3]
              · have kf := q3.2.2
                rw [if_neg (fun z => z.elim k3 k5)] at kf
                simp [q1, q2, q3.1, ew, kf, hC.2.2.1.2, l3, k3, k5]
      · rw [if_neg q3] at et
        refine ⟨-2, σ, μ, ?_, ?_, hR⟩
        · simp [q1, q2, et, oq]
        · by_cases kk : 0 ≤ k ∧ k ≤ 5
          · by_cases ww : WOK μ k s.toNatClampNeg c w
            · rw [if_pos ww] at ew
              have kf : ¬ (if k = 3 ∨ k = 5 then 0 ≤ f ∧ f ≤ 1000 else f = 0) := fun z => q3 ⟨kk, ww, z⟩
              by_cases k3 : k = 3
              · rw [if_pos (Or.inl k3)] at kf
                subst k3
                simp [q1, q2, ew, kf]
              · by_cases k5 : k = 5
                · rw [if_pos (Or.inr k5)] at kf
                  subst k5
                  simp [q1, q2, ew, kf]
                · rw [if_neg (fun z => z.elim k3 k5)] at kf
                  simp [q1, q2, kk, ew, kf, k3, k5]
            · rw [if_neg ww] at ew
              by_cases k3 : k = 3
              · subst k3
                simp [q1, q2, ew]
              · by_cases k5 : k = 5
                · subst k5
                  simp [q1, q2, ew]
                · simp [q1, q2, kk, ew, k3, k5]
          · by_cases k3 : k = 3
            · subst k3
              exact absurd (by decide) kk
            · by_cases k5 : k = 5
              · subst k5
                exact absurd (by decide) kk
              · simp [q1, q2, kk, k3, k5]
    · exact ⟨-1, σ, μ, by simp [q1, q2, oq], by simp [q1, q2], hR⟩
  · exact ⟨-1, σ, μ, by simp [q1, oq], by simp [q1], hR⟩
end LOT
