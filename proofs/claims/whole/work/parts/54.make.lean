/-! THE PURE PART: sort, open, send, bring -/
section MAKE
theorem mi_ne {μ : mS} {k j : Nat} {f : Nat → Int32} (h : j ≠ k) : (seti μ k f).1 j = μ.1 j := va_up_ne _ _ h
theorem mi_self (μ : mS) (k : Nat) (f : Nat → Int32) : (seti μ k f).1 k = f := va_up_self _ _ _
theorem xr_1 (σ : xS) (k : Nat) (f : Nat → Option Nat) : (xr σ k f).1 = σ.1 := rfl
theorem ofn_lt {n m : Nat} (hn : n < 100000) (hm : m < 100000) : Int32.ofNat n < Int32.ofNat m ↔ n < m := by
  rw [Int32.lt_iff_toInt_lt, Int32.toInt_ofNat_of_lt (by omega), Int32.toInt_ofNat_of_lt (by omega)]
  omega
theorem ofn_le {n m : Nat} (hn : n < 100000) (hm : m < 100000) : Int32.ofNat n ≤ Int32.ofNat m ↔ n ≤ m := by
  rw [Int32.le_iff_toInt_le, Int32.toInt_ofNat_of_lt (by omega), Int32.toInt_ofNat_of_lt (by omega)]
  omega
theorem ofn_nat {n : Nat} (hn : n < 100000) : (Int32.ofNat n).toNatClampNeg = n := Int32.toNatClampNeg_ofNat_of_lt (by omega)
theorem ofn_eq {n m : Nat} (hn : n < 100000) (hm : m < 100000) : Int32.ofNat n = Int32.ofNat m ↔ n = m := by
  constructor
  · intro h
    rw [← ofn_nat hn, h, ofn_nat hm]
  · intro h; rw [h]
theorem ofn_vin {n m : Nat} (h : n < m) (hm : m < 100000) : vin (Int32.ofNat n) m = true := by
  refine vin_of ((ofn_le (n := 0) (by decide) (by omega)).mpr (Nat.zero_le n)) ?_
  rw [ofn_nat (by omega)]
  exact h
theorem ofn_succ (n : Nat) : Int32.ofNat n + 1 = Int32.ofNat (n + 1) := by
  rw [Int32.ofNat_add]; rfl
theorem RO_of {σ σ' : xS} {μ μ' : mS} (h : RO σ μ) (hn : σ'.2.2.2 2 = σ.2.2.2 2) (hc : ∀ c, 1000 ≤ c → σ'.1 c = σ.1 c) (h2 : μ'.1 22 = μ.1 22) (h3 : μ'.1 23 = μ.1 23) (h4 : μ'.1 24 = μ.1 24) (h5 : μ'.1 25 = μ.1 25) : RO σ' μ' := by
  intro o ho
  rw [hc _ (by omega), hc _ (by omega), hc _ (by omega), h2, h3, h4, h5]
  exact h o (Nat.lt_of_lt_of_eq ho hn)
/-- setting one place of a column -/
abbrev ui (σ : xS) (c i : Nat) (x : Int32) : xS := xi σ c (va_up (σ.1 c) i x)
abbrev um (μ : mS) (c i : Nat) (x : Int32) : mS := seti μ c (va_up (μ.1 c) i x)
abbrev sortX (σ : xS) (a b d e : Int32) : xS := xr (ui (ui (ui (ui (newsort σ) 120 (nS σ) a) 121 (nS σ) b) 122 (nS σ) d) 123 (nS σ) e) 0 (va_up (σ.2.2.1 0) (nS σ) (some (2000 + nS σ)))
abbrev sortM (μ : mS) (n : Nat) (a b d e : Int32) : mS := um (um (um (um μ 2 n a) 3 n b) 4 n d) 5 n e
theorem sort_x {σ : xS} {μ : mS} (hC : RC σ μ) (h8 : nS σ < 8) (a b d e : Int32) (c1 : 1 ≤ b ∧ b ≤ 500) (c2 : 1 ≤ a ∧ a ≤ b) (c3 : 0 ≤ d ∧ d ≤ 1000) (c4 : 1 ≤ e ∧ e ≤ 240) : f_X6_sort σ a b d e = some (Int32.ofNat (nS σ), xi (sortX σ a b d e) 1 (fun _ => Int32.ofNat (nS σ) + 1)) := by
  have i1 : isS (newsort σ) (2000 + nS σ) = true := decide_eq_true ⟨by omega, by omega, by show 2000 + nS σ - 2000 < nS σ + 1; omega⟩
  have v1 := ofn_vin h8 (by decide)
  have l1 : Int32.ofNat (nS σ) < 8 := (ofn_lt (m := 8) (by omega) (by decide)).mpr h8
  have l2 : nS σ < 1000 := by omega
  have e0 : (newsort σ).1 1 0 = Int32.ofNat (nS σ) := by
    rw [← hC.2.1.1]
    show (if (120 ≤ 1 ∧ 1 < 124) ∧ 0 = σ.2.2.2 0 then (0 : Int32) else σ.1 1 0) = _
    simp
  unfold f_X6_sort f_X4_init
  rw [w_eq, w_eq, w_eq, w_eq]
  simp only [hC.2.1.1]
  simp [c1, c2, c3, c4, l1, l2, letm, i1, isS_xi, v1, ofn_nat (show nS σ < 100000 by omega), xr_1, xi_ne, e0]
  rfl
theorem sort_m {σ : xS} {μ : mS} (hC : RC σ μ) (h8 : nS σ < 8) (a b d e : Int32) (c1 : 1 ≤ a ∧ a ≤ 500) (c2 : a ≤ b ∧ b ≤ 500) (c3 : 0 ≤ d ∧ d ≤ 1000) (c4 : 1 ≤ e ∧ e ≤ 240) : f_X7_sort μ a b d e = some (Int32.ofNat (nS σ), seti (sortM μ (nS σ) a b d e) 1 (fun _ => Int32.ofNat (nS σ) + 1)) := by
  have v1 := ofn_vin h8 (by decide)
  have l1 : ¬ Int32.ofNat (nS σ) = 8 := fun z => absurd ((ofn_eq (m := 8) (by omega) (by decide)).mp z) (by omega)
  unfold f_X7_sort
  rw [i_eq, i_eq, i_eq, i_eq]
  simp [c1, c2, c3, c4, letm, hC.2.1.2, l1, v1, mi_ne, mi_self, ofn_nat (show nS σ < 100000 by omega), Int32.add_sub_cancel]
  rfl
theorem sort_R {σ : xS} {μ : mS} (hR : Rel σ μ) (h8 : nS σ < 8) (a b d e : Int32) (c1 : 1 ≤ a) (c2 : a ≤ b) (c2' : b ≤ 500) (c3 : 0 ≤ d ∧ d ≤ 1000) (c4 : 1 ≤ e ∧ e ≤ 240) : Rel (xi (sortX σ a b d e) 1 (fun _ => Int32.ofNat (nS σ) + 1)) (seti (sortM μ (nS σ) a b d e) 1 (fun _ => Int32.ofNat (nS σ) + 1)) := by
  obtain ⟨hC, hD, hS, hL, hT, hO, hP, hK, hRr, hG, hM⟩ := hR
  refine ⟨⟨⟨by show nS σ + 1 ≤ 8; omega, hC.1.2⟩, ⟨ofn_succ _, ofn_succ _⟩, hC.2.2.1, hC.2.2.2.1, hC.2.2.2.2.1, fun j hj => ?_, hC.2.2.2.2.2.2.1, hC.2.2.2.2.2.2.2.1, hC.2.2.2.2.2.2.2.2⟩, hD, fun i hi => ?_, fun i hi => ?_, hT, RO_of hO rfl (fun c hc => ?_) rfl rfl rfl rfl, hP, hK, hRr, hG, hM⟩
  · by_cases q : j = nS σ
    · subst q
      exact va_up_self _ _ _
    · have hj' : j < nS σ + 1 := hj
      exact (va_up_ne _ _ q).trans (hC.2.2.2.2.2.1 j (by omega))
  · by_cases q : i = nS σ
    · subst q
      refine ⟨⟨?_, ?_, ?_, ?_⟩, ?_⟩
      · exact (va_up_self _ _ _).trans (va_up_self _ _ _).symm
      · exact (va_up_self _ _ _).trans (va_up_self _ _ _).symm
      · exact (va_up_self _ _ _).trans (va_up_self _ _ _).symm
      · exact (va_up_self _ _ _).trans (va_up_self _ _ _).symm
      · simp only [sortM, um, seti, va_up, ↓reduceIte, Nat.reduceEqDiff]
        exact ⟨⟨c1, c2, c2'⟩, c3, c4⟩
    · have hi' : i < nS σ + 1 := hi
      have := hS i (by omega)
      simp only [sortX, sortM, ui, um, xi, xr, seti, newsort, va_up, q, ↓reduceIte, Nat.reduceEqDiff, and_false]
      exact this
  · have hl := hL i hi
    have q : ¬ (μ.1 9 i).toNatClampNeg = nS σ := by have := hl.2.1.1; omega
    have hl2 : (μ.1 9 i).toNatClampNeg < nS σ + 1 := by have := hl.2.1.1; omega
    simp only [RLot, sortX, sortM, ui, um, xi, xr, seti, newsort, va_up, q, ↓reduceIte, Nat.reduceEqDiff, nS, and_false]
    exact ⟨hl.1, ⟨hl2, hl.2.1.2⟩, hl.2.2⟩
  · have q1 : c ≠ 1 := by omega
    have q2 : c ≠ 120 := by omega
    have q3 : c ≠ 121 := by omega
    have q4 : c ≠ 122 := by omega
    have q5 : c ≠ 123 := by omega
    exact (xi_ne q1).trans ((xi_ne q5).trans ((xi_ne q4).trans ((xi_ne q3).trans ((xi_ne q2).trans (newsort_hi σ c (by omega))))))
theorem H_sort : ∀ (σ : xS) (μ : mS), Rel σ μ → ∀ (a0 : Int32) (a1 : Int32) (a2 : Int32) (a3 : Int32), ∃ (r : Int32) (σ1 : xS) (μ1 : mS), f_X6_sort σ a0 a1 a2 a3 = some (r, σ1) ∧ f_X7_sort μ a0 a1 a2 a3 = some (r, μ1) ∧ Rel σ1 μ1 := by
  intro σ μ hR a b d e
  obtain ⟨hC, hD, hS, hL, hT, hO, hP, hK, hRr, hG, hM⟩ := id hR
  by_cases c : (1 ≤ a ∧ a ≤ b ∧ b ≤ 500) ∧ (0 ≤ d ∧ d ≤ 1000) ∧ (1 ≤ e ∧ e ≤ 240)
  · obtain ⟨⟨c1, c2, c3⟩, c4, c5⟩ := c
    have k1 : 1 ≤ b := Int32.le_trans c1 c2
    have k2 : a ≤ 500 := Int32.le_trans c2 c3
    by_cases h8 : nS σ < 8
    · exact ⟨_, _, _, sort_x hC h8 a b d e ⟨k1, c3⟩ ⟨c1, c2⟩ c4 c5, sort_m hC h8 a b d e ⟨c1, k2⟩ ⟨c2, c3⟩ c4 c5, sort_R hR h8 a b d e c1 c2 c3 c4 c5⟩
    · have h9 : nS σ = 8 := by have := hC.1.1; omega
      have e1 : σ.1 1 0 = 8 := by rw [hC.2.1.1, h9]; rfl
      have e2 : μ.1 1 0 = 8 := by rw [hC.2.1.2, h9]; rfl
      unfold f_X6_sort f_X7_sort
      rw [w_eq, w_eq, w_eq, w_eq, i_eq, i_eq, i_eq, i_eq]
      exact ⟨-4, σ, μ, by simp [c1, c2, c3, c4, c5, k1, k2, e1], by simp [c1, c2, c3, c4, c5, k1, k2, e2], hR⟩
  · refine ⟨-2, σ, μ, ?_, ?_, hR⟩
    · unfold f_X6_sort
      rw [w_eq, w_eq, w_eq, w_eq]
      by_cases d1 : 1 ≤ b ∧ b ≤ 500
      · by_cases d2 : 1 ≤ a ∧ a ≤ b
        · by_cases d3 : 0 ≤ d ∧ d ≤ 1000
          · by_cases d4 : 1 ≤ e ∧ e ≤ 240
            · exact absurd ⟨⟨d2.1, d2.2, d1.2⟩, d3, d4⟩ c
            · simp [d1, d2, d3, d4]
          · simp [d1, d2, d3]
        · simp [d1, d2]
      · simp [d1]
    · unfold f_X7_sort
      rw [i_eq, i_eq, i_eq, i_eq]
      by_cases d1 : 1 ≤ a ∧ a ≤ 500
      · by_cases d2 : a ≤ b ∧ b ≤ 500
        · by_cases d3 : 0 ≤ d ∧ d ≤ 1000
          · by_cases d4 : 1 ≤ e ∧ e ≤ 240
            · exact absurd ⟨⟨d1.1, d2.1, d2.2⟩, d3, d4⟩ c
            · simp [d1, d2, d3, d4]
          · simp [d1, d2, d3]
        · simp [d1, d2]
      · simp [d1]
theorem add_int {x y : Int32} (h : -2147483648 ≤ x.toInt + y.toInt) (h' : x.toInt + y.toInt < 2147483648) : (x + y).toInt = x.toInt + y.toInt := by
  rw [Int32.toInt_add]
  exact Int.bmod_eq_of_le (by omega) (by omega)
theorem sub_int {x y : Int32} (h : -2147483648 ≤ x.toInt - y.toInt) (h' : x.toInt - y.toInt < 2147483648) : (x - y).toInt = x.toInt - y.toInt := by
  rw [Int32.toInt_sub]
  exact Int.bmod_eq_of_le (by omega) (by omega)
theorem mul_int {x y : Int32} (h : -2147483648 ≤ x.toInt * y.toInt) (h' : x.toInt * y.toInt < 2147483648) : (x * y).toInt = x.toInt * y.toInt := by
  rw [Int32.toInt_mul]
  exact Int.bmod_eq_of_le (by omega) (by omega)
theorem day_add {x y : Int32} (h : 0 ≤ x ∧ x ≤ 999) (h2 : 1 ≤ y ∧ y ≤ 30) : -1 ≤ x + y ∧ x + y ≤ 1029 := by
  have a1 : (0 : Int) ≤ x.toInt := Int32.le_iff_toInt_le.mp h.1
  have a2 : x.toInt ≤ 999 := Int32.le_iff_toInt_le.mp h.2
  have a3 : (1 : Int) ≤ y.toInt := Int32.le_iff_toInt_le.mp h2.1
  have a4 : y.toInt ≤ 30 := Int32.le_iff_toInt_le.mp h2.2
  have e := add_int (x := x) (y := y) (by omega) (by omega)
  refine ⟨Int32.le_iff_toInt_le.mpr ?_, Int32.le_iff_toInt_le.mpr ?_⟩
  · rw [e]; show (-1 : Int) ≤ _; omega
  · rw [e]; show _ ≤ (1029 : Int); omega
theorem mul_bd {x y : Int32} (h : 1 ≤ x ∧ x ≤ 1000) (h2 : 1 ≤ y ∧ y ≤ 500) : (x * y).toInt = x.toInt * y.toInt ∧ 1 ≤ x * y ∧ x * y ≤ 500000 := by
  have a1 : (1 : Int) ≤ x.toInt := Int32.le_iff_toInt_le.mp h.1
  have a2 : x.toInt ≤ 1000 := Int32.le_iff_toInt_le.mp h.2
  have a3 : (1 : Int) ≤ y.toInt := Int32.le_iff_toInt_le.mp h2.1
  have a4 : y.toInt ≤ 500 := Int32.le_iff_toInt_le.mp h2.2
  have b1 : x.toInt * y.toInt ≤ 1000 * 500 := Int.mul_le_mul a2 a4 (by omega) (by decide)
  have b2 : 1 * 1 ≤ x.toInt * y.toInt := Int.mul_le_mul a1 a3 (by decide) (by omega)
  have e := mul_int (x := x) (y := y) (by omega) (by omega)
  refine ⟨e, Int32.le_iff_toInt_le.mpr ?_, Int32.le_iff_toInt_le.mpr ?_⟩
  · rw [e]; show (1 : Int) ≤ _; omega
  · rw [e]; show _ ≤ (500000 : Int); omega
theorem H_send : ∀ (σ : xS) (μ : mS), Rel σ μ → ∀ (a0 : Int32) (a1 : Int32), ∃ (r : Int32) (σ1 : xS) (μ1 : mS), f_X6_send σ a0 a1 = some (r, σ1) ∧ f_X7_send μ a0 a1 = some (r, μ1) ∧ Rel σ1 μ1 := by
  intro σ μ hR a b
  obtain ⟨hC, hD, hS, hL, hT, hO, hP, hK, hRr, hG, hM⟩ := id hR
  unfold f_X6_send f_X7_send
  rw [xl_eq hC, ml_eq hC, xm_eq, mm_eq, hD.1]
  by_cases c : 0 ≤ a ∧ a ≤ Int32.ofNat (nLo σ) - 1
  · obtain ⟨h1, h2, h3⟩ := lot_ix hC c
    have hl := hL _ h1
    have hi := isL_of h1 hC.1.2.1
    have ho := onroad_eq hD h1 hC.1.2.1 hl
    have hu := under_eq (μ := μ) h3
    by_cases c2 : 0 ≤ b ∧ b ≤ 2
    · obtain ⟨⟨p100, p102, p104, p105, p109, p110, p111⟩, p2, p3, p4, p5, p6, p7, p8, p9, p10, p11⟩ := hl
      generalize hj : a.toNatClampNeg = i at *
      rcases p9 with ⟨z1, z2, z3⟩ | ⟨z1, z2, z3, z4, z5, z6⟩
      · by_cases t : μ.1 13 i < 0
        · have t2 : ¬ (0 ≤ μ.1 13 i ∧ μ.1 13 i ≤ 5) := fun q => absurd t (Int32.not_lt.mpr q.1)
          exact ⟨-3, σ, μ, by simp [c, c2, oq, hi, xt_eq, z2, t2], by simp [c, c2, hj, h3, t], hR⟩
        · have t2 : 0 ≤ μ.1 13 i ∧ μ.1 13 i ≤ 5 := ⟨Int32.not_lt.mp t, p8.1.2.1⟩
          by_cases q : μ.1 15 i ≤ μ.1 6 0
          · have xt : f_X6_isTown (μ.1 13 i) = some 1 := by rw [xt_eq, if_pos t2]
            by_cases w : μ.1 17 i = 0
            · obtain ⟨t3, t4, t5, t6, t7⟩ := tm_ix t2 c2
              have hlt : (3 * μ.1 13 i + b).toNatClampNeg < 18 := by omega
              have hr := hRr _ hlt
              refine ⟨μ.1 6 0 + μ.1 32 (3 * μ.1 13 i + b).toNatClampNeg, ui (ui (ui σ 108 i (μ.1 6 0 + μ.1 32 (3 * μ.1 13 i + b).toNatClampNeg)) 106 i (-1)) 107 i b, um (um (um μ 15 i (μ.1 6 0 + μ.1 32 (3 * μ.1 13 i + b).toNatClampNeg)) 13 i (-1)) 14 i b, ?_, ?_, hC, hD, hS, fun j hjn => ?_, hT, RO_xi (by decide) (RO_xi (by decide) (RO_xi (by decide) hO)), hP, hK, hRr, hG, hM⟩
              · simp [c, c2, oq, hi, xt, z2, ho, q, p110, w, isL_xi, letm, t5, t6, hr.1, xi_ne, xi_self, va_up_self, hD.1, ui]
              · simp [c, c2, hj, h3, t, hu, q, z1, w, letm, t6, mi_ne, mi_self, va_up_self, um]
              · by_cases qj : j = i
                · subst qj
                  simp only [RLot, ui, um, xi, seti, va_up, ↓reduceIte, Nat.reduceEqDiff]
                  exact ⟨⟨p100, p102, p104, p105, p109, p110, p111⟩, p2, p3, p4, p5, p6, p7, ⟨⟨by decide, by decide, Int32.le_trans (by decide) c2.1, c2.2⟩, Or.inr ⟨trivial, c2.1⟩⟩, Or.inl ⟨z1, trivial, trivial⟩, fun z => absurd (w.symm.trans z) (by decide), Or.inl trivial, day_add hD.2 hr.2⟩
                · have := hL j hjn
                  simp only [RLot, ui, um, xi, seti, va_up, qj, ↓reduceIte, Nat.reduceEqDiff]
                  exact this
            · exact ⟨-3, σ, μ, by simp [c, c2, oq, hi, z2, xt, ho, q, p110, w], by simp [c, c2, hj, h3, t, hu, q, z1, w], hR⟩
          · exact ⟨-3, σ, μ, by simp [c, c2, oq, hi, z2, xt_eq, t2.1, t2.2, ho, q], by simp [c, c2, hj, h3, t, hu, q], hR⟩
      · exact ⟨-3, σ, μ, by simp [c, c2, oq, hi, xt_eq, z2], by simp [c, c2, hj, h3, z4], hR⟩
    · exact ⟨-1, σ, μ, by simp [c, c2, oq], by simp [c, c2], hR⟩
  · exact ⟨-1, σ, μ, by simp [c, oq], by simp [c], hR⟩
theorem atmint_eq {σ : xS} {μ : mS} {x : Int32} (hv : vin x 30 = true) (hl : RLot σ μ x.toNatClampNeg) : f_X7_isAtMint μ x = some (if (0 ≤ σ.1 107 x.toNatClampNeg ∧ σ.1 107 x.toNatClampNeg ≤ 2) ∧ μ.1 15 x.toNatClampNeg ≤ μ.1 6 0 then 1 else 0) := by
  unfold f_X7_isAtMint
  obtain ⟨p1, p2, p3, p4, p5, p6, p7, p8, p9, p10, p11⟩ := hl
  rw [under_eq hv]
  generalize hj : x.toNatClampNeg = i at *
  rcases p9 with ⟨z1, z2, z3⟩ | ⟨z1, z2, z3, z4, z5, z6⟩
  · rw [z3]
    by_cases t : μ.1 14 i < 0
    · have t2 : ¬ 0 ≤ μ.1 14 i := fun q => absurd t (Int32.not_lt.mpr q)
      simp [hv, t, t2]
    · have t2 : 0 ≤ μ.1 14 i := Int32.not_lt.mp t
      have t3 : μ.1 14 i ≤ 2 := p8.1.2.2.2
      by_cases q : μ.1 15 i ≤ μ.1 6 0
      · simp [hv, t, t2, t3, q, z1]
      · simp [hv, t, q]
  · rw [z3]
    by_cases t : μ.1 14 i < 0
    · simp [hv, t]
    · simp [hv, t, z6, z1]
theorem H_bring : ∀ (σ : xS) (μ : mS), Rel σ μ → ∀ (a0 : Int32) (a1 : Int32), ∃ (r : Int32) (σ1 : xS) (μ1 : mS), f_X6_bring σ a0 a1 = some (r, σ1) ∧ f_X7_bring μ a0 a1 = some (r, μ1) ∧ Rel σ1 μ1 := by
  intro σ μ hR a b
  obtain ⟨hC, hD, hS, hL, hT, hO, hP, hK, hRr, hG, hM⟩ := id hR
  unfold f_X6_bring f_X7_bring
  rw [xl_eq hC, ml_eq hC, xt_eq, mt_eq, hD.1]
  by_cases c : 0 ≤ a ∧ a ≤ Int32.ofNat (nLo σ) - 1
  · obtain ⟨h1, h2, h3⟩ := lot_ix hC c
    have hl := hL _ h1
    have hi := isL_of h1 hC.1.2.1
    have ho := onroad_eq hD h1 hC.1.2.1 hl
    have hu := atmint_eq h3 hl
    by_cases c2 : 0 ≤ b ∧ b ≤ 5
    · obtain ⟨⟨p100, p102, p104, p105, p109, p110, p111⟩, p2, p3, p4, p5, p6, p7, p8, p9, p10, p11⟩ := hl
      generalize hj : a.toNatClampNeg = i at *
      by_cases t : 0 ≤ σ.1 107 i ∧ σ.1 107 i ≤ 2
      · by_cases q : μ.1 15 i ≤ μ.1 6 0
        · obtain ⟨z1, z2, z3⟩ : μ.1 16 i = 0 ∧ σ.1 106 i = μ.1 13 i ∧ σ.1 107 i = μ.1 14 i := by
            rcases p9 with z | ⟨z1, z2, z3, z4, z5, z6⟩
            · exact z
            · rw [z3] at t; exact absurd t (by decide)
          have xt : f_X6_isMint (σ.1 107 i) = some 1 := by rw [xm_eq, if_pos t]
          rw [if_pos ⟨t, q⟩] at hu
          rw [z3] at t xt
          obtain ⟨t3, t4, t5, t6, t7⟩ := tm_ix c2 t
          have hlt : (3 * b + μ.1 14 i).toNatClampNeg < 18 := by omega
          have hr := hRr _ hlt
          have hm17 : μ.1 17 i = 0 := by
            rcases p7.2.1 with z | z
            · exact z
            · have := (p10 z).1
              rcases p8.2 with y | y
              · rw [y.2] at t; exact absurd t (by decide)
              · rw [y.1] at this; exact absurd this (by decide)
          refine ⟨μ.1 6 0 + μ.1 32 (3 * b + μ.1 14 i).toNatClampNeg, ui (ui (ui σ 108 i (μ.1 6 0 + μ.1 32 (3 * b + μ.1 14 i).toNatClampNeg)) 107 i (-1)) 106 i b, um (um (um μ 15 i (μ.1 6 0 + μ.1 32 (3 * b + μ.1 14 i).toNatClampNeg)) 14 i (-1)) 13 i b, ?_, ?_, hC, hD, hS, fun j hjn => ?_, hT, RO_xi (by decide) (RO_xi (by decide) (RO_xi (by decide) hO)), hP, hK, hRr, hG, hM⟩
          · simp [c, c2, oq, hi, xt, z3, ho, q, isL_xi, letm, t5, t6, hr.1, xi_ne, xi_self, va_up_self, hD.1, ui]
          · simp [c, c2, hj, h3, hu, letm, t6, mi_ne, mi_self, va_up_self, um]
          · by_cases qj : j = i
            · subst qj
              simp only [RLot, ui, um, xi, seti, va_up, ↓reduceIte, Nat.reduceEqDiff]
              exact ⟨⟨p100, p102, p104, p105, p109, p110, p111⟩, p2, p3, p4, p5, p6, p7, ⟨⟨Int32.le_trans (by decide) c2.1, c2.2, by decide, by decide⟩, Or.inl ⟨c2.1, trivial⟩⟩, Or.inl ⟨z1, trivial, trivial⟩, fun z => absurd (hm17.symm.trans z) (by decide), Or.inl trivial, day_add hD.2 hr.2⟩
            · have := hL j hjn
              simp only [RLot, ui, um, xi, seti, va_up, qj, ↓reduceIte, Nat.reduceEqDiff]
              exact this
        · have xt : f_X6_isMint (σ.1 107 i) = some 1 := by rw [xm_eq, if_pos t]
          rw [if_neg (fun z => q z.2)] at hu
          exact ⟨-3, σ, μ, by simp [c, c2, oq, hi, xt, ho, q], by simp [c, c2, hu], hR⟩
      · have xt : f_X6_isMint (σ.1 107 i) = some 0 := by rw [xm_eq, if_neg t]
        rw [if_neg (fun z => t z.1)] at hu
        exact ⟨-3, σ, μ, by simp [c, c2, oq, hi, xt], by simp [c, c2, hu], hR⟩
    · exact ⟨-1, σ, μ, by simp [c, c2, oq], by simp [c, c2], hR⟩
  · exact ⟨-1, σ, μ, by simp [c, oq], by simp [c], hR⟩
theorem H_open : ∀ (σ : xS) (μ : mS), Rel σ μ → ∀ (a0 : Int32) (a1 : Int32), ∃ (r : Int32) (σ1 : xS) (μ1 : mS), f_X6_open σ a0 a1 = some (r, σ1) ∧ f_X7_open μ a0 a1 = some (r, μ1) ∧ Rel σ1 μ1 := by
  intro σ μ hR a b
  obtain ⟨hC, hD, hS, hL, hT, hO, hP, hK, hRr, hG, hM⟩ := id hR
  unfold f_X6_open f_X7_open f_X1_isSealedBag
  rw [xl_eq hC, ml_eq hC]
  by_cases c : 0 ≤ a ∧ a ≤ Int32.ofNat (nLo σ) - 1
  · obtain ⟨h1, h2, h3⟩ := lot_ix hC c
    have hl := hL _ h1
    have hi := isL_of h1 hC.1.2.1
    have hv := sn_ix hC hl
    have hs := hS _ hl.2.1.1
    have his := isS_of hl.2.1.1 hC.1.1
    obtain ⟨⟨p100, p102, p104, p105, p109, p110, p111⟩, p2, p3, p4, p5, p6, p7, p8, p9, p10, p11⟩ := hl
    generalize hj : a.toNatClampNeg = i at *
    generalize hk : (μ.1 9 i).toNatClampNeg = k at *
    obtain ⟨⟨s0, s1, s2, s3⟩, s4, s5, s6⟩ := hs
    by_cases w : μ.1 10 i ≤ b ∧ b ≤ μ.1 10 i * μ.1 3 k
    · have xw : f_X6_within b (μ.1 10 i) (μ.1 10 i * μ.1 3 k) = some 1 := by rw [w_eq, if_pos w]
      have mw : f_X7_in b (μ.1 10 i) (μ.1 10 i * μ.1 3 k) = some 1 := by rw [i_eq, if_pos w]
      by_cases y : μ.1 8 i = 2
      · by_cases z : μ.1 16 i = 0
        · obtain ⟨z0, z1, z2⟩ : μ.1 8 i ≠ 3 ∧ (1 ≤ μ.1 10 i ∧ μ.1 10 i ≤ 1000) ∧ 1 ≤ μ.1 11 i ∧ μ.1 11 i ≤ 500000 := by
            rcases p6 with q | q
            · rw [y] at q; exact absurd q.1 (by decide)
            · exact ⟨q.1, ⟨q.2.1, q.2.2.1⟩, q.2.2.2⟩
          have hb : 1 ≤ b ∧ b ≤ 500000 := ⟨Int32.le_trans z1.1 w.1, Int32.le_trans w.2 (mul_bd z1 ⟨Int32.le_trans s4.1 s4.2.1, s4.2.2⟩).2.2⟩
          have fin : ∀ n : Int32, (n = 0 ∨ n = 1) → Rel (ui (ui σ 104 i n) 105 i b) (um (um μ 11 i b) 8 i n) := by
            intro n hn
            refine ⟨hC, hD, hS, fun j hjn => ?_, hT, RO_xi (by decide) (RO_xi (by decide) hO), hP, hK, hRr, hG, hM⟩
            by_cases qj : j = i
            · subst qj
              simp only [RLot, ui, um, xi, seti, va_up, ↓reduceIte, Nat.reduceEqDiff]
              have e3 : ¬ n = 3 := by rcases hn with q | q <;> subst q <;> decide
              have e5 : ¬ n = 5 := by rcases hn with q | q <;> subst q <;> decide
              have eb : 0 ≤ n ∧ n ≤ 5 := by rcases hn with q | q <;> subst q <;> decide
              rw [if_neg (by rw [y]; decide)] at p3
              rw [hk, if_neg (fun q => q.elim e3 e5)]
              exact ⟨⟨p100, p102, trivial, trivial, p109, p110, p111⟩, p2, p3, eb, p5, Or.inr ⟨e3, z1.1, z1.2, hb⟩, p7, p8, p9, p10, p11⟩
            · have := hL j hjn
              simp only [RLot, ui, um, xi, seti, va_up, qj, ↓reduceIte, Nat.reduceEqDiff]
              exact this
          by_cases g : μ.1 10 i * μ.1 2 k ≤ b
          · refine ⟨0, ui (ui σ 104 i 0) 105 i b, um (um μ 11 i b) 8 i 0, ?_, ?_, fin 0 (Or.inl rfl)⟩
            · simp [c, oq, hi, p102, p2, his, s0, s1, xw, p104, y, p109, z, g, letm, isL_xi, f_X6_oneIf, ui, xi_ne]
            · simp [c, h3, hj, hv, hk, mw, y, z, letm, mi_ne, mi_self, va_up_self, g, um]
          · refine ⟨1, ui (ui σ 104 i 1) 105 i b, um (um μ 11 i b) 8 i 1, ?_, ?_, fin 1 (Or.inr rfl)⟩
            · simp [c, oq, hi, p102, p2, his, s0, s1, xw, p104, y, p109, z, g, letm, isL_xi, f_X6_oneIf, ui, xi_ne]
            · simp [c, h3, hj, hv, hk, mw, y, z, letm, mi_ne, mi_self, va_up_self, g, um]
        · exact ⟨-3, σ, μ, by simp [c, oq, hi, p102, p2, his, s1, xw, p104, y, p109, z], by simp [c, h3, hj, hv, hk, mw, y, z], hR⟩
      · exact ⟨-3, σ, μ, by simp [c, oq, hi, p102, p2, his, s1, xw, p104, y], by simp [c, h3, hj, hv, hk, mw, y], hR⟩
    · have xw : f_X6_within b (μ.1 10 i) (μ.1 10 i * μ.1 3 k) = some 0 := by rw [w_eq, if_neg w]
      have mw : f_X7_in b (μ.1 10 i) (μ.1 10 i * μ.1 3 k) = some 0 := by rw [i_eq, if_neg w]
      exact ⟨-2, σ, μ, by simp [c, oq, hi, p102, p2, his, s1, xw], by simp [c, h3, hj, hv, hk, mw], hR⟩
  · exact ⟨-1, σ, μ, by simp [c, oq], by simp [c], hR⟩
end MAKE
