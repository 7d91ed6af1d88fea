/-! THE PURE PART: force, tell -/
section FORCE
theorem le_int {x y : Int32} : x ≤ y ↔ x.toInt ≤ y.toInt := Int32.le_iff_toInt_le
theorem lt_int {x y : Int32} : x < y ↔ x.toInt < y.toInt := Int32.lt_iff_toInt_lt
theorem eq_int {x y : Int32} : x = y ↔ x.toInt = y.toInt := Int32.toInt_inj.symm
theorem ofn_int {n : Nat} (h : n < 100000) : (Int32.ofNat n).toInt = n := Int32.toInt_ofNat_of_lt (by omega)
theorem bd_int {x lo hi : Int32} (h : lo ≤ x ∧ x ≤ hi) : lo.toInt ≤ x.toInt ∧ x.toInt ≤ hi.toInt := ⟨le_int.mp h.1, le_int.mp h.2⟩
theorem int_eq_nat {x : Int32} {n : Nat} (h : x.toInt = n) (hn : n < 100000) : x = Int32.ofNat n := eq_int.mpr (by rw [ofn_int hn, h])
theorem order_k {σ : xS} {μ : mS} (hC : RC σ μ) {k : Nat} (h : k < nO σ) : f_X6_orderAt σ (Int32.ofNat k) = some (some (3000 + k)) := by
  have h1 := hC.1.2.2
  have c : 0 ≤ Int32.ofNat k ∧ Int32.ofNat k ≤ Int32.ofNat (nO σ) - 1 := by
    constructor
    · exact (ofn_le (n := 0) (by decide) (by omega)).mpr (Nat.zero_le k)
    · rw [le_int, ofn_int (by omega), sub_int (by rw [ofn_int (by omega)]; show _ ≤ (nO σ : Int) - 1; omega) (by rw [ofn_int (by omega)]; show (nO σ : Int) - 1 < _; omega), ofn_int (by omega)]
      show (k : Int) ≤ (nO σ : Int) - 1
      omega
  rw [xo_eq hC, if_pos c, ofn_nat (by omega)]
theorem lot_k {σ : xS} {μ : mS} (hC : RC σ μ) {k : Nat} (h : k < nLo σ) : f_X6_lotAt σ (Int32.ofNat k) = some (some (1000 + k)) := by
  have h1 := hC.1.2.1
  have c : 0 ≤ Int32.ofNat k ∧ Int32.ofNat k ≤ Int32.ofNat (nLo σ) - 1 := by
    constructor
    · exact (ofn_le (n := 0) (by decide) (by omega)).mpr (Nat.zero_le k)
    · rw [le_int, ofn_int (by omega), sub_int (by rw [ofn_int (by omega)]; show _ ≤ (nLo σ : Int) - 1; omega) (by rw [ofn_int (by omega)]; show (nLo σ : Int) - 1 < _; omega), ofn_int (by omega)]
      show (k : Int) ≤ (nLo σ : Int) - 1
      omega
  rw [xl_eq hC, if_pos c, ofn_nat (by omega)]
theorem order_m1 {σ : xS} {μ : mS} (hC : RC σ μ) : f_X6_orderAt σ (-1) = some none := by
  rw [xo_eq hC, if_neg (fun z => absurd z.1 (by decide))]
theorem isT_of {σ : xS} {μ : mS} {i : Nat} (hC : RC σ μ) (h : i < nO σ) : isT σ (3200 + i) = true := by
  have h1 := hC.1.2.2
  refine decide_eq_true ⟨by omega, by omega, ?_⟩
  rw [hC.2.2.2.2.1.1]
  omega
theorem isPe_of {σ : xS} {μ : mS} {i : Nat} (hC : RC σ μ) (h : i < nO σ) : isPe σ (3400 + i) = true := by
  have h1 := hC.1.2.2
  refine decide_eq_true ⟨by omega, by omega, ?_⟩
  rw [hC.2.2.2.2.1.2.1]
  omega
theorem isGr_of {σ : xS} {μ : mS} {i : Nat} (hC : RC σ μ) (h : i < nO σ) : isGr σ (3600 + i) = true := by
  have h1 := hC.1.2.2
  refine decide_eq_true ⟨by omega, by omega, ?_⟩
  rw [hC.2.2.2.2.1.2.2]
  omega
theorem six_ix {k : Nat} {t : Int32} (hk : k < 10) (ht : 0 ≤ t ∧ t ≤ 5) : t.toNatClampNeg < 6 ∧ vin (6 * Int32.ofNat k + t) 60 = true ∧ (6 * Int32.ofNat k + t).toNatClampNeg = 6 * k + t.toNatClampNeg := by
  have h1 := ix_le (n := 5) ht.1 ht.2 (by decide)
  have e1 := ix_of ht.1
  generalize t.toNatClampNeg = a at h1 e1
  subst e1
  have e3 : (6 : Int32) * Int32.ofNat k + Int32.ofNat a = Int32.ofNat (6 * k + a) := by
    rw [Int32.ofNat_add, Int32.ofNat_mul]; rfl
  rw [e3]
  exact ⟨by omega, ofn_vin (by omega) (by decide), ofn_nat (by omega)⟩
theorem told_f {y m : Int32} (h : y + 1 = m) (hb : 0 ≤ m ∧ m ≤ 1000) : m - 1 = y ∧ y.toInt = m.toInt - 1 ∧ 0 ≤ m.toInt ∧ m.toInt ≤ 1000 ∧ (y = -1 ↔ m ≤ 0) := by
  have e : m - 1 = y := by rw [← h, Int32.add_sub_cancel]
  have b1 : (0 : Int) ≤ m.toInt := le_int.mp hb.1
  have b2 : m.toInt ≤ 1000 := le_int.mp hb.2
  have e2 : y.toInt = m.toInt - 1 := by
    rw [← e, sub_int (by show _ ≤ m.toInt - 1; omega) (by show m.toInt - 1 < _; omega)]
    rfl
  refine ⟨e, e2, b1, b2, ?_⟩
  rw [eq_int, le_int, e2]
  show m.toInt - 1 = -1 ↔ m.toInt ≤ 0
  omega
theorem force_L {σ : xS} {μ : mS} (hC : RC σ μ) (hO : RO σ μ) (t day : Int32) (ht : 0 ≤ t ∧ t ≤ 5) : ∀ (d k f1 f2 : Nat) (b x4 : Int32), k + d = nO σ → d < f1 → d < f2 → ((b = -1 ∧ x4 = 0) ∨ ∃ j, j < k ∧ b = Int32.ofNat j ∧ x4 + 1 = μ.1 25 (6 * j + t.toNatClampNeg) ∧ 1 ≤ μ.1 25 (6 * j + t.toNatClampNeg)) → ∃ r, f_X7_forceIn_L5 f1 μ t day b (Int32.ofNat k) = some r ∧ f_X6_orderInForce_L8 f2 σ t day b x4 (Int32.ofNat k) = some r ∧ (r = -1 ∨ ∃ j, j < nO σ ∧ r = Int32.ofNat j) := by
  have h1 := hC.1.2.2
  have ht6 : t.toNatClampNeg < 6 := (town_ix ht).1
  intro d
  induction d with
  | zero =>
    intro k f1 f2 b x4 hk hf1 hf2 hb
    obtain ⟨f1, rfl⟩ : ∃ z, f1 = z + 1 := ⟨f1 - 1, by omega⟩
    obtain ⟨f2, rfl⟩ : ∃ z, f2 = z + 1 := ⟨f2 - 1, by omega⟩
    have e : k = nO σ := by omega
    subst e
    rw [f_X7_forceIn_L5, f_X6_orderInForce_L8, hC.2.2.2.1.1, hC.2.2.2.1.2, if_pos (Int32.le_refl _), if_pos (Int32.le_refl _)]
    refine ⟨b, rfl, rfl, ?_⟩
    rcases hb with z | ⟨j, z1, z2, z3⟩
    · exact Or.inl z.1
    · exact Or.inr ⟨j, z1, z2⟩
  | succ d ih =>
    intro k f1 f2 b x4 hk hf1 hf2 hb
    obtain ⟨f1, rfl⟩ : ∃ z, f1 = z + 1 := ⟨f1 - 1, by omega⟩
    obtain ⟨f2, rfl⟩ : ∃ z, f2 = z + 1 := ⟨f2 - 1, by omega⟩
    have hkn : k < nO σ := by omega
    have hle : ¬ Int32.ofNat (nO σ) ≤ Int32.ofNat k := by rw [ofn_le (by omega) (by omega)]; omega
    obtain ⟨s1, s2, s3⟩ := six_ix (k := k) (by omega) ht
    have ho := (hO k hkn).2 _ ht6
    obtain ⟨q1, q2, q3, q4, q5⟩ := told_f ho.1 ho.2
    have hr := (hC.2.2.2.2.2.2.2.1 k hkn).2.2.2
    rw [f_X7_forceIn_L5, f_X6_orderInForce_L8, hC.2.2.2.1.1, hC.2.2.2.1.2, if_neg hle, if_neg hle, order_k hC hkn]
    simp only [s2, s3, letm, cond_true, oq, Option.bind_some, isO_of hkn h1, Nat.add_sub_cancel_left, hr, isT_of hC hkn, (town_ix ht).2, q1, q5, ofn_succ]
    generalize hm : μ.1 25 (6 * k + t.toNatClampNeg) = m at *
    generalize hy : σ.1 (1000 + k) t.toNatClampNeg = y at *
    have skip := ih (k + 1) f1 f2 b x4 (by omega) (by omega) (by omega) (hb.imp id (fun ⟨j, z⟩ => ⟨j, by omega, z.2⟩))
    by_cases c1 : m ≤ 0
    · rw [if_pos c1, if_pos c1]
      exact skip
    · rw [if_neg c1, if_neg c1]
      by_cases c2 : day < y
      · rw [if_pos c2, if_pos c2]
        exact skip
      · rw [if_neg c2, if_neg c2]
        have c3 : 1 ≤ m.toInt := by
          have : ¬ m.toInt ≤ 0 := fun z => c1 (le_int.mpr z)
          omega
        have take := ih (k + 1) f1 f2 (Int32.ofNat k) y (by omega) (by omega) (by omega) (Or.inr ⟨k, by omega, rfl, by rw [hm]; exact ho.1, by rw [hm]; exact le_int.mpr c3⟩)
        rcases hb with ⟨z1, z2⟩ | ⟨j, z1, z2, z3, z4⟩
        · subst z1 z2
          have e1 : ¬ y < 0 := by
            rw [lt_int]
            show ¬ y.toInt < 0
            omega
          rw [if_pos (show (-1 : Int32) < 0 by decide), if_neg e1]
          exact take
        · subst z2
          have hj : j < nO σ := by omega
          obtain ⟨s4, s5, s6⟩ := six_ix (k := j) (by omega) ht
          have hoj := (hO j hj).2 _ ht6
          obtain ⟨w1, w2, w3, w4, w5⟩ := told_f z3 hoj.2
          have e1 : ¬ Int32.ofNat j < 0 := by rw [show (0 : Int32) = Int32.ofNat 0 from rfl, ofn_lt (by omega) (by decide)]; omega
          rw [if_neg e1, s5, s6]
          have e2 : y < x4 ↔ m < μ.1 25 (6 * j + t.toNatClampNeg) := by
            rw [lt_int, lt_int]
            omega
          simp only [cond_true, e2]
          by_cases c4 : m < μ.1 25 (6 * j + t.toNatClampNeg)
          · rw [if_pos c4, if_pos c4]
            exact skip
          · rw [if_neg c4, if_neg c4]
            exact take
/-- the order in force, for both -/
def OIn (σ : xS) (r : Int32) (o : Option Nat) : Prop := (r = -1 ∧ o = none) ∨ ∃ j, j < nO σ ∧ r = Int32.ofNat j ∧ o = some (3000 + j)
theorem force_eq {σ : xS} {μ : mS} (hC : RC σ μ) (hO : RO σ μ) (t day : Int32) (ht : 0 ≤ t ∧ t ≤ 5) : ∃ r o, f_X7_forceIn μ t day = some r ∧ f_X6_orderInForce σ t day = some r ∧ f_X6_orderAt σ r = some o ∧ OIn σ r o := by
  have h1 := hC.1.2.2
  obtain ⟨r, e1, e2, e3⟩ := force_L hC hO t day ht (nO σ) 0 4000 4000 (-1) 0 (by omega) (by omega) (by omega) (Or.inl ⟨rfl, rfl⟩)
  have e1' : f_X7_forceIn_L5 4000 μ t day (-1) 0 = some r := e1
  have e2' : f_X6_orderInForce_L8 4000 σ t day (-1) 0 0 = some r := e2
  unfold f_X7_forceIn f_X6_orderInForce
  rw [e1', e2']
  rcases e3 with z | ⟨j, z1, z2⟩
  · subst z
    exact ⟨-1, none, rfl, rfl, order_m1 hC, Or.inl ⟨rfl, rfl⟩⟩
  · subst z2
    exact ⟨_, _, rfl, rfl, order_k hC z1, Or.inr ⟨j, z1, rfl, rfl⟩⟩
theorem H_force : ∀ (σ : xS) (μ : mS), Rel σ μ → ∀ (a0 : Int32) (a1 : Int32), ∃ (r : Int32), f_X6_force σ a0 a1 = some r ∧ f_X7_force μ a0 a1 = some r ∧ Rel σ μ := by
  intro σ μ hR t day
  obtain ⟨hC, hD, hS, hL, hT, hO, hP, hK, hRr, hG, hM⟩ := id hR
  unfold f_X6_force f_X7_force
  rw [xt_eq, mt_eq]
  by_cases c : 0 ≤ t ∧ t ≤ 5
  · obtain ⟨r, o, e1, e2, e3, e4⟩ := force_eq hC hO t day c
    exact ⟨r, by simp [c, e2], by simp [c, e1], hR⟩
  · exact ⟨-1, by simp [c], by simp [c], hR⟩
theorem H_tell : ∀ (σ : xS) (μ : mS), Rel σ μ → ∀ (a0 : Int32) (a1 : Int32), ∃ (r : Int32) (σ1 : xS) (μ1 : mS), f_X6_tell σ a0 a1 = some (r, σ1) ∧ f_X7_tell μ a0 a1 = some (r, μ1) ∧ Rel σ1 μ1 := by
  intro σ μ hR a t
  obtain ⟨hC, hD, hS, hL, hT, hO, hP, hK, hRr, hG, hM⟩ := id hR
  unfold f_X6_tell f_X7_tell
  rw [xo_eq hC, mo_eq hC, xt_eq, mt_eq]
  by_cases c : 0 ≤ a ∧ a ≤ Int32.ofNat (nO σ) - 1
  · have h0 := hC.1.2.2
    have hk : a.toNatClampNeg < nO σ := ix_lt c.1 c.2 (by omega)
    have ea := ix_of c.1
    by_cases c2 : 0 ≤ t ∧ t ≤ 5
    · obtain ⟨s1, s2, s3⟩ := six_ix (k := a.toNatClampNeg) (by omega) c2
      rw [← ea] at s2 s3
      generalize hka : a.toNatClampNeg = k at *
      have ho := (hO k hk).2 _ s1
      obtain ⟨q1, q2, q3, q4, q5⟩ := told_f ho.1 ho.2
      have hr := (hC.2.2.2.2.2.2.2.1 k hk).2.2.2
      by_cases w : μ.1 25 (6 * k + t.toNatClampNeg) ≤ 0
      · refine ⟨1, xi σ (1000 + k) (va_up (σ.1 (1000 + k)) t.toNatClampNeg (μ.1 6 0)), seti μ 25 (va_up (μ.1 25) (6 * k + t.toNatClampNeg) (μ.1 6 0 + 1)), ?_, ?_, ?_⟩
        · simp [c, c2, oq, isO_of hk h0, hr, isT_of hC hk, (town_ix c2).2, q5, w, letm, hD.1]
        · simp [c, c2, s2, s3, w, letm]
        · have lo : ∀ j, j < 1000 → (xi σ (1000 + k) (va_up (σ.1 (1000 + k)) t.toNatClampNeg (μ.1 6 0))).1 j = σ.1 j := fun j hj => xi_ne (by omega)
          refine ⟨?_, ?_, ?_, fun i hi => ?_, ?_, fun o ho2 => ⟨fun z hz => ?_, fun z hz => ?_⟩, ?_, hK, ?_, ?_, ?_⟩
          · unfold RC; rw [lo 1 (by omega), lo 3 (by omega), lo 5 (by omega)]; exact hC
          · unfold RD; rw [lo 16 (by omega)]; exact hD
          · unfold RS; rw [lo 120 (by omega), lo 121 (by omega), lo 122 (by omega), lo 123 (by omega)]; exact hS
          · unfold RLot; rw [lo 100 (by omega), lo 102 (by omega), lo 103 (by omega), lo 104 (by omega), lo 105 (by omega), lo 106 (by omega), lo 107 (by omega), lo 108 (by omega), lo 109 (by omega), lo 110 (by omega), lo 111 (by omega)]; exact hL i hi
          · unfold RT; rw [lo 20 (by omega), lo 24 (by omega)]; exact hT
          · rw [xi_ne (show 2000 + o ≠ 1000 + k by omega), xi_ne (show 3000 + o ≠ 1000 + k by have : o < nO σ := ho2; omega)]
            exact (hO o ho2).1 z hz
          · by_cases qo : o = k
            · subst qo
              rw [xi_self]
              by_cases qt : z = t.toNatClampNeg
              · subst qt
                rw [va_up_self]
                show μ.1 6 0 + 1 = va_up (μ.1 25) (6 * o + t.toNatClampNeg) (μ.1 6 0 + 1) (6 * o + t.toNatClampNeg) ∧ 0 ≤ va_up (μ.1 25) (6 * o + t.toNatClampNeg) (μ.1 6 0 + 1) (6 * o + t.toNatClampNeg) ∧ va_up (μ.1 25) (6 * o + t.toNatClampNeg) (μ.1 6 0 + 1) (6 * o + t.toNatClampNeg) ≤ 1000
                rw [va_up_self]
                obtain ⟨d1, d2⟩ := bd_int hD.2
                have d1' : (0 : Int) ≤ (μ.1 6 0).toInt := d1
                have d2' : (μ.1 6 0).toInt ≤ 999 := d2
                have e := add_int (x := μ.1 6 0) (y := 1) (by show _ ≤ _ + 1; omega) (by show _ + 1 < _; omega)
                have e' : (μ.1 6 0 + 1).toInt = (μ.1 6 0).toInt + 1 := e
                refine ⟨rfl, le_int.mpr ?_, le_int.mpr ?_⟩
                · rw [e']; show (0 : Int) ≤ _; omega
                · rw [e']; show _ ≤ (1000 : Int); omega
              · rw [va_up_ne _ _ qt]
                have e := va_up_ne (μ.1 25) (μ.1 6 0 + 1) (show 6 * o + z ≠ 6 * o + t.toNatClampNeg by omega)
                show σ.1 (1000 + o) z + 1 = va_up (μ.1 25) (6 * o + t.toNatClampNeg) (μ.1 6 0 + 1) (6 * o + z) ∧ 0 ≤ va_up (μ.1 25) (6 * o + t.toNatClampNeg) (μ.1 6 0 + 1) (6 * o + z) ∧ va_up (μ.1 25) (6 * o + t.toNatClampNeg) (μ.1 6 0 + 1) (6 * o + z) ≤ 1000
                rw [e]
                exact (hO o ho2).2 z hz
            · rw [xi_ne (show 1000 + o ≠ 1000 + k by omega)]
              have e := va_up_ne (μ.1 25) (μ.1 6 0 + 1) (show 6 * o + z ≠ 6 * k + t.toNatClampNeg by omega)
              show σ.1 (1000 + o) z + 1 = va_up (μ.1 25) (6 * k + t.toNatClampNeg) (μ.1 6 0 + 1) (6 * o + z) ∧ 0 ≤ va_up (μ.1 25) (6 * k + t.toNatClampNeg) (μ.1 6 0 + 1) (6 * o + z) ∧ va_up (μ.1 25) (6 * k + t.toNatClampNeg) (μ.1 6 0 + 1) (6 * o + z) ≤ 1000
              rw [e]
              exact (hO o ho2).2 z hz
          · unfold RP; rw [lo 11 (by omega), lo 10 (by omega)]; exact hP
          · unfold RR; rw [lo 8 (by omega)]; exact hRr
          · unfold RG; rw [lo 13 (by omega), lo 14 (by omega)]; exact hG
          · unfold RM; rw [lo 142 (by omega), lo 146 (by omega), lo 147 (by omega), lo 148 (by omega)]; exact hM
      · exact ⟨0, σ, μ, by simp [c, c2, oq, isO_of hk h0, hr, isT_of hC hk, (town_ix c2).2, q5, w], by simp [c, c2, s2, s3, w], hR⟩
    · exact ⟨-1, σ, μ, by simp [c, c2, oq], by simp [c, c2], hR⟩
  · exact ⟨-1, σ, μ, by simp [c, oq], by simp [c], hR⟩
end FORCE
