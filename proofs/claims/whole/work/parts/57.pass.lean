/-! THE PURE PART: pass, drawn, light -/
section PASS
theorem i_le {x y : Int32} (h : x ≤ y) : x.toInt ≤ y.toInt := le_int.mp h
theorem mul_b2 {x y : Int32} {A B : Int} (h0 : 0 ≤ x.toInt) (h1 : x.toInt ≤ A) (h2 : 0 ≤ y.toInt) (h3 : y.toInt ≤ B) (hA : 0 ≤ A) (hAB : A * B < 2147483648) : (x * y).toInt = x.toInt * y.toInt ∧ 0 ≤ (x * y).toInt ∧ (x * y).toInt ≤ A * B := by
  have b1 : x.toInt * y.toInt ≤ A * B := Int.mul_le_mul h1 h3 h2 hA
  have b2 : 0 ≤ x.toInt * y.toInt := Int.mul_nonneg h0 h2
  have e := mul_int (x := x) (y := y) (by omega) (by omega)
  rw [e]
  exact ⟨rfl, b2, b1⟩
/-- by weight: over long or over int -/
theorem div_eq {p w g : Int32} (hp : 0 ≤ p ∧ p ≤ 999) (hw : 1 ≤ w ∧ w ≤ 500000) (hg : 1 ≤ g ∧ g ≤ 9999) : (p.toInt64 * w.toInt64 / g.toInt64).toInt32 = p * w / g ∧ 0 ≤ p * w / g ∧ p * w / g ≤ 500000000 ∧ ¬ g.toInt64 = 0 ∧ ¬ g = 0 ∧ ¬ g ≤ 0 := by
  have p1 : (0 : Int) ≤ p.toInt := i_le hp.1
  have p2 : p.toInt ≤ 999 := i_le hp.2
  have w1 : (1 : Int) ≤ w.toInt := i_le hw.1
  have w2 : w.toInt ≤ 500000 := i_le hw.2
  have g1 : (1 : Int) ≤ g.toInt := i_le hg.1
  have g2 : g.toInt ≤ 9999 := i_le hg.2
  obtain ⟨m1, m2, m3⟩ := mul_b2 (x := p) (y := w) p1 p2 (by omega) w2 (by decide) (by decide)
  have m4 : (999 : Int) * 500000 = 499500000 := by decide
  rw [m4] at m3
  rw [m1] at m2 m3
  have t1 : 0 ≤ (p.toInt * w.toInt).tdiv g.toInt := Int.tdiv_nonneg m2 (by omega)
  have t2 : (p.toInt * w.toInt).tdiv g.toInt ≤ p.toInt * w.toInt := Int.tdiv_le_self _ m2
  have e1 : (p * w / g).toInt = (p.toInt * w.toInt).tdiv g.toInt := by
    rw [Int32.toInt_div, m1]
    exact Int.bmod_eq_of_le (by omega) (by omega)
  have e2 : (p.toInt64 * w.toInt64).toInt = p.toInt * w.toInt := by
    rw [Int64.toInt_mul, Int32.toInt_toInt64, Int32.toInt_toInt64]
    exact Int.bmod_eq_of_le (by omega) (by omega)
  have e3 : (p.toInt64 * w.toInt64 / g.toInt64).toInt = (p.toInt * w.toInt).tdiv g.toInt := by
    rw [Int64.toInt_div, e2, Int32.toInt_toInt64]
    exact Int.bmod_eq_of_le (by omega) (by omega)
  refine ⟨?_, ?_, ?_, ?_, ?_, ?_⟩
  · rw [eq_int, Int64.toInt_toInt32, e3, e1]
    exact Int.bmod_eq_of_le (by omega) (by omega)
  · rw [le_int, e1]; exact t1
  · rw [le_int, e1]; show _ ≤ (500000000 : Int); omega
  · intro z
    have := congrArg Int64.toInt z
    rw [Int32.toInt_toInt64] at this
    have h0 : (0 : Int64).toInt = 0 := by decide
    omega
  · intro z
    rw [z] at g1
    exact absurd g1 (by decide)
  · intro z
    have z1 : g.toInt ≤ 0 := i_le z
    omega
theorem eight_ix {k : Nat} {s : Int32} (hk : k < 10) (hs : 0 ≤ s) (h8 : s.toNatClampNeg < 8) : vin (8 * Int32.ofNat k + s) 80 = true ∧ (8 * Int32.ofNat k + s).toNatClampNeg = 8 * k + s.toNatClampNeg := by
  have e1 := ix_of hs
  generalize s.toNatClampNeg = a at h8 e1
  subst e1
  have e3 : (8 : Int32) * Int32.ofNat k + Int32.ofNat a = Int32.ofNat (8 * k + a) := by
    rw [Int32.ofNat_add, Int32.ofNat_mul]; rfl
  rw [e3]
  exact ⟨ofn_vin (by omega) (by decide), ofn_nat (by omega)⟩
/-- the worth by the order, before what shuts a lot out -/
def wV (μ : mS) (i : Nat) (r : Int32) : Int32 := let y := (8 * r + μ.1 9 i).toNatClampNeg; if r < 0 then μ.1 5 (μ.1 9 i).toNatClampNeg * μ.1 10 i else if μ.1 22 y = 0 then μ.1 5 (μ.1 9 i).toNatClampNeg * μ.1 10 i else if μ.1 22 y = 3 then 0 else if μ.1 22 y = 1 then μ.1 23 y * μ.1 10 i else ((μ.1 23 y).toInt64 * (μ.1 11 i).toInt64 / (μ.1 24 y).toInt64).toInt32
theorem worth_eq {σ : xS} {μ : mS} (hR : Rel σ μ) {x t day r : Int32} {o : Option Nat} (c : 0 ≤ x ∧ x ≤ Int32.ofNat (nLo σ) - 1) (hf : f_X7_forceIn μ t day = some r) (ho : OIn σ r o) : ∃ v, f_X7_passes μ x t day = some v ∧ f_X6_worthOf σ (1000 + x.toNatClampNeg) t o = some v ∧ 0 ≤ v ∧ v ≤ 500000000 := by
  obtain ⟨hC, hD, hS, hL, hT, hO, hP, hK, hRr, hG, hM⟩ := id hR
  obtain ⟨h1, h2, h3⟩ := lot_ix hC c
  have hl := hL _ h1
  have hi := isL_of h1 hC.1.2.1
  have hv := sn_ix hC hl
  have hs := hS _ hl.2.1.1
  have his := isS_of hl.2.1.1 hC.1.1
  have hO0 := hC.1.2.2
  have hS0 := hC.1.1
  obtain ⟨⟨p100, p102, p104, p105, p109, p110, p111⟩, p2, p3, p4, p5, p6, p7, p8, p9, p10, p11⟩ := hl
  have h106 : ¬ μ.1 17 x.toNatClampNeg = 0 → σ.1 106 x.toNatClampNeg = μ.1 13 x.toNatClampNeg := by
    intro z
    rcases p9 with y | y
    · exact y.2.1
    · exact absurd y.2.2.2.2.1 z
  unfold f_X7_passes f_X6_worthOf
  generalize hj : x.toNatClampNeg = i at *
  simp only [h3, hi, hj, cond_true, Nat.add_sub_cancel_left, p104, p111, p110, hf, Option.bind_some, p2.2.2, his, hs.1.2.2.2, p102, p100, hv, p105]
  by_cases k3 : μ.1 8 i = 3
  · refine ⟨0, by rw [if_pos k3], ?_, by decide, by decide⟩
    simp only [if_pos k3]
    by_cases a1 : μ.1 17 i = 0
    · rw [if_pos a1]; cases o <;> rfl
    · rw [if_neg a1]
      by_cases a2 : σ.1 106 i = t
      · rw [if_pos a2]; cases o <;> rfl
      · rw [if_neg a2]; cases o <;> rfl
  · simp only [if_neg k3]
    obtain ⟨c1, c2, w1, w2⟩ : 1 ≤ μ.1 10 i ∧ μ.1 10 i ≤ 1000 ∧ 1 ≤ μ.1 11 i ∧ μ.1 11 i ≤ 500000 := by
      rcases p6 with y | y
      · exact absurd y.1 k3
      · exact y.2
    by_cases f0 : μ.1 18 i = 0
    · simp only [if_pos f0]
      -- the worth by the order
      have key : ∃ v, (letm (8 * r + μ.1 9 i) fun y60 => if r < 0 then some (μ.1 5 (μ.1 9 i).toNatClampNeg * μ.1 10 i) else bif vin y60 80 then if μ.1 22 y60.toNatClampNeg = 0 then some (μ.1 5 (μ.1 9 i).toNatClampNeg * μ.1 10 i) else bif vin y60 80 then if μ.1 22 y60.toNatClampNeg = 3 then some 0 else bif vin y60 80 then if μ.1 22 y60.toNatClampNeg = 1 then bif vin y60 80 then some (μ.1 23 y60.toNatClampNeg * μ.1 10 i) else none else bif vin y60 80 then bif vin y60 80 then if (μ.1 24 y60.toNatClampNeg).toInt64 = 0 then none else some (((μ.1 23 y60.toNatClampNeg).toInt64 * (μ.1 11 i).toInt64 / (μ.1 24 y60.toNatClampNeg).toInt64).toInt32) else none else none else none else none else none) = some v ∧ oq o (some (μ.1 10 i * μ.1 5 (μ.1 9 i).toNatClampNeg)) (fun k20_2 => bif isO σ k20_2 then (σ.2.2.1 130 (k20_2 - 3000)).bind fun a47_6 => bif isPe σ a47_6 then if σ.1 (2000 + (a47_6 - 3400)) (μ.1 9 i).toNatClampNeg = -1 then some (μ.1 10 i * μ.1 5 (μ.1 9 i).toNatClampNeg) else (σ.2.2.1 131 (k20_2 - 3000)).bind fun a73_8 => bif isGr σ a73_8 then letm (σ.1 (3000 + (a73_8 - 3600)) (μ.1 9 i).toNatClampNeg) fun y81 => if y81 ≤ 0 then (σ.2.2.1 130 (k20_2 - 3000)).bind fun a107_10 => bif isPe σ a107_10 then some (σ.1 (2000 + (a107_10 - 3400)) (μ.1 9 i).toNatClampNeg * μ.1 10 i) else none else (σ.2.2.1 130 (k20_2 - 3000)).bind fun a89_12 => bif isPe σ a89_12 then if y81 = 0 then none else some (σ.1 (2000 + (a89_12 - 3400)) (μ.1 9 i).toNatClampNeg * μ.1 11 i / y81) else none else none else none else none) = some v ∧ 0 ≤ v ∧ v ≤ 500000000 := by
        have b1 := i_le c1
        have b2 := i_le c2
        have b3 := i_le hs.2.2.2.1
        have b4 := i_le hs.2.2.2.2
        have b1' : (1 : Int) ≤ (μ.1 10 i).toInt := b1
        have b2' : (μ.1 10 i).toInt ≤ 1000 := b2
        have b3' : (1 : Int) ≤ (μ.1 5 (μ.1 9 i).toNatClampNeg).toInt := b3
        have b4' : (μ.1 5 (μ.1 9 i).toNatClampNeg).toInt ≤ 240 := b4
        obtain ⟨m1, m2, m3⟩ := mul_b2 (x := μ.1 5 (μ.1 9 i).toNatClampNeg) (y := μ.1 10 i) (by omega) b4' (by omega) b2' (by decide) (by decide)
        have vv : 0 ≤ μ.1 5 (μ.1 9 i).toNatClampNeg * μ.1 10 i ∧ μ.1 5 (μ.1 9 i).toNatClampNeg * μ.1 10 i ≤ 500000000 := ⟨le_int.mpr m2, le_int.mpr (by show _ ≤ (500000000 : Int); omega)⟩
        rcases ho with ⟨z1, z2⟩ | ⟨j, z1, z2, z3⟩
        · subst z1 z2
          exact ⟨_, by unfold letm; exact if_pos (by decide), congrArg some (Int32.mul_comm _ _), vv⟩
        · subst z2 z3
          have e1 : ¬ Int32.ofNat j < 0 := by rw [show (0 : Int32) = Int32.ofNat 0 from rfl, ofn_lt (by omega) (by decide)]; omega
          obtain ⟨n1, n2⟩ := eight_ix (k := j) (s := μ.1 9 i) (by omega) p2.2.1 (by omega)
          have hr := hC.2.2.2.2.2.2.2.1 j z1
          obtain ⟨hs1, hs2⟩ := (hO j z1).1 (μ.1 9 i).toNatClampNeg (by omega)
          simp only [letm, if_neg e1, n1, n2, cond_true, oq, isO_of z1 hO0, Nat.add_sub_cancel_left, hr.2.1, hr.2.2.1, Option.bind_some, isPe_of hC z1, isGr_of hC z1]
          rcases hs1 with y | y | y | y
          · rw [if_pos y.1, if_pos y.2]
            exact ⟨_, rfl, congrArg some (Int32.mul_comm _ _), vv⟩
          · rw [y.1, y.2.1, y.2.2]
            refine ⟨0, by simp, ?_, by decide, by decide⟩
            simp
          · obtain ⟨y1, y2, y3, y4⟩ := y
            rw [y1, y2, y3]
            have y5 : ¬ μ.1 23 (8 * j + (μ.1 9 i).toNatClampNeg) = -1 := fun z => absurd (z ▸ y4.1) (by decide)
            have u1 : (0 : Int) ≤ (μ.1 23 (8 * j + (μ.1 9 i).toNatClampNeg)).toInt := i_le y4.1
            have u2 : (μ.1 23 (8 * j + (μ.1 9 i).toNatClampNeg)).toInt ≤ 999 := i_le y4.2
            obtain ⟨m4, m5, m6⟩ := mul_b2 (x := μ.1 23 (8 * j + (μ.1 9 i).toNatClampNeg)) (y := μ.1 10 i) u1 u2 (by omega) b2' (by decide) (by decide)
            exact ⟨μ.1 23 (8 * j + (μ.1 9 i).toNatClampNeg) * μ.1 10 i, by simp, by simp [y5], le_int.mpr m5, le_int.mpr (by show _ ≤ (500000000 : Int); omega)⟩
          · obtain ⟨y1, y2, y3, y4, y5, y6⟩ := y
            rw [y1, y2, y3]
            have y7 : ¬ μ.1 23 (8 * j + (μ.1 9 i).toNatClampNeg) = -1 := fun z => absurd (z ▸ y4) (by decide)
            obtain ⟨d1, d2, d3, d4, d5, d6⟩ := div_eq ⟨y4, y5⟩ ⟨w1, w2⟩ y6
            exact ⟨μ.1 23 (8 * j + (μ.1 9 i).toNatClampNeg) * μ.1 11 i / μ.1 24 (8 * j + (μ.1 9 i).toNatClampNeg), by simp [d4, d1], by simp [y7, d5, d6], d2, d3⟩
      obtain ⟨v, v1, v2, v3⟩ := key
      by_cases a1 : μ.1 17 i = 0
      · simp only [if_pos a1]
        exact ⟨v, v1, v2, v3⟩
      · simp only [if_neg a1, h106 a1]
        by_cases a2 : μ.1 13 i = t
        · simp only [if_pos a2]
          exact ⟨0, rfl, by cases o <;> rfl, by decide, by decide⟩
        · simp only [if_neg a2]
          exact ⟨v, v1, v2, v3⟩
    · simp only [if_neg f0]
      refine ⟨0, rfl, ?_, by decide, by decide⟩
      by_cases a1 : μ.1 17 i = 0
      · rw [if_pos a1]; cases o <;> rfl
      · rw [if_neg a1]
        by_cases a2 : σ.1 106 i = t
        · rw [if_pos a2]; cases o <;> rfl
        · rw [if_neg a2]; cases o <;> rfl
theorem H_pass : ∀ (σ : xS) (μ : mS), Rel σ μ → ∀ (a0 : Int32) (a1 : Int32) (a2 : Int32), ∃ (r : Int32), f_X6_pass σ a0 a1 a2 = some r ∧ f_X7_pass μ a0 a1 a2 = some r ∧ Rel σ μ := by
  intro σ μ hR a t day
  obtain ⟨hC, hD, hS, hL, hT, hO, hP, hK, hRr, hG, hM⟩ := id hR
  unfold f_X6_pass f_X7_pass
  rw [xl_eq hC, ml_eq hC, xt_eq, mt_eq]
  by_cases c : 0 ≤ a ∧ a ≤ Int32.ofNat (nLo σ) - 1
  · by_cases c2 : 0 ≤ t ∧ t ≤ 5
    · by_cases c3 : 0 ≤ day
      · obtain ⟨r, o, e1, e2, e3, e4⟩ := force_eq hC hO t day c2
        obtain ⟨v, v1, v2, v3⟩ := worth_eq hR c e1 e4
        exact ⟨v, by simp [c, c2, c3, oq, e2, e3, v2], by simp [c, c2, c3, v1], hR⟩
      · exact ⟨-2, by simp [c, c2, c3, oq], by simp [c, c2, c3], hR⟩
    · exact ⟨-1, by simp [c, c2, oq], by simp [c, c2], hR⟩
  · exact ⟨-1, by simp [c, oq], by simp [c], hR⟩
end PASS
