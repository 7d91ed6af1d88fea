/-! THE PURE PART: sent, all, feed -/
section ALL
theorem sent_L9 {σ : xS} {μ : mS} (hG : RG σ μ) (y : Int32) : ∀ (d k f1 f2 : Nat) (x : Int32), k + d = 3 → d < f1 → d < f2 → ∃ r, f_X6_sumOf__9_L10 f1 σ x 3 (Int32.ofNat k) = some r ∧ f_X7_sent_L6 f2 μ x y (Int32.ofNat k) = some r := by
  intro d
  induction d with
  | zero =>
    intro k f1 f2 x hk hf1 hf2
    obtain ⟨f1, rfl⟩ : ∃ z, f1 = z + 1 := ⟨f1 - 1, by omega⟩
    obtain ⟨f2, rfl⟩ : ∃ z, f2 = z + 1 := ⟨f2 - 1, by omega⟩
    have e : k = 3 := by omega
    subst e
    rw [f_X6_sumOf__9_L10, f_X7_sent_L6, if_pos (by decide), if_pos (by decide)]
    exact ⟨_, rfl, rfl⟩
  | succ d ih =>
    intro k f1 f2 x hk hf1 hf2
    obtain ⟨f1, rfl⟩ : ∃ z, f1 = z + 1 := ⟨f1 - 1, by omega⟩
    obtain ⟨f2, rfl⟩ : ∃ z, f2 = z + 1 := ⟨f2 - 1, by omega⟩
    have hle : ¬ (3 : Int32) ≤ Int32.ofNat k := by rw [show (3 : Int32) = Int32.ofNat 3 from rfl, ofn_le (by omega) (by omega)]; omega
    rw [f_X6_sumOf__9_L10, f_X7_sent_L6, if_neg hle, if_neg hle]
    simp only [ofn_vin (show k < 3 by omega) (by decide), ofn_nat (show k < 100000 by omega), cond_true, letm, (hG.1 k (by omega)).1, ofn_succ]
    exact ih (k + 1) f1 f2 _ (by omega) (by omega) (by omega)
theorem sent_L10 {σ : xS} {μ : mS} (hG : RG σ μ) (y : Int32) : ∀ (d k f1 f2 : Nat) (x : Int32), k + d = 6 → d < f1 → d < f2 → ∃ r, f_X6_sumOf__10_L10 f1 σ x 6 (Int32.ofNat k) = some r ∧ f_X7_sent_L28 f2 μ y x (Int32.ofNat k) = some r := by
  intro d
  induction d with
  | zero =>
    intro k f1 f2 x hk hf1 hf2
    obtain ⟨f1, rfl⟩ : ∃ z, f1 = z + 1 := ⟨f1 - 1, by omega⟩
    obtain ⟨f2, rfl⟩ : ∃ z, f2 = z + 1 := ⟨f2 - 1, by omega⟩
    have e : k = 6 := by omega
    subst e
    rw [f_X6_sumOf__10_L10, f_X7_sent_L28, if_pos (by decide), if_pos (by decide)]
    exact ⟨_, rfl, rfl⟩
  | succ d ih =>
    intro k f1 f2 x hk hf1 hf2
    obtain ⟨f1, rfl⟩ : ∃ z, f1 = z + 1 := ⟨f1 - 1, by omega⟩
    obtain ⟨f2, rfl⟩ : ∃ z, f2 = z + 1 := ⟨f2 - 1, by omega⟩
    have hle : ¬ (6 : Int32) ≤ Int32.ofNat k := by rw [show (6 : Int32) = Int32.ofNat 6 from rfl, ofn_le (by omega) (by omega)]; omega
    rw [f_X6_sumOf__10_L10, f_X7_sent_L28, if_neg hle, if_neg hle]
    simp only [ofn_vin (show k < 6 by omega) (by decide), ofn_nat (show k < 100000 by omega), cond_true, letm, (hG.2 k (by omega)).1, ofn_succ]
    exact ih (k + 1) f1 f2 _ (by omega) (by omega) (by omega)
theorem sent_9 {σ : xS} {μ : mS} (hG : RG σ μ) : ∃ r, f_X6_sumOf__9_L10 4000 σ 0 3 0 = some r ∧ f_X7_sent_L6 4000 μ 0 0 0 = some r := sent_L9 hG 0 3 0 4000 4000 0 (by decide) (by decide) (by decide)
theorem sent_10 {σ : xS} {μ : mS} (hG : RG σ μ) (y : Int32) : ∃ r, f_X6_sumOf__10_L10 4000 σ 0 6 0 = some r ∧ f_X7_sent_L28 4000 μ y 0 0 = some r := sent_L10 hG y 6 0 4000 4000 0 (by decide) (by decide) (by decide)
theorem H_sent : ∀ (σ : xS) (μ : mS), Rel σ μ → ∃ (r : Int32), f_X6_sent σ = some r ∧ f_X7_sent μ = some r ∧ Rel σ μ := by
  intro σ μ hR
  obtain ⟨hC, hD, hS, hL, hT, hO, hP, hK, hRr, hG, hM⟩ := id hR
  obtain ⟨r9, e9, m9⟩ := sent_9 hG
  obtain ⟨r10, e10, m10⟩ := sent_10 hG r9
  have x9 : f_X6_sumOf__9 σ = some r9 := by
    unfold f_X6_sumOf__9
    rw [e9]
    exact Option.bind_some _ _
  have x10 : f_X6_sumOf__10 σ = some r10 := by
    unfold f_X6_sumOf__10
    rw [e10]
    exact Option.bind_some _ _
  refine ⟨if r10 < r9 then r10 else r9, ?_, ?_, hR⟩
  · unfold f_X6_sent
    rw [x9, Option.bind_some, x10, Option.bind_some]
  · unfold f_X7_sent
    rw [m9, Option.bind_some, m10, Option.bind_some]
    by_cases a : r10 ≤ r9
    · rw [if_pos a]
      by_cases b : r10 < r9
      · rw [if_pos b]
      · rw [if_neg b, Int32.le_antisymm a (Int32.not_lt.mp b)]
    · rw [if_neg a, if_neg (fun z => a (Int32.le_of_lt z))]
theorem all_L {σ : xS} {μ : mS} (hR : Rel σ μ) (z : Int64) : ∀ (d k f1 f2 : Nat) (x : Int64), k + d = nLo σ → d < f1 → d < f2 → ∃ r, f_X6_all_L4 f1 σ x (Int32.ofNat k) = some r ∧ f_X7_all_L7 f2 μ (z + x) (Int32.ofNat k) = some (z + r) := by
  obtain ⟨hC, hD, hS, hL, hT, hO, hP, hK, hRr, hG, hM⟩ := id hR
  have h30 := hC.1.2.1
  intro d
  induction d with
  | zero =>
    intro k f1 f2 x hk hf1 hf2
    obtain ⟨f1, rfl⟩ : ∃ z, f1 = z + 1 := ⟨f1 - 1, by omega⟩
    obtain ⟨f2, rfl⟩ : ∃ z, f2 = z + 1 := ⟨f2 - 1, by omega⟩
    have e : k = nLo σ := by omega
    subst e
    rw [f_X6_all_L4, f_X7_all_L7, hC.2.2.1.1, hC.2.2.1.2, if_pos (Int32.le_refl _), if_pos (Int32.le_refl _)]
    exact ⟨_, rfl, rfl⟩
  | succ d ih =>
    intro k f1 f2 x hk hf1 hf2
    obtain ⟨f1, rfl⟩ : ∃ z, f1 = z + 1 := ⟨f1 - 1, by omega⟩
    obtain ⟨f2, rfl⟩ : ∃ z, f2 = z + 1 := ⟨f2 - 1, by omega⟩
    have hkn : k < nLo σ := by omega
    have hle : ¬ Int32.ofNat (nLo σ) ≤ Int32.ofNat k := by rw [ofn_le (by omega) (by omega)]; omega
    have hv : vin (Int32.ofNat k) 30 = true := ofn_vin (by omega) (by decide)
    have hn : (Int32.ofNat k).toNatClampNeg = k := ofn_nat (by omega)
    have hl := hL k hkn
    have hs := silver_eq (x := Int32.ofNat k) hC hv (by rw [hn]; exact hl)
    rw [hn] at hs
    rw [f_X6_all_L4, f_X7_all_L7, hC.2.2.1.1, hC.2.2.1.2, if_neg hle, if_neg hle, lot_k hC hkn]
    simp only [hv, hn, cond_true, Option.bind_some, oq, isL_of hkn h30, Nat.add_sub_cancel_left, hl.1.2.2.2.2.1, ofn_succ, held_eq hkn h30 hl, hs]
    by_cases a1 : μ.1 16 k = 0
    · rw [if_pos a1, if_pos a1, Int64.add_assoc]
      exact ih (k + 1) f1 f2 _ (by omega) (by omega) (by omega)
    · rw [if_neg a1, if_neg a1, Int64.add_zero]
      exact ih (k + 1) f1 f2 _ (by omega) (by omega) (by omega)
theorem all_P {σ : xS} {μ : mS} (hC : RC σ μ) (hM : RM σ μ) (z : Int64) : ∀ (d k f1 f2 : Nat) (x y : Int64), k + d = 3 → d < f1 → d < f2 → (∃ r q, f_X6_all_L48 f1 σ x (Int32.ofNat k) = some r ∧ f_X7_all_L44 f2 μ y (Int32.ofNat k) = some q ∧ ((k = 3 → r = x ∧ q = y) ∧ (k = 2 → r = x + ((μ.2 34 2 - 1000 * μ.2 37 2) + σ.2.1 145 2) ∧ q = y + (μ.2 34 2 - 1000 * μ.2 37 2)) ∧ (k = 1 → r = x + ((μ.2 34 1 - 1000 * μ.2 37 1) + σ.2.1 145 1) + ((μ.2 34 2 - 1000 * μ.2 37 2) + σ.2.1 145 2) ∧ q = y + (μ.2 34 1 - 1000 * μ.2 37 1) + (μ.2 34 2 - 1000 * μ.2 37 2)) ∧ (k = 0 → r = x + ((μ.2 34 0 - 1000 * μ.2 37 0) + σ.2.1 145 0) + ((μ.2 34 1 - 1000 * μ.2 37 1) + σ.2.1 145 1) + ((μ.2 34 2 - 1000 * μ.2 37 2) + σ.2.1 145 2) ∧ q = y + (μ.2 34 0 - 1000 * μ.2 37 0) + (μ.2 34 1 - 1000 * μ.2 37 1) + (μ.2 34 2 - 1000 * μ.2 37 2)))) := by
  intro d
  induction d with
  | zero =>
    intro k f1 f2 x y hk hf1 hf2
    obtain ⟨f1, rfl⟩ : ∃ z, f1 = z + 1 := ⟨f1 - 1, by omega⟩
    obtain ⟨f2, rfl⟩ : ∃ z, f2 = z + 1 := ⟨f2 - 1, by omega⟩
    have e : k = 3 := by omega
    subst e
    rw [f_X6_all_L48, f_X7_all_L44, if_pos (by decide), if_pos (by decide)]
    exact ⟨_, _, rfl, rfl, fun _ => ⟨rfl, rfl⟩, fun h => absurd h (by decide), fun h => absurd h (by decide), fun h => absurd h (by decide)⟩
  | succ d ih =>
    intro k f1 f2 x y hk hf1 hf2
    obtain ⟨f1, rfl⟩ : ∃ z, f1 = z + 1 := ⟨f1 - 1, by omega⟩
    obtain ⟨f2, rfl⟩ : ∃ z, f2 = z + 1 := ⟨f2 - 1, by omega⟩
    have hk3 : k < 3 := by omega
    have hle : ¬ (3 : Int32) ≤ Int32.ofNat k := by rw [show (3 : Int32) = Int32.ofNat 3 from rfl, ofn_le (by omega) (by omega)]; omega
    have hp : f_X6_potAt σ (Int32.ofNat k) = some (some (23 + k)) := by
      rw [xp_eq hC, if_pos, ofn_nat (by omega)]
      exact ⟨(ofn_le (n := 0) (by decide) (by omega)).mpr (Nat.zero_le k), (ofn_le (m := 2) (by omega) (by decide)).mpr (by omega)⟩
    obtain ⟨⟨q1, q2, q3, q4, q5, q6⟩, q7, q8, q9⟩ := hM.1 k hk3
    rw [f_X6_all_L48, f_X7_all_L44, if_neg hle, if_neg hle, hp]
    simp only [ofn_vin hk3 (by decide), ofn_nat (show k < 100000 by omega), cond_true, letm, ofn_succ, Option.bind_some, oq, isP_of hk3, Nat.add_sub_cancel_left, q2, q5]
    obtain ⟨r, q, e1, e2, e3, e4, e5, e6⟩ := ih (k + 1) f1 f2 (x + (μ.2 34 k - μ.2 37 k * 1000 + σ.2.1 145 k)) (y + (μ.2 34 k - 1000 * μ.2 37 k)) (by omega) (by omega) (by omega)
    rw [Int64.mul_comm (μ.2 37 k)] at e1 e3 e4 e5 e6
    rw [Int64.mul_comm (μ.2 37 k)]
    refine ⟨r, q, e1, e2, fun h => by omega, fun h => ?_, fun h => ?_, fun h => ?_⟩
    · subst h; exact e3 rfl
    · subst h; exact e4 rfl
    · subst h; exact e5 rfl
theorem H_all : ∀ (σ : xS) (μ : mS), Rel σ μ → ∃ (r : Int64), f_X6_all σ = some r ∧ f_X7_all μ = some r ∧ Rel σ μ := by
  intro σ μ hR
  obtain ⟨hC, hD, hS, hL, hT, hO, hP, hK, hRr, hG, hM⟩ := id hR
  have h30 := hC.1.2.1
  obtain ⟨r, e1, m1⟩ := all_L hR (μ.2 41 0) (nLo σ) 0 4000 4000 0 (by omega) (by omega) (by omega)
  have e1' : f_X6_all_L4 4000 σ 0 0 = some r := e1
  have m1' : f_X7_all_L7 4000 μ (μ.2 41 0) 0 = some (μ.2 41 0 + r) := by
    rw [Int64.add_zero] at m1
    exact m1
  obtain ⟨a, b, e2, m2, _, _, _, e3⟩ := all_P hC hM 0 3 0 4000 4000 r (μ.2 41 0 + r) (by omega) (by omega) (by omega)
  have e2' : f_X6_all_L48 4000 σ r 0 = some a := e2
  have m2' : f_X7_all_L44 4000 μ (μ.2 41 0 + r) 0 = some b := m2
  obtain ⟨e4, e5⟩ := e3 rfl
  unfold f_X6_all f_X7_all
  have e6 : b = a := by
    rw [e4, e5, ← hM.2.1]
    generalize μ.2 34 0 - 1000 * μ.2 37 0 = s0
    generalize μ.2 34 1 - 1000 * μ.2 37 1 = s1
    generalize μ.2 34 2 - 1000 * μ.2 37 2 = s2
    ac_rfl
  exact ⟨a, by simp [e1', e2'], by simp [m1', m2', e6], hR⟩
end ALL
