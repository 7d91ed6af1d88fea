/-! THE PURE PART: what lots can pay; lack -/
section LACK
theorem xi_xi (σ : xS) (c : Nat) (f g : Nat → Int32) : xi (xi σ c f) c g = xi σ c g := by
  unfold xi
  rw [va_up_up]
theorem va_up_id (f : Nat → Nat → Int32) (k : Nat) : va_up f k (f k) = f := by
  funext j
  unfold va_up
  by_cases q : j = k
  · rw [if_pos q, q]
  · rw [if_neg q]
theorem R_12 {σ : xS} {μ : mS} (hR : Rel σ μ) (f : Nat → Int32) : Rel (xi σ 12 f) μ := by
  obtain ⟨hC, hD, hS, hL, hT, hO, hP, hK, hRr, hG, hM⟩ := hR
  exact ⟨hC, hD, hS, hL, hT, RO_xi (by decide) hO, hP, hK, hRr, hG, hM⟩
/-- what a lot can pay in a town today -/
def pw (μ : mS) (t : Int32) (k : Nat) : Int32 := if (f_X7_isThere μ (Int32.ofNat k) t).getD 0 = 0 then 0 else (f_X7_passes μ (Int32.ofNat k) t (μ.1 6 0)).getD 0
theorem lot_c {σ : xS} {μ : mS} (hC : RC σ μ) {k : Nat} (h : k < nLo σ) : 0 ≤ Int32.ofNat k ∧ Int32.ofNat k ≤ Int32.ofNat (nLo σ) - 1 := by
  have h1 := hC.1.2.1
  constructor
  · exact (ofn_le (n := 0) (by decide) (by omega)).mpr (Nat.zero_le k)
  · rw [le_int, ofn_int (by omega), sub_int (by rw [ofn_int (by omega)]; show _ ≤ (nLo σ : Int) - 1; omega) (by rw [ofn_int (by omega)]; show (nLo σ : Int) - 1 < _; omega), ofn_int (by omega)]
    show (k : Int) ≤ (nLo σ : Int) - 1
    omega
theorem there_eq {μ : mS} {x t : Int32} (hv : vin x 30 = true) : f_X7_isThere μ x t = some (if μ.1 13 x.toNatClampNeg = t ∧ μ.1 15 x.toNatClampNeg ≤ μ.1 6 0 ∧ μ.1 16 x.toNatClampNeg = 0 ∧ μ.1 17 x.toNatClampNeg = 0 then 1 else 0) := by
  unfold f_X7_isThere
  rw [under_eq hv]
  by_cases c1 : μ.1 13 x.toNatClampNeg = t
  · by_cases c2 : μ.1 15 x.toNatClampNeg ≤ μ.1 6 0
    · by_cases c3 : μ.1 16 x.toNatClampNeg = 0
      · by_cases c4 : μ.1 17 x.toNatClampNeg = 0
        · simp [hv, c1, c2, c3, c4]
        · simp [hv, c1, c2, c3, c4]
      · simp [hv, c1, c2, c3]
    · simp [hv, c1, c2]
  · simp [hv, c1]
theorem pw_spec {σ : xS} {μ : mS} (hR : Rel σ μ) {t r : Int32} {o : Option Nat} (ht : 0 ≤ t ∧ t ≤ 5) (hf : f_X7_forceIn μ t (μ.1 6 0) = some r) (ho : OIn σ r o) {k : Nat} (hk : k < nLo σ) : ((f_X7_isThere μ (Int32.ofNat k) t = some 0 ∧ pw μ t k = 0) ∨ (f_X7_isThere μ (Int32.ofNat k) t = some 1 ∧ f_X7_passes μ (Int32.ofNat k) t (μ.1 6 0) = some (pw μ t k) ∧ μ.1 13 k = t ∧ μ.1 15 k ≤ μ.1 6 0 ∧ μ.1 16 k = 0 ∧ μ.1 17 k = 0)) ∧ (0 ≤ pw μ t k ∧ pw μ t k ≤ 500000000) ∧ ((σ.1 106 k = t ∧ μ.1 15 k ≤ μ.1 6 0 ∧ f_X6_worthOf σ (1000 + k) t o = some (pw μ t k)) ∨ (¬ (σ.1 106 k = t ∧ μ.1 15 k ≤ μ.1 6 0) ∧ pw μ t k = 0)) := by
  obtain ⟨hC, hD, hS, hL, hT, hO, hP, hK, hRr, hG, hM⟩ := id hR
  have h30 := hC.1.2.1
  have hv : vin (Int32.ofNat k) 30 = true := ofn_vin (by omega) (by decide)
  have hn : (Int32.ofNat k).toNatClampNeg = k := ofn_nat (by omega)
  obtain ⟨v, v1, v2, v3, v4⟩ := worth_eq hR (lot_c hC hk) hf ho
  rw [hn] at v2
  have he := there_eq (μ := μ) (t := t) hv
  rw [hn] at he
  have hl := hL k hk
  have p9 := hl.2.2.2.2.2.2.2.2.1
  by_cases c : μ.1 13 k = t ∧ μ.1 15 k ≤ μ.1 6 0 ∧ μ.1 16 k = 0 ∧ μ.1 17 k = 0
  · rw [if_pos c] at he
    have e : pw μ t k = v := by
      unfold pw
      rw [he, v1]
      rfl
    rw [e]
    refine ⟨Or.inr ⟨he, v1, c⟩, ⟨v3, v4⟩, Or.inl ⟨?_, c.2.1, v2⟩⟩
    rcases p9 with y | y
    · rw [y.2.1]; exact c.1
    · exact absurd (y.1.symm.trans c.2.2.1) (by decide)
  · rw [if_neg c] at he
    have e : pw μ t k = 0 := by
      unfold pw
      rw [he]
      rfl
    rw [e]
    refine ⟨Or.inl ⟨he, rfl⟩, by decide, ?_⟩
    by_cases c2 : σ.1 106 k = t ∧ μ.1 15 k ≤ μ.1 6 0
    · refine Or.inl ⟨c2.1, c2.2, ?_⟩
      have c3 : μ.1 16 k = 0 ∧ μ.1 13 k = t := by
        rcases p9 with y | y
        · exact ⟨y.1, y.2.1 ▸ c2.1⟩
        · exact absurd (y.2.1.symm.trans c2.1 ▸ ht.1) (by decide)
      have c4 : ¬ μ.1 17 k = 0 := fun z => c ⟨c3.2, c2.2, c3.1, z⟩
      -- in the chest here: nothing
      unfold f_X6_worthOf
      simp only [isL_of hk h30, cond_true, Nat.add_sub_cancel_left, hl.1.2.2.2.2.2.1, if_neg c4, c2.1, if_true, ite_self]
      cases o <;> rfl
    · exact Or.inr ⟨c2, rfl⟩
def s64 (w : Nat → Int32) : Nat → Nat → Int64
  | _, 0 => 0
  | k, d + 1 => (w k).toInt64 + s64 w (k + 1) d
theorem reck_step {σ : xS} {μ : mS} (hR : Rel σ μ) {t r : Int32} {o : Option Nat} (ht : 0 ≤ t ∧ t ≤ 5) (hf : f_X7_forceIn μ t (μ.1 6 0) = some r) (ho : OIn σ r o) {k : Nat} (hk : k < nLo σ) (f : Nat) (x : Int64) : f_X6_reckonWorth_L19 (f + 1) σ t o x (Int32.ofNat k) = f_X6_reckonWorth_L19 f (ui σ 12 k (pw μ t k)) t o (x + (pw μ t k).toInt64) (Int32.ofNat (k + 1)) := by
  obtain ⟨hC, hD, hS, hL, hT, hO, hP, hK, hRr, hG, hM⟩ := id hR
  have h30 := hC.1.2.1
  have hv : vin (Int32.ofNat k) 30 = true := ofn_vin (by omega) (by decide)
  have hn : (Int32.ofNat k).toNatClampNeg = k := ofn_nat (by omega)
  have hle : ¬ Int32.ofNat (nLo σ) ≤ Int32.ofNat k := by rw [ofn_le (by omega) (by omega)]; omega
  obtain ⟨s1, s2, s3⟩ := pw_spec hR ht hf ho hk
  have hor := onroad_eq hD hk h30 (hL k hk)
  rw [f_X6_reckonWorth_L19, hC.2.2.1.1, if_neg hle, lot_k hC hk]
  cases o with
  | none =>
    simp only [oq, Option.bind_some, hv, hn, cond_true, letm, isL_of hk h30, Nat.add_sub_cancel_left, hD.1, hor, ofn_succ, xi_self, va_up_self]
    rcases s3 with ⟨c1, c2, c3⟩ | ⟨c1, c2⟩
    · simp only [c1, c2, c3, if_true, Option.bind_some, xi_self, va_up_self]
    · rw [c2]
      by_cases c3 : σ.1 106 k = t
      · have c4 : ¬ μ.1 15 k ≤ μ.1 6 0 := fun z => c1 ⟨c3, z⟩
        simp only [c3, c4, if_true, if_false, Option.bind_some, i10, ite_false]
      · simp only [c3, if_false]
  | some oo =>
    simp only [oq, Option.bind_some, hv, hn, cond_true, letm, isL_of hk h30, Nat.add_sub_cancel_left, hD.1, hor, ofn_succ, xi_self, va_up_self]
    rcases s3 with ⟨c1, c2, c3⟩ | ⟨c1, c2⟩
    · simp only [c1, c2, c3, if_true, Option.bind_some, xi_self, va_up_self]
    · rw [c2]
      by_cases c3 : σ.1 106 k = t
      · have c4 : ¬ μ.1 15 k ≤ μ.1 6 0 := fun z => c1 ⟨c3, z⟩
        simp only [c3, c4, if_true, if_false, Option.bind_some, i10, ite_false]
      · simp only [c3, if_false]
theorem reck_L {μ : mS} {t r : Int32} {o : Option Nat} (ht : 0 ≤ t ∧ t ≤ 5) (hf : f_X7_forceIn μ t (μ.1 6 0) = some r) : ∀ (d k f : Nat) (σ : xS) (x : Int64), Rel σ μ → OIn σ r o → k + d = nLo σ → d < f → ∃ W, f_X6_reckonWorth_L19 f σ t o x (Int32.ofNat k) = some (x + s64 (pw μ t) k d, xi σ 12 W) ∧ (∀ j, k ≤ j → j < nLo σ → W j = pw μ t j) ∧ ∀ j, j < k → W j = σ.1 12 j := by
  intro d
  induction d with
  | zero =>
    intro k f σ x hR ho hk hf'
    obtain ⟨f, rfl⟩ : ∃ z, f = z + 1 := ⟨f - 1, by omega⟩
    have e : k = nLo σ := by omega
    subst e
    refine ⟨σ.1 12, ?_, fun j h1 h2 => by omega, fun j _ => rfl⟩
    have e2 : xi σ 12 (σ.1 12) = σ := by
      unfold xi
      rw [va_up_id]
    rw [f_X6_reckonWorth_L19, hR.1.2.2.1.1, if_pos (Int32.le_refl _), s64, Int64.add_zero, e2]
  | succ d ih =>
    intro k f σ x hR ho hk hf'
    obtain ⟨f, rfl⟩ : ∃ z, f = z + 1 := ⟨f - 1, by omega⟩
    rw [reck_step hR ht hf ho (by omega)]
    obtain ⟨W, e1, e2, e3⟩ := ih (k + 1) f (ui σ 12 k (pw μ t k)) (x + (pw μ t k).toInt64) (R_12 hR _) ho (by show k + 1 + d = nLo σ; omega) (by omega)
    refine ⟨W, ?_, fun j h1 h2 => ?_, fun j h => ?_⟩
    · rw [e1, xi_xi, s64, Int64.add_assoc]
    · by_cases q : j = k
      · subst q
        rw [e3 j (by omega), xi_self, va_up_self]
      · exact e2 j (by omega) h2
    · rw [e3 j (by omega), xi_self, va_up_ne _ _ (by omega)]
theorem reck_eq {σ : xS} {μ : mS} (hR : Rel σ μ) {t : Int32} (ht : 0 ≤ t ∧ t ≤ 5) : ∃ W, f_X6_reckonWorth σ t = some (s64 (pw μ t) 0 (nLo σ), xi σ 12 W) ∧ (∀ j, j < nLo σ → W j = pw μ t j) := by
  obtain ⟨hC, hD, hS, hL, hT, hO, hP, hK, hRr, hG, hM⟩ := id hR
  have h30 := hC.1.2.1
  obtain ⟨r, o, e1, e2, e3, e4⟩ := force_eq hC hO t (μ.1 6 0) ht
  obtain ⟨W, w1, w2, w3⟩ := reck_L ht e1 (nLo σ) 0 4000 σ 0 hR e4 (by omega) (by omega)
  refine ⟨W, ?_, fun j h => w2 j (by omega) h⟩
  have w1' : f_X6_reckonWorth_L19 4000 σ t o 0 0 = some (s64 (pw μ t) 0 (nLo σ), xi σ 12 W) := by
    rw [Int64.zero_add] at w1
    exact w1
  unfold f_X6_reckonWorth
  rw [hD.1, e2, Option.bind_some, e3, Option.bind_some]
  cases o with
  | none =>
    show (f_X6_reckonWorth_L19 4000 σ t none 0 0).bind _ = _
    rw [w1']; rfl
  | some oo =>
    show (f_X6_reckonWorth_L19 4000 σ t (some oo) 0 0).bind _ = _
    rw [w1']; rfl
theorem s64_bd (w : Nat → Int32) (n : Nat) (h : ∀ j, j < n → 0 ≤ w j ∧ w j ≤ 500000000) : ∀ d k, k + d ≤ n → d ≤ 30 → 0 ≤ (s64 w k d).toInt ∧ (s64 w k d).toInt ≤ 500000000 * d := by
  intro d
  induction d with
  | zero => intro k _ _; exact ⟨(by decide : (0 : Int) ≤ (0 : Int64).toInt), (by decide : (0 : Int64).toInt ≤ 500000000 * ((0 : Nat) : Int))⟩
  | succ d ih =>
    intro k hk hd
    obtain ⟨i1, i2⟩ := ih (k + 1) (by omega) (by omega)
    obtain ⟨j1, j2⟩ := h k (by omega)
    have j1' : (0 : Int) ≤ (w k).toInt := i_le j1
    have j2' : (w k).toInt ≤ 500000000 := i_le j2
    have e : (s64 w k (d + 1)).toInt = (w k).toInt + (s64 w (k + 1) d).toInt := by
      rw [s64, add64 (by rw [Int32.toInt_toInt64]; omega) (by rw [Int32.toInt_toInt64]; omega), Int32.toInt_toInt64]
    rw [e]
    omega
theorem lack_m {σ : xS} {μ : mS} (hR : Rel σ μ) {t r : Int32} {o : Option Nat} (ht : 0 ≤ t ∧ t ≤ 5) (hf : f_X7_forceIn μ t (μ.1 6 0) = some r) (ho : OIn σ r o) : ∀ (d k f : Nat) (x : Int64), k + d = nLo σ → d < f → f_X7_lack_L28 f μ t x (Int32.ofNat k) = some (x - s64 (pw μ t) k d) := by
  obtain ⟨hC, hD, hS, hL, hT, hO, hP, hK, hRr, hG, hM⟩ := id hR
  have h30 := hC.1.2.1
  intro d
  induction d with
  | zero =>
    intro k f x hk hf'
    obtain ⟨f, rfl⟩ : ∃ z, f = z + 1 := ⟨f - 1, by omega⟩
    have e : k = nLo σ := by omega
    subst e
    rw [f_X7_lack_L28, hC.2.2.1.2, if_pos (Int32.le_refl _), s64, Int64.sub_zero]
  | succ d ih =>
    intro k f x hk hf'
    obtain ⟨f, rfl⟩ : ∃ z, f = z + 1 := ⟨f - 1, by omega⟩
    have hle : ¬ Int32.ofNat (nLo σ) ≤ Int32.ofNat k := by rw [ofn_le (by omega) (by omega)]; omega
    have z0 : ((0 : Int32)).toInt64 = 0 := by decide
    obtain ⟨s1, s2, s3⟩ := pw_spec hR ht hf ho (show k < nLo σ by omega)
    rw [f_X7_lack_L28, hC.2.2.1.2, if_neg hle]
    have e : x - s64 (pw μ t) k (d + 1) = x - (pw μ t k).toInt64 - s64 (pw μ t) (k + 1) d := by
      rw [s64]; grind
    rw [e]
    rcases s1 with ⟨a, b⟩ | ⟨a, b, _⟩
    · rw [a, b, z0]
      simp only [Option.bind_some, if_true, ofn_succ]
      exact ih (k + 1) f _ (by omega) (by omega)
    · rw [a, Option.bind_some, if_neg (by decide), b]
      simp only [Option.bind_some, ofn_succ]
      exact ih (k + 1) f _ (by omega) (by omega)
theorem H_lack : ∀ (σ : xS) (μ : mS), Rel σ μ → ∀ (a0 : Int32) (a1 : Int32), ∃ (r : Int32) (σ1 : xS), f_X6_lack σ a0 a1 = some (r, σ1) ∧ f_X7_lack μ a0 a1 = some r ∧ Rel σ1 μ := by
  intro σ μ hR t w
  obtain ⟨hC, hD, hS, hL, hT, hO, hP, hK, hRr, hG, hM⟩ := id hR
  unfold f_X6_lack f_X7_lack
  rw [xt_eq, mt_eq, w_eq, i_eq]
  by_cases c : 0 ≤ t ∧ t ≤ 5
  · by_cases c2 : 0 ≤ w ∧ w ≤ 100000
    · have h30 := hC.1.2.1
      obtain ⟨r, o, e1, e2, e3, e4⟩ := force_eq hC hO t (μ.1 6 0) c
      obtain ⟨W, w1, w2⟩ := reck_eq hR c
      have m1 := lack_m hR c e1 e4 (nLo σ) 0 4000 w.toInt64 (by omega) (by omega)
      have m1' : f_X7_lack_L28 4000 μ t w.toInt64 0 = some (w.toInt64 - s64 (pw μ t) 0 (nLo σ)) := m1
      refine ⟨(if w.toInt64 - s64 (pw μ t) 0 (nLo σ) < 0 then 0 else w.toInt64 - s64 (pw μ t) 0 (nLo σ)).toInt32, xi σ 12 W, by simp [c, c2, w1], ?_, R_12 hR W⟩
      simp only [c, c2, and_self, if_true, Option.bind_some, i10, if_false, m1']
      generalize w.toInt64 - s64 (pw μ t) 0 (nLo σ) = z
      by_cases q : z < 0
      · have q2 : ¬ 0 ≤ lg_cmp z 0 := by
          rw [lg_ge]
          exact Int64.not_le.mpr q
        rw [if_neg q2, if_pos q]
        rfl
      · have q2 : 0 ≤ lg_cmp z 0 := by
          rw [lg_ge]
          exact Int64.not_lt.mp q
        rw [if_pos q2, if_neg q]
    · exact ⟨-2, σ, by simp [c, c2], by simp [c, c2], hR⟩
  · exact ⟨-1, σ, by simp [c], by simp [c], hR⟩
end LACK
