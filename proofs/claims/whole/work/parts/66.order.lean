/-! THE PURE PART: the tape's reading -/
section READ
def FX1 (σ σ' : xS) : Prop := σ'.2 = σ.2 ∧ ∀ c, c ≠ 21 → σ'.1 c = σ.1 c
def FM1 (μ μ' : mS) : Prop := μ'.2 = μ.2 ∧ ∀ c, c ≠ 26 → c ≠ 27 → μ'.1 c = μ.1 c
def FX (σ σ' : xS) : Prop := σ'.2 = σ.2 ∧ ∀ c, c ≠ 21 → c ≠ 22 → c ≠ 23 → σ'.1 c = σ.1 c
def FM (o : Nat) (μ μ' : mS) : Prop := μ'.2 = μ.2 ∧ (∀ c, c ≠ 22 → c ≠ 23 → c ≠ 24 → c ≠ 26 → c ≠ 27 → μ'.1 c = μ.1 c) ∧ ∀ c j, (j < 8 * o ∨ 8 * o + 8 ≤ j) → (c = 22 ∨ c = 23 ∨ c = 24) → μ'.1 c j = μ.1 c j
theorem FX1_r (σ : xS) : FX1 σ σ := ⟨rfl, fun _ _ => rfl⟩
theorem FM1_r (μ : mS) : FM1 μ μ := ⟨rfl, fun _ _ _ => rfl⟩
theorem FX_r (σ : xS) : FX σ σ := ⟨rfl, fun _ _ _ _ => rfl⟩
theorem FM_r (o : Nat) (μ : mS) : FM o μ μ := ⟨rfl, fun _ _ _ _ _ _ => rfl, fun _ _ _ _ => rfl⟩
theorem FX1_t {a b d : xS} (h : FX1 a b) (g : FX1 b d) : FX1 a d := ⟨g.1.trans h.1, fun c q => (g.2 c q).trans (h.2 c q)⟩
theorem FM1_t {a b d : mS} (h : FM1 a b) (g : FM1 b d) : FM1 a d := ⟨g.1.trans h.1, fun c q r => (g.2 c q r).trans (h.2 c q r)⟩
theorem FX_t {a b d : xS} (h : FX a b) (g : FX b d) : FX a d := ⟨g.1.trans h.1, fun c q r s => (g.2 c q r s).trans (h.2 c q r s)⟩
theorem FM_t {o : Nat} {a b d : mS} (h : FM o a b) (g : FM o b d) : FM o a d := ⟨g.1.trans h.1, fun c q r s t u => (g.2.1 c q r s t u).trans (h.2.1 c q r s t u), fun c j q r => (g.2.2 c j q r).trans (h.2.2 c j q r)⟩
theorem FX_1 {a b : xS} (h : FX1 a b) : FX a b := ⟨h.1, fun c q _ _ => h.2 c q⟩
theorem FM_1 {a b : mS} (o : Nat) (h : FM1 a b) : FM o a b := ⟨h.1, fun c _ _ _ q r => h.2 c q r, fun c j _ q => by rw [h.2 c (by omega) (by omega)]⟩
theorem FX1_at (σ : xS) (f : Nat → Int32) : FX1 σ (xi σ 21 f) := ⟨rfl, fun _ q => xi_ne q⟩
theorem FM1_at (μ : mS) (f : Nat → Int32) : FM1 μ (seti μ 26 f) := ⟨rfl, fun _ q _ => mi_ne q⟩
theorem FM1_nr (μ : mS) (f : Nat → Int32) : FM1 μ (seti μ 27 f) := ⟨rfl, fun _ _ q => mi_ne q⟩
theorem FX_up (σ : xS) (c : Nat) (f : Nat → Int32) (h : c = 22 ∨ c = 23) : FX σ (xi σ c f) := ⟨rfl, fun d _ q r => xi_ne (by omega)⟩
theorem FM_up (μ : mS) (o c k : Nat) (v : Int32) (hk : k < 8) (h : c = 22 ∨ c = 23 ∨ c = 24) : FM o μ (seti μ c (va_up (μ.1 c) (8 * o + k) v)) := by
  refine ⟨rfl, fun d q r s _ _ => mi_ne (by omega), fun d j q r => ?_⟩
  by_cases e : d = c
  · subst e
    rw [mi_self, va_up_ne _ _ (by omega)]
  · rw [mi_ne e]
/-- both read the same bytes, at the same place -/
def PA (σ : xS) (μ : mS) : Prop := (σ.1 20 0 = μ.1 20 0 ∧ σ.1 21 0 = μ.1 26 0) ∧ (0 ≤ μ.1 26 0 ∧ μ.1 26 0 ≤ μ.1 20 0 ∧ μ.1 20 0 ≤ 160) ∧ ∀ j, j < 160 → σ.1 24 j = μ.1 19 j
theorem pa_ix {σ : xS} {μ : mS} (h : PA σ μ) (c : ¬ μ.1 20 0 ≤ μ.1 26 0) : vin (μ.1 26 0) 160 = true ∧ σ.1 24 (μ.1 26 0).toNatClampNeg = μ.1 19 (μ.1 26 0).toNatClampNeg ∧ ¬ μ.1 26 0 = μ.1 20 0 ∧ (μ.1 26 0 + 1).toInt = (μ.1 26 0).toInt + 1 ∧ (μ.1 26 0).toInt < (μ.1 20 0).toInt := by
  obtain ⟨⟨h1, h2⟩, ⟨h3, h4, h5⟩, h6⟩ := h
  have a1 : (0 : Int) ≤ (μ.1 26 0).toInt := i_le h3
  have a2 := i_le h4
  have a3 : (μ.1 20 0).toInt ≤ 160 := i_le h5
  have a4 : ¬ (μ.1 20 0).toInt ≤ (μ.1 26 0).toInt := fun z => c (le_int.mpr z)
  have a5 : (μ.1 26 0).toNatClampNeg < 160 := by
    have := ix_nat h3
    omega
  refine ⟨vin_of h3 a5, h6 _ a5, fun z => c (by rw [z]; exact Int32.le_refl _), ?_, by omega⟩
  exact add_int (x := μ.1 26 0) (y := 1) (by show _ ≤ _ + (1 : Int); omega) (by show _ + (1 : Int) < _; omega)
theorem pa_step {σ : xS} {μ : mS} (h : PA σ μ) (c : ¬ μ.1 20 0 ≤ μ.1 26 0) : PA (xi σ 21 (fun _ => μ.1 26 0 + 1)) (seti μ 26 (fun _ => μ.1 26 0 + 1)) := by
  obtain ⟨v1, v2, v3, v4, v5⟩ := pa_ix h c
  obtain ⟨⟨h1, h2⟩, ⟨h3, h4, h5⟩, h6⟩ := h
  have a1 : (0 : Int) ≤ (μ.1 26 0).toInt := i_le h3
  refine ⟨⟨h1, rfl⟩, ⟨?_, ?_, h5⟩, h6⟩
  · show 0 ≤ μ.1 26 0 + 1
    rw [le_int, v4]
    show (0 : Int) ≤ _
    omega
  · show μ.1 26 0 + 1 ≤ μ.1 20 0
    rw [le_int, v4]
    omega
theorem here_eq {σ : xS} {μ : mS} (h : PA σ μ) (b : Int32) : (f_X5_isHere σ b = some 0 ∧ f_X7_takes μ b = some (0, μ)) ∨ (f_X5_isHere σ b = some 1 ∧ f_X7_takes μ b = some (1, seti μ 26 (fun _ => μ.1 26 0 + 1)) ∧ ¬ μ.1 20 0 ≤ μ.1 26 0 ∧ μ.1 19 (μ.1 26 0).toNatClampNeg = b) := by
  unfold f_X5_isHere f_X7_takes
  rw [h.1.1, h.1.2]
  by_cases c : μ.1 20 0 ≤ μ.1 26 0
  · have e : μ.1 26 0 = μ.1 20 0 := Int32.le_antisymm h.2.1.2.1 c
    exact Or.inl ⟨by rw [if_pos c], by rw [if_pos e]⟩
  · obtain ⟨v1, v2, v3, v4, v5⟩ := pa_ix h c
    rw [if_neg c, if_neg v3, v1, v2]
    by_cases d : μ.1 19 (μ.1 26 0).toNatClampNeg = b
    · exact Or.inr ⟨by simp only [cond_true, if_pos d], by simp only [cond_true, if_pos d, letm], c, d⟩
    · exact Or.inl ⟨by simp only [cond_true, if_neg d], by simp only [cond_true, if_neg d]⟩
def tks : List Int32 → mS → Option (Int32 × mS)
  | [], μ => some (1, μ)
  | b :: l, μ => (f_X7_takes μ b).bind fun r => if r.1 = 0 then some (0, r.2) else tks l r.2
theorem word_eq : ∀ (l : List Int32) (σ : xS) (μ : mS), PA σ μ → ∃ b σ' μ', rdw l σ = some (b, σ') ∧ tks l μ = some (b, μ') ∧ (b = 0 ∨ b = 1) ∧ PA σ' μ' ∧ FX1 σ σ' ∧ FM1 μ μ' := by
  intro l
  induction l with
  | nil => intro σ μ h; exact ⟨1, σ, μ, rfl, rfl, Or.inr rfl, h, FX1_r _, FM1_r _⟩
  | cons b l ih =>
    intro σ μ h
    rcases here_eq h b with ⟨e1, e2⟩ | ⟨e1, e2, e3, e4⟩
    · exact ⟨0, σ, μ, by simp [rdw, e1], by simp [tks, e2], Or.inl rfl, h, FX1_r _, FM1_r _⟩
    · obtain ⟨b', σ', μ', i1, i2, i3, i4, i5, i6⟩ := ih _ _ (pa_step h e3)
      refine ⟨b', σ', μ', ?_, ?_, i3, i4, FX1_t (FX1_at _ _) i5, FM1_t (FM1_at _ _) i6⟩
      · rw [rdw, e1, Option.bind_some, if_neg (by decide), h.1.2]
        exact i1
      · rw [tks, e2, Option.bind_some, if_neg (show ¬ (1 : Int32) = 0 by decide)]
        exact i2
theorem digit_eq {σ : xS} {μ : mS} (h : PA σ μ) : (f_X5_digitHere σ = some (-1) ∧ f_X7_digitAt μ 48 = some 0 ∧ f_X7_digitAt μ 49 = some 0 ∧ (¬ μ.1 20 0 ≤ μ.1 26 0 → ¬ (48 ≤ μ.1 19 (μ.1 26 0).toNatClampNeg ∧ μ.1 19 (μ.1 26 0).toNatClampNeg ≤ 57))) ∨ ∃ e, f_X5_digitHere σ = some e ∧ (0 ≤ e ∧ e ≤ 9) ∧ f_X7_digitAt μ 48 = some 1 ∧ f_X7_digitAt μ 49 = some (if e = 0 then 0 else 1) ∧ ¬ μ.1 20 0 ≤ μ.1 26 0 ∧ μ.1 19 (μ.1 26 0).toNatClampNeg = e + 48 := by
  unfold f_X5_digitHere f_X7_digitAt
  rw [h.1.1, h.1.2]
  by_cases c : μ.1 20 0 ≤ μ.1 26 0
  · exact Or.inl ⟨by rw [if_pos c], by rw [if_pos c], by rw [if_pos c], fun z => absurd c z⟩
  · obtain ⟨v1, v2, v3, v4, v5⟩ := pa_ix h c
    rw [if_neg c, if_neg c, if_neg c, v1, v2]
    generalize μ.1 19 (μ.1 26 0).toNatClampNeg = y
    simp only [cond_true]
    by_cases c1 : y < 48
    · have c1' : y.toInt < 48 := lt_int.mp c1
      have c2 : y < 49 := lt_int.mpr (by show _ < (49 : Int); omega)
      exact Or.inl ⟨by rw [if_pos c1], by rw [if_pos c1], by rw [if_pos c2], fun _ z => Int32.not_lt.mpr z.1 c1⟩
    · have c1' : ¬ y.toInt < 48 := fun z => c1 (lt_int.mpr z)
      by_cases c2 : 57 < y
      · refine Or.inl ⟨by rw [if_neg c1, if_pos c2], by rw [if_neg c1, if_pos c2], ?_, fun _ z => Int32.not_lt.mpr z.2 c2⟩
        have c2' : 57 < y.toInt := lt_int.mp c2
        have c3 : ¬ y < 49 := fun z => by
          have z' : y.toInt < 49 := lt_int.mp z
          omega
        rw [if_neg c3, if_pos c2]
      · have c2' : ¬ 57 < y.toInt := fun z => c2 (lt_int.mpr z)
        have e1 : (y - 48).toInt = y.toInt - 48 := sub_int (x := y) (y := 48) (by show _ ≤ _ - (48 : Int); omega) (by show _ - (48 : Int) < _; omega)
        refine Or.inr ⟨y - 48, by rw [if_neg c1, if_neg c2], ⟨?_, ?_⟩, by rw [if_neg c1, if_neg c2], ?_, c, (Int32.sub_add_cancel _ _).symm⟩
        · rw [le_int, e1]; show (0 : Int) ≤ _; omega
        · rw [le_int, e1]; show _ ≤ (9 : Int); omega
        · by_cases c3 : y < 49
          · have c3' : y.toInt < 49 := lt_int.mp c3
            have e2 : y - 48 = 0 := eq_int.mpr (by rw [e1]; show _ = (0 : Int); omega)
            rw [if_pos c3, if_pos e2]
          · have c3' : ¬ y.toInt < 49 := fun z => c3 (lt_int.mpr z)
            have e2 : ¬ y - 48 = 0 := fun z => by
              have z' := eq_int.mp z
              rw [e1] at z'
              have z2 : y.toInt - 48 = 0 := z'
              omega
            rw [if_neg c3, if_neg c2, if_neg e2]
def p10 : Nat → Int
  | 0 => 1
  | k + 1 => 10 * p10 k
theorem p10_le : ∀ k, k < 5 → p10 k ≤ 10000 := by decide
theorem num_L (n : Nat) (hn : n ≤ 4) : ∀ (d k f1 f2 : Nat) (σ : xS) (μ : mS) (v : Int32), PA σ μ → μ.1 27 0 = v → 0 ≤ v.toInt → v.toInt < p10 k → k + d = n → d < f1 → d < f2 → ∃ v' σ' μ', f_X5_readNumber_L15 f1 σ (Int32.ofNat n) v (Int32.ofNat k) = some (v', σ') ∧ f_X7_takesNumber_L17 f2 μ (Int32.ofNat n) (Int32.ofNat k) = some μ' ∧ PA σ' μ' ∧ μ'.1 27 0 = v' ∧ v.toInt ≤ v'.toInt ∧ v'.toInt < p10 n ∧ (∀ e, 0 < d → f_X5_digitHere σ = some e → 0 ≤ e.toInt → e.toInt ≤ v'.toInt) ∧ FX1 σ σ' ∧ FM1 μ μ' := by
  intro d
  induction d with
  | zero =>
    intro k f1 f2 σ μ v h hv h0 h1 hk hf1 hf2
    obtain ⟨f1, rfl⟩ : ∃ z, f1 = z + 1 := ⟨f1 - 1, by omega⟩
    obtain ⟨f2, rfl⟩ : ∃ z, f2 = z + 1 := ⟨f2 - 1, by omega⟩
    have e : k = n := by omega
    subst e
    rw [f_X5_readNumber_L15, f_X7_takesNumber_L17, if_pos (Int32.le_refl _), if_pos (Int32.le_refl _)]
    exact ⟨v, σ, μ, rfl, rfl, h, hv, Int.le_refl _, h1, fun _ q => absurd q (by omega), FX1_r _, FM1_r _⟩
  | succ d ih =>
    intro k f1 f2 σ μ v h hv h0 h1 hk hf1 hf2
    obtain ⟨f1, rfl⟩ : ∃ z, f1 = z + 1 := ⟨f1 - 1, by omega⟩
    obtain ⟨f2, rfl⟩ : ∃ z, f2 = z + 1 := ⟨f2 - 1, by omega⟩
    have hle : ¬ Int32.ofNat n ≤ Int32.ofNat k := by rw [ofn_le (by omega) (by omega)]; omega
    have hp : p10 (k + 1) ≤ 10000 := p10_le (k + 1) (by omega)
    have hp1 : p10 (k + 1) = 10 * p10 k := rfl
    rw [f_X5_readNumber_L15, f_X7_takesNumber_L17, if_neg hle, if_neg hle]
    rcases digit_eq h with ⟨d1, d2, d3, d4⟩ | ⟨e, d1, d2, d3, d4, d5, d6⟩
    · refine ⟨v, σ, μ, by simp [d1], by simp [d2], h, hv, Int.le_refl _, ?_, ?_, FX1_r _, FM1_r _⟩
      · have : ∀ j, p10 k ≤ p10 (k + j) := by
          intro j
          induction j with
          | zero => exact Int.le_refl _
          | succ j ij =>
            have : p10 (k + (j + 1)) = 10 * p10 (k + j) := rfl
            omega
        have := this (d + 1)
        rw [hk] at this
        omega
      · intro e2 _ q1 q2
        rw [d1] at q1
        have := Option.some.inj q1
        rw [← this] at q2
        exact absurd q2 (by decide)
    · obtain ⟨v1, v2, v3, v4, v5⟩ := pa_ix h d5
      have e0 : (0 : Int) ≤ e.toInt := i_le d2.1
      have e9 : e.toInt ≤ 9 := i_le d2.2
      have em1 : ¬ e = -1 := fun z => absurd (z ▸ d2.1) (by decide)
      have m1 : (v * 10).toInt = v.toInt * 10 := mul_int (x := v) (y := 10) (by show _ ≤ _ * (10 : Int); omega) (by show _ * (10 : Int) < _; omega)
      have m2 : (v * 10 + e).toInt = v.toInt * 10 + e.toInt := by
        rw [add_int (by omega) (by omega), m1]
      have m3 : 10 * v + (e + 48) - 48 = v * 10 + e := by
        rw [← Int32.add_assoc, Int32.add_sub_cancel, Int32.mul_comm]
      have hp2 := pa_step h d5
      obtain ⟨v', σ', μ', i1, i2, i3, i4, i5, i6, i7, i8, i9⟩ := ih (k + 1) f1 f2 (xi σ 21 (fun _ => μ.1 26 0 + 1)) (seti (seti μ 27 (fun _ => v * 10 + e)) 26 (fun _ => μ.1 26 0 + 1)) (v * 10 + e) hp2 rfl (by omega) (by omega) (by omega) (by omega) (by omega)
      refine ⟨v', σ', μ', ?_, ?_, i3, i4, by omega, i6, ?_, FX1_t (FX1_at _ _) i8, FM1_t (FM1_t (FM1_nr _ _) (FM1_at _ _)) i9⟩
      · rw [d1, Option.bind_some, if_neg em1, Option.bind_some, h.1.2, ofn_succ]
        exact i1
      · rw [d3, Option.bind_some, if_neg (by decide), v1, hv, d6, m3, ofn_succ]
        exact i2
      · intro e2 _ q1 q2
        rw [d1] at q1
        have := Option.some.inj q1
        rw [← this]
        omega
theorem num_eq {σ : xS} {μ : mS} (h : PA σ μ) (n : Nat) (hn : n ≤ 4) (hn0 : 0 < n) (lo : Int32) (hlo : lo = 0 ∨ lo = 1) : (f_X5_readNumber σ lo (Int32.ofNat n) = some (-1, σ) ∧ f_X7_takesNumber μ (Int32.ofNat n) (48 + lo) = some (0, μ)) ∨ ∃ v σ' μ', f_X5_readNumber σ lo (Int32.ofNat n) = some (v, σ') ∧ f_X7_takesNumber μ (Int32.ofNat n) (48 + lo) = some (1, μ') ∧ PA σ' μ' ∧ μ'.1 27 0 = v ∧ lo ≤ v ∧ v.toInt < p10 n ∧ FX1 σ σ' ∧ FM1 μ μ' := by
  unfold f_X5_readNumber f_X7_takesNumber
  have i1 : ((1 : Int32)).toInt = 1 := by decide
  have i0 : ((0 : Int32)).toInt = 0 := by decide
  rcases digit_eq h with ⟨d1, d2, d3, d4⟩ | ⟨e, d1, d2, d3, d4, d5, d6⟩
  · left
    rcases hlo with rfl | rfl
    · have d2' : f_X7_digitAt μ (48 + 0) = some 0 := d2
      exact ⟨by rw [d1]; simp, by rw [d2']; simp⟩
    · have d3' : f_X7_digitAt μ (48 + 1) = some 0 := d3
      exact ⟨by rw [d1]; simp, by rw [d3']; simp⟩
  · obtain ⟨v, σ', μ', j1, j2, j3, j4, j5, j6, j7, j8, j9⟩ := num_L n hn n 0 4000 4000 σ (seti μ 27 (fun _ => 0)) 0 h rfl (by decide) (by decide) (by omega) (by omega) (by omega)
    have j1' : f_X5_readNumber_L15 4000 σ (Int32.ofNat n) 0 0 = some (v, σ') := j1
    have j2' : f_X7_takesNumber_L17 4000 (seti μ 27 (fun _ => 0)) (Int32.ofNat n) 0 = some μ' := j2
    have e0 : (0 : Int) ≤ e.toInt := i_le d2.1
    have hv := j7 e hn0 d1 e0
    rw [i0] at j5
    rcases hlo with rfl | rfl
    · have d3' : f_X7_digitAt μ (48 + 0) = some 1 := d3
      right
      refine ⟨v, σ', μ', ?_, ?_, j3, j4, le_int.mpr (by rw [i0]; exact j5), j6, j8, FM1_t (FM1_nr _ _) j9⟩
      · rw [d1, Option.bind_some, if_pos d2.1, j1']; rfl
      · rw [d3', Option.bind_some, if_neg (by decide)]
        show (f_X7_takesNumber_L17 4000 (seti μ 27 (fun _ => 0)) (Int32.ofNat n) 0).bind _ = _
        rw [j2']; rfl
    · have d4' : f_X7_digitAt μ (48 + 1) = some (if e = 0 then 0 else 1) := d4
      by_cases q : e = 0
      · left
        rw [if_pos q] at d4'
        exact ⟨by rw [d1, q]; simp, by rw [d4']; simp⟩
      · right
        rw [if_neg q] at d4'
        have q1 : 1 ≤ e.toInt := by
          have : ¬ e.toInt = 0 := fun z => q (eq_int.mpr (by rw [z]; rfl))
          omega
        refine ⟨v, σ', μ', ?_, ?_, j3, j4, le_int.mpr (by rw [i1]; omega), j6, j8, FM1_t (FM1_nr _ _) j9⟩
        · rw [d1, Option.bind_some, if_pos (le_int.mpr (by rw [i1]; exact q1)), j1']; rfl
        · rw [d4', Option.bind_some, if_neg (by decide)]
          show (f_X7_takesNumber_L17 4000 (seti μ 27 (fun _ => 0)) (Int32.ofNat n) 0).bind _ = _
          rw [j2']; rfl
end READ
