/-! THE PURE PART: pay: which lot is worse; what both look at -/
section WORSE
def Wr (S P : Nat → Int) (a b : Nat) : Prop := S a * P b < S b * P a ∨ (S a * P b = S b * P a ∧ a < b)
theorem Wr_asym {S P : Nat → Int} {a b : Nat} (h : Wr S P a b) : ¬ Wr S P b a := by
  unfold Wr at *
  omega
theorem Wr_irr {S P : Nat → Int} {a : Nat} : ¬ Wr S P a a := by
  unfold Wr
  omega
theorem Wr_tot {S P : Nat → Int} {a b : Nat} (h : a ≠ b) : Wr S P a b ∨ Wr S P b a := by
  unfold Wr
  omega
theorem Wr_trans {S P : Nat → Int} {a b c : Nat} (pa : 0 < P a) (pb : 0 < P b) (pc : 0 < P c) (h1 : Wr S P a b) (h2 : Wr S P b c) : Wr S P a c := by
  have k1 : P b * (S a * P c) = (S a * P b) * P c := by grind
  have k2 : P b * (S c * P a) = (S c * P b) * P a := by grind
  have k3 : (S b * P a) * P c = (S b * P c) * P a := by grind
  unfold Wr at *
  have l1 : S a * P b ≤ S b * P a := by omega
  have l2 : S b * P c ≤ S c * P b := by omega
  have m1 : (S a * P b) * P c ≤ (S b * P a) * P c := Int.mul_le_mul_of_nonneg_right l1 (by omega)
  have m2 : (S b * P c) * P a ≤ (S c * P b) * P a := Int.mul_le_mul_of_nonneg_right l2 (by omega)
  by_cases q1 : S a * P b < S b * P a
  · have m3 : (S a * P b) * P c < (S b * P a) * P c := Int.mul_lt_mul_of_pos_right q1 pc
    exact Or.inl (Int.lt_of_mul_lt_mul_left (a := P b) (by omega) (by omega))
  · by_cases q2 : S b * P c < S c * P b
    · have m3 : (S b * P c) * P a < (S c * P b) * P a := Int.mul_lt_mul_of_pos_right q2 pa
      exact Or.inl (Int.lt_of_mul_lt_mul_left (a := P b) (by omega) (by omega))
    · have e1 : S a * P b = S b * P a := by omega
      have e2 : S b * P c = S c * P b := by omega
      have e3 : P b * (S a * P c) = P b * (S c * P a) := by rw [k1, k2, e1, k3, e2]
      exact Or.inr ⟨Int.eq_of_mul_eq_mul_left (by omega) e3, by omega⟩
def svI (σ : xS) (μ : mS) (a : Nat) : Int := (μ.1 11 a).toInt * (σ.1 103 a).toInt
def sv (σ : xS) (μ : mS) (a : Nat) : Int64 := (μ.1 11 a).toInt64 * (σ.1 103 a).toInt64
def pI (μ : mS) (t : Int32) (a : Nat) : Int := (pw μ t a).toInt
theorem lot_bd {σ : xS} {μ : mS} {i : Nat} (hl : RLot σ μ i) : (1 ≤ (μ.1 11 i).toInt ∧ (μ.1 11 i).toInt ≤ 500000) ∧ 0 ≤ (σ.1 103 i).toInt ∧ (σ.1 103 i).toInt ≤ 1000 := by
  obtain ⟨p1, p2, p3, p4, p5, p6, p7, p8, p9, p10, p11⟩ := hl
  have b1 : (0 : Int) ≤ (σ.1 103 i).toInt := i_le p5.1
  have b2 : (σ.1 103 i).toInt ≤ 1000 := i_le p5.2
  rcases p6 with y | y
  · have y1 : (1 : Int) ≤ (μ.1 11 i).toInt := i_le y.2.2.1
    have y2 : (μ.1 11 i).toInt ≤ 100000 := i_le y.2.2.2
    omega
  · have y1 : (1 : Int) ≤ (μ.1 11 i).toInt := i_le y.2.2.2.1
    have y2 : (μ.1 11 i).toInt ≤ 500000 := i_le y.2.2.2.2
    omega
theorem sv_eq {σ : xS} {μ : mS} {i : Nat} (hl : RLot σ μ i) : (sv σ μ i).toInt = svI σ μ i ∧ 0 ≤ svI σ μ i ∧ svI σ μ i ≤ 500000000 := by
  obtain ⟨⟨b1, b2⟩, b3, b4⟩ := lot_bd hl
  have m1 : 0 ≤ svI σ μ i := Int.mul_nonneg (by omega) b3
  have m2 : svI σ μ i ≤ 500000 * 1000 := Int.mul_le_mul b2 b4 b3 (by decide)
  refine ⟨?_, m1, by omega⟩
  unfold sv
  unfold svI at m1 m2
  rw [mul64 (by rw [Int32.toInt_toInt64, Int32.toInt_toInt64]; omega) (by rw [Int32.toInt_toInt64, Int32.toInt_toInt64]; omega), Int32.toInt_toInt64, Int32.toInt_toInt64]
  rfl
theorem sp_eq {x : Int64} {y : Int32} {A B : Int} (hx : x.toInt = A) (hy : y.toInt = B) (a0 : 0 ≤ A) (a1 : A ≤ 500000000) (b0 : 0 ≤ B) (b1 : B ≤ 500000000) : (x * y.toInt64).toInt = A * B := by
  have m1 : 0 ≤ A * B := Int.mul_nonneg a0 b0
  have m2 : A * B ≤ 500000000 * 500000000 := Int.mul_le_mul a1 b1 b0 (by decide)
  rw [mul64 (by rw [Int32.toInt_toInt64, hx, hy]; omega) (by rw [Int32.toInt_toInt64, hx, hy]; omega), Int32.toInt_toInt64, hx, hy]
theorem lg_zero (x y : Int64) : lg_cmp x y = 0 ↔ x = y := by
  unfold lg_cmp
  by_cases a : x > y
  · rw [if_pos a]
    exact ⟨fun z => absurd z (by decide), fun z => (Int64.lt_irrefl (show y < y from z ▸ a)).elim⟩
  · rw [if_neg a]
    by_cases b : x = y
    · rw [if_pos b]
      exact ⟨fun _ => b, fun _ => rfl⟩
    · rw [if_neg b]
      exact ⟨fun z => absurd z (by decide), fun z => absurd z b⟩
theorem lg_lt (x y : Int64) : lg_cmp x y < 0 ↔ x.toInt < y.toInt := by
  rw [← Int32.not_le, lg_ge, Int64.le_iff_toInt_le]
  omega
/-- what is the same to look at: all but 29, 30, 31 -/
def AgM (μ' μ : mS) : Prop := μ'.2 = μ.2 ∧ ∀ c, c ≠ 29 → c ≠ 30 → c ≠ 31 → μ'.1 c = μ.1 c
theorem fi_L_c {μ μ' : mS} (h : AgM μ' μ) : ∀ (n : Nat) (t d b k : Int32), f_X7_forceIn_L5 n μ' t d b k = f_X7_forceIn_L5 n μ t d b k := by
  intro n
  induction n with
  | zero => intro t d b k; rfl
  | succ n ih =>
    intro t d b k
    rw [f_X7_forceIn_L5, f_X7_forceIn_L5]
    simp only [h.2 21 (by decide) (by decide) (by decide), h.2 25 (by decide) (by decide) (by decide), ih]
theorem pass_c {μ μ' : mS} (h : AgM μ' μ) (x t d : Int32) : f_X7_passes μ' x t d = f_X7_passes μ x t d := by
  unfold f_X7_passes f_X7_forceIn
  simp only [fi_L_c h, h.2 8 (by decide) (by decide) (by decide), h.2 18 (by decide) (by decide) (by decide), h.2 17 (by decide) (by decide) (by decide), h.2 13 (by decide) (by decide) (by decide), h.2 9 (by decide) (by decide) (by decide), h.2 22 (by decide) (by decide) (by decide), h.2 23 (by decide) (by decide) (by decide), h.2 24 (by decide) (by decide) (by decide), h.2 5 (by decide) (by decide) (by decide), h.2 10 (by decide) (by decide) (by decide), h.2 11 (by decide) (by decide) (by decide)]
theorem there_c {μ μ' : mS} (h : AgM μ' μ) (x t : Int32) : f_X7_isThere μ' x t = f_X7_isThere μ x t := by
  unfold f_X7_isThere f_X7_isUnderWay
  simp only [h.2 13 (by decide) (by decide) (by decide), h.2 15 (by decide) (by decide) (by decide), h.2 16 (by decide) (by decide) (by decide), h.2 17 (by decide) (by decide) (by decide), h.2 6 (by decide) (by decide) (by decide)]
theorem silver_c {μ μ' : mS} (h : AgM μ' μ) (x : Int32) : f_X7_silverOf μ' x = f_X7_silverOf μ x := by
  unfold f_X7_silverOf f_X7_fine
  simp only [h.2 8 (by decide) (by decide) (by decide), h.2 12 (by decide) (by decide) (by decide), h.2 4 (by decide) (by decide) (by decide), h.2 9 (by decide) (by decide) (by decide), h.2 11 (by decide) (by decide) (by decide)]
theorem worse_c {μ μ' : mS} (h : AgM μ' μ) (x y t : Int32) : f_X7_isWorse μ' x y t = f_X7_isWorse μ x y t := by
  unfold f_X7_isWorse
  simp only [silver_c h, pass_c h, h.2 6 (by decide) (by decide) (by decide)]
/-- all that pay looks at, of one town today -/
def PT (σ : xS) (μ : mS) (t : Int32) : Prop := ∀ k, k < nLo σ → (0 ≤ pI μ t k ∧ pI μ t k ≤ 500000000) ∧ ((f_X7_isThere μ (Int32.ofNat k) t = some 0 ∧ pw μ t k = 0) ∨ (f_X7_isThere μ (Int32.ofNat k) t = some 1 ∧ f_X7_passes μ (Int32.ofNat k) t (μ.1 6 0) = some (pw μ t k) ∧ μ.1 13 k = t ∧ μ.1 15 k ≤ μ.1 6 0 ∧ μ.1 16 k = 0 ∧ μ.1 17 k = 0))
theorem PT_of {σ : xS} {μ : mS} (hR : Rel σ μ) {t : Int32} (ht : 0 ≤ t ∧ t ≤ 5) : PT σ μ t := by
  obtain ⟨r, o, e1, e2, e3, e4⟩ := force_eq hR.1 hR.2.2.2.2.2.1 t (μ.1 6 0) ht
  intro k hk
  obtain ⟨s1, s2, s3⟩ := pw_spec hR ht e1 e4 hk
  exact ⟨⟨i_le s2.1, i_le s2.2⟩, s1⟩
theorem PT_pos {σ : xS} {μ : mS} {t : Int32} (h : PT σ μ t) {k : Nat} (hk : k < nLo σ) (hp : 0 < pI μ t k) : f_X7_isThere μ (Int32.ofNat k) t = some 1 ∧ f_X7_passes μ (Int32.ofNat k) t (μ.1 6 0) = some (pw μ t k) ∧ μ.1 13 k = t ∧ μ.1 15 k ≤ μ.1 6 0 ∧ μ.1 16 k = 0 ∧ μ.1 17 k = 0 := by
  rcases (h k hk).2 with y | y
  · unfold pI at hp
    rw [y.2] at hp
    exact absurd hp (by decide)
  · exact y
theorem worse_m {σ : xS} {μ : mS} (hR : Rel σ μ) {t : Int32} (hp : PT σ μ t) {a b : Nat} (ha : a < nLo σ) (hb : b < nLo σ) (pa : 0 < pI μ t a) (pb : 0 < pI μ t b) : (Wr (svI σ μ) (pI μ t) a b ∧ f_X7_isWorse μ (Int32.ofNat a) (Int32.ofNat b) t = some 1) ∨ (¬ Wr (svI σ μ) (pI μ t) a b ∧ f_X7_isWorse μ (Int32.ofNat a) (Int32.ofNat b) t = some 0) := by
  obtain ⟨hC, hD, hS, hL, hT, hO, hP, hK, hRr, hG, hM⟩ := id hR
  have h30 := hC.1.2.1
  have va : vin (Int32.ofNat a) 30 = true := ofn_vin (by omega) (by decide)
  have vb : vin (Int32.ofNat b) 30 = true := ofn_vin (by omega) (by decide)
  have na : (Int32.ofNat a).toNatClampNeg = a := ofn_nat (by omega)
  have nb : (Int32.ofNat b).toNatClampNeg = b := ofn_nat (by omega)
  have sa := silver_eq (x := Int32.ofNat a) hC va (by rw [na]; exact hL a ha)
  have sb := silver_eq (x := Int32.ofNat b) hC vb (by rw [nb]; exact hL b hb)
  rw [na] at sa
  rw [nb] at sb
  obtain ⟨i1, i2, i3⟩ := sv_eq (hL a ha)
  obtain ⟨j1, j2, j3⟩ := sv_eq (hL b hb)
  have qa := (hp a ha).1
  have qb := (hp b hb).1
  have x1 := sp_eq (x := sv σ μ a) (y := pw μ t b) i1 rfl i2 i3 qb.1 qb.2
  have x2 := sp_eq (x := sv σ μ b) (y := pw μ t a) j1 rfl j2 j3 qa.1 qa.2
  have key : f_X7_isWorse μ (Int32.ofNat a) (Int32.ofNat b) t = (if svI σ μ a * pI μ t b < svI σ μ b * pI μ t a then some 1 else if svI σ μ a * pI μ t b = svI σ μ b * pI μ t a then if b ≤ a then some 0 else some 1 else some 0) := by
    unfold f_X7_isWorse
    rw [sa, Option.bind_some, (PT_pos hp hb pb).2.1, Option.bind_some, sb, Option.bind_some, (PT_pos hp ha pa).2.1, Option.bind_some]
    show (if lg_cmp (sv σ μ a * (pw μ t b).toInt64) (sv σ μ b * (pw μ t a).toInt64) < 0 then some 1 else if lg_cmp (sv σ μ a * (pw μ t b).toInt64) (sv σ μ b * (pw μ t a).toInt64) = 0 then if Int32.ofNat b ≤ Int32.ofNat a then some 0 else some 1 else some 0) = _
    simp only [lg_lt, lg_zero, ← Int64.toInt_inj, x1, x2, ofn_le (show b < 100000 by omega) (show a < 100000 by omega)]
    rfl
  rw [key]
  unfold Wr
  by_cases q1 : svI σ μ a * pI μ t b < svI σ μ b * pI μ t a
  · rw [if_pos q1]
    exact Or.inl ⟨Or.inl q1, rfl⟩
  · rw [if_neg q1]
    by_cases q2 : svI σ μ a * pI μ t b = svI σ μ b * pI μ t a
    · rw [if_pos q2]
      by_cases q3 : b ≤ a
      · rw [if_pos q3]
        exact Or.inr ⟨by omega, rfl⟩
      · rw [if_neg q3]
        exact Or.inl ⟨by omega, rfl⟩
    · rw [if_neg q2]
      exact Or.inr ⟨by omega, rfl⟩
/-- sums over the lots -/
def sI (w : Nat → Int32) : Nat → Int
  | 0 => 0
  | n + 1 => sI w n + (w n).toInt
theorem sI_c {w v : Nat → Int32} : ∀ n, (∀ j, j < n → w j = v j) → sI w n = sI v n := by
  intro n
  induction n with
  | zero => intro _; rfl
  | succ n ih =>
    intro h
    rw [sI, sI, ih (fun j hj => h j (by omega)), h n (by omega)]
theorem sI_up (w : Nat → Int32) (b : Nat) : ∀ n, b < n → sI (va_up w b 0) n = sI w n - (w b).toInt := by
  intro n
  induction n with
  | zero => intro h; omega
  | succ n ih =>
    intro h
    rw [sI, sI]
    by_cases q : b = n
    · subst q
      have e : sI (va_up w b 0) b = sI w b := sI_c b (fun j hj => va_up_ne _ _ (by omega))
      have e0 : (0 : Int32).toInt = 0 := by decide
      rw [va_up_self, e, e0]
      omega
    · rw [ih (by omega), va_up_ne _ _ (by omega)]
      omega
theorem sI_pos (w : Nat → Int32) : ∀ n, 0 < sI w n → ∃ l, l < n ∧ 0 < (w l).toInt := by
  intro n
  induction n with
  | zero => intro h; exact absurd (show (0 : Int) < 0 from h) (by decide)
  | succ n ih =>
    intro h
    rw [sI] at h
    by_cases q : 0 < (w n).toInt
    · exact ⟨n, by omega, q⟩
    · obtain ⟨l, h1, h2⟩ := ih (by omega)
      exact ⟨l, by omega, h2⟩
theorem sI_64 (w : Nat → Int32) (n : Nat) (h : ∀ j, j < n → 0 ≤ (w j).toInt ∧ (w j).toInt ≤ 500000000) : ∀ d k, k + d ≤ n → d ≤ 30 → (s64 w k d).toInt = sI w (k + d) - sI w k ∧ 0 ≤ (s64 w k d).toInt ∧ (s64 w k d).toInt ≤ 500000000 * d := by
  intro d
  induction d with
  | zero =>
    intro k _ _
    have e0 : (s64 w k 0).toInt = 0 := (by decide : (0 : Int64).toInt = 0)
    rw [e0, Nat.add_zero]
    omega
  | succ d ih =>
    intro k hk hd
    obtain ⟨i0, i1, i2⟩ := ih (k + 1) (by omega) (by omega)
    obtain ⟨j1, j2⟩ := h k (by omega)
    have e : (s64 w k (d + 1)).toInt = (w k).toInt + (s64 w (k + 1) d).toInt := by
      rw [s64, add64 (by rw [Int32.toInt_toInt64]; omega) (by rw [Int32.toInt_toInt64]; omega), Int32.toInt_toInt64]
    have e2 : sI w (k + 1) = sI w k + (w k).toInt := rfl
    have e3 : k + (d + 1) = k + 1 + d := by omega
    rw [e, e3]
    omega
end WORSE
