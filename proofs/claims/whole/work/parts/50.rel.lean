/-! THE PURE PART: the relation of the two states, and what all calls need -/
section REL
abbrev nS (σ : xS) : Nat := σ.2.2.2 0
abbrev nLo (σ : xS) : Nat := σ.2.2.2 1
abbrev nO (σ : xS) : Nat := σ.2.2.2 2
/-- counts and references -/
def RC (σ : xS) (μ : mS) : Prop := (nS σ ≤ 8 ∧ nLo σ ≤ 30 ∧ nO σ ≤ 10) ∧ (σ.1 1 0 = Int32.ofNat (nS σ) ∧ μ.1 1 0 = Int32.ofNat (nS σ)) ∧ (σ.1 3 0 = Int32.ofNat (nLo σ) ∧ μ.1 7 0 = Int32.ofNat (nLo σ)) ∧ (σ.1 5 0 = Int32.ofNat (nO σ) ∧ μ.1 21 0 = Int32.ofNat (nO σ)) ∧ (σ.2.2.2 6 = nO σ ∧ σ.2.2.2 7 = nO σ ∧ σ.2.2.2 8 = nO σ) ∧ (∀ j, j < nS σ → σ.2.2.1 0 j = some (2000 + j)) ∧ (∀ j, j < nLo σ → σ.2.2.1 2 j = some (1000 + j)) ∧ (∀ j, j < nO σ → σ.2.2.1 4 j = some (3000 + j) ∧ σ.2.2.1 130 j = some (3400 + j) ∧ σ.2.2.1 131 j = some (3600 + j) ∧ σ.2.2.1 132 j = some (3200 + j)) ∧ (∀ j, j < 3 → σ.2.2.1 7 j = some (23 + j))
/-- the day -/
def RD (σ : xS) (μ : mS) : Prop := σ.1 16 0 = μ.1 6 0 ∧ 0 ≤ μ.1 6 0 ∧ μ.1 6 0 ≤ 999
/-- sorts -/
def RS (σ : xS) (μ : mS) : Prop := ∀ i, i < nS σ → (σ.1 120 i = μ.1 2 i ∧ σ.1 121 i = μ.1 3 i ∧ σ.1 122 i = μ.1 4 i ∧ σ.1 123 i = μ.1 5 i) ∧ (1 ≤ μ.1 2 i ∧ μ.1 2 i ≤ μ.1 3 i ∧ μ.1 3 i ≤ 500) ∧ (0 ≤ μ.1 4 i ∧ μ.1 4 i ≤ 1000) ∧ (1 ≤ μ.1 5 i ∧ μ.1 5 i ≤ 240)
/-- a lot: what is the same; its sort; its bounds; where it is -/
def RLot (σ : xS) (μ : mS) (i : Nat) : Prop :=
  (σ.1 100 i = μ.1 9 i ∧ σ.1 102 i = μ.1 10 i ∧ σ.1 104 i = μ.1 8 i ∧ σ.1 105 i = μ.1 11 i ∧ σ.1 109 i = μ.1 16 i ∧ σ.1 110 i = μ.1 17 i ∧ σ.1 111 i = μ.1 18 i) ∧
  ((μ.1 9 i).toNatClampNeg < nS σ ∧ 0 ≤ μ.1 9 i ∧ σ.2.2.1 101 i = some (2000 + (μ.1 9 i).toNatClampNeg)) ∧
  σ.1 103 i = (if μ.1 8 i = 3 ∨ μ.1 8 i = 5 then μ.1 12 i else μ.1 4 (μ.1 9 i).toNatClampNeg) ∧
  (0 ≤ μ.1 8 i ∧ μ.1 8 i ≤ 5) ∧ (0 ≤ σ.1 103 i ∧ σ.1 103 i ≤ 1000) ∧
  ((μ.1 8 i = 3 ∧ μ.1 10 i = 0 ∧ 1 ≤ μ.1 11 i ∧ μ.1 11 i ≤ 100000) ∨ (μ.1 8 i ≠ 3 ∧ 1 ≤ μ.1 10 i ∧ μ.1 10 i ≤ 1000 ∧ 1 ≤ μ.1 11 i ∧ μ.1 11 i ≤ 500000)) ∧
  ((μ.1 16 i = 0 ∨ μ.1 16 i = 1) ∧ (μ.1 17 i = 0 ∨ μ.1 17 i = 1) ∧ (μ.1 18 i = 0 ∨ μ.1 18 i = 1)) ∧
  ((-1 ≤ μ.1 13 i ∧ μ.1 13 i ≤ 5 ∧ -1 ≤ μ.1 14 i ∧ μ.1 14 i ≤ 2) ∧ ((0 ≤ μ.1 13 i ∧ μ.1 14 i = -1) ∨ (μ.1 13 i = -1 ∧ 0 ≤ μ.1 14 i))) ∧
  ((μ.1 16 i = 0 ∧ σ.1 106 i = μ.1 13 i ∧ σ.1 107 i = μ.1 14 i) ∨ (μ.1 16 i = 1 ∧ σ.1 106 i = -1 ∧ σ.1 107 i = -1 ∧ μ.1 13 i = -1 ∧ μ.1 17 i = 0 ∧ μ.1 15 i ≤ μ.1 6 0)) ∧
  (μ.1 17 i = 1 → 0 ≤ μ.1 13 i ∧ μ.1 15 i ≤ μ.1 6 0) ∧
  ((σ.1 108 i = μ.1 15 i ∨ (σ.1 108 i = 0 ∧ μ.1 15 i = -1)) ∧ -1 ≤ μ.1 15 i ∧ μ.1 15 i ≤ 1029)
def RLs (σ : xS) (μ : mS) : Prop := ∀ i, i < nLo σ → RLot σ μ i
/-- the tape; and the lots that are not yet -/
def RT (σ : xS) (μ : mS) : Prop := (σ.1 20 0 = μ.1 20 0 ∧ 0 ≤ μ.1 20 0 ∧ μ.1 20 0 ≤ 160) ∧ (∀ j, j < 160 → σ.1 24 j = μ.1 19 j) ∧ ∀ i, i < 30 → nLo σ ≤ i → μ.1 16 i = 0 ∧ μ.1 17 i = 0 ∧ μ.1 18 i = 0
/-- orders: what each says of a sort, when it was told in a town -/
def ROs (p g : Int32) (say mp mg : Int32) : Prop := (say = 0 ∧ p = -1) ∨ (say = 3 ∧ p = 0 ∧ g = 0) ∨ (say = 1 ∧ p = mp ∧ g = 0 ∧ 0 ≤ mp ∧ mp ≤ 999) ∨ (say = 2 ∧ p = mp ∧ g = mg ∧ 0 ≤ mp ∧ mp ≤ 999 ∧ 1 ≤ mg ∧ mg ≤ 9999)
def RO (σ : xS) (μ : mS) : Prop := ∀ o, o < nO σ → (∀ k, k < 8 → ROs (σ.1 (2000 + o) k) (σ.1 (3000 + o) k) (μ.1 22 (8 * o + k)) (μ.1 23 (8 * o + k)) (μ.1 24 (8 * o + k)) ∧ (σ.1 (2000 + o) k = -1 → σ.1 (3000 + o) k = 0)) ∧ ∀ t, t < 6 → σ.1 (1000 + o) t + 1 = μ.1 25 (6 * o + t) ∧ 0 ≤ μ.1 25 (6 * o + t) ∧ μ.1 25 (6 * o + t) ≤ 1000
/-- the last payment, credits, roads, wishes -/
def RP (σ : xS) (μ : mS) : Prop := (σ.1 11 0 = μ.1 29 0 ∧ 0 ≤ μ.1 29 0 ∧ μ.1 29 0 ≤ 30) ∧ ∀ j, j < 30 → σ.1 10 j = μ.1 30 j
def RK (σ : xS) (μ : mS) : Prop := ∀ t, t < 6 → σ.2.1 9 t = μ.2 28 t
def RR (σ : xS) (μ : mS) : Prop := ∀ k, k < 18 → σ.1 8 k = μ.1 32 k ∧ 1 ≤ μ.1 32 k ∧ μ.1 32 k ≤ 30
def RG (σ : xS) (μ : mS) : Prop := (∀ k, k < 3 → σ.1 13 k = μ.1 42 k ∧ 0 ≤ μ.1 42 k ∧ μ.1 42 k ≤ 1000) ∧ ∀ k, k < 6 → σ.1 14 k = μ.1 43 k ∧ 0 ≤ μ.1 43 k ∧ μ.1 43 k ≤ 1000
/-- how many are melted -/
def mcn (f : Nat → Int32) : Nat → Nat
  | 0 => 0
  | n + 1 => mcn f n + (if f n = 1 then 1 else 0)
/-- pots; what they hold is bounded by the melted lots -/
def RM (σ : xS) (μ : mS) : Prop := (∀ k, k < 3 → (σ.2.1 140 k = μ.2 33 k ∧ σ.2.1 141 k = μ.2 34 k ∧ σ.1 142 k = μ.1 35 k ∧ σ.2.1 143 k = μ.2 36 k ∧ σ.2.1 144 k = μ.2 37 k ∧ σ.1 146 k = μ.1 38 k) ∧ (μ.1 35 k = 0 ∨ μ.1 35 k = 1) ∧ (1 ≤ μ.1 38 k ∧ μ.1 38 k ≤ 1000000) ∧ ((σ.1 147 k = μ.1 39 k ∧ σ.1 148 k = μ.1 40 k ∧ 0 ≤ μ.1 39 k ∧ μ.1 39 k ≤ 1000000) ∨ (σ.1 147 k = 0 ∧ σ.1 148 k = 0 ∧ μ.1 40 k = -1))) ∧ σ.2.1 145 0 + σ.2.1 145 1 + σ.2.1 145 2 = μ.2 41 0 ∧ ∀ k, k < 3 → 0 ≤ (μ.2 33 k).toInt ∧ (μ.2 33 k).toInt + ((μ.2 34 k).toInt - 925 * (μ.2 33 k).toInt) ≤ 463000000 * (mcn (μ.1 16) 30 : Int) ∧ (μ.2 33 k).toInt - ((μ.2 34 k).toInt - 925 * (μ.2 33 k).toInt) ≤ 463000000 * (mcn (μ.1 16) 30 : Int)
def Rel (σ : xS) (μ : mS) : Prop := RC σ μ ∧ RD σ μ ∧ RS σ μ ∧ RLs σ μ ∧ RT σ μ ∧ RO σ μ ∧ RP σ μ ∧ RK σ μ ∧ RR σ μ ∧ RG σ μ ∧ RM σ μ
/-- int columns below 1000 do not touch the orders -/
theorem RO_xi {σ : xS} {μ : mS} {c : Nat} {f : Nat → Int32} (hc : c < 1000) (h : RO σ μ) : RO (xi σ c f) μ := by
  intro o ho
  have e1 : (xi σ c f).1 (1000 + o) = σ.1 (1000 + o) := xi_ne (by omega)
  have e2 : (xi σ c f).1 (2000 + o) = σ.1 (2000 + o) := xi_ne (by omega)
  have e3 : (xi σ c f).1 (3000 + o) = σ.1 (3000 + o) := xi_ne (by omega)
  rw [e1, e2, e3]
  exact h o ho
/-- within, as both write it -/
theorem w_eq (x lo hi : Int32) : f_X6_within x lo hi = some (if lo ≤ x ∧ x ≤ hi then 1 else 0) := by
  unfold f_X6_within
  by_cases h1 : x < lo
  · rw [if_pos h1, if_neg (fun z => Int32.not_lt.mpr z.1 h1)]
  · rw [if_neg h1]
    by_cases h2 : hi < x
    · rw [if_pos h2, if_neg (fun z => Int32.not_lt.mpr z.2 h2)]
    · rw [if_neg h2, if_pos ⟨Int32.not_lt.mp h1, Int32.not_lt.mp h2⟩]
theorem i_eq (x lo hi : Int32) : f_X7_in x lo hi = some (if lo ≤ x ∧ x ≤ hi then 1 else 0) := w_eq x lo hi
theorem zb_ite (p : Prop) (d : Decidable p) : zb (@ite _ p d 1 0) = true := by
  by_cases h : p
  · rw [if_pos h]; rfl
  · rw [if_neg h]; rfl
theorem xt_eq (x : Int32) : f_X6_isTown x = some (if 0 ≤ x ∧ x ≤ 5 then 1 else 0) := by
  unfold f_X6_isTown
  rw [w_eq]
  show (bif zb _ then _ else none) = _
  rw [zb_ite]
  rfl
theorem xm_eq (x : Int32) : f_X6_isMint x = some (if 0 ≤ x ∧ x ≤ 2 then 1 else 0) := by
  unfold f_X6_isMint
  rw [w_eq]
  show (bif zb _ then _ else none) = _
  rw [zb_ite]
  rfl
theorem mt_eq (x : Int32) : f_X7_isTown x = some (if 0 ≤ x ∧ x ≤ 5 then 1 else 0) := by
  unfold f_X7_isTown
  rw [i_eq]
  show (bif zb _ then _ else none) = _
  rw [zb_ite]
  rfl
theorem mm_eq (x : Int32) : f_X7_isMint x = some (if 0 ≤ x ∧ x ≤ 2 then 1 else 0) := by
  unfold f_X7_isMint
  rw [i_eq]
  show (bif zb _ then _ else none) = _
  rw [zb_ite]
  rfl
/-- indices -/
theorem ix_nat {x : Int32} (h : 0 ≤ x) : (x.toNatClampNeg : Int) = x.toInt := by
  have := Int32.le_iff_toInt_le.mp h
  have h0 : (0 : Int32).toInt = 0 := by decide
  show ((x.toInt.toNat : Nat) : Int) = x.toInt
  omega
theorem ix_le {x : Int32} {n : Nat} (h : 0 ≤ x) (h1 : x ≤ Int32.ofNat n) (hn : n < 100000) : x.toNatClampNeg ≤ n := by
  have h2 := ix_nat h
  have h3 := Int32.le_iff_toInt_le.mp h1
  rw [Int32.toInt_ofNat_of_lt (by omega)] at h3
  omega
theorem ix_lt {x : Int32} {n : Nat} (h : 0 ≤ x) (h1 : x ≤ Int32.ofNat n - 1) (hn : n < 100000) : x.toNatClampNeg < n := by
  have h2 := ix_nat h
  have h3 := Int32.le_iff_toInt_le.mp h1
  rw [Int32.toInt_sub, Int32.toInt_ofNat_of_lt (by omega), show (1 : Int32).toInt = 1 from rfl, Int.bmod_eq_of_le (by omega) (by omega)] at h3
  have h4 := Int32.le_iff_toInt_le.mp h
  have h0 : (0 : Int32).toInt = 0 := by decide
  omega
theorem vin_of {x : Int32} {n : Nat} (h : 0 ≤ x) (h1 : x.toNatClampNeg < n) : vin x n = true := by
  unfold vin
  exact decide_eq_true (fun z => z.elim (fun q => Int32.not_lt.mpr h q) (fun q => by omega))
theorem ix_of {x : Int32} (h : 0 ≤ x) : x = Int32.ofNat x.toNatClampNeg := by
  apply Int32.toInt_inj.mp
  have h2 := ix_nat h
  rw [Int32.toInt_ofNat_of_lt (Int32.toNatClampNeg_lt x)]
  omega
end REL
