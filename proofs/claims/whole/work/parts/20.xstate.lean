/-! THE CLASS'S STATE: int columns, long columns, reference columns, counts of cells. Keys: 0..25 fixed, 1000+i lots, 2000+i sorts, 3000+o orders, 3200+o told, 3400+o pence, 3600+o grains -/
section XSTATE
abbrev xS : Type := (Nat → Nat → Int32) × (Nat → Nat → Int64) × (Nat → Nat → Option Nat) × (Nat → Nat)
def xi (σ : xS) (k : Nat) (f : Nat → Int32) : xS := (va_up σ.1 k f, σ.2)
def xl (σ : xS) (k : Nat) (f : Nat → Int64) : xS := (σ.1, va_up σ.2.1 k f, σ.2.2)
def xr (σ : xS) (k : Nat) (f : Nat → Option Nat) : xS := (σ.1, σ.2.1, va_up σ.2.2.1 k f, σ.2.2.2)
def xc (σ : xS) (k n : Nat) : xS := (σ.1, σ.2.1, σ.2.2.1, va_up σ.2.2.2 k n)
theorem h_up_eq {h h2 : hH} {k : Nat} {e : hE} (h1 : h2 k = some e) (h3 : ∀ i, i ≠ k → h2 i = h i) : hup h k e = h2 := by
  funext i
  by_cases q : i = k
  · rw [q, hup_self, h1]
  · rw [hup_ne q, h3 i q]
def lotF (σ : xS) (i : Nat) : List Value := [.int (σ.1 100 i), va_rf (σ.2.2.1 101 i), .int (σ.1 102 i), .int (σ.1 103 i), .int (σ.1 104 i), .int (σ.1 105 i), .int (σ.1 106 i), .int (σ.1 107 i), .int (σ.1 108 i), .int (σ.1 109 i), .int (σ.1 110 i), .int (σ.1 111 i)]
theorem lotF_0 (σ : xS) (i : Nat) : (lotF σ i)[0]? = some (.int (σ.1 100 i)) := rfl
theorem lotF_1 (σ : xS) (i : Nat) : (lotF σ i)[1]? = some (va_rf (σ.2.2.1 101 i)) := rfl
theorem lotF_2 (σ : xS) (i : Nat) : (lotF σ i)[2]? = some (.int (σ.1 102 i)) := rfl
theorem lotF_3 (σ : xS) (i : Nat) : (lotF σ i)[3]? = some (.int (σ.1 103 i)) := rfl
theorem lotF_4 (σ : xS) (i : Nat) : (lotF σ i)[4]? = some (.int (σ.1 104 i)) := rfl
theorem lotF_5 (σ : xS) (i : Nat) : (lotF σ i)[5]? = some (.int (σ.1 105 i)) := rfl
theorem lotF_6 (σ : xS) (i : Nat) : (lotF σ i)[6]? = some (.int (σ.1 106 i)) := rfl
theorem lotF_7 (σ : xS) (i : Nat) : (lotF σ i)[7]? = some (.int (σ.1 107 i)) := rfl
theorem lotF_8 (σ : xS) (i : Nat) : (lotF σ i)[8]? = some (.int (σ.1 108 i)) := rfl
theorem lotF_9 (σ : xS) (i : Nat) : (lotF σ i)[9]? = some (.int (σ.1 109 i)) := rfl
theorem lotF_10 (σ : xS) (i : Nat) : (lotF σ i)[10]? = some (.int (σ.1 110 i)) := rfl
theorem lotF_11 (σ : xS) (i : Nat) : (lotF σ i)[11]? = some (.int (σ.1 111 i)) := rfl
def sortF (σ : xS) (i : Nat) : List Value := [.int (σ.1 120 i), .int (σ.1 121 i), .int (σ.1 122 i), .int (σ.1 123 i)]
theorem sortF_0 (σ : xS) (i : Nat) : (sortF σ i)[0]? = some (.int (σ.1 120 i)) := rfl
theorem sortF_1 (σ : xS) (i : Nat) : (sortF σ i)[1]? = some (.int (σ.1 121 i)) := rfl
theorem sortF_2 (σ : xS) (i : Nat) : (sortF σ i)[2]? = some (.int (σ.1 122 i)) := rfl
theorem sortF_3 (σ : xS) (i : Nat) : (sortF σ i)[3]? = some (.int (σ.1 123 i)) := rfl
def ordF (σ : xS) (i : Nat) : List Value := [va_rf (σ.2.2.1 130 i), va_rf (σ.2.2.1 131 i), va_rf (σ.2.2.1 132 i)]
theorem ordF_0 (σ : xS) (i : Nat) : (ordF σ i)[0]? = some (va_rf (σ.2.2.1 130 i)) := rfl
theorem ordF_1 (σ : xS) (i : Nat) : (ordF σ i)[1]? = some (va_rf (σ.2.2.1 131 i)) := rfl
theorem ordF_2 (σ : xS) (i : Nat) : (ordF σ i)[2]? = some (va_rf (σ.2.2.1 132 i)) := rfl
def potF (σ : xS) (i : Nat) : List Value := [.long (σ.2.1 140 i), .long (σ.2.1 141 i), .int (σ.1 142 i), .long (σ.2.1 143 i), .long (σ.2.1 144 i), .long (σ.2.1 145 i), .int (σ.1 146 i), .int (σ.1 147 i), .int (σ.1 148 i)]
theorem potF_0 (σ : xS) (i : Nat) : (potF σ i)[0]? = some (.long (σ.2.1 140 i)) := rfl
theorem potF_1 (σ : xS) (i : Nat) : (potF σ i)[1]? = some (.long (σ.2.1 141 i)) := rfl
theorem potF_2 (σ : xS) (i : Nat) : (potF σ i)[2]? = some (.int (σ.1 142 i)) := rfl
theorem potF_3 (σ : xS) (i : Nat) : (potF σ i)[3]? = some (.long (σ.2.1 143 i)) := rfl
theorem potF_4 (σ : xS) (i : Nat) : (potF σ i)[4]? = some (.long (σ.2.1 144 i)) := rfl
theorem potF_5 (σ : xS) (i : Nat) : (potF σ i)[5]? = some (.long (σ.2.1 145 i)) := rfl
theorem potF_6 (σ : xS) (i : Nat) : (potF σ i)[6]? = some (.int (σ.1 146 i)) := rfl
theorem potF_7 (σ : xS) (i : Nat) : (potF σ i)[7]? = some (.int (σ.1 147 i)) := rfl
theorem potF_8 (σ : xS) (i : Nat) : (potF σ i)[8]? = some (.int (σ.1 148 i)) := rfl
def nsF (σ : xS) : List Value := [.ref 1, .int (σ.1 1 0), .ref 2, .int (σ.1 3 0), .ref 3, .int (σ.1 5 0), .ref 11, .ref 4, .ref 5, .ref 6, .ref 7, .int (σ.1 11 0), .ref 8, .ref 9, .ref 10, .ref 15, .int (σ.1 16 0)]
theorem nsF_0 (σ : xS) : (nsF σ)[0]? = some (.ref 1) := rfl
theorem nsF_1 (σ : xS) : (nsF σ)[1]? = some (.int (σ.1 1 0)) := rfl
theorem nsF_2 (σ : xS) : (nsF σ)[2]? = some (.ref 2) := rfl
theorem nsF_3 (σ : xS) : (nsF σ)[3]? = some (.int (σ.1 3 0)) := rfl
theorem nsF_4 (σ : xS) : (nsF σ)[4]? = some (.ref 3) := rfl
theorem nsF_5 (σ : xS) : (nsF σ)[5]? = some (.int (σ.1 5 0)) := rfl
theorem nsF_6 (σ : xS) : (nsF σ)[6]? = some (.ref 11) := rfl
theorem nsF_7 (σ : xS) : (nsF σ)[7]? = some (.ref 4) := rfl
theorem nsF_8 (σ : xS) : (nsF σ)[8]? = some (.ref 5) := rfl
theorem nsF_9 (σ : xS) : (nsF σ)[9]? = some (.ref 6) := rfl
theorem nsF_10 (σ : xS) : (nsF σ)[10]? = some (.ref 7) := rfl
theorem nsF_11 (σ : xS) : (nsF σ)[11]? = some (.int (σ.1 11 0)) := rfl
theorem nsF_12 (σ : xS) : (nsF σ)[12]? = some (.ref 8) := rfl
theorem nsF_13 (σ : xS) : (nsF σ)[13]? = some (.ref 9) := rfl
theorem nsF_14 (σ : xS) : (nsF σ)[14]? = some (.ref 10) := rfl
theorem nsF_15 (σ : xS) : (nsF σ)[15]? = some (.ref 15) := rfl
theorem nsF_16 (σ : xS) : (nsF σ)[16]? = some (.int (σ.1 16 0)) := rfl
def tpF (σ : xS) : List Value := [.ref 12, .ref 13, .int (σ.1 20 0), .ref 14, .int (σ.1 21 0)]
theorem tpF_0 (σ : xS) : (tpF σ)[0]? = some (.ref 12) := rfl
theorem tpF_1 (σ : xS) : (tpF σ)[1]? = some (.ref 13) := rfl
theorem tpF_2 (σ : xS) : (tpF σ)[2]? = some (.int (σ.1 20 0)) := rfl
theorem tpF_3 (σ : xS) : (tpF σ)[3]? = some (.ref 14) := rfl
theorem tpF_4 (σ : xS) : (tpF σ)[4]? = some (.int (σ.1 21 0)) := rfl
def crF (σ : xS) : List Value := [.ref 16, .ref 17, .ref 18, .ref 19, .ref 20, .ref 21, .ref 22]
theorem crF_0 (σ : xS) : (crF σ)[0]? = some (.ref 16) := rfl
theorem crF_1 (σ : xS) : (crF σ)[1]? = some (.ref 17) := rfl
theorem crF_2 (σ : xS) : (crF σ)[2]? = some (.ref 18) := rfl
theorem crF_3 (σ : xS) : (crF σ)[3]? = some (.ref 19) := rfl
theorem crF_4 (σ : xS) : (crF σ)[4]? = some (.ref 20) := rfl
theorem crF_5 (σ : xS) : (crF σ)[5]? = some (.ref 21) := rfl
theorem crF_6 (σ : xS) : (crF σ)[6]? = some (.ref 22) := rfl
def xL (σ : xS) : List (Option hE) := [some (.inr (6, nsF σ)), some (.inl (.object RX4, 8, .inr (.inr (.inr (.inr (σ.2.2.1 0)))))), some (.inl (.object RX1, 30, .inr (.inr (.inr (.inr (σ.2.2.1 2)))))), some (.inl (.object RX2, 10, .inr (.inr (.inr (.inr (σ.2.2.1 4)))))), some (.inl (.object RX3, 3, .inr (.inr (.inr (.inr (σ.2.2.1 7)))))), some (.inl (.int, 18, .inl (σ.1 8))), some (.inl (.long, 6, .inr (.inl (σ.2.1 9)))), some (.inl (.int, 30, .inl (σ.1 10))), some (.inl (.int, 30, .inl (σ.1 12))), some (.inl (.int, 3, .inl (σ.1 13))), some (.inl (.int, 6, .inl (σ.1 14))), some (.inr (5, tpF σ)), some (.inl (.int, 8, .inl (σ.1 22))), some (.inl (.int, 8, .inl (σ.1 23))), some (.inl (.byte, 160, .inl (σ.1 24))), some (.inr (0, crF σ)), some (.inl (.int, 3, .inl (σ.1 40))), some (.inl (.int, 6, .inl (σ.1 41))), some (.inl (.int, 18, .inl (σ.1 42))), some (.inl (.int, 3, .inl (σ.1 43))), some (.inl (.int, 6, .inl (σ.1 44))), some (.inl (.int, 3, .inl (σ.1 45))), some (.inl (.int, 6, .inl (σ.1 46))), some (.inr (3, potF σ 0)), some (.inr (3, potF σ 1)), some (.inr (3, potF σ 2))]
def gx (g : hH) (σ : xS) : hH := fun key =>
  if key < 1000 then nth (xL σ) key
  else if key < 2000 then (if key - 1000 < σ.2.2.2 1 then some (.inr (1, lotF σ (key - 1000))) else none)
  else if key < 3000 then (if key - 2000 < σ.2.2.2 0 then some (.inr (4, sortF σ (key - 2000))) else none)
  else if key < 3200 then (if key - 3000 < σ.2.2.2 2 then some (.inr (2, ordF σ (key - 3000))) else none)
  else if key < 3400 then (if key - 3200 < σ.2.2.2 6 then some (.inl (.int, 6, .inl (σ.1 (1000 + (key - 3200))))) else none)
  else if key < 3600 then (if key - 3400 < σ.2.2.2 7 then some (.inl (.int, 8, .inl (σ.1 (2000 + (key - 3400))))) else none)
  else if key < 3800 then (if key - 3600 < σ.2.2.2 8 then some (.inl (.int, 8, .inl (σ.1 (3000 + (key - 3600))))) else none)
  else g key
theorem xL_len (σ : xS) : (xL σ).length = 26 := rfl
theorem gx_lo {g : hH} {σ : xS} {k : Nat} (h : k < 1000) : gx g σ k = nth (xL σ) k := by unfold gx; rw [if_pos h]
theorem gx_1 {g : hH} {σ : xS} {k : Nat} (h1 : 1000 ≤ k) (h : k < 2000) : gx g σ k = if k - 1000 < σ.2.2.2 1 then some (.inr (1, lotF σ (k - 1000))) else none := by unfold gx; rw [if_neg (by omega), if_pos h]
theorem gx_2 {g : hH} {σ : xS} {k : Nat} (h1 : 2000 ≤ k) (h : k < 3000) : gx g σ k = if k - 2000 < σ.2.2.2 0 then some (.inr (4, sortF σ (k - 2000))) else none := by unfold gx; rw [if_neg (by omega), if_neg (by omega), if_pos h]
theorem gx_3 {g : hH} {σ : xS} {k : Nat} (h1 : 3000 ≤ k) (h : k < 3200) : gx g σ k = if k - 3000 < σ.2.2.2 2 then some (.inr (2, ordF σ (k - 3000))) else none := by unfold gx; rw [if_neg (by omega), if_neg (by omega), if_neg (by omega), if_pos h]
theorem gx_4 {g : hH} {σ : xS} {k : Nat} (h1 : 3200 ≤ k) (h : k < 3400) : gx g σ k = if k - 3200 < σ.2.2.2 6 then some (.inl (.int, 6, .inl (σ.1 (1000 + (k - 3200))))) else none := by unfold gx; rw [if_neg (by omega), if_neg (by omega), if_neg (by omega), if_neg (by omega), if_pos h]
theorem gx_5 {g : hH} {σ : xS} {k : Nat} (h1 : 3400 ≤ k) (h : k < 3600) : gx g σ k = if k - 3400 < σ.2.2.2 7 then some (.inl (.int, 8, .inl (σ.1 (2000 + (k - 3400))))) else none := by unfold gx; rw [if_neg (by omega), if_neg (by omega), if_neg (by omega), if_neg (by omega), if_neg (by omega), if_pos h]
theorem gx_6 {g : hH} {σ : xS} {k : Nat} (h1 : 3600 ≤ k) (h : k < 3800) : gx g σ k = if k - 3600 < σ.2.2.2 8 then some (.inl (.int, 8, .inl (σ.1 (3000 + (k - 3600))))) else none := by unfold gx; rw [if_neg (by omega), if_neg (by omega), if_neg (by omega), if_neg (by omega), if_neg (by omega), if_neg (by omega), if_pos h]
theorem gx_g {g : hH} {σ : xS} {k : Nat} (h : 3800 ≤ k) : gx g σ k = g k := by unfold gx; rw [if_neg (by omega), if_neg (by omega), if_neg (by omega), if_neg (by omega), if_neg (by omega), if_neg (by omega), if_neg (by omega)]
/-- another state whose cells are the same but for a part -/
theorem gx_eq {g : hH} {σ τ : xS} {k : Nat} (hL : k < 1000 → nth (xL τ) k = nth (xL σ) k) (hc : ∀ j, τ.2.2.2 j = σ.2.2.2 j) (h1 : 1000 ≤ k → k < 2000 → lotF τ (k - 1000) = lotF σ (k - 1000)) (h2 : 2000 ≤ k → k < 3000 → sortF τ (k - 2000) = sortF σ (k - 2000)) (h3 : 3000 ≤ k → k < 3200 → ordF τ (k - 3000) = ordF σ (k - 3000)) (h4 : 3200 ≤ k → k < 3400 → τ.1 (1000 + (k - 3200)) = σ.1 (1000 + (k - 3200))) (h5 : 3400 ≤ k → k < 3600 → τ.1 (2000 + (k - 3400)) = σ.1 (2000 + (k - 3400))) (h6 : 3600 ≤ k → k < 3800 → τ.1 (3000 + (k - 3600)) = σ.1 (3000 + (k - 3600))) : gx g τ k = gx g σ k := by
  by_cases q1 : k < 1000
  · rw [gx_lo q1, gx_lo q1, hL q1]
  by_cases q2 : k < 2000
  · rw [gx_1 (by omega) q2, gx_1 (by omega) q2, hc, h1 (by omega) q2]
  by_cases q3 : k < 3000
  · rw [gx_2 (by omega) q3, gx_2 (by omega) q3, hc, h2 (by omega) q3]
  by_cases q4 : k < 3200
  · rw [gx_3 (by omega) q4, gx_3 (by omega) q4, hc, h3 (by omega) q4]
  by_cases q5 : k < 3400
  · rw [gx_4 (by omega) q5, gx_4 (by omega) q5, hc, h4 (by omega) q5]
  by_cases q6 : k < 3600
  · rw [gx_5 (by omega) q6, gx_5 (by omega) q6, hc, h5 (by omega) q6]
  by_cases q7 : k < 3800
  · rw [gx_6 (by omega) q7, gx_6 (by omega) q7, hc, h6 (by omega) q7]
  · rw [gx_g (by omega), gx_g (by omega)]
theorem gx_eq2 {g : hH} {σ τ : xS} {k : Nat} (hL : k < 1000 → nth (xL τ) k = nth (xL σ) k) (h1 : 1000 ≤ k → k < 2000 → (if k - 1000 < τ.2.2.2 1 then some (Sum.inr (1, lotF τ (k - 1000)) : hE) else none) = if k - 1000 < σ.2.2.2 1 then some (Sum.inr (1, lotF σ (k - 1000))) else none) (h2 : 2000 ≤ k → k < 3000 → (if k - 2000 < τ.2.2.2 0 then some (Sum.inr (4, sortF τ (k - 2000)) : hE) else none) = if k - 2000 < σ.2.2.2 0 then some (Sum.inr (4, sortF σ (k - 2000))) else none) (h3 : 3000 ≤ k → k < 3200 → (if k - 3000 < τ.2.2.2 2 then some (Sum.inr (2, ordF τ (k - 3000)) : hE) else none) = if k - 3000 < σ.2.2.2 2 then some (Sum.inr (2, ordF σ (k - 3000))) else none) (h4 : 3200 ≤ k → k < 3400 → (if k - 3200 < τ.2.2.2 6 then some (Sum.inl (.int, 6, .inl (τ.1 (1000 + (k - 3200)))) : hE) else none) = if k - 3200 < σ.2.2.2 6 then some (Sum.inl (.int, 6, .inl (σ.1 (1000 + (k - 3200))))) else none) (h5 : 3400 ≤ k → k < 3600 → (if k - 3400 < τ.2.2.2 7 then some (Sum.inl (.int, 8, .inl (τ.1 (2000 + (k - 3400)))) : hE) else none) = if k - 3400 < σ.2.2.2 7 then some (Sum.inl (.int, 8, .inl (σ.1 (2000 + (k - 3400))))) else none) (h6 : 3600 ≤ k → k < 3800 → (if k - 3600 < τ.2.2.2 8 then some (Sum.inl (.int, 8, .inl (τ.1 (3000 + (k - 3600)))) : hE) else none) = if k - 3600 < σ.2.2.2 8 then some (Sum.inl (.int, 8, .inl (σ.1 (3000 + (k - 3600))))) else none) : gx g τ k = gx g σ k := by
  by_cases q1 : k < 1000
  · rw [gx_lo q1, gx_lo q1, hL q1]
  by_cases q2 : k < 2000
  · rw [gx_1 (by omega) q2, gx_1 (by omega) q2, h1 (by omega) q2]
  by_cases q3 : k < 3000
  · rw [gx_2 (by omega) q3, gx_2 (by omega) q3, h2 (by omega) q3]
  by_cases q4 : k < 3200
  · rw [gx_3 (by omega) q4, gx_3 (by omega) q4, h3 (by omega) q4]
  by_cases q5 : k < 3400
  · rw [gx_4 (by omega) q5, gx_4 (by omega) q5, h4 (by omega) q5]
  by_cases q6 : k < 3600
  · rw [gx_5 (by omega) q6, gx_5 (by omega) q6, h5 (by omega) q6]
  by_cases q7 : k < 3800
  · rw [gx_6 (by omega) q7, gx_6 (by omega) q7, h6 (by omega) q7]
  · rw [gx_g (by omega), gx_g (by omega)]
/-- int columns other than the families' -/
theorem xi_c (σ : xS) (k : Nat) (f : Nat → Int32) (j : Nat) : (xi σ k f).2.2.2 j = σ.2.2.2 j := rfl
theorem xi_ne {σ : xS} {k j : Nat} {f : Nat → Int32} (h : j ≠ k) : (xi σ k f).1 j = σ.1 j := va_up_ne _ _ h
theorem xi_self (σ : xS) (k : Nat) (f : Nat → Int32) : (xi σ k f).1 k = f := va_up_self _ _ _
/-- a fixed cell is written -/
theorem gx_up (g : hH) (σ τ : xS) (j : Nat) (e : hE) (hj : j < 26) (hL : xL τ = (xL σ).set j (some e)) (hc : ∀ j, τ.2.2.2 j = σ.2.2.2 j) (h1 : ∀ i, lotF τ i = lotF σ i) (h2 : ∀ i, sortF τ i = sortF σ i) (h3 : ∀ i, ordF τ i = ordF σ i) (h4 : ∀ i, 500 ≤ i → τ.1 i = σ.1 i) : hup (gx g σ) j e = gx g τ := by
  refine h_up_eq ?_ (fun i hi => gx_eq (fun q => ?_) hc (fun _ _ => h1 _) (fun _ _ => h2 _) (fun _ _ => h3 _) (fun _ _ => h4 _ (by omega)) (fun _ _ => h4 _ (by omega)) (fun _ _ => h4 _ (by omega)))
  · rw [gx_lo (by omega), hL, nth_set _ _ _ _ (by rw [xL_len]; exact hj), if_pos rfl]
  · rw [hL, nth_set _ _ _ _ (by rw [xL_len]; exact hj), if_neg hi]
theorem gxk_0 (g : hH) (σ : xS) : gx g σ 0 = some (.inr (6, nsF σ)) := (gx_lo (Nat.le_of_ble_eq_true rfl)).trans rfl
theorem gxk_1 (g : hH) (σ : xS) : gx g σ 1 = some (.inl (.object RX4, 8, .inr (.inr (.inr (.inr (σ.2.2.1 0)))))) := (gx_lo (Nat.le_of_ble_eq_true rfl)).trans rfl
theorem gxk_2 (g : hH) (σ : xS) : gx g σ 2 = some (.inl (.object RX1, 30, .inr (.inr (.inr (.inr (σ.2.2.1 2)))))) := (gx_lo (Nat.le_of_ble_eq_true rfl)).trans rfl
theorem gxk_3 (g : hH) (σ : xS) : gx g σ 3 = some (.inl (.object RX2, 10, .inr (.inr (.inr (.inr (σ.2.2.1 4)))))) := (gx_lo (Nat.le_of_ble_eq_true rfl)).trans rfl
theorem gxk_4 (g : hH) (σ : xS) : gx g σ 4 = some (.inl (.object RX3, 3, .inr (.inr (.inr (.inr (σ.2.2.1 7)))))) := (gx_lo (Nat.le_of_ble_eq_true rfl)).trans rfl
theorem gxk_5 (g : hH) (σ : xS) : gx g σ 5 = some (.inl (.int, 18, .inl (σ.1 8))) := (gx_lo (Nat.le_of_ble_eq_true rfl)).trans rfl
theorem gxk_6 (g : hH) (σ : xS) : gx g σ 6 = some (.inl (.long, 6, .inr (.inl (σ.2.1 9)))) := (gx_lo (Nat.le_of_ble_eq_true rfl)).trans rfl
theorem gxk_7 (g : hH) (σ : xS) : gx g σ 7 = some (.inl (.int, 30, .inl (σ.1 10))) := (gx_lo (Nat.le_of_ble_eq_true rfl)).trans rfl
theorem gxk_8 (g : hH) (σ : xS) : gx g σ 8 = some (.inl (.int, 30, .inl (σ.1 12))) := (gx_lo (Nat.le_of_ble_eq_true rfl)).trans rfl
theorem gxk_9 (g : hH) (σ : xS) : gx g σ 9 = some (.inl (.int, 3, .inl (σ.1 13))) := (gx_lo (Nat.le_of_ble_eq_true rfl)).trans rfl
theorem gxk_10 (g : hH) (σ : xS) : gx g σ 10 = some (.inl (.int, 6, .inl (σ.1 14))) := (gx_lo (Nat.le_of_ble_eq_true rfl)).trans rfl
theorem gxk_11 (g : hH) (σ : xS) : gx g σ 11 = some (.inr (5, tpF σ)) := (gx_lo (Nat.le_of_ble_eq_true rfl)).trans rfl
theorem gxk_12 (g : hH) (σ : xS) : gx g σ 12 = some (.inl (.int, 8, .inl (σ.1 22))) := (gx_lo (Nat.le_of_ble_eq_true rfl)).trans rfl
theorem gxk_13 (g : hH) (σ : xS) : gx g σ 13 = some (.inl (.int, 8, .inl (σ.1 23))) := (gx_lo (Nat.le_of_ble_eq_true rfl)).trans rfl
theorem gxk_14 (g : hH) (σ : xS) : gx g σ 14 = some (.inl (.byte, 160, .inl (σ.1 24))) := (gx_lo (Nat.le_of_ble_eq_true rfl)).trans rfl
theorem gxk_15 (g : hH) (σ : xS) : gx g σ 15 = some (.inr (0, crF σ)) := (gx_lo (Nat.le_of_ble_eq_true rfl)).trans rfl
theorem gxk_16 (g : hH) (σ : xS) : gx g σ 16 = some (.inl (.int, 3, .inl (σ.1 40))) := (gx_lo (Nat.le_of_ble_eq_true rfl)).trans rfl
theorem gxk_17 (g : hH) (σ : xS) : gx g σ 17 = some (.inl (.int, 6, .inl (σ.1 41))) := (gx_lo (Nat.le_of_ble_eq_true rfl)).trans rfl
theorem gxk_18 (g : hH) (σ : xS) : gx g σ 18 = some (.inl (.int, 18, .inl (σ.1 42))) := (gx_lo (Nat.le_of_ble_eq_true rfl)).trans rfl
theorem gxk_19 (g : hH) (σ : xS) : gx g σ 19 = some (.inl (.int, 3, .inl (σ.1 43))) := (gx_lo (Nat.le_of_ble_eq_true rfl)).trans rfl
theorem gxk_20 (g : hH) (σ : xS) : gx g σ 20 = some (.inl (.int, 6, .inl (σ.1 44))) := (gx_lo (Nat.le_of_ble_eq_true rfl)).trans rfl
theorem gxk_21 (g : hH) (σ : xS) : gx g σ 21 = some (.inl (.int, 3, .inl (σ.1 45))) := (gx_lo (Nat.le_of_ble_eq_true rfl)).trans rfl
theorem gxk_22 (g : hH) (σ : xS) : gx g σ 22 = some (.inl (.int, 6, .inl (σ.1 46))) := (gx_lo (Nat.le_of_ble_eq_true rfl)).trans rfl
theorem gxs_5 (g : hH) (σ : xS) (f : Nat → Int32) : hup (gx g σ) 5 (.inl (.int, 18, .inl f)) = gx g (xi σ 8 f) := gx_up g σ (xi σ 8 f) 5 _ (by decide) rfl (fun _ => rfl) (fun _ => rfl) (fun _ => rfl) (fun _ => rfl) (fun i hi => xi_ne (by omega))
theorem gxs_6 (g : hH) (σ : xS) (f : Nat → Int64) : hup (gx g σ) 6 (.inl (.long, 6, .inr (.inl f))) = gx g (xl σ 9 f) := gx_up g σ (xl σ 9 f) 6 _ (by decide) rfl (fun _ => rfl) (fun _ => rfl) (fun _ => rfl) (fun _ => rfl) (fun i hi => rfl)
theorem gxs_7 (g : hH) (σ : xS) (f : Nat → Int32) : hup (gx g σ) 7 (.inl (.int, 30, .inl f)) = gx g (xi σ 10 f) := gx_up g σ (xi σ 10 f) 7 _ (by decide) rfl (fun _ => rfl) (fun _ => rfl) (fun _ => rfl) (fun _ => rfl) (fun i hi => xi_ne (by omega))
theorem gxs_8 (g : hH) (σ : xS) (f : Nat → Int32) : hup (gx g σ) 8 (.inl (.int, 30, .inl f)) = gx g (xi σ 12 f) := gx_up g σ (xi σ 12 f) 8 _ (by decide) rfl (fun _ => rfl) (fun _ => rfl) (fun _ => rfl) (fun _ => rfl) (fun i hi => xi_ne (by omega))
theorem gxs_9 (g : hH) (σ : xS) (f : Nat → Int32) : hup (gx g σ) 9 (.inl (.int, 3, .inl f)) = gx g (xi σ 13 f) := gx_up g σ (xi σ 13 f) 9 _ (by decide) rfl (fun _ => rfl) (fun _ => rfl) (fun _ => rfl) (fun _ => rfl) (fun i hi => xi_ne (by omega))
theorem gxs_10 (g : hH) (σ : xS) (f : Nat → Int32) : hup (gx g σ) 10 (.inl (.int, 6, .inl f)) = gx g (xi σ 14 f) := gx_up g σ (xi σ 14 f) 10 _ (by decide) rfl (fun _ => rfl) (fun _ => rfl) (fun _ => rfl) (fun _ => rfl) (fun i hi => xi_ne (by omega))
theorem gxs_12 (g : hH) (σ : xS) (f : Nat → Int32) : hup (gx g σ) 12 (.inl (.int, 8, .inl f)) = gx g (xi σ 22 f) := gx_up g σ (xi σ 22 f) 12 _ (by decide) rfl (fun _ => rfl) (fun _ => rfl) (fun _ => rfl) (fun _ => rfl) (fun i hi => xi_ne (by omega))
theorem gxs_13 (g : hH) (σ : xS) (f : Nat → Int32) : hup (gx g σ) 13 (.inl (.int, 8, .inl f)) = gx g (xi σ 23 f) := gx_up g σ (xi σ 23 f) 13 _ (by decide) rfl (fun _ => rfl) (fun _ => rfl) (fun _ => rfl) (fun _ => rfl) (fun i hi => xi_ne (by omega))
theorem gxs_14 (g : hH) (σ : xS) (f : Nat → Int32) : hup (gx g σ) 14 (.inl (.byte, 160, .inl f)) = gx g (xi σ 24 f) := gx_up g σ (xi σ 24 f) 14 _ (by decide) rfl (fun _ => rfl) (fun _ => rfl) (fun _ => rfl) (fun _ => rfl) (fun i hi => xi_ne (by omega))
theorem gxs_16 (g : hH) (σ : xS) (f : Nat → Int32) : hup (gx g σ) 16 (.inl (.int, 3, .inl f)) = gx g (xi σ 40 f) := gx_up g σ (xi σ 40 f) 16 _ (by decide) rfl (fun _ => rfl) (fun _ => rfl) (fun _ => rfl) (fun _ => rfl) (fun i hi => xi_ne (by omega))
theorem gxs_17 (g : hH) (σ : xS) (f : Nat → Int32) : hup (gx g σ) 17 (.inl (.int, 6, .inl f)) = gx g (xi σ 41 f) := gx_up g σ (xi σ 41 f) 17 _ (by decide) rfl (fun _ => rfl) (fun _ => rfl) (fun _ => rfl) (fun _ => rfl) (fun i hi => xi_ne (by omega))
theorem gxs_18 (g : hH) (σ : xS) (f : Nat → Int32) : hup (gx g σ) 18 (.inl (.int, 18, .inl f)) = gx g (xi σ 42 f) := gx_up g σ (xi σ 42 f) 18 _ (by decide) rfl (fun _ => rfl) (fun _ => rfl) (fun _ => rfl) (fun _ => rfl) (fun i hi => xi_ne (by omega))
theorem gxs_19 (g : hH) (σ : xS) (f : Nat → Int32) : hup (gx g σ) 19 (.inl (.int, 3, .inl f)) = gx g (xi σ 43 f) := gx_up g σ (xi σ 43 f) 19 _ (by decide) rfl (fun _ => rfl) (fun _ => rfl) (fun _ => rfl) (fun _ => rfl) (fun i hi => xi_ne (by omega))
theorem gxs_20 (g : hH) (σ : xS) (f : Nat → Int32) : hup (gx g σ) 20 (.inl (.int, 6, .inl f)) = gx g (xi σ 44 f) := gx_up g σ (xi σ 44 f) 20 _ (by decide) rfl (fun _ => rfl) (fun _ => rfl) (fun _ => rfl) (fun _ => rfl) (fun i hi => xi_ne (by omega))
theorem gxs_21 (g : hH) (σ : xS) (f : Nat → Int32) : hup (gx g σ) 21 (.inl (.int, 3, .inl f)) = gx g (xi σ 45 f) := gx_up g σ (xi σ 45 f) 21 _ (by decide) rfl (fun _ => rfl) (fun _ => rfl) (fun _ => rfl) (fun _ => rfl) (fun i hi => xi_ne (by omega))
theorem gxs_22 (g : hH) (σ : xS) (f : Nat → Int32) : hup (gx g σ) 22 (.inl (.int, 6, .inl f)) = gx g (xi σ 46 f) := gx_up g σ (xi σ 46 f) 22 _ (by decide) rfl (fun _ => rfl) (fun _ => rfl) (fun _ => rfl) (fun _ => rfl) (fun i hi => xi_ne (by omega))
theorem gxs_1 (g : hH) (σ : xS) (f : Nat → Option Nat) : hup (gx g σ) 1 (.inl (.object RX4, 8, .inr (.inr (.inr (.inr f))))) = gx g (xr σ 0 f) := gx_up g σ (xr σ 0 f) 1 _ (by decide) rfl (fun _ => rfl) (fun _ => rfl) (fun _ => rfl) (fun _ => rfl) (fun i hi => rfl)
theorem gxs_2 (g : hH) (σ : xS) (f : Nat → Option Nat) : hup (gx g σ) 2 (.inl (.object RX1, 30, .inr (.inr (.inr (.inr f))))) = gx g (xr σ 2 f) := gx_up g σ (xr σ 2 f) 2 _ (by decide) rfl (fun _ => rfl) (fun _ => rfl) (fun _ => rfl) (fun _ => rfl) (fun i hi => rfl)
theorem gxs_3 (g : hH) (σ : xS) (f : Nat → Option Nat) : hup (gx g σ) 3 (.inl (.object RX2, 10, .inr (.inr (.inr (.inr f))))) = gx g (xr σ 4 f) := gx_up g σ (xr σ 4 f) 3 _ (by decide) rfl (fun _ => rfl) (fun _ => rfl) (fun _ => rfl) (fun _ => rfl) (fun i hi => rfl)
theorem gxs_4 (g : hH) (σ : xS) (f : Nat → Option Nat) : hup (gx g σ) 4 (.inl (.object RX3, 3, .inr (.inr (.inr (.inr f))))) = gx g (xr σ 7 f) := gx_up g σ (xr σ 7 f) 4 _ (by decide) rfl (fun _ => rfl) (fun _ => rfl) (fun _ => rfl) (fun _ => rfl) (fun i hi => rfl)
theorem nss_1 (g : hH) (σ : xS) (x : Int32) : hup (gx g σ) 0 (.inr (6, (nsF σ).set 1 (.int x))) = gx g (xi σ 1 (fun _ => x)) := gx_up g σ (xi σ 1 (fun _ => x)) 0 _ (by decide) rfl (fun _ => rfl) (fun _ => rfl) (fun _ => rfl) (fun _ => rfl) (fun i hi => xi_ne (by omega))
theorem nss_3 (g : hH) (σ : xS) (x : Int32) : hup (gx g σ) 0 (.inr (6, (nsF σ).set 3 (.int x))) = gx g (xi σ 3 (fun _ => x)) := gx_up g σ (xi σ 3 (fun _ => x)) 0 _ (by decide) rfl (fun _ => rfl) (fun _ => rfl) (fun _ => rfl) (fun _ => rfl) (fun i hi => xi_ne (by omega))
theorem nss_5 (g : hH) (σ : xS) (x : Int32) : hup (gx g σ) 0 (.inr (6, (nsF σ).set 5 (.int x))) = gx g (xi σ 5 (fun _ => x)) := gx_up g σ (xi σ 5 (fun _ => x)) 0 _ (by decide) rfl (fun _ => rfl) (fun _ => rfl) (fun _ => rfl) (fun _ => rfl) (fun i hi => xi_ne (by omega))
theorem nss_11 (g : hH) (σ : xS) (x : Int32) : hup (gx g σ) 0 (.inr (6, (nsF σ).set 11 (.int x))) = gx g (xi σ 11 (fun _ => x)) := gx_up g σ (xi σ 11 (fun _ => x)) 0 _ (by decide) rfl (fun _ => rfl) (fun _ => rfl) (fun _ => rfl) (fun _ => rfl) (fun i hi => xi_ne (by omega))
theorem nss_16 (g : hH) (σ : xS) (x : Int32) : hup (gx g σ) 0 (.inr (6, (nsF σ).set 16 (.int x))) = gx g (xi σ 16 (fun _ => x)) := gx_up g σ (xi σ 16 (fun _ => x)) 0 _ (by decide) rfl (fun _ => rfl) (fun _ => rfl) (fun _ => rfl) (fun _ => rfl) (fun i hi => xi_ne (by omega))
theorem tps_2 (g : hH) (σ : xS) (x : Int32) : hup (gx g σ) 11 (.inr (5, (tpF σ).set 2 (.int x))) = gx g (xi σ 20 (fun _ => x)) := gx_up g σ (xi σ 20 (fun _ => x)) 11 _ (by decide) rfl (fun _ => rfl) (fun _ => rfl) (fun _ => rfl) (fun _ => rfl) (fun i hi => xi_ne (by omega))
theorem tps_4 (g : hH) (σ : xS) (x : Int32) : hup (gx g σ) 11 (.inr (5, (tpF σ).set 4 (.int x))) = gx g (xi σ 21 (fun _ => x)) := gx_up g σ (xi σ 21 (fun _ => x)) 11 _ (by decide) rfl (fun _ => rfl) (fun _ => rfl) (fun _ => rfl) (fun _ => rfl) (fun i hi => xi_ne (by omega))
def isL (σ : xS) (k : Nat) : Bool := decide (1000 ≤ k ∧ k < 2000 ∧ k - 1000 < σ.2.2.2 1)
def isS (σ : xS) (k : Nat) : Bool := decide (2000 ≤ k ∧ k < 3000 ∧ k - 2000 < σ.2.2.2 0)
def isO (σ : xS) (k : Nat) : Bool := decide (3000 ≤ k ∧ k < 3200 ∧ k - 3000 < σ.2.2.2 2)
def isT (σ : xS) (k : Nat) : Bool := decide (3200 ≤ k ∧ k < 3400 ∧ k - 3200 < σ.2.2.2 6)
def isPe (σ : xS) (k : Nat) : Bool := decide (3400 ≤ k ∧ k < 3600 ∧ k - 3400 < σ.2.2.2 7)
def isGr (σ : xS) (k : Nat) : Bool := decide (3600 ≤ k ∧ k < 3800 ∧ k - 3600 < σ.2.2.2 8)
def isP (σ : xS) (k : Nat) : Bool := decide (23 ≤ k ∧ k ≤ 25)
theorem gx_lot {g : hH} {σ : xS} {k : Nat} (c : isL σ k = true) : gx g σ k = some (.inr (1, lotF σ (k - 1000))) := by
  have q : 1000 ≤ k ∧ k < 2000 ∧ k - 1000 < σ.2.2.2 1 := of_decide_eq_true c
  rw [gx_1 q.1 q.2.1, if_pos q.2.2]
theorem gx_sort {g : hH} {σ : xS} {k : Nat} (c : isS σ k = true) : gx g σ k = some (.inr (4, sortF σ (k - 2000))) := by
  have q : 2000 ≤ k ∧ k < 3000 ∧ k - 2000 < σ.2.2.2 0 := of_decide_eq_true c
  rw [gx_2 q.1 q.2.1, if_pos q.2.2]
theorem gx_ord {g : hH} {σ : xS} {k : Nat} (c : isO σ k = true) : gx g σ k = some (.inr (2, ordF σ (k - 3000))) := by
  have q : 3000 ≤ k ∧ k < 3200 ∧ k - 3000 < σ.2.2.2 2 := of_decide_eq_true c
  rw [gx_3 q.1 q.2.1, if_pos q.2.2]
theorem gx_told {g : hH} {σ : xS} {k : Nat} (c : isT σ k = true) : gx g σ k = some (.inl (.int, 6, .inl (σ.1 (1000 + (k - 3200))))) := by
  have q : 3200 ≤ k ∧ k < 3400 ∧ k - 3200 < σ.2.2.2 6 := of_decide_eq_true c
  rw [gx_4 q.1 q.2.1, if_pos q.2.2]
theorem gx_pence {g : hH} {σ : xS} {k : Nat} (c : isPe σ k = true) : gx g σ k = some (.inl (.int, 8, .inl (σ.1 (2000 + (k - 3400))))) := by
  have q : 3400 ≤ k ∧ k < 3600 ∧ k - 3400 < σ.2.2.2 7 := of_decide_eq_true c
  rw [gx_5 q.1 q.2.1, if_pos q.2.2]
theorem gx_grains {g : hH} {σ : xS} {k : Nat} (c : isGr σ k = true) : gx g σ k = some (.inl (.int, 8, .inl (σ.1 (3000 + (k - 3600))))) := by
  have q : 3600 ≤ k ∧ k < 3800 ∧ k - 3600 < σ.2.2.2 8 := of_decide_eq_true c
  rw [gx_6 q.1 q.2.1, if_pos q.2.2]
theorem gx_pot {g : hH} {σ : xS} {k : Nat} (c : isP σ k = true) : gx g σ k = some (.inr (3, potF σ (k - 23))) := by
  have q : 23 ≤ k ∧ k ≤ 25 := of_decide_eq_true c
  have : k = 23 ∨ k = 24 ∨ k = 25 := by omega
  rcases this with rfl | rfl | rfl <;> exact (gx_lo (Nat.le_of_ble_eq_true rfl)).trans rfl
theorem lt_L {σ : xS} {k : Nat} (c : isL σ k = true) : k < 9000 := by have q : 1000 ≤ k ∧ k < 2000 ∧ k - 1000 < σ.2.2.2 1 := of_decide_eq_true c; omega
theorem lt_S {σ : xS} {k : Nat} (c : isS σ k = true) : k < 9000 := by have q : 2000 ≤ k ∧ k < 3000 ∧ k - 2000 < σ.2.2.2 0 := of_decide_eq_true c; omega
theorem lt_O {σ : xS} {k : Nat} (c : isO σ k = true) : k < 9000 := by have q : 3000 ≤ k ∧ k < 3200 ∧ k - 3000 < σ.2.2.2 2 := of_decide_eq_true c; omega
theorem lt_T {σ : xS} {k : Nat} (c : isT σ k = true) : k < 9000 := by have q : 3200 ≤ k ∧ k < 3400 ∧ k - 3200 < σ.2.2.2 6 := of_decide_eq_true c; omega
theorem lt_P {σ : xS} {k : Nat} (c : isP σ k = true) : k < 9000 := by have q : 23 ≤ k ∧ k ≤ 25 := of_decide_eq_true c; omega

/-- the int columns below 500 are the same -/
theorem x_low {σ τ : xS} (h : ∀ j, j < 500 → τ.1 j = σ.1 j) (h2 : τ.2.1 = σ.2.1) (h3 : τ.2.2.1 = σ.2.2.1) : xL τ = xL σ ∧ (∀ i, lotF τ i = lotF σ i) ∧ (∀ i, sortF τ i = sortF σ i) ∧ (∀ i, ordF τ i = ordF σ i) := by
  refine ⟨?_, fun i => ?_, fun i => ?_, fun i => ?_⟩
  · simp only [xL, nsF, tpF, crF, potF, h2, h3, h 1 (by decide), h 3 (by decide), h 5 (by decide), h 8 (by decide), h 10 (by decide), h 11 (by decide), h 12 (by decide), h 13 (by decide), h 14 (by decide), h 16 (by decide), h 20 (by decide), h 21 (by decide), h 22 (by decide), h 23 (by decide), h 24 (by decide), h 40 (by decide), h 41 (by decide), h 42 (by decide), h 43 (by decide), h 44 (by decide), h 45 (by decide), h 46 (by decide), h 100 (by decide), h 101 (by decide), h 102 (by decide), h 103 (by decide), h 104 (by decide), h 105 (by decide), h 106 (by decide), h 107 (by decide), h 108 (by decide), h 109 (by decide), h 110 (by decide), h 111 (by decide), h 120 (by decide), h 121 (by decide), h 122 (by decide), h 123 (by decide), h 140 (by decide), h 141 (by decide), h 142 (by decide), h 143 (by decide), h 144 (by decide), h 145 (by decide), h 146 (by decide), h 147 (by decide), h 148 (by decide)]
  · simp only [lotF, h2, h3, h 1 (by decide), h 3 (by decide), h 5 (by decide), h 8 (by decide), h 10 (by decide), h 11 (by decide), h 12 (by decide), h 13 (by decide), h 14 (by decide), h 16 (by decide), h 20 (by decide), h 21 (by decide), h 22 (by decide), h 23 (by decide), h 24 (by decide), h 40 (by decide), h 41 (by decide), h 42 (by decide), h 43 (by decide), h 44 (by decide), h 45 (by decide), h 46 (by decide), h 100 (by decide), h 101 (by decide), h 102 (by decide), h 103 (by decide), h 104 (by decide), h 105 (by decide), h 106 (by decide), h 107 (by decide), h 108 (by decide), h 109 (by decide), h 110 (by decide), h 111 (by decide), h 120 (by decide), h 121 (by decide), h 122 (by decide), h 123 (by decide), h 140 (by decide), h 141 (by decide), h 142 (by decide), h 143 (by decide), h 144 (by decide), h 145 (by decide), h 146 (by decide), h 147 (by decide), h 148 (by decide)]
  · simp only [sortF, h2, h3, h 1 (by decide), h 3 (by decide), h 5 (by decide), h 8 (by decide), h 10 (by decide), h 11 (by decide), h 12 (by decide), h 13 (by decide), h 14 (by decide), h 16 (by decide), h 20 (by decide), h 21 (by decide), h 22 (by decide), h 23 (by decide), h 24 (by decide), h 40 (by decide), h 41 (by decide), h 42 (by decide), h 43 (by decide), h 44 (by decide), h 45 (by decide), h 46 (by decide), h 100 (by decide), h 101 (by decide), h 102 (by decide), h 103 (by decide), h 104 (by decide), h 105 (by decide), h 106 (by decide), h 107 (by decide), h 108 (by decide), h 109 (by decide), h 110 (by decide), h 111 (by decide), h 120 (by decide), h 121 (by decide), h 122 (by decide), h 123 (by decide), h 140 (by decide), h 141 (by decide), h 142 (by decide), h 143 (by decide), h 144 (by decide), h 145 (by decide), h 146 (by decide), h 147 (by decide), h 148 (by decide)]
  · simp only [ordF, h2, h3]
theorem gxs_told {g : hH} {σ : xS} {k : Nat} (c : isT σ k = true) (f : Nat → Int32) : hup (gx g σ) k (.inl (.int, 6, .inl f)) = gx g (xi σ (1000 + (k - 3200)) f) := by
  have q : 3200 ≤ k ∧ k < 3400 ∧ k - 3200 < σ.2.2.2 6 := of_decide_eq_true c
  obtain ⟨a1, a2, a3, a4⟩ := x_low (σ := σ) (τ := xi σ (1000 + (k - 3200)) f) (fun j hj => xi_ne (by omega)) rfl rfl
  refine h_up_eq ?_ (fun i hi => gx_eq (fun _ => by rw [a1]) (fun _ => rfl) (fun _ _ => a2 _) (fun _ _ => a3 _) (fun _ _ => a4 _) (fun z1 z2 => xi_ne (by omega)) (fun z1 z2 => xi_ne (by omega)) (fun z1 z2 => xi_ne (by omega)))
  rw [gx_told (show isT (xi σ (1000 + (k - 3200)) f) k = true from c), xi_self]
theorem lots_0 {g : hH} {σ : xS} {k : Nat} (c : isL σ k = true) (x : Int32) : hup (gx g σ) k (.inr (1, (lotF σ (k - 1000)).set 0 (.int x))) = gx g (xi σ 100 (va_up (σ.1 100) (k - 1000) x)) := by
  refine h_up_eq ?_ (fun i hi => gx_eq (fun _ => rfl) (fun _ => rfl) (fun z1 z2 => ?_) (fun _ _ => rfl) (fun _ _ => rfl) (fun z1 z2 => xi_ne (by omega)) (fun z1 z2 => xi_ne (by omega)) (fun z1 z2 => xi_ne (by omega)))
  · rw [gx_lot (show isL (xi σ 100 (va_up (σ.1 100) (k - 1000) x)) k = true from c)]
    simp [lotF, xi, va_up, va_rf]
  · have q := of_decide_eq_true c
    have z : i - 1000 ≠ k - 1000 := by omega
    simp [lotF, xi, va_up, z]
theorem lots_1 {g : hH} {σ : xS} {k : Nat} (c : isL σ k = true) (x : Nat) : hup (gx g σ) k (.inr (1, (lotF σ (k - 1000)).set 1 (.ref x))) = gx g (xr σ 101 (va_up (σ.2.2.1 101) (k - 1000) (some x))) := by
  refine h_up_eq ?_ (fun i hi => gx_eq (fun _ => rfl) (fun _ => rfl) (fun z1 z2 => ?_) (fun _ _ => rfl) (fun _ _ => rfl) (fun _ _ => rfl) (fun _ _ => rfl) (fun _ _ => rfl))
  · rw [gx_lot (show isL (xr σ 101 (va_up (σ.2.2.1 101) (k - 1000) (some x))) k = true from c)]
    simp [lotF, xr, va_up, va_rf]
  · have q := of_decide_eq_true c
    have z : i - 1000 ≠ k - 1000 := by omega
    simp [lotF, xr, va_up, z]
theorem lots_2 {g : hH} {σ : xS} {k : Nat} (c : isL σ k = true) (x : Int32) : hup (gx g σ) k (.inr (1, (lotF σ (k - 1000)).set 2 (.int x))) = gx g (xi σ 102 (va_up (σ.1 102) (k - 1000) x)) := by
  refine h_up_eq ?_ (fun i hi => gx_eq (fun _ => rfl) (fun _ => rfl) (fun z1 z2 => ?_) (fun _ _ => rfl) (fun _ _ => rfl) (fun z1 z2 => xi_ne (by omega)) (fun z1 z2 => xi_ne (by omega)) (fun z1 z2 => xi_ne (by omega)))
  · rw [gx_lot (show isL (xi σ 102 (va_up (σ.1 102) (k - 1000) x)) k = true from c)]
    simp [lotF, xi, va_up, va_rf]
  · have q := of_decide_eq_true c
    have z : i - 1000 ≠ k - 1000 := by omega
    simp [lotF, xi, va_up, z]
theorem lots_3 {g : hH} {σ : xS} {k : Nat} (c : isL σ k = true) (x : Int32) : hup (gx g σ) k (.inr (1, (lotF σ (k - 1000)).set 3 (.int x))) = gx g (xi σ 103 (va_up (σ.1 103) (k - 1000) x)) := by
  refine h_up_eq ?_ (fun i hi => gx_eq (fun _ => rfl) (fun _ => rfl) (fun z1 z2 => ?_) (fun _ _ => rfl) (fun _ _ => rfl) (fun z1 z2 => xi_ne (by omega)) (fun z1 z2 => xi_ne (by omega)) (fun z1 z2 => xi_ne (by omega)))
  · rw [gx_lot (show isL (xi σ 103 (va_up (σ.1 103) (k - 1000) x)) k = true from c)]
    simp [lotF, xi, va_up, va_rf]
  · have q := of_decide_eq_true c
    have z : i - 1000 ≠ k - 1000 := by omega
    simp [lotF, xi, va_up, z]
theorem lots_4 {g : hH} {σ : xS} {k : Nat} (c : isL σ k = true) (x : Int32) : hup (gx g σ) k (.inr (1, (lotF σ (k - 1000)).set 4 (.int x))) = gx g (xi σ 104 (va_up (σ.1 104) (k - 1000) x)) := by
  refine h_up_eq ?_ (fun i hi => gx_eq (fun _ => rfl) (fun _ => rfl) (fun z1 z2 => ?_) (fun _ _ => rfl) (fun _ _ => rfl) (fun z1 z2 => xi_ne (by omega)) (fun z1 z2 => xi_ne (by omega)) (fun z1 z2 => xi_ne (by omega)))
  · rw [gx_lot (show isL (xi σ 104 (va_up (σ.1 104) (k - 1000) x)) k = true from c)]
    simp [lotF, xi, va_up, va_rf]
  · have q := of_decide_eq_true c
    have z : i - 1000 ≠ k - 1000 := by omega
    simp [lotF, xi, va_up, z]
theorem lots_5 {g : hH} {σ : xS} {k : Nat} (c : isL σ k = true) (x : Int32) : hup (gx g σ) k (.inr (1, (lotF σ (k - 1000)).set 5 (.int x))) = gx g (xi σ 105 (va_up (σ.1 105) (k - 1000) x)) := by
  refine h_up_eq ?_ (fun i hi => gx_eq (fun _ => rfl) (fun _ => rfl) (fun z1 z2 => ?_) (fun _ _ => rfl) (fun _ _ => rfl) (fun z1 z2 => xi_ne (by omega)) (fun z1 z2 => xi_ne (by omega)) (fun z1 z2 => xi_ne (by omega)))
  · rw [gx_lot (show isL (xi σ 105 (va_up (σ.1 105) (k - 1000) x)) k = true from c)]
    simp [lotF, xi, va_up, va_rf]
  · have q := of_decide_eq_true c
    have z : i - 1000 ≠ k - 1000 := by omega
    simp [lotF, xi, va_up, z]
theorem lots_6 {g : hH} {σ : xS} {k : Nat} (c : isL σ k = true) (x : Int32) : hup (gx g σ) k (.inr (1, (lotF σ (k - 1000)).set 6 (.int x))) = gx g (xi σ 106 (va_up (σ.1 106) (k - 1000) x)) := by
  refine h_up_eq ?_ (fun i hi => gx_eq (fun _ => rfl) (fun _ => rfl) (fun z1 z2 => ?_) (fun _ _ => rfl) (fun _ _ => rfl) (fun z1 z2 => xi_ne (by omega)) (fun z1 z2 => xi_ne (by omega)) (fun z1 z2 => xi_ne (by omega)))
  · rw [gx_lot (show isL (xi σ 106 (va_up (σ.1 106) (k - 1000) x)) k = true from c)]
    simp [lotF, xi, va_up, va_rf]
  · have q := of_decide_eq_true c
    have z : i - 1000 ≠ k - 1000 := by omega
    simp [lotF, xi, va_up, z]
theorem lots_7 {g : hH} {σ : xS} {k : Nat} (c : isL σ k = true) (x : Int32) : hup (gx g σ) k (.inr (1, (lotF σ (k - 1000)).set 7 (.int x))) = gx g (xi σ 107 (va_up (σ.1 107) (k - 1000) x)) := by
  refine h_up_eq ?_ (fun i hi => gx_eq (fun _ => rfl) (fun _ => rfl) (fun z1 z2 => ?_) (fun _ _ => rfl) (fun _ _ => rfl) (fun z1 z2 => xi_ne (by omega)) (fun z1 z2 => xi_ne (by omega)) (fun z1 z2 => xi_ne (by omega)))
  · rw [gx_lot (show isL (xi σ 107 (va_up (σ.1 107) (k - 1000) x)) k = true from c)]
    simp [lotF, xi, va_up, va_rf]
  · have q := of_decide_eq_true c
    have z : i - 1000 ≠ k - 1000 := by omega
    simp [lotF, xi, va_up, z]
theorem lots_8 {g : hH} {σ : xS} {k : Nat} (c : isL σ k = true) (x : Int32) : hup (gx g σ) k (.inr (1, (lotF σ (k - 1000)).set 8 (.int x))) = gx g (xi σ 108 (va_up (σ.1 108) (k - 1000) x)) := by
  refine h_up_eq ?_ (fun i hi => gx_eq (fun _ => rfl) (fun _ => rfl) (fun z1 z2 => ?_) (fun _ _ => rfl) (fun _ _ => rfl) (fun z1 z2 => xi_ne (by omega)) (fun z1 z2 => xi_ne (by omega)) (fun z1 z2 => xi_ne (by omega)))
  · rw [gx_lot (show isL (xi σ 108 (va_up (σ.1 108) (k - 1000) x)) k = true from c)]
    simp [lotF, xi, va_up, va_rf]
  · have q := of_decide_eq_true c
    have z : i - 1000 ≠ k - 1000 := by omega
    simp [lotF, xi, va_up, z]
theorem lots_9 {g : hH} {σ : xS} {k : Nat} (c : isL σ k = true) (x : Int32) : hup (gx g σ) k (.inr (1, (lotF σ (k - 1000)).set 9 (.int x))) = gx g (xi σ 109 (va_up (σ.1 109) (k - 1000) x)) := by
  refine h_up_eq ?_ (fun i hi => gx_eq (fun _ => rfl) (fun _ => rfl) (fun z1 z2 => ?_) (fun _ _ => rfl) (fun _ _ => rfl) (fun z1 z2 => xi_ne (by omega)) (fun z1 z2 => xi_ne (by omega)) (fun z1 z2 => xi_ne (by omega)))
  · rw [gx_lot (show isL (xi σ 109 (va_up (σ.1 109) (k - 1000) x)) k = true from c)]
    simp [lotF, xi, va_up, va_rf]
  · have q := of_decide_eq_true c
    have z : i - 1000 ≠ k - 1000 := by omega
    simp [lotF, xi, va_up, z]
theorem lots_10 {g : hH} {σ : xS} {k : Nat} (c : isL σ k = true) (x : Int32) : hup (gx g σ) k (.inr (1, (lotF σ (k - 1000)).set 10 (.int x))) = gx g (xi σ 110 (va_up (σ.1 110) (k - 1000) x)) := by
  refine h_up_eq ?_ (fun i hi => gx_eq (fun _ => rfl) (fun _ => rfl) (fun z1 z2 => ?_) (fun _ _ => rfl) (fun _ _ => rfl) (fun z1 z2 => xi_ne (by omega)) (fun z1 z2 => xi_ne (by omega)) (fun z1 z2 => xi_ne (by omega)))
  · rw [gx_lot (show isL (xi σ 110 (va_up (σ.1 110) (k - 1000) x)) k = true from c)]
    simp [lotF, xi, va_up, va_rf]
  · have q := of_decide_eq_true c
    have z : i - 1000 ≠ k - 1000 := by omega
    simp [lotF, xi, va_up, z]
theorem lots_11 {g : hH} {σ : xS} {k : Nat} (c : isL σ k = true) (x : Int32) : hup (gx g σ) k (.inr (1, (lotF σ (k - 1000)).set 11 (.int x))) = gx g (xi σ 111 (va_up (σ.1 111) (k - 1000) x)) := by
  refine h_up_eq ?_ (fun i hi => gx_eq (fun _ => rfl) (fun _ => rfl) (fun z1 z2 => ?_) (fun _ _ => rfl) (fun _ _ => rfl) (fun z1 z2 => xi_ne (by omega)) (fun z1 z2 => xi_ne (by omega)) (fun z1 z2 => xi_ne (by omega)))
  · rw [gx_lot (show isL (xi σ 111 (va_up (σ.1 111) (k - 1000) x)) k = true from c)]
    simp [lotF, xi, va_up, va_rf]
  · have q := of_decide_eq_true c
    have z : i - 1000 ≠ k - 1000 := by omega
    simp [lotF, xi, va_up, z]
theorem sorts_0 {g : hH} {σ : xS} {k : Nat} (c : isS σ k = true) (x : Int32) : hup (gx g σ) k (.inr (4, (sortF σ (k - 2000)).set 0 (.int x))) = gx g (xi σ 120 (va_up (σ.1 120) (k - 2000) x)) := by
  refine h_up_eq ?_ (fun i hi => gx_eq (fun _ => rfl) (fun _ => rfl) (fun _ _ => rfl) (fun z1 z2 => ?_) (fun _ _ => rfl) (fun z1 z2 => xi_ne (by omega)) (fun z1 z2 => xi_ne (by omega)) (fun z1 z2 => xi_ne (by omega)))
  · rw [gx_sort (show isS (xi σ 120 (va_up (σ.1 120) (k - 2000) x)) k = true from c)]
    simp [sortF, xi, va_up, va_rf]
  · have q := of_decide_eq_true c
    have z : i - 2000 ≠ k - 2000 := by omega
    simp [sortF, xi, va_up, z]
theorem sorts_1 {g : hH} {σ : xS} {k : Nat} (c : isS σ k = true) (x : Int32) : hup (gx g σ) k (.inr (4, (sortF σ (k - 2000)).set 1 (.int x))) = gx g (xi σ 121 (va_up (σ.1 121) (k - 2000) x)) := by
  refine h_up_eq ?_ (fun i hi => gx_eq (fun _ => rfl) (fun _ => rfl) (fun _ _ => rfl) (fun z1 z2 => ?_) (fun _ _ => rfl) (fun z1 z2 => xi_ne (by omega)) (fun z1 z2 => xi_ne (by omega)) (fun z1 z2 => xi_ne (by omega)))
  · rw [gx_sort (show isS (xi σ 121 (va_up (σ.1 121) (k - 2000) x)) k = true from c)]
    simp [sortF, xi, va_up, va_rf]
  · have q := of_decide_eq_true c
    have z : i - 2000 ≠ k - 2000 := by omega
    simp [sortF, xi, va_up, z]
theorem sorts_2 {g : hH} {σ : xS} {k : Nat} (c : isS σ k = true) (x : Int32) : hup (gx g σ) k (.inr (4, (sortF σ (k - 2000)).set 2 (.int x))) = gx g (xi σ 122 (va_up (σ.1 122) (k - 2000) x)) := by
  refine h_up_eq ?_ (fun i hi => gx_eq (fun _ => rfl) (fun _ => rfl) (fun _ _ => rfl) (fun z1 z2 => ?_) (fun _ _ => rfl) (fun z1 z2 => xi_ne (by omega)) (fun z1 z2 => xi_ne (by omega)) (fun z1 z2 => xi_ne (by omega)))
  · rw [gx_sort (show isS (xi σ 122 (va_up (σ.1 122) (k - 2000) x)) k = true from c)]
    simp [sortF, xi, va_up, va_rf]
  · have q := of_decide_eq_true c
    have z : i - 2000 ≠ k - 2000 := by omega
    simp [sortF, xi, va_up, z]
theorem sorts_3 {g : hH} {σ : xS} {k : Nat} (c : isS σ k = true) (x : Int32) : hup (gx g σ) k (.inr (4, (sortF σ (k - 2000)).set 3 (.int x))) = gx g (xi σ 123 (va_up (σ.1 123) (k - 2000) x)) := by
  refine h_up_eq ?_ (fun i hi => gx_eq (fun _ => rfl) (fun _ => rfl) (fun _ _ => rfl) (fun z1 z2 => ?_) (fun _ _ => rfl) (fun z1 z2 => xi_ne (by omega)) (fun z1 z2 => xi_ne (by omega)) (fun z1 z2 => xi_ne (by omega)))
  · rw [gx_sort (show isS (xi σ 123 (va_up (σ.1 123) (k - 2000) x)) k = true from c)]
    simp [sortF, xi, va_up, va_rf]
  · have q := of_decide_eq_true c
    have z : i - 2000 ≠ k - 2000 := by omega
    simp [sortF, xi, va_up, z]
theorem ords_0 {g : hH} {σ : xS} {k : Nat} (c : isO σ k = true) (x : Nat) : hup (gx g σ) k (.inr (2, (ordF σ (k - 3000)).set 0 (.ref x))) = gx g (xr σ 130 (va_up (σ.2.2.1 130) (k - 3000) (some x))) := by
  refine h_up_eq ?_ (fun i hi => gx_eq (fun _ => rfl) (fun _ => rfl) (fun _ _ => rfl) (fun _ _ => rfl) (fun z1 z2 => ?_) (fun _ _ => rfl) (fun _ _ => rfl) (fun _ _ => rfl))
  · rw [gx_ord (show isO (xr σ 130 (va_up (σ.2.2.1 130) (k - 3000) (some x))) k = true from c)]
    simp [ordF, xr, va_up, va_rf]
  · have q := of_decide_eq_true c
    have z : i - 3000 ≠ k - 3000 := by omega
    simp [ordF, xr, va_up, z]
theorem ords_1 {g : hH} {σ : xS} {k : Nat} (c : isO σ k = true) (x : Nat) : hup (gx g σ) k (.inr (2, (ordF σ (k - 3000)).set 1 (.ref x))) = gx g (xr σ 131 (va_up (σ.2.2.1 131) (k - 3000) (some x))) := by
  refine h_up_eq ?_ (fun i hi => gx_eq (fun _ => rfl) (fun _ => rfl) (fun _ _ => rfl) (fun _ _ => rfl) (fun z1 z2 => ?_) (fun _ _ => rfl) (fun _ _ => rfl) (fun _ _ => rfl))
  · rw [gx_ord (show isO (xr σ 131 (va_up (σ.2.2.1 131) (k - 3000) (some x))) k = true from c)]
    simp [ordF, xr, va_up, va_rf]
  · have q := of_decide_eq_true c
    have z : i - 3000 ≠ k - 3000 := by omega
    simp [ordF, xr, va_up, z]
theorem ords_2 {g : hH} {σ : xS} {k : Nat} (c : isO σ k = true) (x : Nat) : hup (gx g σ) k (.inr (2, (ordF σ (k - 3000)).set 2 (.ref x))) = gx g (xr σ 132 (va_up (σ.2.2.1 132) (k - 3000) (some x))) := by
  refine h_up_eq ?_ (fun i hi => gx_eq (fun _ => rfl) (fun _ => rfl) (fun _ _ => rfl) (fun _ _ => rfl) (fun z1 z2 => ?_) (fun _ _ => rfl) (fun _ _ => rfl) (fun _ _ => rfl))
  · rw [gx_ord (show isO (xr σ 132 (va_up (σ.2.2.1 132) (k - 3000) (some x))) k = true from c)]
    simp [ordF, xr, va_up, va_rf]
  · have q := of_decide_eq_true c
    have z : i - 3000 ≠ k - 3000 := by omega
    simp [ordF, xr, va_up, z]
theorem pots_0 {g : hH} {σ : xS} {k : Nat} (c : isP σ k = true) (x : Int64) : hup (gx g σ) k (.inr (3, (potF σ (k - 23)).set 0 (.long x))) = gx g (xl σ 140 (va_up (σ.2.1 140) (k - 23) x)) := by
  have q : 23 ≤ k ∧ k ≤ 25 := of_decide_eq_true c
  have : k = 23 ∨ k = 24 ∨ k = 25 := by omega
  rcases this with rfl | rfl | rfl
  · exact gx_up g σ _ 23 _ (by decide) rfl (fun _ => rfl) (fun _ => rfl) (fun _ => rfl) (fun _ => rfl) (fun i hi => rfl)
  · exact gx_up g σ _ 24 _ (by decide) rfl (fun _ => rfl) (fun _ => rfl) (fun _ => rfl) (fun _ => rfl) (fun i hi => rfl)
  · exact gx_up g σ _ 25 _ (by decide) rfl (fun _ => rfl) (fun _ => rfl) (fun _ => rfl) (fun _ => rfl) (fun i hi => rfl)
theorem pots_1 {g : hH} {σ : xS} {k : Nat} (c : isP σ k = true) (x : Int64) : hup (gx g σ) k (.inr (3, (potF σ (k - 23)).set 1 (.long x))) = gx g (xl σ 141 (va_up (σ.2.1 141) (k - 23) x)) := by
  have q : 23 ≤ k ∧ k ≤ 25 := of_decide_eq_true c
  have : k = 23 ∨ k = 24 ∨ k = 25 := by omega
  rcases this with rfl | rfl | rfl
  · exact gx_up g σ _ 23 _ (by decide) rfl (fun _ => rfl) (fun _ => rfl) (fun _ => rfl) (fun _ => rfl) (fun i hi => rfl)
  · exact gx_up g σ _ 24 _ (by decide) rfl (fun _ => rfl) (fun _ => rfl) (fun _ => rfl) (fun _ => rfl) (fun i hi => rfl)
  · exact gx_up g σ _ 25 _ (by decide) rfl (fun _ => rfl) (fun _ => rfl) (fun _ => rfl) (fun _ => rfl) (fun i hi => rfl)
theorem pots_2 {g : hH} {σ : xS} {k : Nat} (c : isP σ k = true) (x : Int32) : hup (gx g σ) k (.inr (3, (potF σ (k - 23)).set 2 (.int x))) = gx g (xi σ 142 (va_up (σ.1 142) (k - 23) x)) := by
  have q : 23 ≤ k ∧ k ≤ 25 := of_decide_eq_true c
  have : k = 23 ∨ k = 24 ∨ k = 25 := by omega
  rcases this with rfl | rfl | rfl
  · exact gx_up g σ _ 23 _ (by decide) rfl (fun _ => rfl) (fun _ => rfl) (fun _ => rfl) (fun _ => rfl) (fun i hi => xi_ne (by omega))
  · exact gx_up g σ _ 24 _ (by decide) rfl (fun _ => rfl) (fun _ => rfl) (fun _ => rfl) (fun _ => rfl) (fun i hi => xi_ne (by omega))
  · exact gx_up g σ _ 25 _ (by decide) rfl (fun _ => rfl) (fun _ => rfl) (fun _ => rfl) (fun _ => rfl) (fun i hi => xi_ne (by omega))
theorem pots_3 {g : hH} {σ : xS} {k : Nat} (c : isP σ k = true) (x : Int64) : hup (gx g σ) k (.inr (3, (potF σ (k - 23)).set 3 (.long x))) = gx g (xl σ 143 (va_up (σ.2.1 143) (k - 23) x)) := by
  have q : 23 ≤ k ∧ k ≤ 25 := of_decide_eq_true c
  have : k = 23 ∨ k = 24 ∨ k = 25 := by omega
  rcases this with rfl | rfl | rfl
  · exact gx_up g σ _ 23 _ (by decide) rfl (fun _ => rfl) (fun _ => rfl) (fun _ => rfl) (fun _ => rfl) (fun i hi => rfl)
  · exact gx_up g σ _ 24 _ (by decide) rfl (fun _ => rfl) (fun _ => rfl) (fun _ => rfl) (fun _ => rfl) (fun i hi => rfl)
  · exact gx_up g σ _ 25 _ (by decide) rfl (fun _ => rfl) (fun _ => rfl) (fun _ => rfl) (fun _ => rfl) (fun i hi => rfl)
theorem pots_4 {g : hH} {σ : xS} {k : Nat} (c : isP σ k = true) (x : Int64) : hup (gx g σ) k (.inr (3, (potF σ (k - 23)).set 4 (.long x))) = gx g (xl σ 144 (va_up (σ.2.1 144) (k - 23) x)) := by
  have q : 23 ≤ k ∧ k ≤ 25 := of_decide_eq_true c
  have : k = 23 ∨ k = 24 ∨ k = 25 := by omega
  rcases this with rfl | rfl | rfl
  · exact gx_up g σ _ 23 _ (by decide) rfl (fun _ => rfl) (fun _ => rfl) (fun _ => rfl) (fun _ => rfl) (fun i hi => rfl)
  · exact gx_up g σ _ 24 _ (by decide) rfl (fun _ => rfl) (fun _ => rfl) (fun _ => rfl) (fun _ => rfl) (fun i hi => rfl)
  · exact gx_up g σ _ 25 _ (by decide) rfl (fun _ => rfl) (fun _ => rfl) (fun _ => rfl) (fun _ => rfl) (fun i hi => rfl)
theorem pots_5 {g : hH} {σ : xS} {k : Nat} (c : isP σ k = true) (x : Int64) : hup (gx g σ) k (.inr (3, (potF σ (k - 23)).set 5 (.long x))) = gx g (xl σ 145 (va_up (σ.2.1 145) (k - 23) x)) := by
  have q : 23 ≤ k ∧ k ≤ 25 := of_decide_eq_true c
  have : k = 23 ∨ k = 24 ∨ k = 25 := by omega
  rcases this with rfl | rfl | rfl
  · exact gx_up g σ _ 23 _ (by decide) rfl (fun _ => rfl) (fun _ => rfl) (fun _ => rfl) (fun _ => rfl) (fun i hi => rfl)
  · exact gx_up g σ _ 24 _ (by decide) rfl (fun _ => rfl) (fun _ => rfl) (fun _ => rfl) (fun _ => rfl) (fun i hi => rfl)
  · exact gx_up g σ _ 25 _ (by decide) rfl (fun _ => rfl) (fun _ => rfl) (fun _ => rfl) (fun _ => rfl) (fun i hi => rfl)
theorem pots_6 {g : hH} {σ : xS} {k : Nat} (c : isP σ k = true) (x : Int32) : hup (gx g σ) k (.inr (3, (potF σ (k - 23)).set 6 (.int x))) = gx g (xi σ 146 (va_up (σ.1 146) (k - 23) x)) := by
  have q : 23 ≤ k ∧ k ≤ 25 := of_decide_eq_true c
  have : k = 23 ∨ k = 24 ∨ k = 25 := by omega
  rcases this with rfl | rfl | rfl
  · exact gx_up g σ _ 23 _ (by decide) rfl (fun _ => rfl) (fun _ => rfl) (fun _ => rfl) (fun _ => rfl) (fun i hi => xi_ne (by omega))
  · exact gx_up g σ _ 24 _ (by decide) rfl (fun _ => rfl) (fun _ => rfl) (fun _ => rfl) (fun _ => rfl) (fun i hi => xi_ne (by omega))
  · exact gx_up g σ _ 25 _ (by decide) rfl (fun _ => rfl) (fun _ => rfl) (fun _ => rfl) (fun _ => rfl) (fun i hi => xi_ne (by omega))
theorem pots_7 {g : hH} {σ : xS} {k : Nat} (c : isP σ k = true) (x : Int32) : hup (gx g σ) k (.inr (3, (potF σ (k - 23)).set 7 (.int x))) = gx g (xi σ 147 (va_up (σ.1 147) (k - 23) x)) := by
  have q : 23 ≤ k ∧ k ≤ 25 := of_decide_eq_true c
  have : k = 23 ∨ k = 24 ∨ k = 25 := by omega
  rcases this with rfl | rfl | rfl
  · exact gx_up g σ _ 23 _ (by decide) rfl (fun _ => rfl) (fun _ => rfl) (fun _ => rfl) (fun _ => rfl) (fun i hi => xi_ne (by omega))
  · exact gx_up g σ _ 24 _ (by decide) rfl (fun _ => rfl) (fun _ => rfl) (fun _ => rfl) (fun _ => rfl) (fun i hi => xi_ne (by omega))
  · exact gx_up g σ _ 25 _ (by decide) rfl (fun _ => rfl) (fun _ => rfl) (fun _ => rfl) (fun _ => rfl) (fun i hi => xi_ne (by omega))
theorem pots_8 {g : hH} {σ : xS} {k : Nat} (c : isP σ k = true) (x : Int32) : hup (gx g σ) k (.inr (3, (potF σ (k - 23)).set 8 (.int x))) = gx g (xi σ 148 (va_up (σ.1 148) (k - 23) x)) := by
  have q : 23 ≤ k ∧ k ≤ 25 := of_decide_eq_true c
  have : k = 23 ∨ k = 24 ∨ k = 25 := by omega
  rcases this with rfl | rfl | rfl
  · exact gx_up g σ _ 23 _ (by decide) rfl (fun _ => rfl) (fun _ => rfl) (fun _ => rfl) (fun _ => rfl) (fun i hi => xi_ne (by omega))
  · exact gx_up g σ _ 24 _ (by decide) rfl (fun _ => rfl) (fun _ => rfl) (fun _ => rfl) (fun _ => rfl) (fun i hi => xi_ne (by omega))
  · exact gx_up g σ _ 25 _ (by decide) rfl (fun _ => rfl) (fun _ => rfl) (fun _ => rfl) (fun _ => rfl) (fun i hi => xi_ne (by omega))
/-- new cells -/
def newlot (σ : xS) : xS := (fun c j => if (100 ≤ c ∧ c < 112) ∧ j = σ.2.2.2 1 then 0 else σ.1 c j, σ.2.1, fun c j => if c = 101 ∧ j = σ.2.2.2 1 then none else σ.2.2.1 c j, va_up σ.2.2.2 1 (σ.2.2.2 1 + 1))
def newsort (σ : xS) : xS := (fun c j => if (120 ≤ c ∧ c < 124) ∧ j = σ.2.2.2 0 then 0 else σ.1 c j, σ.2.1, σ.2.2.1, va_up σ.2.2.2 0 (σ.2.2.2 0 + 1))
def neword (σ : xS) : xS := (σ.1, σ.2.1, fun c j => if (130 ≤ c ∧ c < 133) ∧ j = σ.2.2.2 2 then none else σ.2.2.1 c j, va_up σ.2.2.2 2 (σ.2.2.2 2 + 1))
def newtold (σ : xS) : xS := (va_up σ.1 (1000 + σ.2.2.2 6) (fun _ => 0), σ.2.1, σ.2.2.1, va_up σ.2.2.2 6 (σ.2.2.2 6 + 1))
theorem newlot_hi (σ : xS) (c : Nat) (h : 200 ≤ c) : (newlot σ).1 c = σ.1 c := by
  funext j
  show (if (100 ≤ c ∧ c < 112) ∧ j = σ.2.2.2 1 then 0 else σ.1 c j) = σ.1 c j
  rw [if_neg (by omega)]
theorem newsort_hi (σ : xS) (c : Nat) (h : 200 ≤ c) : (newsort σ).1 c = σ.1 c := by
  funext j
  show (if (120 ≤ c ∧ c < 124) ∧ j = σ.2.2.2 0 then 0 else σ.1 c j) = σ.1 c j
  rw [if_neg (by omega)]
theorem gx_newlot {g : hH} {σ : xS} (c : σ.2.2.2 1 < 1000) : gx g σ (1000 + σ.2.2.2 1) = none ∧ hup (gx g σ) (1000 + σ.2.2.2 1) (.inr (1, dfX1)) = gx g (newlot σ) := by
  refine ⟨by rw [gx_1 (by omega) (by omega), if_neg (by omega)], h_up_eq ?_ (fun i hi => gx_eq2 (fun _ => rfl) (fun z1 z2 => ?_) (fun _ _ => rfl) (fun _ _ => rfl) (fun z1 z2 => by have e : (newlot σ).1 (1000 + (i - 3200)) = σ.1 (1000 + (i - 3200)) := newlot_hi σ _ (by omega); have ec : (newlot σ).2.2.2 6 = σ.2.2.2 6 := (by simp [newlot, va_up]); rw [e, ec]) (fun z1 z2 => by have e : (newlot σ).1 (2000 + (i - 3400)) = σ.1 (2000 + (i - 3400)) := newlot_hi σ _ (by omega); have ec : (newlot σ).2.2.2 7 = σ.2.2.2 7 := (by simp [newlot, va_up]); rw [e, ec]) (fun z1 z2 => by have e : (newlot σ).1 (3000 + (i - 3600)) = σ.1 (3000 + (i - 3600)) := newlot_hi σ _ (by omega); have ec : (newlot σ).2.2.2 8 = σ.2.2.2 8 := (by simp [newlot, va_up]); rw [e, ec]))⟩
  · rw [gx_1 (by omega) (by omega)]
    have e : (newlot σ).2.2.2 1 = σ.2.2.2 1 + 1 := by simp [newlot, va_up]
    rw [e, if_pos (by omega), Nat.add_sub_cancel_left]
    simp [lotF, newlot, va_rf]
  · have e : (newlot σ).2.2.2 1 = σ.2.2.2 1 + 1 := by simp [newlot, va_up]
    rw [e]
    by_cases z : i - 1000 < σ.2.2.2 1
    · rw [if_pos z, if_pos (by omega)]
      have z3 : i - 1000 ≠ σ.2.2.2 1 := by omega
      simp [lotF, newlot, z3]
    · rw [if_neg z, if_neg (by omega)]
theorem gx_newsort {g : hH} {σ : xS} (c : σ.2.2.2 0 < 1000) : gx g σ (2000 + σ.2.2.2 0) = none ∧ hup (gx g σ) (2000 + σ.2.2.2 0) (.inr (4, dfX4)) = gx g (newsort σ) := by
  refine ⟨by rw [gx_2 (by omega) (by omega), if_neg (by omega)], h_up_eq ?_ (fun i hi => gx_eq2 (fun _ => rfl) (fun _ _ => rfl) (fun z1 z2 => ?_) (fun _ _ => rfl) (fun z1 z2 => by have e : (newsort σ).1 (1000 + (i - 3200)) = σ.1 (1000 + (i - 3200)) := newsort_hi σ _ (by omega); have ec : (newsort σ).2.2.2 6 = σ.2.2.2 6 := (by simp [newsort, va_up]); rw [e, ec]) (fun z1 z2 => by have e : (newsort σ).1 (2000 + (i - 3400)) = σ.1 (2000 + (i - 3400)) := newsort_hi σ _ (by omega); have ec : (newsort σ).2.2.2 7 = σ.2.2.2 7 := (by simp [newsort, va_up]); rw [e, ec]) (fun z1 z2 => by have e : (newsort σ).1 (3000 + (i - 3600)) = σ.1 (3000 + (i - 3600)) := newsort_hi σ _ (by omega); have ec : (newsort σ).2.2.2 8 = σ.2.2.2 8 := (by simp [newsort, va_up]); rw [e, ec]))⟩
  · rw [gx_2 (by omega) (by omega)]
    have e : (newsort σ).2.2.2 0 = σ.2.2.2 0 + 1 := by simp [newsort, va_up]
    rw [e, if_pos (by omega), Nat.add_sub_cancel_left]
    simp [sortF, newsort, va_rf]
  · have e : (newsort σ).2.2.2 0 = σ.2.2.2 0 + 1 := by simp [newsort, va_up]
    rw [e]
    by_cases z : i - 2000 < σ.2.2.2 0
    · rw [if_pos z, if_pos (by omega)]
      have z3 : i - 2000 ≠ σ.2.2.2 0 := by omega
      simp [sortF, newsort, z3]
    · rw [if_neg z, if_neg (by omega)]
theorem gx_neword {g : hH} {σ : xS} (c : σ.2.2.2 2 < 200) : gx g σ (3000 + σ.2.2.2 2) = none ∧ hup (gx g σ) (3000 + σ.2.2.2 2) (.inr (2, dfX2)) = gx g (neword σ) := by
  refine ⟨by rw [gx_3 (by omega) (by omega), if_neg (by omega)], h_up_eq ?_ (fun i hi => gx_eq2 (fun _ => rfl) (fun _ _ => rfl) (fun _ _ => rfl) (fun z1 z2 => ?_) (fun _ _ => rfl) (fun _ _ => rfl) (fun _ _ => rfl))⟩
  · rw [gx_3 (by omega) (by omega)]
    have e : (neword σ).2.2.2 2 = σ.2.2.2 2 + 1 := by simp [neword, va_up]
    rw [e, if_pos (by omega), Nat.add_sub_cancel_left]
    simp [ordF, neword, va_rf]
  · have e : (neword σ).2.2.2 2 = σ.2.2.2 2 + 1 := by simp [neword, va_up]
    rw [e]
    by_cases z : i - 3000 < σ.2.2.2 2
    · rw [if_pos z, if_pos (by omega)]
      have z3 : i - 3000 ≠ σ.2.2.2 2 := by omega
      simp [ordF, neword, z3]
    · rw [if_neg z, if_neg (by omega)]
end XSTATE
