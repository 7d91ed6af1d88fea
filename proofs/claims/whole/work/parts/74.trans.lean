/-! THE PURE PART: flows: sums; two ended flows with potentials cost the same -/
section TRANS
def sm (f : Nat → Int) : Nat → Int
  | 0 => 0
  | n + 1 => sm f n + f n
theorem sm_c {f g : Nat → Int} : ∀ n, (∀ k, k < n → f k = g k) → sm f n = sm g n := by
  intro n
  induction n with
  | zero => intro _; rfl
  | succ n ih => intro h; rw [sm, sm, ih (fun k hk => h k (by omega)), h n (by omega)]
theorem sm_le {f g : Nat → Int} : ∀ n, (∀ k, k < n → f k ≤ g k) → sm f n ≤ sm g n := by
  intro n
  induction n with
  | zero => intro _; exact Int.le_refl _
  | succ n ih =>
    intro h
    have h1 := ih (fun k hk => h k (by omega))
    have h2 := h n (by omega)
    rw [sm, sm]; omega
theorem sm_add (f g : Nat → Int) : ∀ n, sm (fun k => f k + g k) n = sm f n + sm g n := by
  intro n
  induction n with
  | zero => rfl
  | succ n ih => rw [sm, sm, sm, ih]; omega
theorem sm_sub (f g : Nat → Int) : ∀ n, sm (fun k => f k - g k) n = sm f n - sm g n := by
  intro n
  induction n with
  | zero => rfl
  | succ n ih => rw [sm, sm, sm, ih]; omega
theorem sm_mul (f : Nat → Int) (c : Int) : ∀ n, sm (fun k => f k * c) n = sm f n * c := by
  intro n
  induction n with
  | zero => rw [sm, sm, Int.zero_mul]
  | succ n ih => rw [sm, sm, ih, Int.add_mul]
theorem sm_zero : ∀ n, sm (fun _ => 0) n = 0 := by
  intro n
  induction n with
  | zero => rfl
  | succ n ih => rw [sm, ih]; rfl
theorem sm_swap (f : Nat → Nat → Int) (N : Nat) : ∀ n, sm (fun t => sm (fun m => f t m) N) n = sm (fun m => sm (fun t => f t m) n) N := by
  intro n
  induction n with
  | zero => exact (sm_zero N).symm
  | succ n ih => rw [sm, ih, ← sm_add]; rfl
theorem sm_up (f : Nat → Int) (k : Nat) (v : Int) : ∀ n, k < n → sm (va_up f k v) n = sm f n - f k + v := by
  intro n
  induction n with
  | zero => intro h; omega
  | succ n ih =>
    intro h
    rw [sm, sm]
    by_cases q : k = n
    · subst q
      have e : sm (va_up f k v) k = sm f k := sm_c k (fun j hj => va_up_ne _ _ (by omega))
      rw [va_up_self, e]; omega
    · rw [ih (by omega), va_up_ne _ _ (by omega)]; omega
theorem sm_nn {f : Nat → Int} (n : Nat) (h : ∀ k, k < n → 0 ≤ f k) : 0 ≤ sm f n := by
  have := sm_le (f := fun _ => 0) (g := f) n h
  rw [sm_zero] at this
  exact this
theorem sm_ge {f : Nat → Int} : ∀ n, (∀ k, k < n → 0 ≤ f k) → ∀ k, k < n → f k ≤ sm f n := by
  intro n
  induction n with
  | zero => intro _ k hk; omega
  | succ n ih =>
    intro h k hk
    rw [sm]
    have h1 := sm_nn n (fun j hj => h j (by omega))
    have h2 := h n (by omega)
    by_cases q : k = n
    · subst q; omega
    · have := ih (fun j hj => h j (by omega)) k (by omega); omega
def row (x : Nat → Int) (t : Nat) : Int := sm (fun m => x (3 * t + m)) 3
def col (x : Nat → Int) (m : Nat) : Int := sm (fun t => x (3 * t + m)) 6
def CS (x d : Nat → Int) : Int := sm (fun t => sm (fun m => x (3 * t + m) * d (3 * t + m)) 3) 6
theorem row_s (x : Nat → Int) {t m : Nat} (v : Int) (hm : m < 3) : row (va_up x (3 * t + m) v) t = row x t - x (3 * t + m) + v := by
  unfold row
  rw [← sm_up (fun m => x (3 * t + m)) m v 3 hm]
  apply sm_c
  intro k _
  by_cases q : k = m
  · rw [q, va_up_self, va_up_self]
  · rw [va_up_ne _ _ q, va_up_ne _ _ (by omega)]
theorem row_n (x : Nat → Int) {t t' m : Nat} (v : Int) (hm : m < 3) (h : t' ≠ t) : row (va_up x (3 * t + m) v) t' = row x t' := by
  unfold row
  apply sm_c
  intro k hk
  rw [va_up_ne _ _ (by omega)]
theorem col_s (x : Nat → Int) {t m : Nat} (v : Int) (ht : t < 6) : col (va_up x (3 * t + m) v) m = col x m - x (3 * t + m) + v := by
  unfold col
  rw [← sm_up (fun t => x (3 * t + m)) t v 6 ht]
  apply sm_c
  intro k _
  by_cases q : k = t
  · rw [q, va_up_self, va_up_self]
  · rw [va_up_ne _ _ q, va_up_ne _ _ (by omega)]
theorem col_n (x : Nat → Int) {t m m' : Nat} (v : Int) (hm : m < 3) (hm' : m' < 3) (h : m' ≠ m) : col (va_up x (3 * t + m) v) m' = col x m' := by
  unfold col
  apply sm_c
  intro k hk
  rw [va_up_ne _ _ (by omega)]
theorem CS_s (x d : Nat → Int) {t m : Nat} (v : Int) (ht : t < 6) (hm : m < 3) : CS (va_up x (3 * t + m) v) d = CS x d + (v - x (3 * t + m)) * d (3 * t + m) := by
  unfold CS
  have e1 : sm (fun k => va_up x (3 * t + m) v (3 * t + k) * d (3 * t + k)) 3 = sm (fun k => x (3 * t + k) * d (3 * t + k)) 3 - x (3 * t + m) * d (3 * t + m) + v * d (3 * t + m) := by
    rw [← sm_up (fun k => x (3 * t + k) * d (3 * t + k)) m (v * d (3 * t + m)) 3 hm]
    apply sm_c
    intro k _
    by_cases q : k = m
    · rw [q, va_up_self, va_up_self]
    · rw [va_up_ne _ _ q, va_up_ne _ _ (by omega)]
  have e2 : sm (fun t' => sm (fun k => va_up x (3 * t + m) v (3 * t' + k) * d (3 * t' + k)) 3) 6 = sm (va_up (fun t' => sm (fun k => x (3 * t' + k) * d (3 * t' + k)) 3) t (sm (fun k => va_up x (3 * t + m) v (3 * t + k) * d (3 * t + k)) 3)) 6 := by
    apply sm_c
    intro j _
    by_cases q : j = t
    · rw [q, va_up_self]
    · rw [va_up_ne _ _ q]
      apply sm_c
      intro k hk
      rw [va_up_ne _ _ (by omega)]
  rw [e2, sm_up _ _ _ _ ht, e1, Int.sub_mul]
  omega
def FI (d g nd x L W : Nat → Int) (C : Int) (p : Nat → Int) (D : Int) : Prop := (∀ i, i < 18 → 0 ≤ x i) ∧ (∀ m, m < 3 → 0 ≤ L m ∧ col x m = g m - L m) ∧ (∀ t, t < 6 → 0 ≤ W t ∧ row x t = nd t - W t) ∧ C = CS x d ∧ (∀ t m, t < 6 → m < 3 → p (3 + t) ≤ p m + d (3 * t + m) ∧ (0 < x (3 * t + m) → p (3 + t) = p m + d (3 * t + m))) ∧ (∀ m, m < 3 → 0 < L m → p m = 0) ∧ (∀ t, t < 6 → (0 < W t → D ≤ p (3 + t)) ∧ (W t < nd t → p (3 + t) ≤ D)) ∧ 0 ≤ D ∧ ∀ n, n < 9 → 0 ≤ p n ∧ p n ≤ 1000000
/-- the worth of a flow by potentials -/
theorem val_eq (z p : Nat → Int) : sm (fun t => sm (fun m => z (3 * t + m) * (p (3 + t) - p m)) 3) 6 = sm (fun t => row z t * p (3 + t)) 6 - sm (fun m => col z m * p m) 3 := by
  have e1 : ∀ t, sm (fun m => z (3 * t + m) * (p (3 + t) - p m)) 3 = row z t * p (3 + t) - sm (fun m => z (3 * t + m) * p m) 3 := by
    intro t
    unfold row
    rw [← sm_mul, ← sm_sub]
    apply sm_c
    intro k _
    exact Int.mul_sub _ _ _
  have e2 : sm (fun m => col z m * p m) 3 = sm (fun t => sm (fun m => z (3 * t + m) * p m) 3) 6 := by
    rw [sm_swap (fun t m => z (3 * t + m) * p m) 3 6]
    apply sm_c
    intro k _
    exact (sm_mul (fun t => z (3 * t + k)) (p k) 6).symm
  rw [e2, ← sm_sub]
  apply sm_c
  intro t _
  exact e1 t
theorem row_nn {x : Nat → Int} (h : ∀ i, i < 18 → 0 ≤ x i) {t : Nat} (ht : t < 6) : 0 ≤ row x t := sm_nn 3 (fun k hk => h _ (by omega))
theorem col_nn {x : Nat → Int} (h : ∀ i, i < 18 → 0 ≤ x i) {m : Nat} (hm : m < 3) : 0 ≤ col x m := sm_nn 6 (fun k hk => h _ (by omega))
theorem opt_le {d g nd x L W p y V Z q : Nat → Int} {C D B D' : Int} (h : FI d g nd x L W C p D) (k : FI d g nd y V Z B q D') (hs : sm W 6 = sm Z 6) : C ≤ B := by
  obtain ⟨h1, h2, h3, h4, h5, h6, h7, h8, h9⟩ := h
  obtain ⟨k1, k2, k3, k4, -⟩ := k
  have a1 : sm (fun t => sm (fun m => y (3 * t + m) * (p (3 + t) - p m)) 3) 6 ≤ CS y d := by
    unfold CS
    apply sm_le
    intro t ht
    apply sm_le
    intro m hm
    exact Int.mul_le_mul_of_nonneg_left (by have := (h5 t m ht hm).1; omega) (k1 _ (by omega))
  have a2 : sm (fun t => sm (fun m => x (3 * t + m) * (p (3 + t) - p m)) 3) 6 = CS x d := by
    unfold CS
    apply sm_c
    intro t ht
    apply sm_c
    intro m hm
    have hx := h1 (3 * t + m) (by omega)
    by_cases c : 0 < x (3 * t + m)
    · have := (h5 t m ht hm).2 c
      rw [show p (3 + t) - p m = d (3 * t + m) by omega]
    · rw [show x (3 * t + m) = 0 by omega, Int.zero_mul, Int.zero_mul]
  rw [val_eq] at a1 a2
  have b1 : sm (fun t => row x t * p (3 + t)) 6 ≤ sm (fun t => row y t * p (3 + t)) 6 := by
    have e : sm (fun t => row x t * p (3 + t) + (W t - Z t) * D) 6 = sm (fun t => row x t * p (3 + t)) 6 := by
      rw [sm_add (fun t => row x t * p (3 + t)) (fun t => (W t - Z t) * D) 6, sm_mul (fun t => W t - Z t) D 6, sm_sub, hs, Int.sub_self, Int.zero_mul, Int.add_zero]
    rw [← e]
    apply sm_le
    intro t ht
    obtain ⟨w0, w1⟩ := h3 t ht
    obtain ⟨z0, z1⟩ := k3 t ht
    have yr := row_nn k1 ht
    have key : 0 ≤ (W t - Z t) * (p (3 + t) - D) := by
      by_cases c1 : p (3 + t) < D
      · have : ¬ 0 < W t := fun z => by have := (h7 t ht).1 z; omega
        have e2 : (W t - Z t) * (p (3 + t) - D) = (Z t - W t) * (D - p (3 + t)) := by grind
        rw [e2]
        exact Int.mul_nonneg (by omega) (by omega)
      · by_cases c2 : D < p (3 + t)
        · have : ¬ W t < nd t := fun z => by have := (h7 t ht).2 z; omega
          exact Int.mul_nonneg (by omega) (by omega)
        · rw [show p (3 + t) - D = 0 by omega, Int.mul_zero]
          exact Int.le_refl _
    have e3 : row y t * p (3 + t) = row x t * p (3 + t) + (W t - Z t) * D + (W t - Z t) * (p (3 + t) - D) := by
      rw [w1, z1]; grind
    show row x t * p (3 + t) + (W t - Z t) * D ≤ row y t * p (3 + t)
    omega
  have b2 : sm (fun m => col y m * p m) 3 ≤ sm (fun m => col x m * p m) 3 := by
    apply sm_le
    intro m hm
    obtain ⟨l0, l1⟩ := h2 m hm
    obtain ⟨v0, v1⟩ := k2 m hm
    have p0 := (h9 m (by omega)).1
    by_cases c : 0 < L m
    · rw [h6 m hm c, Int.mul_zero, Int.mul_zero]
      exact Int.le_refl _
    · exact Int.mul_le_mul_of_nonneg_right (by omega) p0
  omega
theorem tot_eq {d g nd x L W p : Nat → Int} {C D : Int} (h : FI d g nd x L W C p D) : sm nd 6 - sm W 6 = sm g 3 - sm L 3 ∧ 0 ≤ sm W 6 ∧ 0 ≤ sm L 3 := by
  obtain ⟨h1, h2, h3, -⟩ := h
  refine ⟨?_, sm_nn 6 (fun k hk => (h3 k hk).1), sm_nn 3 (fun k hk => (h2 k hk).1)⟩
  rw [← sm_sub, ← sm_sub]
  have e1 : sm (fun t => nd t - W t) 6 = sm (fun t => row x t) 6 := sm_c 6 (fun k hk => (h3 k hk).2.symm)
  have e2 : sm (fun m => g m - L m) 3 = sm (fun m => col x m) 3 := sm_c 3 (fun k hk => (h2 k hk).2.symm)
  rw [e1, e2]
  exact sm_swap (fun t m => x (3 * t + m)) 3 6
def Endd (L W : Nat → Int) : Prop := (∀ m, m < 3 → L m = 0) ∨ ∀ t, t < 6 → W t = 0
theorem flow_same {d g nd x L W p y V Z q : Nat → Int} {C D B D' : Int} (h : FI d g nd x L W C p D) (k : FI d g nd y V Z B q D') (e1 : Endd L W) (e2 : Endd V Z) : C = B := by
  obtain ⟨t1, t2, t3⟩ := tot_eq h
  obtain ⟨s1, s2, s3⟩ := tot_eq k
  have z3 : ∀ {f : Nat → Int}, (∀ m, m < 3 → f m = 0) → sm f 3 = 0 := fun hz => (sm_c 3 hz).trans (sm_zero 3)
  have z6 : ∀ {f : Nat → Int}, (∀ m, m < 6 → f m = 0) → sm f 6 = 0 := fun hz => (sm_c 6 hz).trans (sm_zero 6)
  have hs : sm W 6 = sm Z 6 := by
    rcases e1 with a | a
    · have a' := z3 a
      rcases e2 with b | b
      · have b' := z3 b; omega
      · have b' := z6 b; omega
    · have a' := z6 a
      rcases e2 with b | b
      · have b' := z3 b; omega
      · have b' := z6 b; omega
  exact Int.le_antisymm (opt_le h k hs) (opt_le k h hs.symm)
theorem CS_nn {x d : Nat → Int} (h : ∀ i, i < 18 → 0 ≤ x i) (hd : ∀ i, i < 18 → 1 ≤ d i ∧ d i ≤ 30) : 0 ≤ CS x d ∧ CS x d ≤ sm (fun t => row x t) 6 * 30 := by
  constructor
  · exact sm_nn 6 (fun t ht => sm_nn 3 (fun m hm => Int.mul_nonneg (h _ (by omega)) (by have := hd (3 * t + m) (by omega); omega)))
  · rw [← sm_mul]
    apply sm_le
    intro t ht
    unfold row
    rw [← sm_mul]
    apply sm_le
    intro m hm
    exact Int.mul_le_mul_of_nonneg_left (hd _ (by omega)).2 (h _ (by omega))
end TRANS
