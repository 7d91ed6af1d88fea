/-! THE PURE PART: flow: the reference finds its ways -/
section FAR
def FrF (μ' μ : mS) : Prop := μ'.2 = μ.2 ∧ ∀ c, c ≠ 47 → c ≠ 48 → μ'.1 c = μ.1 c
theorem FrF_r (μ : mS) : FrF μ μ := ⟨rfl, fun _ _ _ => rfl⟩
theorem FrF_t {a b e : mS} (h : FrF b a) (g : FrF e b) : FrF e a := ⟨g.1.trans h.1, fun c h1 h2 => (g.2 c h1 h2).trans (h.2 c h1 h2)⟩
theorem FrF_up {a b : mS} (h : FrF b a) (c : Nat) (f : Nat → Int32) (hc : c = 47 ∨ c = 48) : FrF (seti b c f) a := ⟨h.1, fun k h1 h2 => (va_up_ne _ _ (show k ≠ c by omega)).trans (h.2 k h1 h2)⟩
/-- the reference's labels -/
def SM (μ : mS) (S : lbl) : Prop := ∀ n, n < 9 → (μ.1 47 n).toInt = S.1 n ∧ (μ.1 48 n).toInt = S.2 n
theorem SM_up {μ : mS} {S : lbl} (h : SM μ S) {j : Nat} {v w : Int32} {a b : Int} (hv : v.toInt = a) (hw : w.toInt = b) : SM (seti (seti μ 47 (va_up (μ.1 47) j v)) 48 (va_up (μ.1 48) j w)) (va_up S.1 j a, va_up S.2 j b) := by
  intro n hn
  show (va_up (μ.1 47) j v n).toInt = va_up S.1 j a n ∧ (va_up (μ.1 48) j w n).toInt = va_up S.2 j b n
  by_cases q : n = j
  · subst q
    rw [va_up_self, va_up_self, va_up_self, va_up_self]
    exact ⟨hv, hw⟩
  · rw [va_up_ne _ _ q, va_up_ne _ _ q, va_up_ne _ _ q, va_up_ne _ _ q]
    exact h n hn
theorem o3 (t : Nat) : 3 + Int32.ofNat t = Int32.ofNat (3 + t) := by
  rw [Int32.ofNat_add]; rfl
theorem far_up {β : Type} {d p : Nat → Int} {μ : mS} {S : lbl} (hS : SM μ S) (h8 : ∀ i, i < 18 → (μ.1 32 i).toInt = d i ∧ 1 ≤ d i ∧ d i ≤ 30) (hp : ∀ n, n < 9 → 0 ≤ p n) (hL : Lb p S) {t m : Nat} (ht : t < 6) (hm : m < 3) (F : mS → β) : ∃ μ', (if μ.1 47 (3 + t) ≤ μ.1 47 m + μ.1 32 (3 * t + m) then F μ else F (seti (seti μ 47 (va_up (μ.1 47) (3 + t) (μ.1 47 m + μ.1 32 (3 * t + m)))) 48 (va_up (μ.1 48) (3 + t) (Int32.ofNat m)))) = F μ' ∧ SM μ' (rlG 2000000 (eU d t m) S) ∧ FrF μ' μ := by
  have a1 := (hS m (by omega)).1
  have b1 := (hS (3 + t) (by omega)).1
  have l1 := hL m (by omega)
  have l2 := hp m (by omega)
  obtain ⟨d1, d2, d3⟩ := h8 (3 * t + m) (by omega)
  have hy : (μ.1 47 m + μ.1 32 (3 * t + m)).toInt = S.1 m + d (3 * t + m) := by
    rw [add_int (by omega) (by omega), a1, d1]
  by_cases c : μ.1 47 (3 + t) ≤ μ.1 47 m + μ.1 32 (3 * t + m)
  · have c' : S.1 (3 + t) ≤ S.1 m + d (3 * t + m) := by rw [le_int, hy, b1] at c; exact c
    refine ⟨μ, if_pos c, ?_, FrF_r _⟩
    rw [rl_no (Or.inl c')]; exact hS
  · have c' : ¬ S.1 (3 + t) ≤ S.1 m + d (3 * t + m) := fun z => c (by rw [le_int, hy, b1]; exact z)
    refine ⟨_, if_neg c, ?_, FrF_up (FrF_up (FrF_r μ) 47 _ (by omega)) 48 _ (by omega)⟩
    rw [rl_yes (G := 2000000) (e := eU d t m) (S := S) ⟨by show S.1 m < 2000000; omega, by show S.1 m + d (3 * t + m) < S.1 (3 + t); omega⟩]
    exact SM_up hS hy (ofn_int (by omega))
theorem far_dn {β : Type} {d x p : Nat → Int} {μ : mS} {S : lbl} (hS : SM μ S) (h8 : ∀ i, i < 18 → (μ.1 32 i).toInt = d i ∧ 1 ≤ d i ∧ d i ≤ 30) (hx : ∀ i, i < 18 → (μ.1 44 i).toInt = x i) (hp : ∀ n, n < 9 → 0 ≤ p n) (hL : Lb p S) {t m : Nat} (ht : t < 6) (hm : m < 3) {y : Int32} (hy0 : y = μ.1 32 (3 * t + m)) (F : mS → β) : ∃ μ', (if μ.1 44 (3 * t + m) ≤ 0 then F μ else if μ.1 47 m ≤ μ.1 47 (3 + t) - y then F μ else F (seti (seti μ 47 (va_up (μ.1 47) m (μ.1 47 (3 + t) - y))) 48 (va_up (μ.1 48) m (Int32.ofNat (3 + t))))) = F μ' ∧ SM μ' (rls 2000000 (dnE d x t m) S) ∧ FrF μ' μ := by
  subst hy0
  have a1 := (hS m (by omega)).1
  have b1 := (hS (3 + t) (by omega)).1
  have l1 := hL (3 + t) (by omega)
  have l2 := hp (3 + t) (by omega)
  obtain ⟨d1, d2, d3⟩ := h8 (3 * t + m) (by omega)
  have x1 := hx (3 * t + m) (by omega)
  have hy : (μ.1 47 (3 + t) - μ.1 32 (3 * t + m)).toInt = S.1 (3 + t) + -(d (3 * t + m)) := by
    rw [sub_int (by omega) (by omega), b1, d1]; omega
  by_cases c0 : 0 < x (3 * t + m)
  · have hE : dnE d x t m = [eD d t m] := if_pos c0
    rw [hE, if_neg (fun z => (pos_le _).mp z (by rw [x1]; exact c0))]
    show ∃ μ', _ ∧ SM μ' (rlG 2000000 (eD d t m) S) ∧ _
    by_cases c : μ.1 47 m ≤ μ.1 47 (3 + t) - μ.1 32 (3 * t + m)
    · have c' : S.1 m ≤ S.1 (3 + t) + -(d (3 * t + m)) := by rw [le_int, hy, a1] at c; exact c
      refine ⟨μ, if_pos c, ?_, FrF_r _⟩
      rw [rl_no (Or.inl c')]; exact hS
    · have c' : ¬ S.1 m ≤ S.1 (3 + t) + -(d (3 * t + m)) := fun z => c (by rw [le_int, hy, a1]; exact z)
      refine ⟨_, if_neg c, ?_, FrF_up (FrF_up (FrF_r μ) 47 _ (by omega)) 48 _ (by omega)⟩
      rw [rl_yes (G := 2000000) (e := eD d t m) (S := S) ⟨by show S.1 (3 + t) < 2000000; omega, by show S.1 (3 + t) + -(d (3 * t + m)) < S.1 m; omega⟩]
      exact SM_up hS hy (ofn_int (by omega))
  · have hE : dnE d x t m = [] := if_neg c0
    rw [hE, if_pos ((pos_le _).mpr (by rw [x1]; exact c0))]
    exact ⟨μ, rfl, hS, FrF_r _⟩
def rM (d x : Nat → Int) (t m : Nat) : List edg := eU d t m :: dnE d x t m
def rT (d x : Nat → Int) (t : Nat) : List edg := rM d x t 0 ++ (rM d x t 1 ++ rM d x t 2)
theorem rM_E {d x : Nat → Int} {t m : Nat} (ht : t < 6) (hm : m < 3) : ∀ e, e ∈ rM d x t m → Ed d x e := by
  intro e he
  rcases List.mem_cons.mp he with h | h
  · exact ⟨t, m, ht, hm, Or.inl h⟩
  · exact dnE_E ht hm e h
theorem far_1 {d x p : Nat → Int} (hg : Good p (Ed d x)) (hp : ∀ n, n < 9 → 0 ≤ p n) {μ : mS} {S : lbl} (hS : SM μ S) (h8 : ∀ i, i < 18 → (μ.1 32 i).toInt = d i ∧ 1 ≤ d i ∧ d i ≤ 30) (hx : ∀ i, i < 18 → (μ.1 44 i).toInt = x i) (hL : Lb p S) {t m : Nat} (ht : t < 6) (hm : m < 3) (f : Nat) (x1 : Int32) : ∃ μ', f_X7_findFar_L65 (f + 1) μ x1 (Int32.ofNat t) (Int32.ofNat m) = f_X7_findFar_L65 f μ' x1 (Int32.ofNat t) (Int32.ofNat (m + 1)) ∧ SM μ' (rls 2000000 (rM d x t m) S) ∧ FrF μ' μ := by
  obtain ⟨-, i2, i3, i4⟩ := ix3 ht hm
  have vm : vin (Int32.ofNat m) 9 = true := ofn_vin (by omega) (by decide)
  have vt : vin (Int32.ofNat (3 + t)) 9 = true := ofn_vin (by omega) (by decide)
  have nm : (Int32.ofNat m).toNatClampNeg = m := ofn_nat (by omega)
  have nt : (Int32.ofNat (3 + t)).toNatClampNeg = 3 + t := ofn_nat (by omega)
  obtain ⟨μ1, k1, k2, k3⟩ := far_up hS h8 hp hL ht hm (fun ν => if ν.1 44 (3 * t + m) ≤ 0 then f_X7_findFar_L65 f ν x1 (Int32.ofNat t) (Int32.ofNat (m + 1)) else if ν.1 47 m ≤ ν.1 47 (3 + t) - μ.1 32 (3 * t + m) then f_X7_findFar_L65 f ν x1 (Int32.ofNat t) (Int32.ofNat (m + 1)) else f_X7_findFar_L65 f (seti (seti ν 47 (va_up (ν.1 47) m (ν.1 47 (3 + t) - μ.1 32 (3 * t + m)))) 48 (va_up (ν.1 48) m (Int32.ofNat (3 + t)))) x1 (Int32.ofNat t) (Int32.ofNat (m + 1)))
  have e32 : μ1.1 32 = μ.1 32 := k3.2 32 (by decide) (by decide)
  have e44 : μ1.1 44 = μ.1 44 := k3.2 44 (by decide) (by decide)
  have L1 := Lb_rl (G := 2000000) hg (show Ed d x (eU d t m) from ⟨t, m, ht, hm, Or.inl rfl⟩) hL
  obtain ⟨μ2, j1, j2, j3⟩ := far_dn (x := x) k2 (fun i hi => by rw [e32]; exact h8 i hi) (fun i hi => by rw [e44]; exact hx i hi) hp L1 ht hm (show μ.1 32 (3 * t + m) = μ1.1 32 (3 * t + m) by rw [e32]) (fun ν => f_X7_findFar_L65 f ν x1 (Int32.ofNat t) (Int32.ofNat (m + 1)))
  refine ⟨μ2, ?_, j2, FrF_t k3 j3⟩
  rw [f_X7_findFar_L65, if_neg (lt3 hm)]
  simp only [o3, vm, vt, nm, nt, i2, i3, i4, cond_true, letm, ofn_succ]
  exact k1.trans j1
theorem far_65 {d x p : Nat → Int} (hg : Good p (Ed d x)) (hp : ∀ n, n < 9 → 0 ≤ p n) {μ : mS} {S : lbl} (hS : SM μ S) (h8 : ∀ i, i < 18 → (μ.1 32 i).toInt = d i ∧ 1 ≤ d i ∧ d i ≤ 30) (hx : ∀ i, i < 18 → (μ.1 44 i).toInt = x i) (hL : Lb p S) {t : Nat} (ht : t < 6) (x1 : Int32) : ∃ μ', f_X7_findFar_L65 4000 μ x1 (Int32.ofNat t) 0 = some μ' ∧ SM μ' (rls 2000000 (rT d x t) S) ∧ FrF μ' μ := by
  have h8' : ∀ μ', FrF μ' μ → ∀ i, i < 18 → (μ'.1 32 i).toInt = d i ∧ 1 ≤ d i ∧ d i ≤ 30 := fun μ' h i hi => by
    rw [h.2 32 (by decide) (by decide)]; exact h8 i hi
  have hx' : ∀ μ', FrF μ' μ → ∀ i, i < 18 → (μ'.1 44 i).toInt = x i := fun μ' h i hi => by
    rw [h.2 44 (by decide) (by decide)]; exact hx i hi
  obtain ⟨μ1, a1, a2, a3⟩ := far_1 hg hp hS h8 hx hL ht (show 0 < 3 by decide) 3999 x1
  have L1 := Lb_rls (G := 2000000) hg (rM d x t 0) S (rM_E ht (by decide)) hL
  obtain ⟨μ2, b1, b2, b3⟩ := far_1 hg hp a2 (h8' μ1 a3) (hx' μ1 a3) L1 ht (show 1 < 3 by decide) 3998 x1
  have L2 := Lb_rls (G := 2000000) hg (rM d x t 1) _ (rM_E ht (by decide)) L1
  have f2 := FrF_t a3 b3
  obtain ⟨μ3, c1, c2, c3⟩ := far_1 hg hp b2 (h8' μ2 f2) (hx' μ2 f2) L2 ht (show 2 < 3 by decide) 3997 x1
  refine ⟨μ3, ?_, ?_, FrF_t f2 c3⟩
  · have a1' : f_X7_findFar_L65 4000 μ x1 (Int32.ofNat t) 0 = f_X7_findFar_L65 3999 μ1 x1 (Int32.ofNat t) (Int32.ofNat 1) := a1
    rw [a1', b1, c1, f_X7_findFar_L65, if_pos (by decide)]
  · unfold rT
    rw [rls_app, rls_app]
    exact c2
def rRnd (d x : Nat → Int) : Nat → Nat → List edg
  | _, 0 => []
  | t, n + 1 => rT d x t ++ rRnd d x (t + 1) n
theorem rM_mem {d x : Nat → Int} {t m : Nat} {e : edg} : e ∈ rM d x t m ↔ e = eU d t m ∨ (0 < x (3 * t + m) ∧ e = eD d t m) := by
  unfold rM
  rw [List.mem_cons, dnE_mem]
theorem rRnd_mem {d x : Nat → Int} : ∀ (n t : Nat) (e : edg), e ∈ rRnd d x t n ↔ ∃ k m, t ≤ k ∧ k < t + n ∧ m < 3 ∧ (e = eU d k m ∨ (0 < x (3 * k + m) ∧ e = eD d k m)) := by
  intro n
  induction n with
  | zero =>
    intro t e
    exact ⟨fun h => (by cases h), fun ⟨k, m, h1, h2, _⟩ => by omega⟩
  | succ n ih =>
    intro t e
    rw [rRnd, List.mem_append, ih]
    unfold rT
    rw [List.mem_append, List.mem_append, rM_mem, rM_mem, rM_mem]
    constructor
    · rintro ((h | h | h) | ⟨k, m, h1, h2, h3⟩)
      · exact ⟨t, 0, Nat.le_refl _, by omega, by decide, h⟩
      · exact ⟨t, 1, Nat.le_refl _, by omega, by decide, h⟩
      · exact ⟨t, 2, Nat.le_refl _, by omega, by decide, h⟩
      · exact ⟨k, m, by omega, by omega, h3⟩
    · rintro ⟨k, m, h1, h2, h3, h4⟩
      by_cases q : k = t
      · subst q
        have hm : m = 0 ∨ m = 1 ∨ m = 2 := by omega
        rcases hm with rfl | rfl | rfl
        · exact Or.inl (Or.inl h4)
        · exact Or.inl (Or.inr (Or.inl h4))
        · exact Or.inl (Or.inr (Or.inr h4))
      · exact Or.inr ⟨k, m, by omega, by omega, h3, h4⟩
theorem rRnd_E {d x : Nat → Int} (e : edg) : e ∈ rRnd d x 0 6 ↔ Ed d x e := by
  rw [rRnd_mem]
  unfold Ed
  constructor
  · rintro ⟨k, m, h1, h2, h3, h4⟩
    exact ⟨k, m, by omega, h3, h4⟩
  · rintro ⟨k, m, h1, h3, h4⟩
    exact ⟨k, m, by omega, by omega, h3, h4⟩
theorem rT_E {d x : Nat → Int} {t : Nat} (ht : t < 6) : ∀ e, e ∈ rT d x t → Ed d x e := by
  intro e he
  unfold rT at he
  rw [List.mem_append, List.mem_append] at he
  rcases he with h | h | h
  · exact rM_E ht (by decide) e h
  · exact rM_E ht (by decide) e h
  · exact rM_E ht (by decide) e h
theorem far_57 {d x p : Nat → Int} (hg : Good p (Ed d x)) (hp : ∀ n, n < 9 → 0 ≤ p n) (x1 : Int32) : ∀ (n k f : Nat) (μ : mS) (S : lbl), k + n = 6 → n < f → SM μ S → (∀ i, i < 18 → (μ.1 32 i).toInt = d i ∧ 1 ≤ d i ∧ d i ≤ 30) → (∀ i, i < 18 → (μ.1 44 i).toInt = x i) → Lb p S → ∃ μ', f_X7_findFar_L57 f μ x1 (Int32.ofNat k) = some μ' ∧ SM μ' (rls 2000000 (rRnd d x k n) S) ∧ FrF μ' μ := by
  intro n
  induction n with
  | zero =>
    intro k f μ S hk hf hS h8 hx hL
    obtain ⟨f, rfl⟩ : ∃ z, f = z + 1 := ⟨f - 1, by omega⟩
    have e : k = 6 := by omega
    subst e
    exact ⟨μ, by rw [f_X7_findFar_L57, if_pos (by decide)], hS, FrF_r _⟩
  | succ n ih =>
    intro k f μ S hk hf hS h8 hx hL
    obtain ⟨f, rfl⟩ : ∃ z, f = z + 1 := ⟨f - 1, by omega⟩
    have hk6 : k < 6 := by omega
    obtain ⟨μ1, a1, a2, a3⟩ := far_65 hg hp hS h8 hx hL hk6 x1
    have L1 := Lb_rls (G := 2000000) hg (rT d x k) S (rT_E hk6) hL
    obtain ⟨μ2, b1, b2, b3⟩ := ih (k + 1) f μ1 _ (by omega) (by omega) a2 (fun i hi => by rw [a3.2 32 (by decide) (by decide)]; exact h8 i hi) (fun i hi => by rw [a3.2 44 (by decide) (by decide)]; exact hx i hi) L1
    refine ⟨μ2, ?_, ?_, FrF_t a3 b3⟩
    · rw [f_X7_findFar_L57, if_neg (lt6 hk6), a1, Option.bind_some, ofn_succ]
      exact b1
    · rw [rRnd, rls_app]
      exact b2
/-- nothing left: what is wanted stays far -/
def Hi (p : Nat → Int) (D : Int) (S : lbl) : Prop := ∀ n, n < 9 → 1000000 ≤ S.1 n ∨ 1000000 + p n - D ≤ S.1 n
theorem Hi_rl {G : Int} {d g nd x L W p : Nat → Int} {C D : Int} (h : FI d g nd x L W C p D) (hd : ∀ i, i < 18 → 1 ≤ d i ∧ d i ≤ 30) {e : edg} (he : Ed d x e) {S : lbl} (hH : Hi p D S) : Hi p D (rlG G e S) := by
  obtain ⟨h1, h2, h3, h4, h5, h6, h7, h8, h9⟩ := h
  unfold rlG
  by_cases c : S.1 e.1 < G ∧ S.1 e.1 + e.2.2 < S.1 e.2.1
  · rw [if_pos c]
    intro n hn
    show 1000000 ≤ va_up S.1 e.2.1 (S.1 e.1 + e.2.2) n ∨ 1000000 + p n - D ≤ va_up S.1 e.2.1 (S.1 e.1 + e.2.2) n
    by_cases q : n = e.2.1
    · subst q
      rw [va_up_self]
      obtain ⟨t, m, ht, hm, rfl | ⟨hx, rfl⟩⟩ := he
      · show 1000000 ≤ S.1 m + d (3 * t + m) ∨ 1000000 + p (3 + t) - D ≤ S.1 m + d (3 * t + m)
        have a1 := hH m (by omega)
        have a2 := (h5 t m ht hm).1
        have a3 := hd (3 * t + m) (by omega)
        omega
      · show 1000000 ≤ S.1 (3 + t) + -(d (3 * t + m)) ∨ 1000000 + p m - D ≤ S.1 (3 + t) + -(d (3 * t + m))
        have a1 := hH (3 + t) (by omega)
        have a2 := (h5 t m ht hm).2 hx
        have a3 : W t < nd t := by
          have b1 := (h3 t ht).2
          have b2 : x (3 * t + m) ≤ row x t := sm_ge (f := fun m => x (3 * t + m)) 3 (fun k hk => h1 _ (by omega)) m hm
          omega
        have a4 := (h7 t ht).2 a3
        omega
    · rw [va_up_ne _ _ q]; exact hH n hn
  · rw [if_neg c]; exact hH
theorem Hi_rls {G : Int} {d g nd x L W p : Nat → Int} {C D : Int} (h : FI d g nd x L W C p D) (hd : ∀ i, i < 18 → 1 ≤ d i ∧ d i ≤ 30) : ∀ (l : List edg) (S : lbl), (∀ e, e ∈ l → Ed d x e) → Hi p D S → Hi p D (rls G l S) := by
  intro l
  induction l with
  | nil => intro S _ hH; exact hH
  | cons e l ih =>
    intro S hl hH
    exact ih (rlG G e S) (fun e' h' => hl e' (List.mem_cons_of_mem _ h')) (Hi_rl h hd (hl e List.mem_cons_self) hH)
theorem far_49 {d g nd x L W p r : Nat → Int} {C D : Int} (h : FI d g nd x L W C p D) (hd : ∀ i, i < 18 → 1 ≤ d i ∧ d i ≤ 30) : ∀ (n k f : Nat) (μ : mS) (S : lbl), k + n = 9 → n < f → SM μ S → (∀ i, i < 18 → (μ.1 32 i).toInt = d i) → (∀ i, i < 18 → (μ.1 44 i).toInt = x i) → Lb p S → BFk 2000000 p (Ed d x) S.1 k → (∃ ρ, Jv (Ed d x) r S ρ) → ∃ μ' S', f_X7_findFar_L49 f μ (Int32.ofNat k) = some μ' ∧ SM μ' S' ∧ FrF μ' μ ∧ Lb p S' ∧ Fxd 2000000 (Ed d x) S'.1 ∧ (∃ ρ, Jv (Ed d x) r S' ρ) ∧ (∀ j, S'.1 j ≤ S.1 j) ∧ (Hi p D S → Hi p D S') := by
  have hg := Good_of h
  have hp : ∀ n, n < 9 → 0 ≤ p n := fun n hn => (h.2.2.2.2.2.2.2.2 n hn).1
  intro n
  induction n with
  | zero =>
    intro k f μ S hk hf hS h8 hx hL hB hJ
    obtain ⟨f, rfl⟩ : ∃ z, f = z + 1 := ⟨f - 1, by omega⟩
    have e : k = 9 := by omega
    subst e
    exact ⟨μ, S, by rw [f_X7_findFar_L49, if_pos (by decide)], hS, FrF_r _, hL, BFk_9 hB, hJ, fun j => Int.le_refl _, fun z => z⟩
  | succ n ih =>
    intro k f μ S hk hf hS h8 hx hL hB hJ
    obtain ⟨f, rfl⟩ : ∃ z, f = z + 1 := ⟨f - 1, by omega⟩
    have hle : ¬ (9 : Int32) ≤ Int32.ofNat k := by
      rw [show (9 : Int32) = Int32.ofNat 9 from rfl, ofn_le (by omega) (by omega)]; omega
    obtain ⟨μ1, a1, a2, a3⟩ := far_57 hg hp (Int32.ofNat k) 6 0 4000 μ S (by decide) (by decide) hS (fun i hi => ⟨h8 i hi, hd i hi⟩) hx hL
    have a1' : f_X7_findFar_L57 4000 μ (Int32.ofNat k) 0 = some μ1 := a1
    have hE : ∀ e, e ∈ rRnd d x 0 6 → Ed d x e := fun e he => (rRnd_E e).mp he
    obtain ⟨ρ, hρ⟩ := hJ
    obtain ⟨μ2, S2, i1, i2, i3, i4, i5, i6, i7, i8⟩ := ih (k + 1) f μ1 _ (by omega) (by omega) a2 (fun i hi => by rw [a3.2 32 (by decide) (by decide)]; exact h8 i hi) (fun i hi => by rw [a3.2 44 (by decide) (by decide)]; exact hx i hi) (Lb_rls (G := 2000000) hg (rRnd d x 0 6) S hE hL) (BFk_s hg (l := rRnd d x 0 6) (fun e => rRnd_E e) hB) (Jv_rls (G := 2000000) hg (rRnd d x 0 6) S ρ hE hρ)
    refine ⟨μ2, S2, ?_, i2, FrF_t a3 i3, i4, i5, i6, fun j => Int.le_trans (i7 j) (rls_le _ _ _ _), fun z => i8 (Hi_rls h hd _ S hE z)⟩
    rw [f_X7_findFar_L49, if_neg hle, a1', Option.bind_some, ofn_succ]
    exact i1
theorem far_2 : ∀ (n k f : Nat) (μ : mS), k + n = 9 → n < f → ∃ μ', f_X7_findFar_L2 f μ (Int32.ofNat k) = some μ' ∧ FrF μ' μ ∧ (∀ j, k ≤ j → j < 9 → (μ'.1 47 j).toInt = r0 (cI (μ.1 45)) j ∧ μ'.1 48 j = -1) ∧ ∀ j, j < k → μ'.1 47 j = μ.1 47 j ∧ μ'.1 48 j = μ.1 48 j := by
  intro n
  induction n with
  | zero =>
    intro k f μ hk hf
    obtain ⟨f, rfl⟩ : ∃ z, f = z + 1 := ⟨f - 1, by omega⟩
    have e : k = 9 := by omega
    subst e
    exact ⟨μ, by rw [f_X7_findFar_L2, if_pos (by decide)], FrF_r _, fun j h1 h2 => by omega, fun _ _ => ⟨rfl, rfl⟩⟩
  | succ n ih =>
    intro k f μ hk hf
    obtain ⟨f, rfl⟩ : ∃ z, f = z + 1 := ⟨f - 1, by omega⟩
    have hle : ¬ (9 : Int32) ≤ Int32.ofNat k := by
      rw [show (9 : Int32) = Int32.ofNat 9 from rfl, ofn_le (by omega) (by omega)]; omega
    have vk : vin (Int32.ofNat k) 9 = true := ofn_vin (by omega) (by decide)
    have nk : (Int32.ofNat k).toNatClampNeg = k := ofn_nat (by omega)
    have fin : ∀ v : Int32, v.toInt = r0 (cI (μ.1 45)) k → ∃ μ', f_X7_findFar_L2 f (seti (seti μ 47 (va_up (μ.1 47) k v)) 48 (va_up (μ.1 48) k (-1))) (Int32.ofNat (k + 1)) = some μ' ∧ FrF μ' μ ∧ (∀ j, k ≤ j → j < 9 → (μ'.1 47 j).toInt = r0 (cI (μ.1 45)) j ∧ μ'.1 48 j = -1) ∧ ∀ j, j < k → μ'.1 47 j = μ.1 47 j ∧ μ'.1 48 j = μ.1 48 j := by
      intro v hv
      obtain ⟨μ', v1, v2, v3, v4⟩ := ih (k + 1) f (seti (seti μ 47 (va_up (μ.1 47) k v)) 48 (va_up (μ.1 48) k (-1))) (by omega) (by omega)
      refine ⟨μ', v1, FrF_t (FrF_up (FrF_up (FrF_r μ) 47 _ (by omega)) 48 _ (by omega)) v2, fun j h1 h2 => ?_, fun j hj => ?_⟩
      · by_cases q : j = k
        · subst q
          obtain ⟨w1, w2⟩ := v4 j (by omega)
          have w1' : μ'.1 47 j = va_up (μ.1 47) j v j := w1
          have w2' : μ'.1 48 j = va_up (μ.1 48) j (-1) j := w2
          rw [w1', w2', va_up_self, va_up_self]
          exact ⟨hv, rfl⟩
        · exact v3 j (by omega) h2
      · obtain ⟨w1, w2⟩ := v4 j (by omega)
        have w1' : μ'.1 47 j = va_up (μ.1 47) k v j := w1
        have w2' : μ'.1 48 j = va_up (μ.1 48) k (-1) j := w2
        rw [w1', w2', va_up_ne _ _ (by omega), va_up_ne _ _ (by omega)]
        exact ⟨rfl, rfl⟩
    rw [f_X7_findFar_L2, if_neg hle]
    by_cases c3 : k < 3
    · have v3 : vin (Int32.ofNat k) 3 = true := ofn_vin c3 (by decide)
      rw [if_neg (lt3 c3)]
      simp only [vk, nk, v3, cond_true, letm, ofn_succ, pos_le]
      by_cases c : 0 < (μ.1 45 k).toInt
      · rw [if_neg (fun z => z c)]
        refine fin 0 ?_
        unfold r0
        rw [if_pos ⟨c3, c⟩]; decide
      · rw [if_pos c]
        refine fin 1000000 ?_
        unfold r0
        rw [if_neg (fun z => c z.2)]; decide
    · have h3 : (3 : Int32) ≤ Int32.ofNat k := by
        rw [show (3 : Int32) = Int32.ofNat 3 from rfl, ofn_le (by omega) (by omega)]; omega
      rw [if_pos h3]
      simp only [vk, nk, cond_true, letm, ofn_succ]
      refine fin 1000000 ?_
      unfold r0
      rw [if_neg (fun z => c3 z.1)]; decide
theorem far_eq {d g nd p : Nat → Int} {C D : Int} {μ : mS} (hd : ∀ i, i < 18 → 1 ≤ d i ∧ d i ≤ 30) (h : FI d g nd (cI (μ.1 44)) (cI (μ.1 45)) (cI (μ.1 46)) C p D) (h8 : ∀ i, i < 18 → (μ.1 32 i).toInt = d i) : ∃ μ' S, f_X7_findFar μ = some μ' ∧ FrF μ' μ ∧ SM μ' S ∧ ((∀ m, m < 3 → ¬ 0 < cI (μ.1 45) m) → ∀ t, t < 6 → 0 < cI (μ.1 46) t → 1000000 ≤ S.1 (3 + t)) ∧ ∀ m0, m0 < 3 → 0 < cI (μ.1 45) m0 → ∃ ρ, LF d (cI (μ.1 44)) (cI (μ.1 45)) p S.1 S.2 ρ := by
  have hg := Good_of h
  obtain ⟨μa, v1, v2, v3, v4⟩ := far_2 9 0 4000 μ (by decide) (by decide)
  have v1' : f_X7_findFar_L2 4000 μ 0 = some μa := v1
  let S0 : lbl := (r0 (cI (μ.1 45)), fun _ => -1)
  have sa : SM μa S0 := by
    intro n hn
    obtain ⟨w1, w2⟩ := v3 n (Nat.zero_le _) hn
    refine ⟨w1, ?_⟩
    rw [w2]; rfl
  have J0 : Jv (Ed d (cI (μ.1 44))) (r0 (cI (μ.1 45))) S0 (fun _ => 0) := fun n _ => Or.inl ⟨rfl, rfl⟩
  obtain ⟨μ1, S1, i1, i2, i3, i4, i5, i6, i7, i8⟩ := far_49 (r := r0 (cI (μ.1 45))) h hd 9 0 4000 μa S0 (by decide) (by decide) sa (fun i hi => by rw [v2.2 32 (by decide) (by decide)]; exact h8 i hi) (fun i hi => by rw [v2.2 44 (by decide) (by decide)]; rfl) (r0_Lb h _) (BFk_0 _ _ _ hg _) ⟨_, J0⟩
  have i1' : f_X7_findFar_L49 4000 μa 0 = some μ1 := i1
  refine ⟨μ1, S1, ?_, FrF_t v2 i3, i2, fun hz t ht hw => ?_, fun m0 h0 h1 => ?_⟩
  · unfold f_X7_findFar
    rw [v1', Option.bind_some, i1']; rfl
  · have q := i8 (fun n hn => by
      left
      show 1000000 ≤ r0 (cI (μ.1 45)) n
      unfold r0
      rw [if_neg (fun z => hz n z.1 z.2)]; exact Int.le_refl _) (3 + t) (by omega)
    have := (h.2.2.2.2.2.2.1 t ht).1 hw
    omega
  · obtain ⟨ρ, hρ⟩ := i6
    exact ⟨ρ, LF_of h hd (by decide) hρ i4 i5 i7 h0 h1⟩
end FAR
