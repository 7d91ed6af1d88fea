/-! THE PURE PART: nearer and nearer labels over nine nodes (the ways of flow) -/
section BF
abbrev edg : Type := Nat × Nat × Int
abbrev lbl : Type := (Nat → Int) × (Nat → Int)
def rlG (G : Int) (e : edg) (S : lbl) : lbl := if S.1 e.1 < G ∧ S.1 e.1 + e.2.2 < S.1 e.2.1 then (va_up S.1 e.2.1 (S.1 e.1 + e.2.2), va_up S.2 e.2.1 (e.1 : Int)) else S
def rls (G : Int) : List edg → lbl → lbl
  | [], S => S
  | e :: l, S => rls G l (rlG G e S)
theorem rls_app (G : Int) : ∀ (l k : List edg) (S : lbl), rls G (l ++ k) S = rls G k (rls G l S) := by
  intro l
  induction l with
  | nil => intro k S; rfl
  | cons e l ih => intro k S; exact ih k (rlG G e S)
def cn (f : Nat → Int) (θ : Int) : Nat → Nat
  | 0 => 0
  | n + 1 => cn f θ n + (if f n ≤ θ then 1 else 0)
theorem cn_le (f : Nat → Int) (θ : Int) : ∀ n, cn f θ n ≤ n := by
  intro n
  induction n with
  | zero => exact Nat.le_refl _
  | succ n ih =>
    rw [cn]
    by_cases c : f n ≤ θ
    · rw [if_pos c]; omega
    · rw [if_neg c]; omega
theorem cn_mono {f g : Nat → Int} {θ τ : Int} : ∀ n, (∀ k, k < n → f k ≤ θ → g k ≤ τ) → cn f θ n ≤ cn g τ n := by
  intro n
  induction n with
  | zero => intro _; exact Nat.le_refl _
  | succ n ih =>
    intro h
    have i := ih (fun k hk => h k (by omega))
    rw [cn, cn]
    by_cases c : f n ≤ θ
    · rw [if_pos c, if_pos (h n (by omega) c)]; omega
    · rw [if_neg c]; omega
theorem cn_lt {f g : Nat → Int} {θ τ : Int} : ∀ n, (∀ k, k < n → f k ≤ θ → g k ≤ τ) → (∃ k, k < n ∧ ¬ f k ≤ θ ∧ g k ≤ τ) → cn f θ n + 1 ≤ cn g τ n := by
  intro n
  induction n with
  | zero => intro _ ⟨k, h, _⟩; omega
  | succ n ih =>
    intro h ⟨k, h1, h2, h3⟩
    rw [cn, cn]
    by_cases q : k = n
    · subst q
      have i := cn_mono k (fun j hj => h j (by omega))
      rw [if_neg h2, if_pos h3]
      omega
    · have i := ih (fun j hj => h j (by omega)) ⟨k, by omega, h2, h3⟩
      by_cases c : f n ≤ θ
      · rw [if_pos c, if_pos (h n (by omega) c)]; omega
      · rw [if_neg c]; omega
theorem min_ex (P : Nat → Prop) (f : Nat → Int) : ∀ N, (∃ n, n < N ∧ P n) → ∃ n, n < N ∧ P n ∧ ∀ k, k < N → P k → f n ≤ f k := by
  intro N
  induction N with
  | zero => intro ⟨n, h, _⟩; omega
  | succ N ih =>
    intro ⟨n, h1, h2⟩
    by_cases c : ∃ n, n < N ∧ P n
    · obtain ⟨m, m1, m2, m3⟩ := ih c
      by_cases q : P N ∧ f N < f m
      · refine ⟨N, by omega, q.1, fun k hk pk => ?_⟩
        by_cases e : k = N
        · rw [e]; exact Int.le_refl _
        · have := m3 k (by omega) pk; omega
      · refine ⟨m, by omega, m2, fun k hk pk => ?_⟩
        by_cases e : k = N
        · rw [e] at pk ⊢
          have : ¬ f N < f m := fun z => q ⟨pk, z⟩
          omega
        · exact m3 k (by omega) pk
    · have e : n = N := by
        by_cases e : n = N
        · exact e
        · exact absurd ⟨n, by omega, h2⟩ c
      subst e
      refine ⟨n, by omega, h2, fun k hk pk => ?_⟩
      by_cases e : k = n
      · rw [e]; exact Int.le_refl _
      · exact absurd ⟨k, by omega, pk⟩ c
def Cst (G : Int) (A : Nat → Int) (e : edg) : Prop := A e.2.1 ≤ A e.1 + e.2.2 ∨ G ≤ A e.1
def Good (p : Nat → Int) (E : edg → Prop) : Prop := ∀ e, E e → e.1 < 9 ∧ e.2.1 < 9 ∧ e.1 ≠ e.2.1 ∧ p e.2.1 ≤ p e.1 + e.2.2
theorem round_L {G : Int} {p : Nat → Int} {E : edg → Prop} (hg : Good p E) {A0 : Nat → Int} {θ : Int} (h0 : ∀ e, E e → Cst G A0 e ∨ θ ≤ A0 e.1 - p e.1) : ∀ (l : List edg) (S : lbl) (Q : edg → Prop), (∀ e, e ∈ l → E e) → (∀ n, S.1 n ≤ A0 n) → (∀ n, S.1 n = A0 n ∨ θ ≤ S.1 n - p n) → (∀ e, Q e → Cst G S.1 e ∨ S.1 e.1 ≠ A0 e.1) → (∀ n, (rls G l S).1 n ≤ A0 n) ∧ (∀ n, (rls G l S).1 n = A0 n ∨ θ ≤ (rls G l S).1 n - p n) ∧ ∀ e, (Q e ∨ e ∈ l) → Cst G (rls G l S).1 e ∨ (rls G l S).1 e.1 ≠ A0 e.1 := by
  intro l
  induction l with
  | nil =>
    intro S Q _ h1 h2 h3
    refine ⟨h1, h2, fun e h => ?_⟩
    rcases h with h | h
    · exact h3 e h
    · cases h
  | cons e l ih =>
    intro S Q hl h1 h2 h3
    obtain ⟨g1, g2, g3, g4⟩ := hg e (hl e List.mem_cons_self)
    have he := hl e List.mem_cons_self
    have fin : (∀ n, (rlG G e S).1 n ≤ A0 n) ∧ (∀ n, (rlG G e S).1 n = A0 n ∨ θ ≤ (rlG G e S).1 n - p n) ∧ ∀ e', (Q e' ∨ e' = e) → Cst G (rlG G e S).1 e' ∨ (rlG G e S).1 e'.1 ≠ A0 e'.1 := by
      unfold rlG
      by_cases c : S.1 e.1 < G ∧ S.1 e.1 + e.2.2 < S.1 e.2.1
      · rw [if_pos c]
        have hb := h1 e.2.1
        have ha : θ ≤ S.1 e.1 - p e.1 := by
          rcases h2 e.1 with z | z
          · rcases h0 e he with y | y
            · rcases y with y | y
              · exfalso; omega
              · exfalso; omega
            · rw [z]; exact y
          · exact z
        refine ⟨fun n => ?_, fun n => ?_, fun e' h => ?_⟩
        · by_cases q : n = e.2.1
          · subst q
            show va_up S.1 e.2.1 _ e.2.1 ≤ _
            rw [va_up_self]; omega
          · show va_up S.1 e.2.1 _ n ≤ _
            rw [va_up_ne _ _ q]; exact h1 n
        · by_cases q : n = e.2.1
          · subst q
            show va_up S.1 e.2.1 _ e.2.1 = _ ∨ θ ≤ va_up S.1 e.2.1 _ e.2.1 - _
            rw [va_up_self]
            right; omega
          · show va_up S.1 e.2.1 _ n = _ ∨ θ ≤ va_up S.1 e.2.1 _ n - _
            rw [va_up_ne _ _ q]; exact h2 n
        · show Cst G (va_up S.1 e.2.1 (S.1 e.1 + e.2.2)) e' ∨ va_up S.1 e.2.1 (S.1 e.1 + e.2.2) e'.1 ≠ A0 e'.1
          unfold Cst
          by_cases q : e'.1 = e.2.1
          · right
            rw [q, va_up_self]
            omega
          · rw [va_up_ne _ _ q]
            rcases h with h | h
            · by_cases q2 : e'.2.1 = e.2.1
              · rw [q2, va_up_self]
                have := h3 e' h
                unfold Cst at this
                rw [q2] at this
                omega
              · rw [va_up_ne _ _ q2]
                exact h3 e' h
            · subst h
              rw [va_up_self]
              left; left; omega
      · rw [if_neg c]
        refine ⟨h1, h2, fun e' h => ?_⟩
        rcases h with h | h
        · exact h3 e' h
        · subst h
          left
          unfold Cst
          omega
    obtain ⟨i1, i2, i3⟩ := ih (rlG G e S) (fun e' => Q e' ∨ e' = e) (fun e' h => hl e' (List.mem_cons_of_mem _ h)) fin.1 fin.2.1 fin.2.2
    refine ⟨i1, i2, fun e' h => i3 e' ?_⟩
    rcases h with h | h
    · exact Or.inl (Or.inl h)
    · rcases List.mem_cons.mp h with h | h
      · exact Or.inl (Or.inr h)
      · exact Or.inr h
def BFI (G : Int) (p : Nat → Int) (E : edg → Prop) (A : Nat → Int) (k : Nat) : Prop := ∃ θ, k ≤ cn (fun n => A n - p n) θ 9 ∧ ∀ e, E e → Cst G A e ∨ θ ≤ A e.1 - p e.1
def Fxd (G : Int) (E : edg → Prop) (A : Nat → Int) : Prop := ∀ e, E e → Cst G A e
theorem round_end {G : Int} {p : Nat → Int} {E : edg → Prop} (hg : Good p E) {l : List edg} (hl : ∀ e, e ∈ l ↔ E e) {S : lbl} {k : Nat} (h : BFI G p E S.1 k) : Fxd G E (rls G l S).1 ∨ BFI G p E (rls G l S).1 (k + 1) := by
  obtain ⟨θ, hk, h0⟩ := h
  obtain ⟨r1, r2, r3⟩ := round_L hg h0 l S (fun _ => False) (fun e h => (hl e).mp h) (fun n => Int.le_refl _) (fun n => Or.inl rfl) (fun e h => h.elim)
  generalize rls G l S = S' at *
  by_cases c : ∃ n, n < 9 ∧ S'.1 n ≠ S.1 n
  · right
    obtain ⟨m, m1, m2, m3⟩ := min_ex (fun n => S'.1 n ≠ S.1 n) (fun n => S'.1 n - p n) 9 c
    have hm : θ ≤ S'.1 m - p m := (r2 m).resolve_left m2
    have hm2 := r1 m
    refine ⟨S'.1 m - p m, ?_, fun e he => ?_⟩
    · have := cn_lt (f := fun n => S.1 n - p n) (g := fun n => S'.1 n - p n) (θ := θ) (τ := S'.1 m - p m) 9 (fun j hj z => by
        show S'.1 j - p j ≤ _
        have z' : S.1 j - p j ≤ θ := z
        have q1 := r1 j
        rcases r2 j with y | y
        · omega
        · omega) ⟨m, m1, by
          show ¬ S.1 m - p m ≤ θ
          have : S'.1 m ≠ S.1 m := m2
          omega, Int.le_refl _⟩
      omega
    · rcases r3 e (Or.inr ((hl e).mpr he)) with y | y
      · exact Or.inl y
      · exact Or.inr (m3 e.1 (hg e he).1 y)
  · left
    intro e he
    rcases r3 e (Or.inr ((hl e).mpr he)) with y | y
    · exact y
    · exact absurd ⟨e.1, (hg e he).1, y⟩ c
theorem rls_fix {G : Int} : ∀ (l : List edg) (S : lbl), (∀ e, e ∈ l → Cst G S.1 e) → rls G l S = S := by
  intro l
  induction l with
  | nil => intro S _; rfl
  | cons e l ih =>
    intro S h
    have e1 : rlG G e S = S := by
      have := h e List.mem_cons_self
      unfold Cst at this
      unfold rlG
      rw [if_neg (by omega)]
    show rls G l (rlG G e S) = S
    rw [e1]
    exact ih S (fun e' h' => h e' (List.mem_cons_of_mem _ h'))
/-- what k rounds have come to: fixed, or k + 1 labels that stay -/
def BFk (G : Int) (p : Nat → Int) (E : edg → Prop) (A : Nat → Int) (k : Nat) : Prop := Fxd G E A ∨ BFI G p E A (k + 1)
theorem BFk_0 (G : Int) (p : Nat → Int) (E : edg → Prop) (hg : Good p E) (A : Nat → Int) : BFk G p E A 0 := by
  right
  obtain ⟨m, m1, _, m3⟩ := min_ex (fun _ => True) (fun n => A n - p n) 9 ⟨0, by omega, trivial⟩
  refine ⟨A m - p m, ?_, fun e he => Or.inr (m3 e.1 (hg e he).1 trivial)⟩
  have := cn_lt (f := fun n => A n - p n) (g := fun n => A n - p n) (θ := A m - p m - 1) (τ := A m - p m) 9 (fun j hj z => by
    show A j - p j ≤ _
    have z' : A j - p j ≤ A m - p m - 1 := z
    omega) ⟨m, m1, by show ¬ A m - p m ≤ A m - p m - 1; omega, Int.le_refl _⟩
  omega
theorem BFk_s {G : Int} {p : Nat → Int} {E : edg → Prop} (hg : Good p E) {l : List edg} (hl : ∀ e, e ∈ l ↔ E e) {S : lbl} {k : Nat} (h : BFk G p E S.1 k) : BFk G p E (rls G l S).1 (k + 1) := by
  rcases h with h | h
  · left
    rw [rls_fix l S (fun e he => h e ((hl e).mp he))]
    exact h
  · exact round_end hg hl h
theorem BFk_9 {G : Int} {p : Nat → Int} {E : edg → Prop} {A : Nat → Int} (h : BFk G p E A 9) : Fxd G E A := by
  rcases h with h | ⟨θ, h, _⟩
  · exact h
  · have := cn_le (fun n => A n - p n) θ 9
    omega
/-- before: what the pointers say -/
def Jv (E : edg → Prop) (r0 : Nat → Int) (S : lbl) (ρ : Nat → Nat) : Prop := ∀ n, n < 9 → (S.2 n = -1 ∧ S.1 n = r0 n) ∨ ∃ (a : Nat) (w : Int), a < 9 ∧ S.2 n = (a : Int) ∧ E (a, n, w) ∧ S.1 a + w ≤ S.1 n ∧ (ρ a < ρ n ∨ S.1 a + w < S.1 n)
theorem Jv_rl {G : Int} {p : Nat → Int} {E : edg → Prop} (hg : Good p E) {r0 : Nat → Int} {e : edg} (he : E e) {S : lbl} {ρ : Nat → Nat} (h : Jv E r0 S ρ) : ∃ ρ', Jv E r0 (rlG G e S) ρ' := by
  unfold rlG
  by_cases c : S.1 e.1 < G ∧ S.1 e.1 + e.2.2 < S.1 e.2.1
  · rw [if_pos c]
    obtain ⟨g1, g2, g3, g4⟩ := hg e he
    refine ⟨va_up ρ e.2.1 (ρ e.1 + 1), fun n hn => ?_⟩
    show (va_up S.2 e.2.1 (e.1 : Int) n = -1 ∧ va_up S.1 e.2.1 (S.1 e.1 + e.2.2) n = r0 n) ∨ ∃ (a : Nat) (w : Int), a < 9 ∧ va_up S.2 e.2.1 (e.1 : Int) n = (a : Int) ∧ E (a, n, w) ∧ va_up S.1 e.2.1 (S.1 e.1 + e.2.2) a + w ≤ va_up S.1 e.2.1 (S.1 e.1 + e.2.2) n ∧ (va_up ρ e.2.1 (ρ e.1 + 1) a < va_up ρ e.2.1 (ρ e.1 + 1) n ∨ va_up S.1 e.2.1 (S.1 e.1 + e.2.2) a + w < va_up S.1 e.2.1 (S.1 e.1 + e.2.2) n)
    by_cases q : n = e.2.1
    · subst q
      right
      refine ⟨e.1, e.2.2, g1, va_up_self _ _ _, he, ?_, Or.inl ?_⟩
      · rw [va_up_self, va_up_ne _ _ g3]; exact Int.le_refl _
      · rw [va_up_self, va_up_ne _ _ g3]; omega
    · rw [va_up_ne _ _ q, va_up_ne _ _ q, va_up_ne _ _ q]
      rcases h n hn with y | ⟨a, w, y1, y2, y3, y4, y5⟩
      · exact Or.inl y
      · right
        refine ⟨a, w, y1, y2, y3, ?_, ?_⟩
        · by_cases q2 : a = e.2.1
          · subst q2
            rw [va_up_self]; omega
          · rw [va_up_ne _ _ q2]; exact y4
        · by_cases q2 : a = e.2.1
          · subst q2
            right
            rw [va_up_self]; omega
          · rw [va_up_ne _ _ q2, va_up_ne _ _ q2]; exact y5
  · rw [if_neg c]
    exact ⟨ρ, h⟩
theorem Jv_rls {G : Int} {p : Nat → Int} {E : edg → Prop} (hg : Good p E) {r0 : Nat → Int} : ∀ (l : List edg) (S : lbl) (ρ : Nat → Nat), (∀ e, e ∈ l → E e) → Jv E r0 S ρ → ∃ ρ', Jv E r0 (rls G l S) ρ' := by
  intro l
  induction l with
  | nil => intro S ρ _ h; exact ⟨ρ, h⟩
  | cons e l ih =>
    intro S ρ hl h
    obtain ⟨ρ1, h1⟩ := Jv_rl (G := G) hg (hl e List.mem_cons_self) h
    exact ih (rlG G e S) ρ1 (fun e' h' => hl e' (List.mem_cons_of_mem _ h')) h1
/-- bounds -/
def Lb (p : Nat → Int) (S : lbl) : Prop := ∀ n, n < 9 → p n ≤ S.1 n ∧ S.1 n ≤ 1000000
theorem Lb_rl {G : Int} {p : Nat → Int} {E : edg → Prop} (hg : Good p E) {e : edg} (he : E e) {S : lbl} (h : Lb p S) : Lb p (rlG G e S) := by
  unfold rlG
  by_cases c : S.1 e.1 < G ∧ S.1 e.1 + e.2.2 < S.1 e.2.1
  · rw [if_pos c]
    obtain ⟨g1, g2, g3, g4⟩ := hg e he
    intro n hn
    show p n ≤ va_up S.1 e.2.1 (S.1 e.1 + e.2.2) n ∧ va_up S.1 e.2.1 (S.1 e.1 + e.2.2) n ≤ 1000000
    by_cases q : n = e.2.1
    · subst q
      rw [va_up_self]
      have := h e.1 g1
      have := h e.2.1 g2
      omega
    · rw [va_up_ne _ _ q]; exact h n hn
  · rw [if_neg c]; exact h
theorem Lb_rls {G : Int} {p : Nat → Int} {E : edg → Prop} (hg : Good p E) : ∀ (l : List edg) (S : lbl), (∀ e, e ∈ l → E e) → Lb p S → Lb p (rls G l S) := by
  intro l
  induction l with
  | nil => intro S _ h; exact h
  | cons e l ih =>
    intro S hl h
    exact ih (rlG G e S) (fun e' h' => hl e' (List.mem_cons_of_mem _ h')) (Lb_rl hg (hl e List.mem_cons_self) h)
theorem rl_le (G : Int) (e : edg) (S : lbl) (n : Nat) : (rlG G e S).1 n ≤ S.1 n := by
  unfold rlG
  by_cases c : S.1 e.1 < G ∧ S.1 e.1 + e.2.2 < S.1 e.2.1
  · rw [if_pos c]
    show va_up S.1 e.2.1 (S.1 e.1 + e.2.2) n ≤ _
    by_cases q : n = e.2.1
    · subst q
      rw [va_up_self]; omega
    · rw [va_up_ne _ _ q]; exact Int.le_refl _
  · rw [if_neg c]; exact Int.le_refl _
theorem rls_le (G : Int) : ∀ (l : List edg) (S : lbl) (n : Nat), (rls G l S).1 n ≤ S.1 n := by
  intro l
  induction l with
  | nil => intro S n; exact Int.le_refl _
  | cons e l ih => intro S n; exact Int.le_trans (ih _ n) (rl_le G e S n)
end BF
