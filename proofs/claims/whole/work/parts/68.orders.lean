/-! THE PURE PART: order -/
section ORDERS
/-- after k clauses that were good -/
def OL (o k f1 f2 : Nat) : Prop := ∀ (σ : xS) (μ : mS), PA σ μ → RQ σ μ o → ∃ b c σ' μ', (if σ.1 21 0 = σ.1 20 0 then some (3, σ) else f_X5_readClauses_L2 f1 σ (Int32.ofNat k)) = some (c, σ') ∧ f_X7_order_L56 f2 μ (Int32.ofNat o) (Int32.ofNat k) 1 = some (b, μ') ∧ PA σ' μ' ∧ FX σ σ' ∧ FM o μ μ' ∧ ((b = 0 ∧ c < 3) ∨ (b = 1 ∧ c = 3 ∧ RQ σ' μ' o))
theorem L56_0 (f : Nat) (μ : mS) (x y : Int32) : f_X7_order_L56 (f + 1) μ x y 0 = some (0, μ) := by
  rw [f_X7_order_L56, if_pos rfl]
theorem k6 {k : Nat} (h1 : 1 ≤ k) (h6 : k < 6) : ¬ (6 : Int32) ≤ Int32.ofNat k ∧ ¬ Int32.ofNat k ≤ 0 := by
  constructor
  · rw [show (6 : Int32) = Int32.ofNat 6 from rfl, ofn_le (by omega) (by omega)]
    omega
  · rw [show (0 : Int32) = Int32.ofNat 0 from rfl, ofn_le (by omega) (by omega)]
    omega
theorem aft {o k f1 f2 : Nat} (h1 : 1 ≤ k) (h6 : k ≤ 6) (hf1 : 0 < f1) (hf2 : 0 < f2) (h : OL o k f1 f2) {σ : xS} {μ : mS} {b b' : Int32} {σ1 : xS} {μ1 : mS} (hc : CL o σ μ b b' σ1 μ1) : ∃ b2 c σ' μ', (if b = 0 then some (2, σ1) else if σ1.1 21 0 = σ1.1 20 0 then some (3, σ1) else f_X5_readClauses_L2 f1 σ1 (Int32.ofNat k)) = some (c, σ') ∧ f_X7_order_L56 f2 μ1 (Int32.ofNat o) (Int32.ofNat k) b' = some (b2, μ') ∧ PA σ' μ' ∧ FX σ σ' ∧ FM o μ μ' ∧ ((b2 = 0 ∧ c < 3) ∨ (b2 = 1 ∧ c = 3 ∧ RQ σ' μ' o)) := by
  obtain ⟨f1, rfl⟩ : ∃ z, f1 = z + 1 := ⟨f1 - 1, by omega⟩
  obtain ⟨f2, rfl⟩ : ∃ z, f2 = z + 1 := ⟨f2 - 1, by omega⟩
  obtain ⟨p1, p2, p3, p4⟩ := hc
  rcases p4 with ⟨rfl, rfl⟩ | ⟨rfl, rfl, q⟩ | ⟨rfl, rfl, q1, q2⟩
  · exact ⟨0, 2, σ1, μ1, by rw [if_pos rfl], L56_0 _ _ _ _, p1, p2, p3, Or.inl ⟨rfl, by decide⟩⟩
  · obtain ⟨b2, c, σ', μ', e1, e2, e3, e4, e5, e6⟩ := h σ1 μ1 p1 q
    exact ⟨b2, c, σ', μ', by rw [if_neg (by decide)]; exact e1, e2, e3, FX_t p2 e4, FM_t p3 e5, e6⟩
  · have q3 : ¬ σ1.1 21 0 = σ1.1 20 0 := by
      rw [p1.1.1, p1.1.2]
      exact (pa_ix p1 q1).2.2.1
    rw [if_neg (by decide), if_neg q3, f_X5_readClauses_L2]
    by_cases e : k = 6
    · subst e
      exact ⟨0, 0, σ1, μ1, by rw [if_pos (by decide)], L56_0 _ _ _ _, p1, p2, p3, Or.inl ⟨rfl, by decide⟩⟩
    · obtain ⟨k1, k2⟩ := k6 h1 (show k < 6 by omega)
      refine ⟨0, 1, σ1, μ1, ?_, L56_0 _ _ _ _, p1, p2, p3, Or.inl ⟨rfl, by decide⟩⟩
      rcases here_eq p1 59 with ⟨t1, t2⟩ | ⟨t1, t2, t3, t4⟩
      · have t1' : rdw (h_byt.getD 0 []) σ1 = some (0, σ1) := by
          show rdw [59] σ1 = _
          rw [rdw, t1]
          rfl
        rw [if_neg k1, if_neg k2, t1']
        rfl
      · exact absurd t4 q2
theorem ord_L {o : Nat} (ho : o < 10) : ∀ (d k f1 f2 : Nat), 1 ≤ k → k + d = 6 → d + 1 < f1 → d + 1 < f2 → OL o k f1 f2 := by
  intro d
  induction d with
  | zero =>
    intro k f1 f2 h1 h6 hf1 hf2 σ μ p q
    obtain ⟨f1, rfl⟩ : ∃ z, f1 = z + 1 := ⟨f1 - 1, by omega⟩
    obtain ⟨f2, rfl⟩ : ∃ z, f2 = z + 2 := ⟨f2 - 2, by omega⟩
    have e : k = 6 := by omega
    subst e
    rw [f_X7_order_L56, if_neg (show ¬ (1 : Int32) = 0 by decide)]
    by_cases c : μ.1 20 0 ≤ μ.1 26 0
    · have e : σ.1 21 0 = σ.1 20 0 := by
        rw [p.1.1, p.1.2]
        exact Int32.le_antisymm p.2.1.2.1 c
      rw [if_pos c, if_pos e]
      exact ⟨1, 3, σ, μ, rfl, rfl, p, FX_r _, FM_r _ _, Or.inr ⟨rfl, rfl, q⟩⟩
    · have e : ¬ σ.1 21 0 = σ.1 20 0 := by
        rw [p.1.1, p.1.2]
        exact (pa_ix p c).2.2.1
      rw [if_neg c, if_neg e, if_pos (show (6 : Int32) ≤ Int32.ofNat 6 by decide), f_X5_readClauses_L2, if_pos (show (6 : Int32) ≤ Int32.ofNat 6 by decide)]
      exact ⟨0, 0, σ, μ, rfl, L56_0 _ _ _ _, p, FX_r _, FM_r _ _, Or.inl ⟨rfl, by decide⟩⟩
  | succ d ih =>
    intro k f1 f2 h1 h6 hf1 hf2 σ μ p q
    obtain ⟨f1, rfl⟩ : ∃ z, f1 = z + 1 := ⟨f1 - 1, by omega⟩
    obtain ⟨f2, rfl⟩ : ∃ z, f2 = z + 2 := ⟨f2 - 2, by omega⟩
    rw [f_X7_order_L56, if_neg (show ¬ (1 : Int32) = 0 by decide)]
    by_cases c : μ.1 20 0 ≤ μ.1 26 0
    · have e : σ.1 21 0 = σ.1 20 0 := by
        rw [p.1.1, p.1.2]
        exact Int32.le_antisymm p.2.1.2.1 c
      rw [if_pos c, if_pos e]
      exact ⟨1, 3, σ, μ, rfl, rfl, p, FX_r _, FM_r _ _, Or.inr ⟨rfl, rfl, q⟩⟩
    · have e : ¬ σ.1 21 0 = σ.1 20 0 := by
        rw [p.1.1, p.1.2]
        exact (pa_ix p c).2.2.1
      obtain ⟨k1, k2⟩ := k6 h1 (show k < 6 by omega)
      rw [if_neg c, if_neg e, if_neg k1, f_X5_readClauses_L2, if_neg k1, if_neg k2]
      rcases here_eq p 59 with ⟨t1, t2⟩ | ⟨t1, t2, t3, t4⟩
      · have t1' : rdw (h_byt.getD 0 []) σ = some (0, σ) := by
          show rdw [59] σ = _
          rw [rdw, t1]
          rfl
        refine ⟨0, 1, σ, μ, by rw [t1']; rfl, ?_, p, FX_r _, FM_r _ _, Or.inl ⟨rfl, by decide⟩⟩
        rw [t2, Option.bind_some, if_pos rfl]
        exact L56_0 _ _ _ _
      · have t1' : rdw (h_byt.getD 0 []) σ = some (1, xi σ 21 (fun _ => μ.1 26 0 + 1)) := by
          show rdw [59] σ = _
          rw [rdw, t1, Option.bind_some, if_neg (by decide), p.1.2]
          rfl
        have p2 := pa_step p t3
        have q2 : RQ (xi σ 21 (fun _ => μ.1 26 0 + 1)) (seti μ 26 (fun _ => μ.1 26 0 + 1)) o := q
        obtain ⟨b, b', σ1, μ1, c1, c2, c3⟩ := clause_eq ho p2 q2
        obtain ⟨b2, cc, σ', μ', e1, e2, e3, e4, e5, e6⟩ := aft (show 1 ≤ k + 1 by omega) (show k + 1 ≤ 6 by omega) (show 0 < f1 by omega) (show 0 < f2 + 1 by omega) (ih (k + 1) f1 (f2 + 1) (by omega) (by omega) (by omega) (by omega)) c3
        refine ⟨b2, cc, σ', μ', ?_, ?_, e3, FX_t (FX_1 (FX1_at _ _)) e4, FM_t (FM_1 o (FM1_at _ _)) e5, e6⟩
        · rw [t1', Option.bind_some, if_neg (n10p _), c1, Option.bind_some, ofn_succ]
          exact e1
        · rw [t2, Option.bind_some, if_neg (n10p _), c2, Option.bind_some, ofn_succ]
          rcases c3.2.2.2 with ⟨_, rfl⟩ | ⟨_, rfl, _⟩ | ⟨_, rfl, _⟩
          · rw [if_pos rfl]; exact e2
          · rw [if_neg (n10p _)]; exact e2
          · rw [if_pos rfl]; exact e2
/-- the model's beginning and end -/
theorem seti_seti (μ : mS) (c : Nat) (f g : Nat → Int32) : seti (seti μ c f) c g = seti μ c g := by
  unfold seti
  rw [va_up_up]
theorem seti_id (μ : mS) (c : Nat) : seti μ c (μ.1 c) = μ := by
  unfold seti
  rw [va_up_id]
theorem L19_eq {o : Nat} (ho : o < 10) : ∀ (d k f : Nat) (μ : mS), k + d = 8 → d < f → ∃ W, f_X7_order_L19 f μ (Int32.ofNat o) (Int32.ofNat k) = some (seti μ 22 W) ∧ (∀ j, 8 * o + k ≤ j → j < 8 * o + 8 → W j = 0) ∧ ∀ j, (j < 8 * o + k ∨ 8 * o + 8 ≤ j) → W j = μ.1 22 j := by
  intro d
  induction d with
  | zero =>
    intro k f μ hk hf
    obtain ⟨f, rfl⟩ : ∃ z, f = z + 1 := ⟨f - 1, by omega⟩
    have e : k = 8 := by omega
    subst e
    exact ⟨μ.1 22, by rw [f_X7_order_L19, if_pos (by decide), seti_id], fun j h1 h2 => by omega, fun j _ => rfl⟩
  | succ d ih =>
    intro k f μ hk hf
    obtain ⟨f, rfl⟩ : ∃ z, f = z + 1 := ⟨f - 1, by omega⟩
    have hle : ¬ (8 : Int32) ≤ Int32.ofNat k := by rw [show (8 : Int32) = Int32.ofNat 8 from rfl, ofn_le (by omega) (by omega)]; omega
    have h0 : 0 ≤ Int32.ofNat k := (ofn_le (n := 0) (by decide) (by omega)).mpr (Nat.zero_le k)
    obtain ⟨n1, n2⟩ := eight_ix (k := o) (s := Int32.ofNat k) ho h0 (by rw [ofn_nat (by omega)]; omega)
    rw [ofn_nat (by omega)] at n2
    obtain ⟨W, w1, w2, w3⟩ := ih (k + 1) f (um μ 22 (8 * o + k) 0) (by omega) (by omega)
    refine ⟨W, ?_, fun j h1 h2 => ?_, fun j h => ?_⟩
    · rw [f_X7_order_L19, if_neg hle, n1, n2, ofn_succ]
      rw [seti_seti] at w1
      exact w1
    · by_cases q : j = 8 * o + k
      · subst q
        rw [w3 _ (by omega), mi_self, va_up_self]
      · exact w2 j (by omega) h2
    · rw [w3 j (by omega), mi_self, va_up_ne _ _ (by omega)]
theorem L126_eq {o : Nat} (ho : o < 10) : ∀ (d k f : Nat) (μ : mS), k + d = 6 → d < f → ∃ W, f_X7_order_L126 f μ (Int32.ofNat o) (Int32.ofNat k) = some (seti μ 25 W) ∧ (∀ j, 6 * o + k ≤ j → j < 6 * o + 6 → W j = 0) ∧ ∀ j, (j < 6 * o + k ∨ 6 * o + 6 ≤ j) → W j = μ.1 25 j := by
  intro d
  induction d with
  | zero =>
    intro k f μ hk hf
    obtain ⟨f, rfl⟩ : ∃ z, f = z + 1 := ⟨f - 1, by omega⟩
    have e : k = 6 := by omega
    subst e
    exact ⟨μ.1 25, by rw [f_X7_order_L126, if_pos (by decide), seti_id], fun j h1 h2 => by omega, fun j _ => rfl⟩
  | succ d ih =>
    intro k f μ hk hf
    obtain ⟨f, rfl⟩ : ∃ z, f = z + 1 := ⟨f - 1, by omega⟩
    have hle : ¬ (6 : Int32) ≤ Int32.ofNat k := by rw [show (6 : Int32) = Int32.ofNat 6 from rfl, ofn_le (by omega) (by omega)]; omega
    have h0 : 0 ≤ Int32.ofNat k := (ofn_le (n := 0) (by decide) (by omega)).mpr (Nat.zero_le k)
    have h5 : Int32.ofNat k ≤ 5 := (ofn_le (m := 5) (by omega) (by decide)).mpr (by omega)
    obtain ⟨n0, n1, n2⟩ := six_ix (k := o) (t := Int32.ofNat k) ho ⟨h0, h5⟩
    rw [ofn_nat (by omega)] at n2
    obtain ⟨W, w1, w2, w3⟩ := ih (k + 1) f (um μ 25 (6 * o + k) 0) (by omega) (by omega)
    refine ⟨W, ?_, fun j h1 h2 => ?_, fun j h => ?_⟩
    · rw [f_X7_order_L126, if_neg hle, n1, n2, ofn_succ]
      rw [seti_seti] at w1
      exact w1
    · by_cases q : j = 6 * o + k
      · subst q
        rw [w3 _ (by omega), mi_self, va_up_self]
      · exact w2 j (by omega) h2
    · rw [w3 j (by omega), mi_self, va_up_ne _ _ (by omega)]
/-- the tape is empty, the orders as before -/
theorem R_ord {σ σ' : xS} {μ μ' : mS} (hR : Rel σ μ) (h2 : σ'.2 = σ.2) (hc : ∀ c, c ≠ 20 → c ≠ 21 → c ≠ 22 → c ≠ 23 → σ'.1 c = σ.1 c) (h20 : σ'.1 20 0 = 0) (m2 : μ'.2 = μ.2) (mc : ∀ c, c ≠ 20 → c ≠ 22 → c ≠ 23 → c ≠ 24 → c ≠ 26 → c ≠ 27 → μ'.1 c = μ.1 c) (mo : ∀ c j, j < 8 * nO σ → (c = 22 ∨ c = 23 ∨ c = 24) → μ'.1 c j = μ.1 c j) (m20 : μ'.1 20 0 = 0) : Rel σ' μ' := by
  obtain ⟨hC, hD, hS, hL, hT, hO, hP, hK, hRr, hG, hM⟩ := hR
  have lo : ∀ c, c ≠ 20 ∧ c ≠ 21 ∧ c ≠ 22 ∧ c ≠ 23 → σ'.1 c = σ.1 c := fun c h => hc c h.1 h.2.1 h.2.2.1 h.2.2.2
  have ml : ∀ c, c ≠ 20 ∧ c ≠ 22 ∧ c ≠ 23 ∧ c ≠ 24 ∧ c ≠ 26 ∧ c ≠ 27 → μ'.1 c = μ.1 c := fun c h => mc c h.1 h.2.1 h.2.2.1 h.2.2.2.1 h.2.2.2.2.1 h.2.2.2.2.2
  refine ⟨?_, ?_, ?_, fun i hi => ?_, ⟨?_, ?_, ?_⟩, fun o ho => ⟨fun k hk => ?_, fun t ht => ?_⟩, ?_, ?_, ?_, ?_, ?_⟩
  · unfold RC nS nLo nO; rw [h2, lo 1 (by omega), lo 3 (by omega), lo 5 (by omega), ml 1 (by omega), ml 7 (by omega), ml 21 (by omega)]; exact hC
  · unfold RD; rw [lo 16 (by omega), ml 6 (by omega)]; exact hD
  · unfold RS nS; rw [h2, lo 120 (by omega), lo 121 (by omega), lo 122 (by omega), lo 123 (by omega), ml 2 (by omega), ml 3 (by omega), ml 4 (by omega), ml 5 (by omega)]; exact hS
  · have hi' : i < nLo σ := by rw [nLo, h2] at hi; exact hi
    unfold RLot nS; rw [h2, lo 100 (by omega), lo 102 (by omega), lo 103 (by omega), lo 104 (by omega), lo 105 (by omega), lo 106 (by omega), lo 107 (by omega), lo 108 (by omega), lo 109 (by omega), lo 110 (by omega), lo 111 (by omega), ml 9 (by omega), ml 10 (by omega), ml 8 (by omega), ml 11 (by omega), ml 16 (by omega), ml 17 (by omega), ml 18 (by omega), ml 12 (by omega), ml 4 (by omega), ml 13 (by omega), ml 14 (by omega), ml 15 (by omega), ml 6 (by omega)]; exact hL i hi'
  · rw [h20, m20]; decide
  · rw [lo 24 (by omega), ml 19 (by omega)]; exact hT.2.1
  · unfold nLo; rw [h2, ml 16 (by omega), ml 17 (by omega), ml 18 (by omega)]; exact hT.2.2
  · have ho' : o < nO σ := by rw [nO, h2] at ho; exact ho
    rw [lo (2000 + o) (by omega), lo (3000 + o) (by omega), mo 22 _ (by omega) (by omega), mo 23 _ (by omega) (by omega), mo 24 _ (by omega) (by omega)]
    exact (hO o ho').1 k hk
  · have ho' : o < nO σ := by rw [nO, h2] at ho; exact ho
    rw [lo (1000 + o) (by omega), ml 25 (by omega)]
    exact (hO o ho').2 t ht
  · unfold RP; rw [lo 11 (by omega), lo 10 (by omega), ml 29 (by omega), ml 30 (by omega)]; exact hP
  · unfold RK; rw [h2, m2]; exact hK
  · unfold RR; rw [lo 8 (by omega), ml 32 (by omega)]; exact hRr
  · unfold RG; rw [lo 13 (by omega), lo 14 (by omega), ml 42 (by omega), ml 43 (by omega)]; exact hG
  · unfold RM; rw [h2, m2, lo 142 (by omega), lo 146 (by omega), lo 147 (by omega), lo 148 (by omega), ml 35 (by omega), ml 38 (by omega), ml 39 (by omega), ml 40 (by omega), ml 16 (by omega)]; exact hM
end ORDERS
