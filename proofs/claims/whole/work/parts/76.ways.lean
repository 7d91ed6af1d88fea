/-! THE PURE PART: flow: the class finds its ways -/
section WAYS
def FrL (σ' σ : xS) : Prop := σ'.2 = σ.2 ∧ ∀ c, c ≠ 43 → c ≠ 44 → c ≠ 45 → c ≠ 46 → σ'.1 c = σ.1 c
theorem FrL_r (σ : xS) : FrL σ σ := ⟨rfl, fun _ _ _ _ _ => rfl⟩
theorem FrL_t {a b e : xS} (h : FrL b a) (g : FrL e b) : FrL e a := ⟨g.1.trans h.1, fun c h1 h2 h3 h4 => (g.2 c h1 h2 h3 h4).trans (h.2 c h1 h2 h3 h4)⟩
theorem FrL_up {a b : xS} (h : FrL b a) (c : Nat) (f : Nat → Int32) (hc : c = 43 ∨ c = 44 ∨ c = 45 ∨ c = 46) : FrL (xi b c f) a := ⟨h.1, fun k h1 h2 h3 h4 => (xi_ne (by omega)).trans (h.2 k h1 h2 h3 h4)⟩
/-- the class's labels -/
def SX (σ : xS) (S : lbl) : Prop := (∀ m, m < 3 → (σ.1 43 m).toInt = S.1 m ∧ ((σ.1 45 m = -1 ∧ S.2 m = -1) ∨ ∃ t : Nat, t < 6 ∧ σ.1 45 m = Int32.ofNat t ∧ S.2 m = ((3 + t : Nat) : Int))) ∧ ∀ t, t < 6 → (σ.1 44 t).toInt = S.1 (3 + t) ∧ ((σ.1 46 t = -1 ∧ S.2 (3 + t) = -1) ∨ ∃ m : Nat, m < 3 ∧ σ.1 46 t = Int32.ofNat m ∧ S.2 (3 + t) = (m : Int))
theorem ix3 {t m : Nat} (ht : t < 6) (hm : m < 3) : Int32.ofNat t * 3 + Int32.ofNat m = Int32.ofNat (3 * t + m) ∧ vin (Int32.ofNat (3 * t + m)) 18 = true ∧ (Int32.ofNat (3 * t + m)).toNatClampNeg = 3 * t + m ∧ 3 * Int32.ofNat t + Int32.ofNat m = Int32.ofNat (3 * t + m) := by
  have e : 3 * Int32.ofNat t + Int32.ofNat m = Int32.ofNat (3 * t + m) := by
    rw [Int32.ofNat_add, Int32.ofNat_mul]; rfl
  refine ⟨?_, ofn_vin (by omega) (by decide), ofn_nat (by omega), e⟩
  rw [Int32.mul_comm]; exact e
theorem lt3 {m : Nat} (hm : m < 3) : ¬ (3 : Int32) ≤ Int32.ofNat m := by
  rw [show (3 : Int32) = Int32.ofNat 3 from rfl, ofn_le (by omega) (by omega)]; omega
theorem lt6 {m : Nat} (hm : m < 6) : ¬ (6 : Int32) ≤ Int32.ofNat m := by
  rw [show (6 : Int32) = Int32.ofNat 6 from rfl, ofn_le (by omega) (by omega)]; omega
theorem mil : Int32.toInt 1000000 = 1000000 := by decide
theorem pos_le (x : Int32) : x ≤ 0 ↔ ¬ 0 < x.toInt := by
  rw [le_int]
  show x.toInt ≤ 0 ↔ _
  omega
theorem rl_no {G : Int} {e : edg} {S : lbl} (h : Cst G S.1 e) : rlG G e S = S := by
  unfold Cst at h
  unfold rlG
  rw [if_neg (by omega)]
theorem rl_yes {G : Int} {e : edg} {S : lbl} (h : S.1 e.1 < G ∧ S.1 e.1 + e.2.2 < S.1 e.2.1) : rlG G e S = (va_up S.1 e.2.1 (S.1 e.1 + e.2.2), va_up S.2 e.2.1 (e.1 : Int)) := by
  unfold rlG
  rw [if_pos h]
theorem up_x {d p : Nat → Int} {σ : xS} {S : lbl} (hS : SX σ S) (h8 : ∀ i, i < 18 → (σ.1 8 i).toInt = d i ∧ 1 ≤ d i ∧ d i ≤ 30) (hp : ∀ n, n < 9 → 0 ≤ p n) (hL : Lb p S) {t m : Nat} (ht : t < 6) (hm : m < 3) (f : Nat) : ∃ σ', f_X0_goOn__5_L2 (f + 1) σ (Int32.ofNat t) (Int32.ofNat m) = f_X0_goOn__5_L2 f σ' (Int32.ofNat t) (Int32.ofNat (m + 1)) ∧ SX σ' (rlG 1000000 (eU d t m) S) ∧ FrL σ' σ := by
  obtain ⟨i1, i2, i3, -⟩ := ix3 ht hm
  have vm : vin (Int32.ofNat m) 3 = true := ofn_vin hm (by decide)
  have vt : vin (Int32.ofNat t) 6 = true := ofn_vin ht (by decide)
  have nm : (Int32.ofNat m).toNatClampNeg = m := ofn_nat (by omega)
  have nt : (Int32.ofNat t).toNatClampNeg = t := ofn_nat (by omega)
  obtain ⟨a1, a2⟩ := hS.1 m hm
  obtain ⟨b1, b2⟩ := hS.2 t ht
  have l1 := hL m (by omega)
  have l2 := hp m (by omega)
  obtain ⟨d1, d2, d3⟩ := h8 (3 * t + m) (by omega)
  have hy : (σ.1 43 m + σ.1 8 (3 * t + m)).toInt = S.1 m + d (3 * t + m) := by
    rw [add_int (by omega) (by omega), a1, d1]
  rw [f_X0_goOn__5_L2, if_neg (lt3 hm)]
  simp only [vm, vt, nm, nt, i1, i2, i3, cond_true, letm, ofn_succ, le_int, mil, hy, a1, b1]
  by_cases c1 : 1000000 ≤ S.1 m
  · refine ⟨σ, by rw [if_pos c1], ?_, FrL_r _⟩
    rw [rl_no (Or.inr c1)]; exact hS
  · rw [if_neg c1]
    by_cases c2 : S.1 (3 + t) ≤ S.1 m + d (3 * t + m)
    · refine ⟨σ, by rw [if_pos c2], ?_, FrL_r _⟩
      rw [rl_no (Or.inl c2)]; exact hS
    · rw [if_neg c2]
      refine ⟨_, rfl, ?_, FrL_up (FrL_up (FrL_r σ) 44 _ (by omega)) 46 _ (by omega)⟩
      have hyes := rl_yes (G := 1000000) (e := eU d t m) (S := S) ⟨by show S.1 m < 1000000; omega, by show S.1 m + d (3 * t + m) < S.1 (3 + t); omega⟩
      rw [hyes]
      refine ⟨fun k hk => ?_, fun k hk => ?_⟩
      · show (σ.1 43 k).toInt = va_up S.1 (3 + t) _ k ∧ ((σ.1 45 k = -1 ∧ va_up S.2 (3 + t) _ k = -1) ∨ ∃ t' : Nat, t' < 6 ∧ σ.1 45 k = Int32.ofNat t' ∧ va_up S.2 (3 + t) _ k = ((3 + t' : Nat) : Int))
        rw [va_up_ne _ _ (by omega), va_up_ne _ _ (by omega)]
        exact hS.1 k hk
      · show (va_up (σ.1 44) t _ k).toInt = va_up S.1 (3 + t) _ (3 + k) ∧ ((va_up (σ.1 46) t _ k = -1 ∧ va_up S.2 (3 + t) _ (3 + k) = -1) ∨ ∃ m' : Nat, m' < 3 ∧ va_up (σ.1 46) t _ k = Int32.ofNat m' ∧ va_up S.2 (3 + t) _ (3 + k) = (m' : Int))
        by_cases q : k = t
        · subst q
          rw [va_up_self, va_up_self, va_up_self, va_up_self]
          exact ⟨hy, Or.inr ⟨m, hm, rfl, rfl⟩⟩
        · rw [va_up_ne _ _ q, va_up_ne _ _ q, va_up_ne _ _ (by omega), va_up_ne _ _ (by omega)]
          exact hS.2 k hk
/-- a taking back, where there is something -/
def dnE (d x : Nat → Int) (t m : Nat) : List edg := if 0 < x (3 * t + m) then [eD d t m] else []
theorem dn_x {d x p : Nat → Int} {σ : xS} {S : lbl} (hS : SX σ S) (h8 : ∀ i, i < 18 → (σ.1 8 i).toInt = d i ∧ 1 ≤ d i ∧ d i ≤ 30) (hx : ∀ i, i < 18 → (σ.1 42 i).toInt = x i) (hp : ∀ n, n < 9 → 0 ≤ p n) (hL : Lb p S) {t m : Nat} (ht : t < 6) (hm : m < 3) (f : Nat) (b : Int32) : ∃ σ' b', f_X0_takeBack__5_L5 (f + 1) σ (Int32.ofNat t) b (Int32.ofNat m) = f_X0_takeBack__5_L5 f σ' (Int32.ofNat t) b' (Int32.ofNat (m + 1)) ∧ SX σ' (rls 1000000 (dnE d x t m) S) ∧ FrL σ' σ ∧ ((b' = b ∧ rls 1000000 (dnE d x t m) S = S ∧ (0 < x (3 * t + m) → Cst 1000000 S.1 (eD d t m))) ∨ b' = 1) := by
  obtain ⟨i1, i2, i3, -⟩ := ix3 ht hm
  have vm : vin (Int32.ofNat m) 3 = true := ofn_vin hm (by decide)
  have vt : vin (Int32.ofNat t) 6 = true := ofn_vin ht (by decide)
  have nm : (Int32.ofNat m).toNatClampNeg = m := ofn_nat (by omega)
  have nt : (Int32.ofNat t).toNatClampNeg = t := ofn_nat (by omega)
  obtain ⟨a1, a2⟩ := hS.1 m hm
  obtain ⟨b1, b2⟩ := hS.2 t ht
  have l1 := hL (3 + t) (by omega)
  have l2 := hp (3 + t) (by omega)
  obtain ⟨d1, d2, d3⟩ := h8 (3 * t + m) (by omega)
  have x1 := hx (3 * t + m) (by omega)
  have hy : (σ.1 44 t - σ.1 8 (3 * t + m)).toInt = S.1 (3 + t) - d (3 * t + m) := by
    rw [sub_int (by omega) (by omega), b1, d1]
  rw [f_X0_takeBack__5_L5, if_neg (lt3 hm)]
  simp only [vm, vt, nm, nt, i1, i2, i3, cond_true, letm, ofn_succ, pos_le, x1]
  by_cases c0 : 0 < x (3 * t + m)
  · have hE : dnE d x t m = [eD d t m] := if_pos c0
    rw [hE, if_neg (fun z => z c0)]
    show ∃ σ' b', _ ∧ SX σ' (rlG 1000000 (eD d t m) S) ∧ _ ∧ ((_ ∧ rlG 1000000 (eD d t m) S = S ∧ _) ∨ _)
    simp only [le_int, mil, hy, a1, b1]
    by_cases c1 : 1000000 ≤ S.1 (3 + t)
    · have hc : Cst 1000000 S.1 (eD d t m) := Or.inr c1
      refine ⟨σ, b, by rw [if_pos c1], ?_, FrL_r _, Or.inl ⟨rfl, rl_no hc, fun _ => hc⟩⟩
      rw [rl_no hc]; exact hS
    · rw [if_neg c1]
      by_cases c2 : S.1 m ≤ S.1 (3 + t) - d (3 * t + m)
      · have hc : Cst 1000000 S.1 (eD d t m) := Or.inl (by show S.1 m ≤ S.1 (3 + t) + -(d (3 * t + m)); omega)
        refine ⟨σ, b, by rw [if_pos c2], ?_, FrL_r _, Or.inl ⟨rfl, rl_no hc, fun _ => hc⟩⟩
        rw [rl_no hc]; exact hS
      · rw [if_neg c2]
        refine ⟨_, 1, rfl, ?_, FrL_up (FrL_up (FrL_r σ) 43 _ (by omega)) 45 _ (by omega), Or.inr rfl⟩
        have hyes := rl_yes (G := 1000000) (e := eD d t m) (S := S) ⟨by show S.1 (3 + t) < 1000000; omega, by show S.1 (3 + t) + -(d (3 * t + m)) < S.1 m; omega⟩
        rw [hyes]
        refine ⟨fun k hk => ?_, fun k hk => ?_⟩
        · show (va_up (σ.1 43) m _ k).toInt = va_up S.1 m (S.1 (3 + t) + -(d (3 * t + m))) k ∧ ((va_up (σ.1 45) m _ k = -1 ∧ va_up S.2 m _ k = -1) ∨ ∃ t' : Nat, t' < 6 ∧ va_up (σ.1 45) m _ k = Int32.ofNat t' ∧ va_up S.2 m _ k = ((3 + t' : Nat) : Int))
          by_cases q : k = m
          · subst q
            rw [va_up_self, va_up_self, va_up_self, va_up_self]
            exact ⟨by rw [hy]; omega, Or.inr ⟨t, ht, rfl, rfl⟩⟩
          · rw [va_up_ne _ _ q, va_up_ne _ _ q, va_up_ne _ _ q, va_up_ne _ _ q]
            exact hS.1 k hk
        · show (σ.1 44 k).toInt = va_up S.1 m _ (3 + k) ∧ ((σ.1 46 k = -1 ∧ va_up S.2 m _ (3 + k) = -1) ∨ ∃ m' : Nat, m' < 3 ∧ σ.1 46 k = Int32.ofNat m' ∧ va_up S.2 m _ (3 + k) = (m' : Int))
          rw [va_up_ne _ _ (by omega), va_up_ne _ _ (by omega)]
          exact hS.2 k hk
  · have hE : dnE d x t m = [] := if_neg c0
    rw [hE, if_pos c0]
    exact ⟨σ, b, rfl, hS, FrL_r _, Or.inl ⟨rfl, rfl, fun z => absurd z c0⟩⟩
def upL (d : Nat → Int) (t : Nat) : List edg := [eU d t 0, eU d t 1, eU d t 2]
def dnL (d x : Nat → Int) (t : Nat) : List edg := dnE d x t 0 ++ (dnE d x t 1 ++ dnE d x t 2)
theorem upL_E {d x : Nat → Int} {t : Nat} (ht : t < 6) : ∀ e, e ∈ upL d t → Ed d x e := by
  intro e he
  unfold upL at he
  rcases List.mem_cons.mp he with h | h
  · exact ⟨t, 0, ht, by decide, Or.inl h⟩
  · rcases List.mem_cons.mp h with h | h
    · exact ⟨t, 1, ht, by decide, Or.inl h⟩
    · rcases List.mem_cons.mp h with h | h
      · exact ⟨t, 2, ht, by decide, Or.inl h⟩
      · cases h
theorem dnE_mem {d x : Nat → Int} {t m : Nat} {e : edg} : e ∈ dnE d x t m ↔ 0 < x (3 * t + m) ∧ e = eD d t m := by
  unfold dnE
  by_cases c : 0 < x (3 * t + m)
  · rw [if_pos c, List.mem_singleton]
    exact ⟨fun h => ⟨c, h⟩, fun h => h.2⟩
  · rw [if_neg c]
    exact ⟨fun h => (by cases h), fun h => absurd h.1 c⟩
theorem dnE_E {d x : Nat → Int} {t m : Nat} (ht : t < 6) (hm : m < 3) : ∀ e, e ∈ dnE d x t m → Ed d x e := by
  intro e he
  have := dnE_mem.mp he
  exact ⟨t, m, ht, hm, Or.inr this⟩
theorem goOn_eq {d x p : Nat → Int} (hg : Good p (Ed d x)) {σ : xS} {S : lbl} (hS : SX σ S) (h8 : ∀ i, i < 18 → (σ.1 8 i).toInt = d i ∧ 1 ≤ d i ∧ d i ≤ 30) (hp : ∀ n, n < 9 → 0 ≤ p n) (hL : Lb p S) {t : Nat} (ht : t < 6) : ∃ σ', f_X0_goOn__5 σ (Int32.ofNat t) = some σ' ∧ SX σ' (rls 1000000 (upL d t) S) ∧ FrL σ' σ := by
  have mE : ∀ m, m < 3 → Ed d x (eU d t m) := fun m hm => ⟨t, m, ht, hm, Or.inl rfl⟩
  have h8' : ∀ σ', FrL σ' σ → ∀ i, i < 18 → (σ'.1 8 i).toInt = d i ∧ 1 ≤ d i ∧ d i ≤ 30 := fun σ' h i hi => by
    rw [h.2 8 (by decide) (by decide) (by decide) (by decide)]; exact h8 i hi
  obtain ⟨σ1, a1, a2, a3⟩ := up_x hS h8 hp hL ht (show 0 < 3 by decide) 3999
  have L1 := Lb_rl (G := 1000000) hg (mE 0 (by decide)) hL
  obtain ⟨σ2, b1, b2, b3⟩ := up_x a2 (h8' σ1 a3) hp L1 ht (show 1 < 3 by decide) 3998
  have L2 := Lb_rl (G := 1000000) hg (mE 1 (by decide)) L1
  have f2 := FrL_t a3 b3
  obtain ⟨σ3, c1, c2, c3⟩ := up_x b2 (h8' σ2 f2) hp L2 ht (show 2 < 3 by decide) 3997
  refine ⟨σ3, ?_, c2, FrL_t f2 c3⟩
  unfold f_X0_goOn__5
  have e : f_X0_goOn__5_L2 4000 σ (Int32.ofNat t) 0 = some σ3 := by
    have a1' : f_X0_goOn__5_L2 4000 σ (Int32.ofNat t) 0 = f_X0_goOn__5_L2 3999 σ1 (Int32.ofNat t) (Int32.ofNat 1) := a1
    rw [a1', b1, c1, f_X0_goOn__5_L2, if_pos (by decide)]
  rw [e]; rfl
theorem takeB_eq {d x p : Nat → Int} (hg : Good p (Ed d x)) {σ : xS} {S : lbl} (hS : SX σ S) (h8 : ∀ i, i < 18 → (σ.1 8 i).toInt = d i ∧ 1 ≤ d i ∧ d i ≤ 30) (hx : ∀ i, i < 18 → (σ.1 42 i).toInt = x i) (hp : ∀ n, n < 9 → 0 ≤ p n) (hL : Lb p S) {t : Nat} (ht : t < 6) : ∃ σ' b, f_X0_takeBack__5 σ (Int32.ofNat t) = some (b, σ') ∧ SX σ' (rls 1000000 (dnL d x t) S) ∧ FrL σ' σ ∧ ((b = 0 ∧ rls 1000000 (dnL d x t) S = S ∧ ∀ m, m < 3 → 0 < x (3 * t + m) → Cst 1000000 S.1 (eD d t m)) ∨ b = 1) := by
  have h8' : ∀ σ', FrL σ' σ → ∀ i, i < 18 → (σ'.1 8 i).toInt = d i ∧ 1 ≤ d i ∧ d i ≤ 30 := fun σ' h i hi => by
    rw [h.2 8 (by decide) (by decide) (by decide) (by decide)]; exact h8 i hi
  have hx' : ∀ σ', FrL σ' σ → ∀ i, i < 18 → (σ'.1 42 i).toInt = x i := fun σ' h i hi => by
    rw [h.2 42 (by decide) (by decide) (by decide) (by decide)]; exact hx i hi
  obtain ⟨σ1, v1, a1, a2, a3, a4⟩ := dn_x hS h8 hx hp hL ht (show 0 < 3 by decide) 3999 0
  have L1 := Lb_rls (G := 1000000) hg (dnE d x t 0) S (dnE_E ht (by decide)) hL
  obtain ⟨σ2, v2, b1, b2, b3, b4⟩ := dn_x a2 (h8' σ1 a3) (hx' σ1 a3) hp L1 ht (show 1 < 3 by decide) 3998 v1
  have L2 := Lb_rls (G := 1000000) hg (dnE d x t 1) _ (dnE_E ht (by decide)) L1
  have f2 := FrL_t a3 b3
  obtain ⟨σ3, v3, c1, c2, c3, c4⟩ := dn_x b2 (h8' σ2 f2) (hx' σ2 f2) hp L2 ht (show 2 < 3 by decide) 3997 v2
  have e : f_X0_takeBack__5_L5 4000 σ (Int32.ofNat t) 0 0 = some (v3, σ3) := by
    have a1' : f_X0_takeBack__5_L5 4000 σ (Int32.ofNat t) 0 0 = f_X0_takeBack__5_L5 3999 σ1 (Int32.ofNat t) v1 (Int32.ofNat 1) := a1
    rw [a1', b1, c1, f_X0_takeBack__5_L5, if_pos (by decide)]
  have el : rls 1000000 (dnL d x t) S = rls 1000000 (dnE d x t 2) (rls 1000000 (dnE d x t 1) (rls 1000000 (dnE d x t 0) S)) := by
    unfold dnL
    rw [rls_app, rls_app]
  have hv : (v3 = 0 ∧ rls 1000000 (dnL d x t) S = S ∧ ∀ m, m < 3 → 0 < x (3 * t + m) → Cst 1000000 S.1 (eD d t m)) ∨ v3 = 1 := by
    rcases c4 with ⟨y1, y2, y3⟩ | y
    · rcases b4 with ⟨z1, z2, z3⟩ | z
      · rcases a4 with ⟨w1, w2, w3⟩ | w
        · left
          rw [w2] at z2 z3
          rw [w2, z2] at y2 y3
          refine ⟨by rw [y1, z1, w1], by rw [el, w2, z2, y2], fun m hm hxm => ?_⟩
          have : m = 0 ∨ m = 1 ∨ m = 2 := by omega
          rcases this with rfl | rfl | rfl
          · exact w3 hxm
          · exact z3 hxm
          · exact y3 hxm
        · right; rw [y1, z1, w]
      · right; rw [y1, z]
    · right; exact y
  refine ⟨σ3, v3, ?_, by rw [el]; exact c2, FrL_t f2 c3, hv⟩
  unfold f_X0_takeBack__5
  rw [e, Option.bind_some]
  have hz : zb v3 = true := by
    rcases hv with ⟨y, _⟩ | y <;> rw [y] <;> rfl
  show (bif zb v3 then some (v3, σ3) else none) = _
  rw [hz]; rfl
def cRnd (d x : Nat → Int) : Nat → Nat → List edg
  | _, 0 => []
  | t, n + 1 => upL d t ++ (dnL d x t ++ cRnd d x (t + 1) n)
theorem cRnd_mem {d x : Nat → Int} : ∀ (n t : Nat) (e : edg), e ∈ cRnd d x t n ↔ ∃ k m, t ≤ k ∧ k < t + n ∧ m < 3 ∧ (e = eU d k m ∨ (0 < x (3 * k + m) ∧ e = eD d k m)) := by
  intro n
  induction n with
  | zero =>
    intro t e
    exact ⟨fun h => (by cases h), fun ⟨k, m, h1, h2, _⟩ => by omega⟩
  | succ n ih =>
    intro t e
    rw [cRnd, List.mem_append, List.mem_append, ih]
    constructor
    · rintro (h | h | ⟨k, m, h1, h2, h3⟩)
      · unfold upL at h
        rcases List.mem_cons.mp h with h | h
        · exact ⟨t, 0, Nat.le_refl _, by omega, by decide, Or.inl h⟩
        · rcases List.mem_cons.mp h with h | h
          · exact ⟨t, 1, Nat.le_refl _, by omega, by decide, Or.inl h⟩
          · rcases List.mem_cons.mp h with h | h
            · exact ⟨t, 2, Nat.le_refl _, by omega, by decide, Or.inl h⟩
            · cases h
      · unfold dnL at h
        rw [List.mem_append, List.mem_append] at h
        rcases h with h | h | h
        · exact ⟨t, 0, Nat.le_refl _, by omega, by decide, Or.inr (dnE_mem.mp h)⟩
        · exact ⟨t, 1, Nat.le_refl _, by omega, by decide, Or.inr (dnE_mem.mp h)⟩
        · exact ⟨t, 2, Nat.le_refl _, by omega, by decide, Or.inr (dnE_mem.mp h)⟩
      · exact ⟨k, m, by omega, by omega, h3⟩
    · rintro ⟨k, m, h1, h2, h3, h4⟩
      by_cases q : k = t
      · subst q
        have hm : m = 0 ∨ m = 1 ∨ m = 2 := by omega
        rcases h4 with h4 | h4
        · left
          unfold upL
          rcases hm with rfl | rfl | rfl
          · rw [h4]; exact List.mem_cons_self
          · rw [h4]; exact List.mem_cons_of_mem _ List.mem_cons_self
          · rw [h4]; exact List.mem_cons_of_mem _ (List.mem_cons_of_mem _ List.mem_cons_self)
        · right; left
          unfold dnL
          rw [List.mem_append, List.mem_append]
          rcases hm with rfl | rfl | rfl
          · exact Or.inl (dnE_mem.mpr h4)
          · exact Or.inr (Or.inl (dnE_mem.mpr h4))
          · exact Or.inr (Or.inr (dnE_mem.mpr h4))
      · exact Or.inr (Or.inr ⟨k, m, by omega, by omega, h3, h4⟩)
theorem cRnd_E {d x : Nat → Int} (e : edg) : e ∈ cRnd d x 0 6 ↔ Ed d x e := by
  rw [cRnd_mem]
  unfold Ed
  constructor
  · rintro ⟨k, m, h1, h2, h3, h4⟩
    exact ⟨k, m, by omega, h3, h4⟩
  · rintro ⟨k, m, h1, h3, h4⟩
    exact ⟨k, m, by omega, by omega, h3, h4⟩
theorem rl_ne {G : Int} {e : edg} {S : lbl} {n : Nat} (h : n ≠ e.2.1) : (rlG G e S).1 n = S.1 n := by
  unfold rlG
  by_cases c : S.1 e.1 < G ∧ S.1 e.1 + e.2.2 < S.1 e.2.1
  · rw [if_pos c]; exact va_up_ne _ _ h
  · rw [if_neg c]
theorem rl_cst {G : Int} {e : edg} {S : lbl} (h : e.1 ≠ e.2.1) : Cst G (rlG G e S).1 e := by
  unfold rlG
  by_cases c : S.1 e.1 < G ∧ S.1 e.1 + e.2.2 < S.1 e.2.1
  · rw [if_pos c]
    left
    show va_up S.1 e.2.1 _ e.2.1 ≤ va_up S.1 e.2.1 _ e.1 + e.2.2
    rw [va_up_self, va_up_ne _ _ h]; exact Int.le_refl _
  · rw [if_neg c]
    unfold Cst
    omega
theorem Cst_m {G : Int} {A A' : Nat → Int} {e : edg} (h : Cst G A e) (h1 : A' e.2.1 ≤ A e.2.1) (h2 : A' e.1 = A e.1) : Cst G A' e := by
  unfold Cst at *
  omega
/-- the ups of one town -/
theorem ups {G : Int} {d : Nat → Int} {t : Nat} (S : lbl) : (∀ n, n ≠ 3 + t → (rls G (upL d t) S).1 n = S.1 n) ∧ ∀ m, m < 3 → Cst G (rls G (upL d t) S).1 (eU d t m) := by
  have e : rls G (upL d t) S = rlG G (eU d t 2) (rlG G (eU d t 1) (rlG G (eU d t 0) S)) := rfl
  rw [e]
  have n1 : ∀ (m : Nat) (S : lbl) (n : Nat), n ≠ 3 + t → (rlG G (eU d t m) S).1 n = S.1 n := fun m S n h => rl_ne h
  refine ⟨fun n h => by rw [n1 _ _ _ h, n1 _ _ _ h, n1 _ _ _ h], fun m hm => ?_⟩
  have c : ∀ (m : Nat) (S : lbl), m < 3 → Cst G (rlG G (eU d t m) S).1 (eU d t m) := fun m S hm => rl_cst (show m ≠ 3 + t by omega)
  have s : ∀ (j : Nat) (S : lbl), m < 3 → Cst G S.1 (eU d t m) → Cst G (rlG G (eU d t j) S).1 (eU d t m) := fun j S hm h => Cst_m h (rl_le _ _ _ _) (n1 j S m (by omega))
  have : m = 0 ∨ m = 1 ∨ m = 2 := by omega
  rcases this with rfl | rfl | rfl
  · exact s 2 _ hm (s 1 _ hm (c 0 _ hm))
  · exact s 2 _ hm (c 1 _ hm)
  · exact c 2 _ hm
theorem L78_flag {x3 : Int32} : ∀ {f : Nat} {σ : xS} {b k b' : Int32} {σ' : xS}, f_X0_findWays__5_L78 f σ b x3 k = some (b', σ') → b = 1 → b' = 1 := by
  intro f
  induction f with
  | zero => intro σ b k b' σ' h _; cases h
  | succ f ih =>
    intro σ b k b' σ' h hb
    subst hb
    rw [f_X0_findWays__5_L78] at h
    by_cases c : (6 : Int32) ≤ k
    · rw [if_pos c] at h
      have := Option.some.inj h
      exact (congrArg Prod.fst this).symm
    · rw [if_neg c] at h
      obtain ⟨r1, e1, h⟩ := o_bind h
      obtain ⟨r2, e2, h⟩ := o_bind h
      by_cases c2 : r2.1 = 0
      · rw [if_pos c2, if_neg (show ¬ (1 : Int32) = 0 by decide)] at h
        exact ih h rfl
      · rw [if_neg c2] at h
        exact ih h rfl
theorem L78_eq {d x p : Nat → Int} (hg : Good p (Ed d x)) (hp : ∀ n, n < 9 → 0 ≤ p n) (x3 : Int32) : ∀ (n k f : Nat) (σ : xS) (S : lbl) (b : Int32), k + n = 6 → n < f → (b = 0 ∨ b = 1) → SX σ S → (∀ i, i < 18 → (σ.1 8 i).toInt = d i ∧ 1 ≤ d i ∧ d i ≤ 30) → (∀ i, i < 18 → (σ.1 42 i).toInt = x i) → Lb p S → ∃ b' σ', f_X0_findWays__5_L78 f σ b x3 (Int32.ofNat k) = some (b', σ') ∧ (b' = 0 ∨ b' = 1) ∧ SX σ' (rls 1000000 (cRnd d x k n) S) ∧ FrL σ' σ ∧ (b' = 0 → (∀ j, j < 3 + k → (rls 1000000 (cRnd d x k n) S).1 j = S.1 j) ∧ ∀ t m, k ≤ t → t < 6 → m < 3 → Cst 1000000 (rls 1000000 (cRnd d x k n) S).1 (eU d t m) ∧ (0 < x (3 * t + m) → Cst 1000000 (rls 1000000 (cRnd d x k n) S).1 (eD d t m))) := by
  intro n
  induction n with
  | zero =>
    intro k f σ S b hk hf hb hS h8 hx hL
    obtain ⟨f, rfl⟩ : ∃ z, f = z + 1 := ⟨f - 1, by omega⟩
    have e : k = 6 := by omega
    subst e
    refine ⟨b, σ, by rw [f_X0_findWays__5_L78, if_pos (by decide)], hb, hS, FrL_r _, fun _ => ⟨fun j _ => rfl, fun t m h1 h2 => by omega⟩⟩
  | succ n ih =>
    intro k f σ S b hk hf hb hS h8 hx hL
    obtain ⟨f, rfl⟩ : ∃ z, f = z + 1 := ⟨f - 1, by omega⟩
    have hk6 : k < 6 := by omega
    obtain ⟨σ1, a1, a2, a3⟩ := goOn_eq hg hS h8 hp hL hk6
    have L1 := Lb_rls (G := 1000000) hg (upL d k) S (upL_E hk6) hL
    have h8' : ∀ σ', FrL σ' σ → ∀ i, i < 18 → (σ'.1 8 i).toInt = d i ∧ 1 ≤ d i ∧ d i ≤ 30 := fun σ' h i hi => by
      rw [h.2 8 (by decide) (by decide) (by decide) (by decide)]; exact h8 i hi
    have hx' : ∀ σ', FrL σ' σ → ∀ i, i < 18 → (σ'.1 42 i).toInt = x i := fun σ' h i hi => by
      rw [h.2 42 (by decide) (by decide) (by decide) (by decide)]; exact hx i hi
    obtain ⟨σ2, v, b1, b2, b3, b4⟩ := takeB_eq hg a2 (h8' σ1 a3) (hx' σ1 a3) hp L1 hk6
    have f2 := FrL_t a3 b3
    have L2 := Lb_rls (G := 1000000) hg (dnL d x k) _ (fun e he => by
      unfold dnL at he
      rw [List.mem_append, List.mem_append] at he
      rcases he with he | he | he
      · exact dnE_E hk6 (by decide) e he
      · exact dnE_E hk6 (by decide) e he
      · exact dnE_E hk6 (by decide) e he) L1
    have hv : v = 0 ∨ v = 1 := by
      rcases b4 with y | y
      · exact Or.inl y.1
      · exact Or.inr y
    let w : Int32 := if v = 0 then (if b = 0 then 0 else 1) else 1
    have hw : w = 0 ∨ w = 1 := by
      show (if v = 0 then (if b = 0 then (0 : Int32) else 1) else 1) = 0 ∨ (if v = 0 then (if b = 0 then (0 : Int32) else 1) else 1) = 1
      rcases hv with rfl | rfl <;> rcases hb with rfl | rfl <;> decide
    obtain ⟨b', σ', c1, c2, c3, c4, c5⟩ := ih (k + 1) f σ2 (rls 1000000 (dnL d x k) (rls 1000000 (upL d k) S)) w (by omega) (by omega) hw b2 (h8' σ2 f2) (hx' σ2 f2) L2
    have el : rls 1000000 (cRnd d x k (n + 1)) S = rls 1000000 (cRnd d x (k + 1) n) (rls 1000000 (dnL d x k) (rls 1000000 (upL d k) S)) := by
      rw [cRnd, rls_app, rls_app]
    rw [el]
    refine ⟨b', σ', ?_, c2, c3, FrL_t f2 c4, fun hb' => ?_⟩
    · rw [f_X0_findWays__5_L78, if_neg (lt6 hk6), a1, Option.bind_some, b1, Option.bind_some, ofn_succ]
      rcases hv with rfl | rfl
      · rw [if_pos rfl]
        rcases hb with rfl | rfl
        · rw [if_pos rfl]; exact c1
        · rw [if_neg (show ¬ (1 : Int32) = 0 by decide)]; exact c1
      · rw [if_neg (show ¬ ((1 : Int32), σ2).1 = 0 from n10p σ2)]; exact c1
    · obtain ⟨q1, q2⟩ := c5 hb'
      have hw0 : v = 0 ∨ v = 1 := hv
      -- what was found nearer is kept by the flag: else the flag would be one
      have hquiet : w = 0 → v = 0 := by
        intro z
        rcases hv with y | y
        · exact y
        · exfalso
          have z' : (if v = 0 then (if b = 0 then (0 : Int32) else 1) else 1) = 0 := z
          rw [y, if_neg (show ¬ (1 : Int32) = 0 by decide)] at z'
          exact absurd z' (by decide)
      have hw' : w = 0 := by
        rcases hw with y | y
        · exact y
        · exfalso
          exact absurd (L78_flag c1 y) (by rw [hb']; decide)
      have hv0 := hquiet hw'
      obtain ⟨_, s1, s2⟩ : v = 0 ∧ rls 1000000 (dnL d x k) (rls 1000000 (upL d k) S) = rls 1000000 (upL d k) S ∧ ∀ m, m < 3 → 0 < x (3 * k + m) → Cst 1000000 (rls 1000000 (upL d k) S).1 (eD d k m) := by
        rcases b4 with y | y
        · exact y
        · rw [hv0] at y; exact absurd y (by decide)
      obtain ⟨u1, u2⟩ := ups (G := 1000000) (d := d) (t := k) S
      rw [s1] at q1 q2 ⊢
      refine ⟨fun j hj => ?_, fun t m h1 h2 h3 => ?_⟩
      · rw [q1 j (by omega), u1 j (by omega)]
      · by_cases e : t = k
        · subst e
          refine ⟨Cst_m (u2 m h3) ?_ ?_, fun hxm => Cst_m (s2 m h3 hxm) ?_ ?_⟩
          · exact Int.le_of_eq (q1 (3 + t) (by omega))
          · exact q1 m (by omega)
          · exact Int.le_of_eq (q1 m (by omega))
          · exact q1 (3 + t) (by omega)
        · exact q2 t m (by omega) h2 h3
end WAYS
