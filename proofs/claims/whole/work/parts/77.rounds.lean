/-! THE PURE PART: flow: the class's rounds; the cheapest town; the room of a way -/
section ROUNDS
theorem L63_eq {d x p r : Nat → Int} (hg : Good p (Ed d x)) (hp : ∀ n, n < 9 → 0 ≤ p n) : ∀ (n k f : Nat) (σ : xS) (S : lbl) (b : Int32), k + n = 9 → n < f → SX σ S → (∀ i, i < 18 → (σ.1 8 i).toInt = d i ∧ 1 ≤ d i ∧ d i ≤ 30) → (∀ i, i < 18 → (σ.1 42 i).toInt = x i) → Lb p S → BFk 1000000 p (Ed d x) S.1 k → (∃ ρ, Jv (Ed d x) r S ρ) → (b = 0 → Fxd 1000000 (Ed d x) S.1) → ∃ σ' S', f_X0_findWays__5_L63 f σ b (Int32.ofNat k) = some σ' ∧ SX σ' S' ∧ FrL σ' σ ∧ Lb p S' ∧ Fxd 1000000 (Ed d x) S'.1 ∧ (∃ ρ, Jv (Ed d x) r S' ρ) ∧ (∀ j, S'.1 j ≤ S.1 j) ∧ ((∀ j, j < 9 → 1000000 ≤ S.1 j) → S' = S) := by
  intro n
  induction n with
  | zero =>
    intro k f σ S b hk hf hS h8 hx hL hB hJ hb
    obtain ⟨f, rfl⟩ : ∃ z, f = z + 1 := ⟨f - 1, by omega⟩
    have e : k = 9 := by omega
    subst e
    exact ⟨σ, S, by rw [f_X0_findWays__5_L63, if_pos (by decide)], hS, FrL_r _, hL, BFk_9 hB, hJ, fun j => Int.le_refl _, fun _ => rfl⟩
  | succ n ih =>
    intro k f σ S b hk hf hS h8 hx hL hB hJ hb
    obtain ⟨f, rfl⟩ : ∃ z, f = z + 1 := ⟨f - 1, by omega⟩
    have hle : ¬ (9 : Int32) ≤ Int32.ofNat k := by
      rw [show (9 : Int32) = Int32.ofNat 9 from rfl, ofn_le (by omega) (by omega)]; omega
    by_cases c : b = 0
    · exact ⟨σ, S, by rw [f_X0_findWays__5_L63, if_neg hle, if_pos c], hS, FrL_r _, hL, hb c, hJ, fun j => Int.le_refl _, fun _ => rfl⟩
    · obtain ⟨b', σ1, a1, a2, a3, a4, a5⟩ := L78_eq hg hp (Int32.ofNat k) 6 0 4000 σ S 0 (by decide) (by decide) (Or.inl rfl) hS h8 hx hL
      have hE : ∀ e, e ∈ cRnd d x 0 6 → Ed d x e := fun e he => (cRnd_E e).mp he
      have L1 := Lb_rls (G := 1000000) hg (cRnd d x 0 6) S hE hL
      obtain ⟨ρ, hρ⟩ := hJ
      have J1 := Jv_rls (G := 1000000) hg (cRnd d x 0 6) S ρ hE hρ
      have B1 := BFk_s hg (l := cRnd d x 0 6) (fun e => cRnd_E e) hB
      obtain ⟨σ2, S2, i1, i2, i3, i4, i5, i6, i7, i8⟩ := ih (k + 1) f σ1 (rls 1000000 (cRnd d x 0 6) S) b' (by omega) (by omega) a3 (fun i hi => by rw [a4.2 8 (by decide) (by decide) (by decide) (by decide)]; exact h8 i hi) (fun i hi => by rw [a4.2 42 (by decide) (by decide) (by decide) (by decide)]; exact hx i hi) L1 B1 J1 (fun z => by
        obtain ⟨_, q⟩ := a5 z
        rintro e ⟨t, m, ht, hm, rfl | ⟨hxm, rfl⟩⟩
        · exact (q t m (Nat.zero_le _) ht hm).1
        · exact (q t m (Nat.zero_le _) ht hm).2 hxm)
      refine ⟨σ2, S2, ?_, i2, FrL_t a4 i3, i4, i5, i6, fun j => Int.le_trans (i7 j) (rls_le _ _ _ _), fun z => ?_⟩
      · have a1' : f_X0_findWays__5_L78 4000 σ 0 (Int32.ofNat k) 0 = some (b', σ1) := a1
        rw [f_X0_findWays__5_L63, if_neg hle, if_neg c, a1', Option.bind_some, ofn_succ]
        exact i1
      · have e1 : rls 1000000 (cRnd d x 0 6) S = S := rls_fix _ _ (fun e he => Or.inr (z e.1 (hg e (hE e he)).1))
        rw [e1] at i8
        exact i8 z
def cI (f : Nat → Int32) (n : Nat) : Int := (f n).toInt
theorem cI_up (f : Nat → Int32) (i : Nat) (v : Int32) : cI (va_up f i v) = va_up (cI f) i v.toInt := by
  funext k
  unfold cI
  by_cases q : k = i
  · rw [q, va_up_self, va_up_self]
  · rw [va_up_ne _ _ q, va_up_ne _ _ q]
theorem FW2_eq : ∀ (n k f : Nat) (σ : xS), k + n = 3 → n < f → ∃ V, f_X0_findWays__5_L2 f σ (Int32.ofNat k) = some (xi σ 43 V) ∧ (∀ m, k ≤ m → m < 3 → (V m).toInt = r0 (cI (σ.1 40)) m) ∧ ∀ m, m < k → V m = σ.1 43 m := by
  intro n
  induction n with
  | zero =>
    intro k f σ hk hf
    obtain ⟨f, rfl⟩ : ∃ z, f = z + 1 := ⟨f - 1, by omega⟩
    have e : k = 3 := by omega
    subst e
    have e2 : xi σ 43 (σ.1 43) = σ := by
      unfold xi
      rw [va_up_id]
    exact ⟨σ.1 43, by rw [f_X0_findWays__5_L2, if_pos (by decide), e2], fun m h1 h2 => by omega, fun _ _ => rfl⟩
  | succ n ih =>
    intro k f σ hk hf
    obtain ⟨f, rfl⟩ : ∃ z, f = z + 1 := ⟨f - 1, by omega⟩
    have hk3 : k < 3 := by omega
    have vm : vin (Int32.ofNat k) 3 = true := ofn_vin hk3 (by decide)
    have nm : (Int32.ofNat k).toNatClampNeg = k := ofn_nat (by omega)
    have fin : ∀ v : Int32, v.toInt = r0 (cI (σ.1 40)) k → ∃ V, f_X0_findWays__5_L2 f (xi σ 43 (va_up (σ.1 43) k v)) (Int32.ofNat (k + 1)) = some (xi σ 43 V) ∧ (∀ m, k ≤ m → m < 3 → (V m).toInt = r0 (cI (σ.1 40)) m) ∧ ∀ m, m < k → V m = σ.1 43 m := by
      intro v hv
      obtain ⟨V, v1, v2, v3⟩ := ih (k + 1) f (xi σ 43 (va_up (σ.1 43) k v)) (by omega) (by omega)
      rw [xi_xi] at v1
      refine ⟨V, v1, fun m h1 h2 => ?_, fun m h => ?_⟩
      · by_cases q : m = k
        · subst q
          rw [v3 m (by omega), xi_self, va_up_self]; exact hv
        · exact v2 m (by omega) h2
      · rw [v3 m (by omega), xi_self, va_up_ne _ _ (by omega)]
    rw [f_X0_findWays__5_L2, if_neg (lt3 hk3)]
    simp only [vm, nm, cond_true, letm, ofn_succ, pos_le]
    by_cases c : 0 < (σ.1 40 k).toInt
    · rw [if_neg (fun z => z c)]
      refine fin 0 ?_
      unfold r0
      rw [if_pos ⟨hk3, c⟩]; decide
    · rw [if_pos c]
      refine fin 1000000 ?_
      unfold r0
      rw [if_neg (fun z => c z.2)]; decide
theorem findW_eq {d g nd p : Nat → Int} {C D : Int} {σ : xS} (h : FI d g nd (cI (σ.1 42)) (cI (σ.1 40)) (cI (σ.1 41)) C p D) (h8 : ∀ i, i < 18 → (σ.1 8 i).toInt = d i ∧ 1 ≤ d i ∧ d i ≤ 30) : ∃ σ' S, f_X0_findWays__5 σ = some σ' ∧ FrL σ' σ ∧ SX σ' S ∧ ((∀ m, m < 3 → ¬ 0 < cI (σ.1 40) m) → ∀ t, t < 6 → S.1 (3 + t) = 1000000) ∧ ∀ m0, m0 < 3 → 0 < cI (σ.1 40) m0 → ∃ ρ, LF d (cI (σ.1 42)) (cI (σ.1 40)) p S.1 S.2 ρ := by
  have hg := Good_of h
  have hd : ∀ i, i < 18 → 1 ≤ d i ∧ d i ≤ 30 := fun i hi => (h8 i hi).2
  have hp : ∀ n, n < 9 → 0 ≤ p n := fun n hn => (h.2.2.2.2.2.2.2.2 n hn).1
  obtain ⟨V, v1, v2, v3⟩ := FW2_eq 3 0 4000 σ (by decide) (by decide)
  have v1' : f_X0_findWays__5_L2 4000 σ 0 = some (xi σ 43 V) := v1
  let σa : xS := xi (xi (xi (xi σ 43 V) 44 (fillf 6 1000000 (σ.1 44))) 45 (fillf 3 (-1) (σ.1 45))) 46 (fillf 6 (-1) (σ.1 46))
  let S0 : lbl := (r0 (cI (σ.1 40)), fun _ => -1)
  have fa : FrL σa σ := FrL_up (FrL_up (FrL_up (FrL_up (FrL_r σ) 43 _ (by omega)) 44 _ (by omega)) 45 _ (by omega)) 46 _ (by omega)
  have sa : SX σa S0 := by
    refine ⟨fun m hm => ⟨v2 m (Nat.zero_le _) hm, Or.inl ⟨?_, rfl⟩⟩, fun t ht => ⟨?_, Or.inl ⟨?_, rfl⟩⟩⟩
    · show fillf 3 (-1) (σ.1 45) m = -1
      unfold fillf
      rw [if_pos hm]
    · show (fillf 6 1000000 (σ.1 44) t).toInt = r0 (cI (σ.1 40)) (3 + t)
      unfold fillf r0
      rw [if_pos ht, if_neg (by omega)]; decide
    · show fillf 6 (-1) (σ.1 46) t = -1
      unfold fillf
      rw [if_pos ht]
  have J0 : Jv (Ed d (cI (σ.1 42))) (r0 (cI (σ.1 40))) S0 (fun _ => 0) := fun n _ => Or.inl ⟨rfl, rfl⟩
  obtain ⟨σ1, S1, i1, i2, i3, i4, i5, i6, i7, i8⟩ := L63_eq (r := r0 (cI (σ.1 40))) hg hp 9 0 4000 σa S0 1 (by decide) (by decide) sa (fun i hi => h8 i hi) (fun i hi => rfl) (r0_Lb h _) (BFk_0 _ _ _ hg _) ⟨_, J0⟩ (fun z => absurd z (by decide))
  have i1' : f_X0_findWays__5_L63 4000 σa 1 0 = some σ1 := i1
  refine ⟨σ1, S1, ?_, FrL_t fa i3, i2, fun hz t ht => ?_, fun m0 h0 h1 => ?_⟩
  · unfold f_X0_findWays__5
    rw [v1', Option.bind_some]
    show (f_X0_findWays__5_L63 4000 σa 1 0).bind _ = _
    rw [i1']; rfl
  · rw [i8 (fun j hj => by
      show 1000000 ≤ r0 (cI (σ.1 40)) j
      unfold r0
      rw [if_neg (fun z => hz j z.1 z.2)]; exact Int.le_refl _)]
    show r0 (cI (σ.1 40)) (3 + t) = 1000000
    unfold r0
    rw [if_neg (by omega)]
  · obtain ⟨ρ, hρ⟩ := i6
    exact ⟨ρ, LF_of h hd (Int.le_refl _) hρ i4 i5 i7 h0 h1⟩
/-- the cheapest town so far -/
def Chp (W A : Nat → Int) (k : Nat) (r : Int32) : Prop := (r = -1 ∧ ∀ t, t < k → ¬ (0 < W t ∧ A (3 + t) < 1000000)) ∨ ∃ u : Nat, u < k ∧ r = Int32.ofNat u ∧ (0 < W u ∧ A (3 + u) < 1000000) ∧ ∀ t, t < k → 0 < W t → A (3 + t) < 1000000 → A (3 + u) ≤ A (3 + t)
theorem Chp_no {W A : Nat → Int} {k : Nat} {r : Int32} (h : Chp W A k r) (c : ¬ (0 < W k ∧ A (3 + k) < 1000000)) : Chp W A (k + 1) r := by
  rcases h with ⟨z1, z2⟩ | ⟨u, z1, z2, z3, z4⟩
  · refine Or.inl ⟨z1, fun t ht => ?_⟩
    by_cases q : t = k
    · rw [q]; exact c
    · exact z2 t (by omega)
  · refine Or.inr ⟨u, by omega, z2, z3, fun t ht h1 h2 => ?_⟩
    by_cases q : t = k
    · rw [q] at h1 h2; exact absurd ⟨h1, h2⟩ c
    · exact z4 t (by omega) h1 h2
theorem Chp_old {W A : Nat → Int} {k u : Nat} (hu : u < k) (z3 : 0 < W u ∧ A (3 + u) < 1000000) (z4 : ∀ t, t < k → 0 < W t → A (3 + t) < 1000000 → A (3 + u) ≤ A (3 + t)) (c : A (3 + u) ≤ A (3 + k)) : Chp W A (k + 1) (Int32.ofNat u) := by
  refine Or.inr ⟨u, by omega, rfl, z3, fun t ht h1 h2 => ?_⟩
  by_cases q : t = k
  · rw [q]; exact c
  · exact z4 t (by omega) h1 h2
theorem Chp_new {W A : Nat → Int} {k : Nat} {r : Int32} (h : Chp W A k r) (c : 0 < W k ∧ A (3 + k) < 1000000) (hn : ∀ u : Nat, u < k → r = Int32.ofNat u → A (3 + k) ≤ A (3 + u)) : Chp W A (k + 1) (Int32.ofNat k) := by
  refine Or.inr ⟨k, by omega, rfl, c, fun t ht h1 h2 => ?_⟩
  by_cases q : t = k
  · rw [q]; exact Int.le_refl _
  · rcases h with ⟨z1, z2⟩ | ⟨u, z1, z2, z3, z4⟩
    · exact absurd ⟨h1, h2⟩ (z2 t (by omega))
    · have := z4 t (by omega) h1 h2
      have := hn u z1 z2
      omega
theorem chp_x {σ : xS} {S : lbl} (hS : SX σ S) : ∀ (n k f : Nat) (r : Int32), k + n = 6 → n < f → Chp (cI (σ.1 41)) S.1 k r → ∃ r', f_X0_cheapestTown_L4 f σ r (Int32.ofNat k) = some r' ∧ Chp (cI (σ.1 41)) S.1 6 r' := by
  intro n
  induction n with
  | zero =>
    intro k f r hk hf h
    obtain ⟨f, rfl⟩ : ∃ z, f = z + 1 := ⟨f - 1, by omega⟩
    have e : k = 6 := by omega
    subst e
    exact ⟨r, by rw [f_X0_cheapestTown_L4, if_pos (by decide)], h⟩
  | succ n ih =>
    intro k f r hk hf h
    obtain ⟨f, rfl⟩ : ∃ z, f = z + 1 := ⟨f - 1, by omega⟩
    have hk6 : k < 6 := by omega
    have vt : vin (Int32.ofNat k) 6 = true := ofn_vin hk6 (by decide)
    have nt : (Int32.ofNat k).toNatClampNeg = k := ofn_nat (by omega)
    have b1 := (hS.2 k hk6).1
    rw [f_X0_cheapestTown_L4, if_neg (lt6 hk6)]
    simp only [vt, nt, cond_true, ofn_succ, pos_le]
    by_cases c0 : 0 < (σ.1 41 k).toInt
    · rw [if_neg (fun z => z c0)]
      by_cases c1 : 1000000 ≤ σ.1 44 k
      · have c1' : 1000000 ≤ S.1 (3 + k) := by rw [le_int, mil, b1] at c1; exact c1
        rw [if_pos c1]
        exact ih (k + 1) f r (by omega) (by omega) (Chp_no h (fun z => by omega))
      · have c1' : S.1 (3 + k) < 1000000 := by rw [le_int, mil, b1] at c1; omega
        rw [if_neg c1]
        by_cases c2 : r = -1
        · rw [if_pos c2]
          refine ih (k + 1) f _ (by omega) (by omega) (Chp_new h ⟨c0, c1'⟩ (fun u hu hr => ?_))
          rw [c2] at hr
          have := congrArg Int32.toInt hr
          rw [ofn_int (by omega)] at this
          have e1 : (-1 : Int32).toInt = -1 := by decide
          omega
        · rw [if_neg c2]
          rcases id h with ⟨z1, z2⟩ | ⟨u, z1, z2, z3, z4⟩
          · exact absurd z1 c2
          · subst z2
            have vu : vin (Int32.ofNat u) 6 = true := ofn_vin (by omega) (by decide)
            have nu : (Int32.ofNat u).toNatClampNeg = u := ofn_nat (by omega)
            have bu := (hS.2 u (by omega)).1
            simp only [vu, nu, cond_true, le_int, bu, b1]
            by_cases c3 : S.1 (3 + u) ≤ S.1 (3 + k)
            · rw [if_pos c3]
              exact ih (k + 1) f _ (by omega) (by omega) (Chp_old z1 z3 z4 c3)
            · rw [if_neg c3]
              refine ih (k + 1) f _ (by omega) (by omega) (Chp_new h ⟨c0, c1'⟩ (fun u' hu' hr => ?_))
              have e1 : u = u' := (ofn_eq (by omega) (by omega)).mp hr
              rw [← e1]; omega
    · rw [if_pos c0]
      exact ih (k + 1) f r (by omega) (by omega) (Chp_no h (fun z => c0 z.1))
theorem mint_b {m : Nat} (hm : m < 3) : f_X6_isMint (Int32.ofNat m) = some 1 := by
  rw [xm_eq, if_pos]
  exact ⟨(ofn_le (n := 0) (by decide) (by omega)).mpr (Nat.zero_le m), (ofn_le (m := 2) (by omega) (by decide)).mpr (by omega)⟩
theorem town_b {m : Nat} (hm : m < 6) : f_X6_isTown (Int32.ofNat m) = some 1 := by
  rw [xt_eq, if_pos]
  exact ⟨(ofn_le (n := 0) (by decide) (by omega)).mpr (Nat.zero_le m), (ofn_le (m := 5) (by omega) (by decide)).mpr (by omega)⟩
theorem town_n : f_X6_isTown (-1) = some 0 := by
  rw [xt_eq, if_neg (by decide)]
theorem SX_m {σ : xS} {S : lbl} (hS : SX σ S) {t m : Nat} (ht : t < 6) (hB : S.2 (3 + t) = (m : Int)) : σ.1 46 t = Int32.ofNat m := by
  rcases (hS.2 t ht).2 with y | ⟨k, y1, y2, y3⟩
  · omega
  · have : (k : Int) = (m : Int) := y3.symm.trans hB
    rw [y2, show k = m by omega]
theorem SX_r {σ : xS} {S : lbl} (hS : SX σ S) {m : Nat} (hm : m < 3) (hB : S.2 m = -1) : σ.1 45 m = -1 := by
  rcases (hS.1 m hm).2 with y | ⟨k, y1, y2, y3⟩
  · exact y.1
  · omega
theorem SX_t {σ : xS} {S : lbl} (hS : SX σ S) {m t : Nat} (hm : m < 3) (hB : S.2 m = ((3 + t : Nat) : Int)) : σ.1 45 m = Int32.ofNat t := by
  rcases (hS.1 m hm).2 with y | ⟨k, y1, y2, y3⟩
  · omega
  · have : ((3 + k : Nat) : Int) = ((3 + t : Nat) : Int) := y3.symm.trans hB
    rw [y2, show k = t by omega]
def mn (a b : Int32) : Int32 := if a < b then a else b
theorem mn_le (a b : Int32) : (mn a b).toInt ≤ a.toInt ∧ (mn a b).toInt ≤ b.toInt ∧ ((mn a b).toInt = a.toInt ∨ (mn a b).toInt = b.toInt) := by
  unfold mn
  by_cases c : a < b
  · rw [if_pos c]
    have := lt_int.mp c
    omega
  · rw [if_neg c]
    have : ¬ a.toInt < b.toInt := fun z => c (lt_int.mpr z)
    omega
theorem room_L {σ : xS} {S : lbl} (hS : SX σ S) : ∀ (K n f t : Nat) (r : Int32), n + K = 3 → K < f → t < 6 → 1 ≤ r.toInt → Rm S.2 (cI (σ.1 42)) (cI (σ.1 40)) 1 K t → ∃ (m : Nat) (r' : Int32), f_X0_roomOfWay_L12 f σ r (Int32.ofNat t) (Int32.ofNat n) = some (2, r', Int32.ofNat m) ∧ m < 3 ∧ 1 ≤ (mn (σ.1 40 m) r').toInt ∧ (mn (σ.1 40 m) r').toInt ≤ r.toInt ∧ Rm S.2 (cI (σ.1 42)) (cI (σ.1 40)) (mn (σ.1 40 m) r').toInt K t := by
  intro K
  induction K with
  | zero => intro n f t r _ _ _ _ h; exact h.elim
  | succ K ih =>
    intro n f t r hn hf ht hr h
    obtain ⟨f, rfl⟩ : ∃ z, f = z + 1 := ⟨f - 1, by omega⟩
    obtain ⟨m, hm, hB, h⟩ := h
    have em := SX_m hS ht hB
    have vt : vin (Int32.ofNat t) 6 = true := ofn_vin ht (by decide)
    have nt : (Int32.ofNat t).toNatClampNeg = t := ofn_nat (by omega)
    have vm : vin (Int32.ofNat m) 3 = true := ofn_vin hm (by decide)
    have nm : (Int32.ofNat m).toNatClampNeg = m := ofn_nat (by omega)
    rw [f_X0_roomOfWay_L12, if_neg (lt3 (show n < 3 by omega))]
    simp only [vt, nt, cond_true, em, mint_b hm, Option.bind_some, i10, if_false, vm, nm]
    rcases h with ⟨h1, h2⟩ | ⟨t', h1, h2, h3, h4⟩
    · rw [SX_r hS hm h1, town_n, Option.bind_some, if_pos rfl]
      obtain ⟨q1, q2, q3⟩ := mn_le (σ.1 40 m) r
      have h2' : 1 ≤ (σ.1 40 m).toInt := h2
      exact ⟨m, r, rfl, hm, by omega, q2, m, hm, hB, Or.inl ⟨h1, q1⟩⟩
    · obtain ⟨i1, i2, i3, -⟩ := ix3 h1 hm
      rw [SX_t hS hm h2, town_b h1, Option.bind_some, if_neg (by decide)]
      simp only [letm, i1, i2, i3, cond_true, ofn_succ]
      obtain ⟨q1, q2, q3⟩ := mn_le (σ.1 42 (3 * t' + m)) r
      have h3' : 1 ≤ (σ.1 42 (3 * t' + m)).toInt := h3
      obtain ⟨m', r', j1, j2, j3, j4, j5⟩ := ih (n + 1) f t' (mn (σ.1 42 (3 * t' + m)) r) (by omega) (by omega) h1 (by omega) h4
      refine ⟨m', r', j1, j2, j3, by omega, m, hm, hB, Or.inr ⟨t', h1, h2, ?_, j5⟩⟩
      show _ ≤ (σ.1 42 (3 * t' + m)).toInt
      omega
theorem room_eq {σ : xS} {S : lbl} (hS : SX σ S) {u : Nat} (hu : u < 6) (hw : 0 < cI (σ.1 41) u) (h : Rm S.2 (cI (σ.1 42)) (cI (σ.1 40)) 1 3 u) : ∃ q : Int32, f_X0_roomOfWay σ (Int32.ofNat u) = some q ∧ 0 < q.toInt ∧ q.toInt ≤ cI (σ.1 41) u ∧ Rm S.2 (cI (σ.1 42)) (cI (σ.1 40)) q.toInt 3 u := by
  have vt : vin (Int32.ofNat u) 6 = true := ofn_vin hu (by decide)
  have nt : (Int32.ofNat u).toNatClampNeg = u := ofn_nat (by omega)
  obtain ⟨m, r', j1, j2, j3, j4, j5⟩ := room_L hS 3 0 4000 u (σ.1 41 u) (by decide) (by decide) hu hw h
  have j1' : f_X0_roomOfWay_L12 4000 σ (σ.1 41 u) (Int32.ofNat u) 0 = some (2, r', Int32.ofNat m) := j1
  have vm : vin (Int32.ofNat m) 3 = true := ofn_vin j2 (by decide)
  have nm : (Int32.ofNat m).toNatClampNeg = m := ofn_nat (by omega)
  refine ⟨mn (σ.1 40 m) r', ?_, j3, j4, j5⟩
  unfold f_X0_roomOfWay
  rw [vt, nt, j1']
  simp [vm, nm, mn]
end ROUNDS
