/-! THE PURE PART: pay -/
section PAY
/-- the first j of the row -/
def Fst (R : Nat → Nat) (j l : Nat) : Prop := ∃ i, i < j ∧ R i = l
theorem Fst_succ {R : Nat → Nat} {j l : Nat} : Fst R (j + 1) l ↔ Fst R j l ∨ R j = l := by
  constructor
  · rintro ⟨i, h1, h2⟩
    by_cases q : i = j
    · subst q; exact Or.inr h2
    · exact Or.inl ⟨i, by omega, h2⟩
  · rintro (⟨i, h1, h2⟩ | h)
    · exact ⟨i, by omega, h2⟩
    · exact ⟨j, by omega, h⟩
/-- after j payments: the class -/
def PX (σ : xS) (μ : mS) (t : Int32) (R : Nat → Nat) (j : Nat) (σ' : xS) : Prop := AgX σ' σ ∧ σ'.1 11 0 = Int32.ofNat j ∧ (∀ l, l < nLo σ → (Fst R j l → σ'.1 12 l = 0 ∧ σ'.1 110 l = 1) ∧ (¬ Fst R j l → σ'.1 12 l = pw μ t l ∧ σ'.1 110 l = σ.1 110 l))
/-- after j payments: the reference -/
def PM (μ : mS) (R : Nat → Nat) (n j : Nat) (μ' : mS) : Prop := AgM μ' μ ∧ μ'.1 29 0 = Int32.ofNat j ∧ (∀ i, i < n → μ'.1 31 i = Int32.ofNat (R i)) ∧ (∀ i, i < j → μ'.1 30 i = Int32.ofNat (R i))
theorem pay_step {σ : xS} {μ : mS} (hR : Rel σ μ) {t : Int32} (hp : PT σ μ t) {R : Nat → Nat} {n j : Nat} (hE : Enm (svI σ μ) (pI μ t) R n (nLo σ)) {σ' : xS} (hX : PX σ μ t R j σ') (hj : j ≤ n) (hn : n ≤ nLo σ) (hs : 0 < sI (σ'.1 12) (nLo σ)) : j < n ∧ ∃ σ'', f_X6_payWorst σ' = some (pw μ t (R j), σ'') ∧ PX σ μ t R (j + 1) σ'' ∧ sI (σ''.1 12) (nLo σ) = sI (σ'.1 12) (nLo σ) - pI μ t (R j) ∧ σ''.1 10 = va_up (σ'.1 10) j (Int32.ofNat (R j)) := by
  have h30 := hR.1.1.2.1
  obtain ⟨hA, h11, hW⟩ := hX
  have hW' : ∀ l, l < nLo σ → σ'.1 12 l = 0 ∨ σ'.1 12 l = pw μ t l := by
    intro l hl
    by_cases q : Fst R j l
    · exact Or.inl ((hW l hl).1 q).1
    · exact Or.inr ((hW l hl).2 q).1
  have hQ : ∀ l, l < nLo σ → (0 < (σ'.1 12 l).toInt ↔ (¬ Fst R j l ∧ 0 < pI μ t l)) := by
    intro l hl
    by_cases q : Fst R j l
    · rw [((hW l hl).1 q).1]
      exact ⟨fun z => absurd z (by decide), fun z => absurd q z.1⟩
    · rw [((hW l hl).2 q).1]
      exact ⟨fun z => ⟨q, z⟩, fun z => z.2⟩
  obtain ⟨y1, y2, w1, w2⟩ := worst_L hR hp hA hW' (nLo σ) 0 4000 none 0 (by omega) (by omega) (Or.inl ⟨rfl, fun a ha => by omega⟩)
  have w1' : f_X6_payWorst_L6 4000 σ' none 0 0 = some (y1, y2) := w1
  obtain ⟨l0, l1, l2⟩ := sI_pos (σ'.1 12) (nLo σ) hs
  rcases w2 with ⟨z1, z2⟩ | ⟨b, b1, rfl, rfl, b4, b5⟩
  · exact absurd l2 (z2 l0 l1)
  · obtain ⟨q1, q2⟩ := (hQ b b1).mp b4
    obtain ⟨i, hi, hib⟩ := hE.2.2 b b1 q2
    have hij : j ≤ i := by
      by_cases z : i < j
      · exact absurd ⟨i, z, hib⟩ q1
      · omega
    have hjn : j < n := by omega
    have hRj := hE.1 j hjn
    have hnF : ¬ Fst R j (R j) := by
      rintro ⟨i', h1, h2⟩
      have := hE.2.1 i' j h1 hjn
      rw [h2] at this
      exact Wr_irr this
    have hbj : b = R j := by
      by_cases z : R j = b
      · exact z.symm
      · have h1 := b5 (R j) hRj.1 ((hQ _ hRj.1).mpr ⟨hnF, hRj.2⟩) z
        have hij' : j < i := by
          by_cases e : i = j
          · rw [e] at hib; exact absurd hib z
          · omega
        have h2 := hE.2.1 j i hij' hi
        rw [hib] at h2
        exact absurd h2 (Wr_asym h1)
    subst hbj
    have hj30 : j < 30 := by omega
    have c30 : Int32.ofNat j < 30 := (ofn_lt (m := 30) (by omega) (by decide)).mpr hj30
    have v1 : vin (Int32.ofNat (R j)) 30 = true := ofn_vin (by omega) (by decide)
    have v2 : (Int32.ofNat (R j)).toNatClampNeg = R j := ofn_nat (by omega)
    have v3 : vin (Int32.ofNat j) 30 = true := ofn_vin hj30 (by decide)
    have v4 : (Int32.ofNat j).toNatClampNeg = j := ofn_nat (by omega)
    have hN := nLo_ag hA
    have wj := ((hW _ hRj.1).2 hnF).1
    let τ : xS := xi (xi (xi (xi σ' 12 (va_up (σ'.1 12) (R j) 0)) 110 (va_up (σ'.1 110) (R j) 1)) 11 (fun _ => Int32.ofNat j + 1)) 10 (va_up (σ'.1 10) j (Int32.ofNat (R j)))
    have lk : isL (xi σ' 12 (va_up (σ'.1 12) (R j) 0)) (1000 + R j) = true := isL_of (σ := xi σ' 12 (va_up (σ'.1 12) (R j) 0)) (by show R j < nLo σ'; rw [hN]; exact b1) (by show nLo σ' ≤ 30; rw [hN]; exact h30)
    have t12 : τ.1 12 = va_up (σ'.1 12) (R j) 0 := (xi_ne (by decide)).trans ((xi_ne (by decide)).trans ((xi_ne (by decide)).trans (xi_self _ _ _)))
    have t110 : τ.1 110 = va_up (σ'.1 110) (R j) 1 := (xi_ne (by decide)).trans ((xi_ne (by decide)).trans (xi_self _ _ _))
    refine ⟨hjn, τ, ?_, ⟨⟨hA.1, fun c e1 e2 e3 e4 => ?_⟩, ?_, fun l hl => ⟨fun z => ?_, fun z => ?_⟩⟩, ?_, ?_⟩
    · unfold f_X6_payWorst
      rw [w1', Option.bind_some]
      simp only [oq, h11, if_pos c30, v1, v2, cond_true, letm, lk, Nat.add_sub_cancel_left, xi_ne (show 11 ≠ 12 by decide), xi_ne (show 11 ≠ 110 by decide), xi_ne (show 110 ≠ 12 by decide), xi_ne (show 10 ≠ 11 by decide), xi_ne (show 10 ≠ 110 by decide), xi_ne (show 10 ≠ 12 by decide), v3, v4, wj]
      rfl
    · exact (xi_ne e1).trans ((xi_ne e2).trans ((xi_ne e4).trans ((xi_ne e3).trans (hA.2 c e1 e2 e3 e4))))
    · exact (ofn_succ j)
    · rw [t12, t110]
      by_cases q : l = R j
      · subst q
        rw [va_up_self, va_up_self]
        exact ⟨rfl, rfl⟩
      · rw [va_up_ne _ _ q, va_up_ne _ _ q]
        rcases Fst_succ.mp z with y | y
        · exact (hW l hl).1 y
        · exact absurd y.symm q
    · rw [t12, t110]
      have q : l ≠ R j := fun y => z (Fst_succ.mpr (Or.inr y.symm))
      rw [va_up_ne _ _ q, va_up_ne _ _ q]
      exact (hW l hl).2 (fun y => z (Fst_succ.mpr (Or.inl y)))
    · rw [t12, sI_up _ _ _ b1, wj]
      rfl
    · exact xi_self _ _ _
theorem pay_L {σ : xS} {μ : mS} (hR : Rel σ μ) {t : Int32} (hp : PT σ μ t) {R : Nat → Nat} {n : Nat} (hE : Enm (svI σ μ) (pI μ t) R n (nLo σ)) (hn : n ≤ nLo σ) (am : Int32) (T : Int) (hT : am.toInt ≤ T) (hT2 : T ≤ 15000000000) : ∀ (d j f1 f2 : Nat) (σ' : xS) (μ' : mS) (x : Int64), j + d = n → d < f1 → d < f2 → PX σ μ t R j σ' → PM μ R n j μ' → (∀ i, i < 30 → σ'.1 10 i = μ'.1 30 i) → 0 ≤ x.toInt → x.toInt + sI (σ'.1 12) (nLo σ) = T → ∃ m y σ'' μ'', m ≤ n ∧ f_X6_pay_L46 f1 σ' t am x (Int32.ofNat j) = some (y, σ'') ∧ f_X7_pay_L169 f2 μ' t am x = some (y, μ'') ∧ PX σ μ t R m σ'' ∧ PM μ R n m μ'' ∧ ∀ i, i < 30 → σ''.1 10 i = μ''.1 30 i := by
  have h30 := hR.1.1.2.1
  intro d
  induction d with
  | zero =>
    intro j f1 f2 σ' μ' x hj hf1 hf2 hX hM h10 hx hsum
    obtain ⟨f1, rfl⟩ : ∃ z, f1 = z + 1 := ⟨f1 - 1, by omega⟩
    obtain ⟨f2, rfl⟩ : ∃ z, f2 = z + 1 := ⟨f2 - 1, by omega⟩
    have e : j = n := by omega
    subst e
    have c : 0 ≤ lg_cmp x am.toInt64 := by
      rw [lg_ge, Int64.le_iff_toInt_le, Int32.toInt_toInt64]
      by_cases z : 0 < sI (σ'.1 12) (nLo σ)
      · have := (pay_step hR hp hE hX (Nat.le_refl _) hn z).1
        omega
      · omega
    refine ⟨j, x, σ', μ', Nat.le_refl _, ?_, ?_, hX, hM, h10⟩
    · rw [f_X6_pay_L46, if_pos c, ite_self]
    · rw [f_X7_pay_L169, if_pos c]
  | succ d ih =>
    intro j f1 f2 σ' μ' x hj hf1 hf2 hX hM h10 hx hsum
    obtain ⟨f1, rfl⟩ : ∃ z, f1 = z + 1 := ⟨f1 - 1, by omega⟩
    obtain ⟨f2, rfl⟩ : ∃ z, f2 = z + 1 := ⟨f2 - 1, by omega⟩
    by_cases c : 0 ≤ lg_cmp x am.toInt64
    · refine ⟨j, x, σ', μ', by omega, ?_, ?_, hX, hM, h10⟩
      · rw [f_X6_pay_L46, if_pos c, ite_self]
      · rw [f_X7_pay_L169, if_pos c]
    · have c' : x.toInt < am.toInt := by
        rw [lg_ge, Int64.le_iff_toInt_le, Int32.toInt_toInt64] at c
        omega
      obtain ⟨s1, σ1, s2, s3, s4, s5⟩ := pay_step hR hp hE hX (by omega) hn (by omega)
      obtain ⟨hRj, hPj⟩ := hE.1 j s1
      have hb := (hp _ hRj).1
      have hj30 : ¬ (30 : Int32) ≤ Int32.ofNat j := by rw [show (30 : Int32) = Int32.ofNat 30 from rfl, ofn_le (by omega) (by omega)]; omega
      have v3 : vin (Int32.ofNat j) 30 = true := ofn_vin (by omega) (by decide)
      have v4 : (Int32.ofNat j).toNatClampNeg = j := ofn_nat (by omega)
      obtain ⟨m1, m2, m3, m4⟩ := hM
      have hpass : f_X7_passes μ' (Int32.ofNat (R j)) t (μ'.1 6 0) = some (pw μ t (R j)) := by
        rw [m1.2 6 (by decide) (by decide) (by decide), pass_c m1]
        exact (PT_pos hp hRj hPj).2.1
      have amb : am.toInt < 2147483648 := Int32.toInt_lt am
      have hadd : (x + (pw μ t (R j)).toInt64).toInt = x.toInt + pI μ t (R j) := by
        unfold pI at *
        rw [add64 (by rw [Int32.toInt_toInt64]; omega) (by rw [Int32.toInt_toInt64]; omega), Int32.toInt_toInt64]
      let ν : mS := seti (seti μ' 30 (va_up (μ'.1 30) j (Int32.ofNat (R j)))) 29 (fun _ => Int32.ofNat j + 1)
      have n30 : ν.1 30 = va_up (μ'.1 30) j (Int32.ofNat (R j)) := (mi_ne (by decide)).trans (mi_self _ _ _)
      have hM1 : PM μ R n (j + 1) ν := by
        refine ⟨⟨m1.1, fun c e1 e2 e3 => (mi_ne e1).trans ((mi_ne e2).trans (m1.2 c e1 e2 e3))⟩, ofn_succ j, fun i hi => m3 i hi, fun i hi => ?_⟩
        rw [n30]
        by_cases q : i = j
        · rw [q, va_up_self]
        · rw [va_up_ne _ _ q]
          exact m4 i (by omega)
      obtain ⟨m, y, σ2, μ2, i1, i2, i3, i4⟩ := ih (j + 1) f1 f2 σ1 ν (x + (pw μ t (R j)).toInt64) (by omega) (by omega) (by omega) s3 hM1 (fun i hi => by
        rw [s5, n30]
        by_cases q : i = j
        · rw [q, va_up_self, va_up_self]
        · rw [va_up_ne _ _ q, va_up_ne _ _ q]
          exact h10 i hi) (by omega) (by omega)
      refine ⟨m, y, σ2, μ2, i1, ?_, ?_, i4⟩
      · rw [f_X6_pay_L46, if_neg hj30, if_neg c, s2, Option.bind_some, ofn_succ]
        exact i2
      · rw [f_X7_pay_L169, if_neg c]
        simp only [m2, v3, v4, cond_true, letm, m3 j s1, hpass, Option.bind_some]
        have e29 : (seti μ' 30 (va_up (μ'.1 30) j (Int32.ofNat (R j)))).1 29 0 = Int32.ofNat j := m2
        rw [e29]
        exact i3
/-- the chests of the reference -/
theorem chest_L {R : Nat → Nat} {m N : Nat} (hm : m ≤ 30) (hN : N ≤ 30) (hRN : ∀ i, i < m → R i < N) (x1 x2 : Int32) (x6 : Int64) : ∀ (d k f : Nat) (μ' : mS), k + d = m → d < f → μ'.1 29 0 = Int32.ofNat m → (∀ i, i < m → μ'.1 30 i = Int32.ofNat (R i)) → ∃ V, f_X7_pay_L232 f μ' x1 x2 x6 (Int32.ofNat k) = some (seti μ' 17 V) ∧ ∀ l, ((∃ i, k ≤ i ∧ i < m ∧ R i = l) → V l = 1) ∧ ((¬ ∃ i, k ≤ i ∧ i < m ∧ R i = l) → V l = μ'.1 17 l) := by
  intro d
  induction d with
  | zero =>
    intro k f μ' hk hf h29 h30
    obtain ⟨f, rfl⟩ : ∃ z, f = z + 1 := ⟨f - 1, by omega⟩
    have e : k = m := by omega
    subst e
    refine ⟨μ'.1 17, ?_, fun l => ⟨fun ⟨i, h1, h2, _⟩ => by omega, fun _ => rfl⟩⟩
    rw [f_X7_pay_L232, h29, if_pos (Int32.le_refl _), seti_id]
  | succ d ih =>
    intro k f μ' hk hf h29 h30
    obtain ⟨f, rfl⟩ : ∃ z, f = z + 1 := ⟨f - 1, by omega⟩
    have hle : ¬ Int32.ofNat m ≤ Int32.ofNat k := by rw [ofn_le (by omega) (by omega)]; omega
    have v1 : vin (Int32.ofNat k) 30 = true := ofn_vin (by omega) (by decide)
    have v2 : (Int32.ofNat k).toNatClampNeg = k := ofn_nat (by omega)
    have hRk := hRN k (by omega)
    have v3 : vin (Int32.ofNat (R k)) 30 = true := ofn_vin (by omega) (by decide)
    have v4 : (Int32.ofNat (R k)).toNatClampNeg = R k := ofn_nat (by omega)
    obtain ⟨V, i1, i2⟩ := ih (k + 1) f (um μ' 17 (R k) 1) (by omega) (by omega) h29 h30
    refine ⟨V, ?_, fun l => ⟨fun ⟨i, h1, h2, h3⟩ => ?_, fun z => ?_⟩⟩
    · rw [f_X7_pay_L232, h29, if_neg hle]
      simp only [v1, v2, cond_true, h30 k (by omega), v3, v4, letm, nar1, ofn_succ]
      rw [seti_seti] at i1
      exact i1
    · by_cases q : ∃ i, k + 1 ≤ i ∧ i < m ∧ R i = l
      · exact (i2 l).1 q
      · have hik : i = k := by
          by_cases e : i = k
          · exact e
          · exact absurd ⟨i, by omega, h2, h3⟩ q
        rw [(i2 l).2 q, mi_self, ← h3, hik, va_up_self]
    · have q : ¬ ∃ i, k + 1 ≤ i ∧ i < m ∧ R i = l := fun ⟨i, h1, h2, h3⟩ => z ⟨i, by omega, h2, h3⟩
      have q2 : l ≠ R k := fun e => z ⟨k, Nat.le_refl _, by omega, e.symm⟩
      rw [(i2 l).2 q, mi_self, va_up_ne _ _ q2]
/-- the relation after a payment -/
theorem R_pay {σ σ' : xS} {μ μ' : mS} (hR : Rel σ μ) (h22 : σ'.2.2 = σ.2.2) (h21 : ∀ c, c ≠ 9 → σ'.2.1 c = σ.2.1 c) (hc : ∀ c, c ≠ 10 → c ≠ 11 → c ≠ 12 → c ≠ 110 → σ'.1 c = σ.1 c) (m2 : ∀ c, c ≠ 28 → μ'.2 c = μ.2 c) (mc : ∀ c, c ≠ 17 → c ≠ 29 → c ≠ 30 → c ≠ 31 → μ'.1 c = μ.1 c) (hP' : RP σ' μ') (hK' : RK σ' μ') (hch : ∀ l, l < nLo σ → (σ'.1 110 l = σ.1 110 l ∧ μ'.1 17 l = μ.1 17 l) ∨ (σ'.1 110 l = 1 ∧ μ'.1 17 l = 1 ∧ 0 ≤ μ.1 13 l ∧ μ.1 15 l ≤ μ.1 6 0 ∧ μ.1 16 l = 0)) (hc2 : ∀ l, nLo σ ≤ l → μ'.1 17 l = μ.1 17 l) : Rel σ' μ' := by
  obtain ⟨hC, hD, hS, hL, hT, hO, hP, hK, hRr, hG, hM⟩ := hR
  have lo : ∀ c, c ≠ 10 ∧ c ≠ 11 ∧ c ≠ 12 ∧ c ≠ 110 → σ'.1 c = σ.1 c := fun c h => hc c h.1 h.2.1 h.2.2.1 h.2.2.2
  have ml : ∀ c, c ≠ 17 ∧ c ≠ 29 ∧ c ≠ 30 ∧ c ≠ 31 → μ'.1 c = μ.1 c := fun c h => mc c h.1 h.2.1 h.2.2.1 h.2.2.2
  refine ⟨?_, ?_, ?_, fun i hi => ?_, ⟨?_, ?_, fun i h1 h2 => ?_⟩, fun o ho => ⟨fun k hk => ?_, fun t ht => ?_⟩, hP', hK', ?_, ?_, ?_⟩
  · unfold RC nS nLo nO; rw [h22, lo 1 (by omega), lo 3 (by omega), lo 5 (by omega), ml 1 (by omega), ml 7 (by omega), ml 21 (by omega)]; exact hC
  · unfold RD; rw [lo 16 (by omega), ml 6 (by omega)]; exact hD
  · unfold RS nS; rw [h22, lo 120 (by omega), lo 121 (by omega), lo 122 (by omega), lo 123 (by omega), ml 2 (by omega), ml 3 (by omega), ml 4 (by omega), ml 5 (by omega)]; exact hS
  · have hi' : i < nLo σ := by rw [nLo, h22] at hi; exact hi
    obtain ⟨⟨p100, p102, p104, p105, p109, p110, p111⟩, p2, p3, p4, p5, p6, p7, p8, p9, p10, p11⟩ := hL i hi'
    unfold RLot nS; rw [h22, lo 100 (by omega), lo 102 (by omega), lo 103 (by omega), lo 104 (by omega), lo 105 (by omega), lo 106 (by omega), lo 107 (by omega), lo 108 (by omega), lo 109 (by omega), lo 111 (by omega), ml 9 (by omega), ml 10 (by omega), ml 8 (by omega), ml 11 (by omega), ml 16 (by omega), ml 18 (by omega), ml 12 (by omega), ml 4 (by omega), ml 13 (by omega), ml 14 (by omega), ml 15 (by omega), ml 6 (by omega)]
    rcases hch i hi' with ⟨y1, y2⟩ | ⟨y1, y2, y3, y4, y5⟩
    · rw [y1, y2]
      exact ⟨⟨p100, p102, p104, p105, p109, p110, p111⟩, p2, p3, p4, p5, p6, p7, p8, p9, p10, p11⟩
    · rw [y1, y2]
      refine ⟨⟨p100, p102, p104, p105, p109, rfl, p111⟩, p2, p3, p4, p5, p6, ⟨p7.1, Or.inr rfl, p7.2.2⟩, p8, ?_, fun _ => ⟨y3, y4⟩, p11⟩
      rcases p9 with z | z
      · exact Or.inl z
      · exact absurd (z.1.symm.trans y5) (by decide)
  · rw [lo 20 (by omega), ml 20 (by omega)]; exact hT.1
  · rw [lo 24 (by omega), ml 19 (by omega)]; exact hT.2.1
  · have h2' : nLo σ ≤ i := by rw [nLo, h22] at h2; exact h2
    rw [ml 16 (by omega), ml 18 (by omega), hc2 i h2']
    exact hT.2.2 i h1 h2'
  · have ho' : o < nO σ := by rw [nO, h22] at ho; exact ho
    rw [lo (2000 + o) (by omega), lo (3000 + o) (by omega), ml 22 (by omega), ml 23 (by omega), ml 24 (by omega)]
    exact (hO o ho').1 k hk
  · have ho' : o < nO σ := by rw [nO, h22] at ho; exact ho
    rw [lo (1000 + o) (by omega), ml 25 (by omega)]
    exact (hO o ho').2 t ht
  · unfold RR; rw [lo 8 (by omega), ml 32 (by omega)]; exact hRr
  · unfold RG; rw [lo 13 (by omega), lo 14 (by omega), ml 42 (by omega), ml 43 (by omega)]; exact hG
  · unfold RM; rw [h21 140 (by decide), h21 141 (by decide), h21 143 (by decide), h21 144 (by decide), h21 145 (by decide), m2 33 (by decide), m2 34 (by decide), m2 36 (by decide), m2 37 (by decide), m2 41 (by decide), lo 142 (by omega), lo 146 (by omega), lo 147 (by omega), lo 148 (by omega), ml 35 (by omega), ml 38 (by omega), ml 39 (by omega), ml 40 (by omega), ml 16 (by omega)]; exact hM
theorem H_pay : ∀ (σ : xS) (μ : mS), Rel σ μ → ∀ (a0 : Int32) (a1 : Int32), ∃ (r : Int32) (σ1 : xS) (μ1 : mS), f_X6_pay σ a0 a1 = some (r, σ1) ∧ f_X7_pay μ a0 a1 = some (r, μ1) ∧ Rel σ1 μ1 := by
  intro σ μ hR t am
  obtain ⟨hC, hD, hS, hL, hT, hO, hP, hK, hRr, hG, hM⟩ := id hR
  have h30 := hC.1.2.1
  unfold f_X6_pay f_X7_pay
  rw [xt_eq, mt_eq, w_eq, i_eq]
  by_cases c : 0 ≤ t ∧ t ≤ 5
  · by_cases c2 : 1 ≤ am ∧ am ≤ 1000000
    · have hp := PT_of hR c
      obtain ⟨W, w1, w2⟩ := reck_eq hR c
      obtain ⟨n, R, μ1, r1, r2, r3, r4, r5⟩ := row_L hR hp am (nLo σ) 0 4000 0 (fun _ => 0) μ 0 (by omega) (by omega) (by omega) ⟨rfl, fun _ _ => rfl⟩ ⟨fun i hi => by omega, fun i j _ hj => by omega, fun a ha => by omega⟩ (fun i hi => by omega)
      have r1' : f_X7_pay_L30 4000 μ t am 0 0 0 = some (s64 (pw μ t) 0 (nLo σ), μ1) := by
        rw [Int64.zero_add] at r1
        exact r1
      obtain ⟨s1, s2, s3⟩ := sI_64 (pw μ t) (nLo σ) (fun j hj => (hp j hj).1) (nLo σ) 0 (by omega) h30
      rw [Nat.zero_add] at s1
      have s0 : sI (pw μ t) 0 = 0 := rfl
      simp only [c, c2, and_self, if_true, Option.bind_some, i10, if_false, w1, r1', (town_ix c).2, cond_true, letm]
      by_cases c3 : 0 ≤ lg_cmp (s64 (pw μ t) 0 (nLo σ)) am.toInt64
      · rw [if_pos c3, if_pos c3]
        have c3' : am.toInt ≤ sI (pw μ t) (nLo σ) := by
          rw [lg_ge, Int64.le_iff_toInt_le, Int32.toInt_toInt64] at c3
          omega
        have hX : PX σ μ t R 0 (xi (xi σ 12 W) 11 (fun _ => 0)) := by
          refine ⟨⟨rfl, fun c e1 e2 e3 e4 => (xi_ne e2).trans (xi_ne e3)⟩, rfl, fun l hl => ⟨fun ⟨i, hi, _⟩ => by omega, fun _ => ⟨w2 l hl, rfl⟩⟩⟩
        have hPM : PM μ R n 0 (seti μ1 29 (fun _ => 0)) := ⟨⟨r3.1, fun c e1 e2 e3 => (mi_ne e1).trans (r3.2 c e3)⟩, rfl, fun i hi => r5 i hi, fun i hi => by omega⟩
        have hs0 : sI ((xi (xi σ 12 W) 11 (fun _ => 0)).1 12) (nLo σ) = sI (pw μ t) (nLo σ) := sI_c _ (fun j hj => w2 j hj)
        have z0 : (0 : Int64).toInt = 0 := by decide
        obtain ⟨m, y, σ2, μ2, i1, i2, i3, i4, i5, i6⟩ := pay_L hR hp r4 r2 am (sI (pw μ t) (nLo σ)) c3' (by omega) n 0 4000 4000 (xi (xi σ 12 W) 11 (fun _ => 0)) (seti μ1 29 (fun _ => 0)) 0 (by omega) (by omega) (by omega) hX hPM (fun i hi => by
          rw [mi_ne (by decide), r3.2 30 (by decide)]
          exact hP.2 i hi) (by decide) (by rw [z0, hs0]; omega)
        have i2' : f_X6_pay_L46 4000 (xi (xi σ 12 W) 11 (fun _ => 0)) t am 0 0 = some (y, σ2) := i2
        have hRN : ∀ i, i < m → R i < nLo σ := fun i hi => (r4.1 i (by omega)).1
        obtain ⟨V, v1, v2⟩ := chest_L (R := R) (m := m) (N := nLo σ) (by omega) h30 hRN t am y m 0 4000 μ2 (by omega) (by omega) i5.2.1 i5.2.2.2
        have v1' : f_X7_pay_L232 4000 μ2 t am y 0 = some (seti μ2 17 V) := v1
        rw [i2', Option.bind_some, i3, Option.bind_some]
        show ∃ r σ1 μ1, some (σ2.1 11 0, xl σ2 9 (va_up (σ2.2.1 9) t.toNatClampNeg (σ2.2.1 9 t.toNatClampNeg + (y - am.toInt64)))) = some (r, σ1) ∧ (f_X7_pay_L232 4000 μ2 t am y 0).bind _ = some (r, μ1) ∧ Rel σ1 μ1
        rw [v1', Option.bind_some]
        have kx : σ2.2.1 = σ.2.1 := by rw [i4.1.1]
        have km : μ2.2 = μ.2 := i5.1.1
        refine ⟨σ2.1 11 0, xl σ2 9 (va_up (σ2.2.1 9) t.toNatClampNeg (σ2.2.1 9 t.toNatClampNeg + (y - am.toInt64))), setl (seti μ2 17 V) 28 (va_up (μ2.2 28) t.toNatClampNeg (μ2.2 28 t.toNatClampNeg + (y - am.toInt64))), rfl, ?_, ?_⟩
        · rw [i4.2.1, ← i5.2.1]
          rfl
        · have hmm : σ2.1 11 0 = Int32.ofNat m := i4.2.1
          refine R_pay hR (by show σ2.2.2 = σ.2.2; rw [i4.1.1]) (fun c e => ?_) i4.1.2 (fun c e => ?_) (fun c e1 e2 e3 e4 => (mi_ne e1).trans (i5.1.2 c e2 e3 e4)) ⟨⟨?_, ?_, ?_⟩, fun j hj => i6 j hj⟩ (fun k hk => ?_) (fun l hl => ?_) (fun l hl => ?_)
          · rw [xl_ne e, kx]
          · rw [ml_ne e]
            show μ2.2 c = _
            rw [km]
          · show σ2.1 11 0 = μ2.1 29 0
            rw [hmm, i5.2.1]
          · show 0 ≤ μ2.1 29 0
            rw [i5.2.1]
            exact (ofn_le (n := 0) (by decide) (by omega)).mpr (Nat.zero_le _)
          · show μ2.1 29 0 ≤ 30
            rw [i5.2.1]
            exact (ofn_le (m := 30) (by omega) (by decide)).mpr (by omega)
          · rw [xl_self, ml_self, kx, km]
            by_cases q : k = t.toNatClampNeg
            · subst q
              rw [va_up_self, va_up_self, hK _ hk]
            · rw [va_up_ne _ _ q, va_up_ne _ _ q, hK _ hk]
          · have e17 : (setl (seti μ2 17 V) 28 (va_up (μ2.2 28) t.toNatClampNeg (μ2.2 28 t.toNatClampNeg + (y - am.toInt64)))).1 17 = V := mi_self μ2 17 V
            rw [e17]
            show (σ2.1 110 l = σ.1 110 l ∧ _) ∨ (σ2.1 110 l = 1 ∧ _)
            by_cases q : Fst R m l
            · obtain ⟨i, hi, hil⟩ := q
              right
              have hpos := (r4.1 i (by omega)).2
              rw [hil] at hpos
              have := PT_pos hp hl hpos
              exact ⟨((i4.2.2 l hl).1 ⟨i, hi, hil⟩).2, (v2 l).1 ⟨i, Nat.zero_le _, hi, hil⟩, by rw [this.2.2.1]; exact c.1, this.2.2.2.1, this.2.2.2.2.1⟩
            · left
              refine ⟨((i4.2.2 l hl).2 q).2, ?_⟩
              rw [(v2 l).2 (fun ⟨i, _, h2, h3⟩ => q ⟨i, h2, h3⟩), i5.1.2 17 (by decide) (by decide) (by decide)]
          · have e17 : (setl (seti μ2 17 V) 28 (va_up (μ2.2 28) t.toNatClampNeg (μ2.2 28 t.toNatClampNeg + (y - am.toInt64)))).1 17 = V := mi_self μ2 17 V
            rw [e17, (v2 l).2 (fun ⟨i, _, h2, h3⟩ => by have := hRN i h2; omega), i5.1.2 17 (by decide) (by decide) (by decide)]
      · rw [if_neg c3, if_neg c3]
        refine ⟨-3, xi σ 12 W, μ1, rfl, rfl, ?_⟩
        refine R_pay hR rfl (fun _ _ => rfl) (fun c e1 e2 e3 e4 => xi_ne e3) (fun c _ => by rw [r3.1]) (fun c e1 e2 e3 e4 => r3.2 c e4) ?_ ?_ (fun l hl => Or.inl ⟨rfl, by rw [r3.2 17 (by decide)]⟩) (fun l hl => by rw [r3.2 17 (by decide)])
        · unfold RP
          rw [r3.2 29 (by decide), r3.2 30 (by decide)]
          exact hP
        · unfold RK
          rw [r3.1]
          exact hK
    · exact ⟨-2, σ, μ, by simp [c, c2], by simp [c, c2], hR⟩
  · exact ⟨-1, σ, μ, by simp [c], by simp [c], hR⟩
end PAY
