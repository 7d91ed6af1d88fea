/-! THE PURE PART: pay: the worst by the class; the row of the reference -/
section ROW
def AgX (σ' σ : xS) : Prop := σ'.2 = σ.2 ∧ ∀ c, c ≠ 10 → c ≠ 11 → c ≠ 12 → c ≠ 110 → σ'.1 c = σ.1 c
theorem RC_ag {σ σ' : xS} {μ : mS} (h : AgX σ' σ) (hC : RC σ μ) : RC σ' μ := by
  unfold RC nS nLo nO
  rw [h.1, h.2 1 (by decide) (by decide) (by decide) (by decide), h.2 3 (by decide) (by decide) (by decide) (by decide), h.2 5 (by decide) (by decide) (by decide) (by decide)]
  exact hC
theorem nLo_ag {σ σ' : xS} (h : AgX σ' σ) : nLo σ' = nLo σ := by
  unfold nLo
  rw [h.1]
theorem held_ag {σ σ' : xS} {μ : mS} (h : AgX σ' σ) {i : Nat} (hi : i < nLo σ) (h1 : nLo σ ≤ 30) (hl : RLot σ μ i) : f_X1_silverHeld σ' (1000 + i) = some (sv σ μ i) := by
  have e := held_eq hi h1 hl
  unfold f_X1_silverHeld at *
  unfold isL at *
  rw [h.1, h.2 105 (by decide) (by decide) (by decide) (by decide), h.2 103 (by decide) (by decide) (by decide) (by decide)]
  exact e
/-- the best so far: none, or b -/
def Bst (S P : Nat → Int) (W : Nat → Int32) (k : Nat) (x1 : Option Nat) (x2 : Int32) : Prop := (x1 = none ∧ ∀ a, a < k → ¬ 0 < (W a).toInt) ∨ ∃ b, b < k ∧ x1 = some (1000 + b) ∧ x2 = Int32.ofNat b ∧ 0 < (W b).toInt ∧ ∀ a, a < k → 0 < (W a).toInt → a ≠ b → Wr S P b a
theorem worst_L {σ : xS} {μ : mS} (hR : Rel σ μ) {t : Int32} (hp : PT σ μ t) {σ' : xS} (hA : AgX σ' σ) (hW : ∀ l, l < nLo σ → σ'.1 12 l = 0 ∨ σ'.1 12 l = pw μ t l) : ∀ (d k f : Nat) (x1 : Option Nat) (x2 : Int32), k + d = nLo σ → d < f → Bst (svI σ μ) (pI μ t) (σ'.1 12) k x1 x2 → ∃ y1 y2, f_X6_payWorst_L6 f σ' x1 x2 (Int32.ofNat k) = some (y1, y2) ∧ Bst (svI σ μ) (pI μ t) (σ'.1 12) (nLo σ) y1 y2 := by
  obtain ⟨hC, hD, hS, hL, hT, hO, hP, hK, hRr, hG, hM⟩ := id hR
  have h30 := hC.1.2.1
  have hC' := RC_ag hA hC
  have hN := nLo_ag hA
  have wp : ∀ l, l < nLo σ → 0 < (σ'.1 12 l).toInt → σ'.1 12 l = pw μ t l ∧ 0 < pI μ t l := by
    intro l hl q
    rcases hW l hl with z | z
    · rw [z] at q; exact absurd q (by decide)
    · refine ⟨z, ?_⟩
      rw [z] at q
      exact q
  intro d
  induction d with
  | zero =>
    intro k f x1 x2 hk hf hb
    obtain ⟨f, rfl⟩ : ∃ z, f = z + 1 := ⟨f - 1, by omega⟩
    have e : k = nLo σ := by omega
    subst e
    refine ⟨x1, x2, ?_, hb⟩
    rw [f_X6_payWorst_L6, hC'.2.2.1.1, hN, if_pos (Int32.le_refl _)]
  | succ d ih =>
    intro k f x1 x2 hk hf hb
    obtain ⟨f, rfl⟩ : ∃ z, f = z + 1 := ⟨f - 1, by omega⟩
    have hkn : k < nLo σ := by omega
    have hv : vin (Int32.ofNat k) 30 = true := ofn_vin (by omega) (by decide)
    have hn : (Int32.ofNat k).toNatClampNeg = k := ofn_nat (by omega)
    have hle : ¬ Int32.ofNat (nLo σ) ≤ Int32.ofNat k := by rw [ofn_le (by omega) (by omega)]; omega
    rw [f_X6_payWorst_L6, hC'.2.2.1.1, hN, if_neg hle, lot_k hC' (by rw [hN]; exact hkn)]
    by_cases c : σ'.1 12 k ≤ 0
    · have c' : ¬ 0 < (σ'.1 12 k).toInt := by
        have : (σ'.1 12 k).toInt ≤ 0 := i_le c
        omega
      have hb' : Bst (svI σ μ) (pI μ t) (σ'.1 12) (k + 1) x1 x2 := by
        rcases hb with ⟨z1, z2⟩ | ⟨b, z1, z2, z3, z4, z5⟩
        · refine Or.inl ⟨z1, fun a ha => ?_⟩
          by_cases q : a = k
          · rw [q]; exact c'
          · exact z2 a (by omega)
        · refine Or.inr ⟨b, by omega, z2, z3, z4, fun a ha q r => ?_⟩
          by_cases q2 : a = k
          · rw [q2] at q; exact absurd q c'
          · exact z5 a (by omega) q r
      obtain ⟨y1, y2, i1, i2⟩ := ih (k + 1) f x1 x2 (by omega) (by omega) hb'
      refine ⟨y1, y2, ?_, i2⟩
      cases x1 with
      | none => simp only [Option.bind_some, oq, hv, hn, cond_true, if_pos c, ofn_succ]; exact i1
      | some kb => simp only [Option.bind_some, oq, hv, hn, cond_true, if_pos c, ofn_succ]; exact i1
    · have c' : 0 < (σ'.1 12 k).toInt := by
        have : ¬ (σ'.1 12 k).toInt ≤ 0 := fun z => c (le_int.mpr z)
        omega
      obtain ⟨wk, pk⟩ := wp k hkn c'
      rcases hb with ⟨z1, z2⟩ | ⟨b, z1, z2, z3, z4, z5⟩
      · subst z1
        obtain ⟨y1, y2, i1, i2⟩ := ih (k + 1) f (some (1000 + k)) (Int32.ofNat k) (by omega) (by omega) (Or.inr ⟨k, by omega, rfl, rfl, c', fun a ha q r => absurd q (z2 a (by omega))⟩)
        refine ⟨y1, y2, ?_, i2⟩
        simp only [Option.bind_some, oq, hv, hn, cond_true, if_neg c, ofn_succ]
        exact i1
      · subst z2 z3
        have hbn : b < nLo σ := by omega
        obtain ⟨wb, pb⟩ := wp b hbn z4
        have hvb : vin (Int32.ofNat b) 30 = true := ofn_vin (by omega) (by decide)
        have hnb : (Int32.ofNat b).toNatClampNeg = b := ofn_nat (by omega)
        have lk : isL σ' (1000 + k) = true := isL_of (by rw [hN]; exact hkn) (by rw [hN]; exact h30)
        have lb : isL σ' (1000 + b) = true := isL_of (by rw [hN]; exact hbn) (by rw [hN]; exact h30)
        obtain ⟨i1, i2, i3⟩ := sv_eq (hL k hkn)
        obtain ⟨j1, j2, j3⟩ := sv_eq (hL b hbn)
        have qa := (hp k hkn).1
        have qb := (hp b hbn).1
        have e1 := sp_eq (x := sv σ μ k) (y := pw μ t b) i1 rfl i2 i3 qb.1 qb.2
        have e2 := sp_eq (x := sv σ μ b) (y := pw μ t k) j1 rfl j2 j3 qa.1 qa.2
        have key : f_X6_isWorse σ' (1000 + k) (pw μ t k) (1000 + b) (pw μ t b) = (if svI σ μ b * pI μ t k ≤ svI σ μ k * pI μ t b then some 0 else some 1) := by
          unfold f_X6_isWorse
          rw [lk, lb, held_ag hA hkn h30 (hL k hkn), held_ag hA hbn h30 (hL b hbn)]
          simp only [cond_true, Option.bind_some, lg_ge, Int64.le_iff_toInt_le, e1, e2]
          rfl
        have c2 : ¬ pw μ t k ≤ 0 := by rw [← wk]; exact c
        simp only [Option.bind_some, oq, hv, hn, hvb, hnb, cond_true, ofn_succ, wk, wb, if_neg c2, key]
        by_cases q : svI σ μ b * pI μ t k ≤ svI σ μ k * pI μ t b
        · obtain ⟨y1, y2, i1', i2'⟩ := ih (k + 1) f (some (1000 + b)) (Int32.ofNat b) (by omega) (by omega) (Or.inr ⟨b, by omega, rfl, rfl, z4, fun a ha q1 q2 => by
            by_cases r : a = k
            · subst r
              unfold Wr
              omega
            · exact z5 a (by omega) q1 q2⟩)
          refine ⟨y1, y2, ?_, i2'⟩
          rw [if_pos q, Option.bind_some, if_pos rfl]
          exact i1'
        · have hkb : Wr (svI σ μ) (pI μ t) k b := Or.inl (by omega)
          obtain ⟨y1, y2, i1', i2'⟩ := ih (k + 1) f (some (1000 + k)) (Int32.ofNat k) (by omega) (by omega) (Or.inr ⟨k, by omega, rfl, rfl, c', fun a ha q1 q2 => by
            by_cases r : a = b
            · subst r
              exact hkb
            · exact Wr_trans pk pb (wp a (by omega) q1).2 hkb (z5 a (by omega) q1 r)⟩)
          refine ⟨y1, y2, ?_, i2'⟩
          rw [if_neg q, Option.bind_some, if_neg (by decide)]
          exact i1'
/-- the reference's row: sorted, all that can pay below l -/
def Enm (S P : Nat → Int) (R : Nat → Nat) (n l : Nat) : Prop := (∀ i, i < n → R i < l ∧ 0 < P (R i)) ∧ (∀ i j, i < j → j < n → Wr S P (R i) (R j)) ∧ ∀ a, a < l → 0 < P a → ∃ i, i < n ∧ R i = a
def Ag31 (μ' μ : mS) : Prop := μ'.2 = μ.2 ∧ ∀ c, c ≠ 31 → μ'.1 c = μ.1 c
theorem Ag31_M {μ' μ : mS} (h : Ag31 μ' μ) : AgM μ' μ := ⟨h.1, fun c _ _ q => h.2 c q⟩
theorem Ag31_up {μ' μ : mS} (h : Ag31 μ' μ) (f : Nat → Int32) : Ag31 (seti μ' 31 f) μ := ⟨h.1, fun c q => (mi_ne q).trans (h.2 c q)⟩
theorem ofn_pred {k : Nat} : Int32.ofNat (k + 1) - 1 = Int32.ofNat k ∧ Int32.ofNat (k + 1) + (-1) = Int32.ofNat k := by
  have e : Int32.ofNat (k + 1) = Int32.ofNat k + 1 := (ofn_succ k).symm
  rw [e]
  constructor
  · exact Int32.add_sub_cancel _ _
  · rw [Int32.add_assoc, show (1 : Int32) + -1 = 0 by decide, Int32.add_zero]
theorem ins_L {σ : xS} {μ : mS} (hR : Rel σ μ) {t : Int32} (hp : PT σ μ t) {R : Nat → Nat} {n l : Nat} (hl : l < nLo σ) (pl : 0 < pI μ t l) (hn : n < 30) (hE : ∀ i, i < n → R i < nLo σ ∧ 0 < pI μ t (R i)) (x2 x3 : Int32) (x4 : Int64) : ∀ (k f : Nat) (μ' : mS), Ag31 μ' μ → k ≤ n → k < f → (∀ i, i < k → μ'.1 31 i = Int32.ofNat (R i)) → (∀ i, k ≤ i → i < n → Wr (svI σ μ) (pI μ t) l (R i) ∧ μ'.1 31 (i + 1) = Int32.ofNat (R i)) → ∃ k' μ'', f_X7_pay_L69 f μ' t x2 x3 x4 (Int32.ofNat l) (Int32.ofNat k) = some (Int32.ofNat k', μ'') ∧ Ag31 μ'' μ ∧ k' ≤ k ∧ (∀ i, i < k' → μ''.1 31 i = Int32.ofNat (R i)) ∧ (∀ i, k' ≤ i → i < n → Wr (svI σ μ) (pI μ t) l (R i) ∧ μ''.1 31 (i + 1) = Int32.ofNat (R i)) ∧ (k' = 0 ∨ ¬ Wr (svI σ μ) (pI μ t) l (R (k' - 1))) := by
  intro k
  induction k with
  | zero =>
    intro f μ' hA hk hf h1 h2
    obtain ⟨f, rfl⟩ : ∃ z, f = z + 1 := ⟨f - 1, by omega⟩
    refine ⟨0, μ', ?_, hA, Nat.le_refl _, h1, h2, Or.inl rfl⟩
    rw [f_X7_pay_L69, if_pos (by decide)]
  | succ k ih =>
    intro f μ' hA hk hf h1 h2
    obtain ⟨f, rfl⟩ : ∃ z, f = z + 1 := ⟨f - 1, by omega⟩
    have hle : ¬ Int32.ofNat (k + 1) ≤ 0 := by rw [show (0 : Int32) = Int32.ofNat 0 from rfl, ofn_le (by omega) (by omega)]; omega
    obtain ⟨e1, e2⟩ := ofn_pred (k := k)
    have hv : vin (Int32.ofNat k) 30 = true := ofn_vin (by omega) (by decide)
    have hv1 : vin (Int32.ofNat (k + 1)) 30 = true := ofn_vin (by omega) (by decide)
    have hnk : (Int32.ofNat k).toNatClampNeg = k := ofn_nat (by omega)
    have hnk1 : (Int32.ofNat (k + 1)).toNatClampNeg = k + 1 := ofn_nat (by omega)
    obtain ⟨r1, r2⟩ := hE k (by omega)
    rw [f_X7_pay_L69, if_neg hle]
    simp only [e1, e2, hv, hv1, hnk, hnk1, cond_true, h1 k (by omega), worse_c (Ag31_M hA)]
    rcases worse_m hR hp hl r1 pl r2 with ⟨w1, w2⟩ | ⟨w1, w2⟩
    · obtain ⟨k', μ'', i1, i2, i3, i4, i5, i6⟩ := ih f (um μ' 31 (k + 1) (Int32.ofNat (R k))) (Ag31_up hA _) (by omega) (by omega) (fun i hi => by rw [mi_self, va_up_ne _ _ (by omega)]; exact h1 i (by omega)) (fun i hi hi2 => by
        by_cases q : i = k
        · subst q
          exact ⟨w1, by rw [mi_self, va_up_self]⟩
        · rw [mi_self, va_up_ne _ _ (by omega)]
          exact h2 i (by omega) hi2)
      refine ⟨k', μ'', ?_, i2, by omega, i4, i5, i6⟩
      rw [w2, Option.bind_some, if_neg (by decide)]
      exact i1
    · refine ⟨k + 1, μ', ?_, hA, Nat.le_refl _, h1, h2, Or.inr w1⟩
      rw [w2, Option.bind_some, if_pos rfl]
theorem row_L {σ : xS} {μ : mS} (hR : Rel σ μ) {t : Int32} (hp : PT σ μ t) (x2 : Int32) : ∀ (d l f n : Nat) (R : Nat → Nat) (μ' : mS) (x4 : Int64), l + d = nLo σ → d < f → n ≤ l → Ag31 μ' μ → Enm (svI σ μ) (pI μ t) R n l → (∀ i, i < n → μ'.1 31 i = Int32.ofNat (R i)) → ∃ n' R' μ'', f_X7_pay_L30 f μ' t x2 (Int32.ofNat n) x4 (Int32.ofNat l) = some (x4 + s64 (pw μ t) l d, μ'') ∧ n' ≤ nLo σ ∧ Ag31 μ'' μ ∧ Enm (svI σ μ) (pI μ t) R' n' (nLo σ) ∧ ∀ i, i < n' → μ''.1 31 i = Int32.ofNat (R' i) := by
  obtain ⟨hC, hD, hS, hL, hT, hO, hP, hK, hRr, hG, hM⟩ := id hR
  have h30 := hC.1.2.1
  intro d
  induction d with
  | zero =>
    intro l f n R μ' x4 hl hf hn hA hE hrow
    obtain ⟨f, rfl⟩ : ∃ z, f = z + 1 := ⟨f - 1, by omega⟩
    have e : l = nLo σ := by omega
    subst e
    refine ⟨n, R, μ', ?_, hn, hA, hE, hrow⟩
    rw [f_X7_pay_L30, hA.2 7 (by decide), hC.2.2.1.2, if_pos (Int32.le_refl _), s64, Int64.add_zero]
  | succ d ih =>
    intro l f n R μ' x4 hl hf hn hA hE hrow
    obtain ⟨f, rfl⟩ : ∃ z, f = z + 1 := ⟨f - 1, by omega⟩
    have hln : l < nLo σ := by omega
    have hle : ¬ Int32.ofNat (nLo σ) ≤ Int32.ofNat l := by rw [ofn_le (by omega) (by omega)]; omega
    have z0 : ((0 : Int32)).toInt64 = 0 := by decide
    rw [f_X7_pay_L30, hA.2 7 (by decide), hC.2.2.1.2, if_neg hle, there_c (Ag31_M hA)]
    have h6 : μ'.1 6 0 = μ.1 6 0 := by rw [hA.2 6 (by decide)]
    by_cases c : 0 < pI μ t l
    · obtain ⟨p1, p2, p3⟩ := PT_pos hp hln c
      have c0 : ¬ pw μ t l = 0 := fun z => by
        unfold pI at c
        rw [z] at c
        exact absurd c (by decide)
      obtain ⟨k, μ1, i1, i2, i3, i4, i5, i6⟩ := ins_L hR hp hln c (show n < 30 by omega) (fun i hi => ⟨by have := (hE.1 i hi).1; omega, (hE.1 i hi).2⟩) x2 (Int32.ofNat n) x4 n 4000 μ' hA (Nat.le_refl _) (by omega) hrow (fun i h1 h2 => by omega)
      let R1 : Nat → Nat := fun i => if i < k then R i else if i = k then l else R (i - 1)
      have hkl : ∀ i, i < k → Wr (svI σ μ) (pI μ t) (R i) l := by
        intro i hi
        rcases i6 with z | z
        · omega
        · have hk1 : k - 1 < n := by omega
          have hne : R (k - 1) ≠ l := by have := (hE.1 _ hk1).1; omega
          have hw : Wr (svI σ μ) (pI μ t) (R (k - 1)) l := (Wr_tot hne).resolve_right z
          by_cases q : i = k - 1
          · rw [q]; exact hw
          · exact Wr_trans (hE.1 i (by omega)).2 (hE.1 _ hk1).2 c (hE.2.1 i (k - 1) (by omega) hk1) hw
      have hE1 : Enm (svI σ μ) (pI μ t) R1 (n + 1) (l + 1) := by
        refine ⟨fun i hi => ?_, fun i j hij hj => ?_, fun a ha pa => ?_⟩
        · show R1 i < l + 1 ∧ 0 < pI μ t (R1 i)
          by_cases q1 : i < k
          · have e : R1 i = R i := if_pos q1
            rw [e]
            have := hE.1 i (by omega)
            exact ⟨by omega, this.2⟩
          · by_cases q2 : i = k
            · have e : R1 i = l := (if_neg q1).trans (if_pos q2)
              rw [e]
              exact ⟨by omega, c⟩
            · have e : R1 i = R (i - 1) := (if_neg q1).trans (if_neg q2)
              rw [e]
              have := hE.1 (i - 1) (by omega)
              exact ⟨by omega, this.2⟩
        · by_cases q1 : j < k
          · have e1 : R1 i = R i := if_pos (by omega)
            have e2 : R1 j = R j := if_pos q1
            rw [e1, e2]
            exact hE.2.1 i j hij (by omega)
          · by_cases q2 : j = k
            · have e1 : R1 i = R i := if_pos (by omega)
              have e2 : R1 j = l := (if_neg q1).trans (if_pos q2)
              rw [e1, e2]
              exact hkl i (by omega)
            · have e2 : R1 j = R (j - 1) := (if_neg q1).trans (if_neg q2)
              rw [e2]
              by_cases q3 : i < k
              · have e1 : R1 i = R i := if_pos q3
                rw [e1]
                exact hE.2.1 i (j - 1) (by omega) (by omega)
              · by_cases q4 : i = k
                · have e1 : R1 i = l := (if_neg q3).trans (if_pos q4)
                  rw [e1]
                  exact (i5 (j - 1) (by omega) (by omega)).1
                · have e1 : R1 i = R (i - 1) := (if_neg q3).trans (if_neg q4)
                  rw [e1]
                  exact hE.2.1 (i - 1) (j - 1) (by omega) (by omega)
        · by_cases q : a = l
          · exact ⟨k, by omega, (if_neg (by omega)).trans ((if_pos rfl).trans q.symm)⟩
          · obtain ⟨i, hi, hia⟩ := hE.2.2 a (by omega) pa
            by_cases q1 : i < k
            · exact ⟨i, by omega, (if_pos q1).trans hia⟩
            · exact ⟨i + 1, by omega, (if_neg (by omega)).trans ((if_neg (by omega)).trans hia)⟩
      have hrow1 : ∀ i, i < n + 1 → (um μ1 31 k (Int32.ofNat l)).1 31 i = Int32.ofNat (R1 i) := by
        intro i hi
        rw [mi_self]
        by_cases q1 : i < k
        · have e : R1 i = R i := if_pos q1
          rw [va_up_ne _ _ (by omega), e]
          exact i4 i q1
        · by_cases q2 : i = k
          · have e : R1 i = l := (if_neg q1).trans (if_pos q2)
            rw [q2, va_up_self]
            rw [q2] at e
            rw [e]
          · have e : R1 i = R (i - 1) := (if_neg q1).trans (if_neg q2)
            rw [va_up_ne _ _ q2, e]
            have := (i5 (i - 1) (by omega) (by omega)).2
            rw [show i - 1 + 1 = i by omega] at this
            exact this
      obtain ⟨n', R', μ'', j1, j2, j3, j4, j5⟩ := ih (l + 1) f (n + 1) R1 (um μ1 31 k (Int32.ofNat l)) (x4 + (pw μ t l).toInt64) (by omega) (by omega) (by omega) (Ag31_up i2 _) hE1 hrow1
      refine ⟨n', R', μ'', ?_, j2, j3, j4, j5⟩
      have hk30 : vin (Int32.ofNat k) 30 = true := ofn_vin (by omega) (by decide)
      have hk31 : (Int32.ofNat k).toNatClampNeg = k := ofn_nat (by omega)
      have p2' : f_X7_passes μ' (Int32.ofNat l) t (μ'.1 6 0) = some (pw μ t l) := by
        rw [h6, pass_c (Ag31_M hA)]
        exact p2
      have p2'' : f_X7_passes (um μ1 31 k (Int32.ofNat l)) (Int32.ofNat l) t ((um μ1 31 k (Int32.ofNat l)).1 6 0) = some (pw μ t l) := by
        have hB := Ag31_up i2 (va_up (μ1.1 31) k (Int32.ofNat l))
        rw [hB.2 6 (by decide), pass_c (Ag31_M hB)]
        exact p2
      rw [p1, Option.bind_some, if_neg (by decide), p2', Option.bind_some, if_neg c0, i1, Option.bind_some]
      simp only [hk30, hk31, cond_true, letm, ofn_succ]
      rw [p2'', Option.bind_some, s64, ← Int64.add_assoc]
      exact j1
    · have hz : pw μ t l = 0 := by
        have := (hp l hln).1.1
        unfold pI at this c
        exact eq_int.mpr (by show _ = (0 : Int); omega)
      have hE1 : Enm (svI σ μ) (pI μ t) R n (l + 1) := by
        refine ⟨fun i hi => ⟨by have := (hE.1 i hi).1; omega, (hE.1 i hi).2⟩, hE.2.1, fun a ha pa => ?_⟩
        by_cases q : a = l
        · rw [q] at pa; exact absurd pa c
        · exact hE.2.2 a (by omega) pa
      obtain ⟨n', R', μ'', j1, j2, j3, j4, j5⟩ := ih (l + 1) f n R μ' x4 (by omega) (by omega) (by omega) hA hE1 hrow
      refine ⟨n', R', μ'', ?_, j2, j3, j4, j5⟩
      have e : x4 + s64 (pw μ t) l (d + 1) = x4 + s64 (pw μ t) (l + 1) d := by
        rw [s64, hz, z0, Int64.zero_add]
      rw [e]
      rcases (hp l hln).2 with y | y
      · rw [y.1, Option.bind_some, if_pos rfl, ofn_succ]
        exact j1
      · have p2' : f_X7_passes μ' (Int32.ofNat l) t (μ'.1 6 0) = some (pw μ t l) := by
          rw [h6, pass_c (Ag31_M hA)]
          exact y.2.1
        rw [y.1, Option.bind_some, if_neg (by decide), p2', Option.bind_some, if_pos hz, ofn_succ]
        exact j1
end ROW
