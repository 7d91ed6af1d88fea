/-! THE PURE PART: flows: the edges, the fixed labels, a way, and what is sent by it -/
section AUG
def eU (d : Nat → Int) (t m : Nat) : edg := (m, 3 + t, d (3 * t + m))
def eD (d : Nat → Int) (t m : Nat) : edg := (3 + t, m, -(d (3 * t + m)))
def Ed (d x : Nat → Int) (e : edg) : Prop := ∃ t m, t < 6 ∧ m < 3 ∧ (e = eU d t m ∨ (0 < x (3 * t + m) ∧ e = eD d t m))
theorem Good_of {d g nd x L W p : Nat → Int} {C D : Int} (h : FI d g nd x L W C p D) : Good p (Ed d x) := by
  obtain ⟨h1, h2, h3, h4, h5, h6, h7, h8, h9⟩ := h
  rintro e ⟨t, m, ht, hm, rfl | ⟨hx, rfl⟩⟩
  · refine ⟨show m < 9 by omega, show 3 + t < 9 by omega, show m ≠ 3 + t by omega, (h5 t m ht hm).1⟩
  · refine ⟨show 3 + t < 9 by omega, show m < 9 by omega, show 3 + t ≠ m by omega, ?_⟩
    show p m ≤ p (3 + t) + -(d (3 * t + m))
    have := (h5 t m ht hm).2 hx
    omega
/-- the first labels -/
def r0 (L : Nat → Int) (n : Nat) : Int := if n < 3 ∧ 0 < L n then 0 else 1000000
theorem r0_Lb {d g nd x L W p : Nat → Int} {C D : Int} (h : FI d g nd x L W C p D) (B : Nat → Int) : Lb p (r0 L, B) := by
  obtain ⟨h1, h2, h3, h4, h5, h6, h7, h8, h9⟩ := h
  intro n hn
  show p n ≤ r0 L n ∧ r0 L n ≤ 1000000
  unfold r0
  by_cases c : n < 3 ∧ 0 < L n
  · rw [if_pos c, h6 n c.1 c.2]; omega
  · rw [if_neg c]; exact ⟨(h9 n hn).2, Int.le_refl _⟩
/-- what fixed labels say -/
def LF (d x L p A B : Nat → Int) (ρ : Nat → Nat) : Prop := (∀ t m, t < 6 → m < 3 → A (3 + t) ≤ A m + d (3 * t + m) ∧ (0 < x (3 * t + m) → A (3 + t) = A m + d (3 * t + m))) ∧ (∀ t, t < 6 → A (3 + t) ≤ 30) ∧ (∀ m, m < 3 → 0 < L m → A m = 0) ∧ (∀ t, t < 6 → ∃ m : Nat, m < 3 ∧ B (3 + t) = (m : Int) ∧ A (3 + t) = A m + d (3 * t + m) ∧ ρ m < ρ (3 + t)) ∧ (∀ m, m < 3 → A m < 1000000 → (B m = -1 ∧ A m = 0 ∧ 0 < L m) ∨ ∃ t' : Nat, t' < 6 ∧ B m = ((3 + t' : Nat) : Int) ∧ 0 < x (3 * t' + m) ∧ A (3 + t') = A m + d (3 * t' + m) ∧ ρ (3 + t') < ρ m) ∧ ∀ n, n < 9 → p n ≤ A n ∧ A n ≤ 1000000
theorem LF_of {d g nd x L W p : Nat → Int} {C D : Int} (h : FI d g nd x L W C p D) (hd : ∀ i, i < 18 → 1 ≤ d i ∧ d i ≤ 30) {G : Int} (hG : 1000000 ≤ G) {S : lbl} {ρ : Nat → Nat} (hJ : Jv (Ed d x) (r0 L) S ρ) (hL : Lb p S) (hF : Fxd G (Ed d x) S.1) (hr : ∀ n, S.1 n ≤ r0 L n) {m0 : Nat} (hm0 : m0 < 3) (hm1 : 0 < L m0) : LF d x L p S.1 S.2 ρ := by
  obtain ⟨h1, h2, h3, h4, h5, h6, h7, h8, h9⟩ := id h
  have z0 : ∀ m, m < 3 → 0 < L m → S.1 m = 0 := by
    intro m hm hl
    have a := hr m
    unfold r0 at a
    rw [if_pos ⟨hm, hl⟩] at a
    have b := (hL m (by omega)).1
    have e := (h9 m (by omega)).1
    omega
  have t30 : ∀ t, t < 6 → S.1 (3 + t) ≤ 30 := by
    intro t ht
    have c := hF (eU d t m0) ⟨t, m0, ht, hm0, Or.inl rfl⟩
    have c' : S.1 (3 + t) ≤ S.1 m0 + d (3 * t + m0) ∨ G ≤ S.1 m0 := c
    have := hd (3 * t + m0) (by omega)
    have := z0 m0 hm0 hm1
    omega
  have up : ∀ t m, t < 6 → m < 3 → S.1 (3 + t) ≤ S.1 m + d (3 * t + m) := by
    intro t m ht hm
    have c : S.1 (3 + t) ≤ S.1 m + d (3 * t + m) ∨ G ≤ S.1 m := hF (eU d t m) ⟨t, m, ht, hm, Or.inl rfl⟩
    have := hd (3 * t + m) (by omega)
    have := t30 t ht
    omega
  have dn : ∀ t m, t < 6 → m < 3 → 0 < x (3 * t + m) → S.1 m ≤ S.1 (3 + t) + -(d (3 * t + m)) := by
    intro t m ht hm hx
    have c : S.1 m ≤ S.1 (3 + t) + -(d (3 * t + m)) ∨ G ≤ S.1 (3 + t) := hF (eD d t m) ⟨t, m, ht, hm, Or.inr ⟨hx, rfl⟩⟩
    have := t30 t ht
    omega
  refine ⟨fun t m ht hm => ⟨up t m ht hm, fun hx => ?_⟩, t30, z0, fun t ht => ?_, fun m hm ha => ?_, hL⟩
  · have := up t m ht hm
    have := dn t m ht hm hx
    omega
  · rcases hJ (3 + t) (by omega) with ⟨y1, y2⟩ | ⟨a, w, y1, y2, y3, y4, y5⟩
    · have := t30 t ht
      unfold r0 at y2
      rw [if_neg (by omega)] at y2
      omega
    · obtain ⟨t1, m1, ht1, hm1', e | ⟨hx, e⟩⟩ := y3
      · have ea : a = m1 := congrArg (fun z : edg => z.1) e
        have eb : 3 + t = 3 + t1 := congrArg (fun z : edg => z.2.1) e
        have ew : w = d (3 * t1 + m1) := congrArg (fun z : edg => z.2.2) e
        have et : t1 = t := by omega
        subst et; subst ea; subst ew
        have := up t1 a ht1 hm1'
        refine ⟨a, hm1', y2, by omega, ?_⟩
        rcases y5 with y5 | y5
        · exact y5
        · omega
      · have eb : 3 + t = m1 := congrArg (fun z : edg => z.2.1) e
        omega
  · rcases hJ m (by omega) with ⟨y1, y2⟩ | ⟨a, w, y1, y2, y3, y4, y5⟩
    · left
      unfold r0 at y2
      by_cases c : m < 3 ∧ 0 < L m
      · rw [if_pos c] at y2
        exact ⟨y1, y2, c.2⟩
      · rw [if_neg c] at y2
        omega
    · right
      obtain ⟨t1, m1, ht1, hm1', e | ⟨hx, e⟩⟩ := y3
      · have eb : m = 3 + t1 := congrArg (fun z : edg => z.2.1) e
        omega
      · have ea : a = 3 + t1 := congrArg (fun z : edg => z.1) e
        have eb : m = m1 := congrArg (fun z : edg => z.2.1) e
        have ew : w = -(d (3 * t1 + m1)) := congrArg (fun z : edg => z.2.2) e
        subst eb; subst ea; subst ew
        have := dn t1 m ht1 hm hx
        refine ⟨t1, ht1, y2, hx, by omega, ?_⟩
        rcases y5 with y5 | y5
        · exact y5
        · omega
/-- a way of at most K mints by which q can go -/
def Rm (B x L : Nat → Int) (q : Int) : Nat → Nat → Prop
  | 0, _ => False
  | K + 1, t => ∃ m : Nat, m < 3 ∧ B (3 + t) = (m : Int) ∧ ((B m = -1 ∧ q ≤ L m) ∨ ∃ t' : Nat, t' < 6 ∧ B m = ((3 + t' : Nat) : Int) ∧ q ≤ x (3 * t' + m) ∧ Rm B x L q K t')
theorem way_ex {d x L p A B : Nat → Int} {ρ : Nat → Nat} (hd : ∀ i, i < 18 → 1 ≤ d i ∧ d i ≤ 30) (h : LF d x L p A B ρ) : ∀ (K t m : Nat), t < 6 → m < 3 → B (3 + t) = (m : Int) → cn (fun n => (ρ n : Int)) ((ρ m : Int) - 1) 3 < K → Rm B x L 1 K t := by
  obtain ⟨f1, f2, f3, f4, f5, f6⟩ := h
  intro K
  induction K with
  | zero => intro t m _ _ _ hc; omega
  | succ K ih =>
    intro t m ht hm hB hc
    obtain ⟨m', q1, q2, q3, q4⟩ := f4 t ht
    have e : m' = m := by
      have : (m' : Int) = (m : Int) := q2.symm.trans hB
      omega
    subst e
    have hA := f2 t ht
    have hdd := hd (3 * t + m') (by omega)
    rcases f5 m' hm (by omega) with ⟨y1, y2, y3⟩ | ⟨t', y1, y2, y3, y4, y5⟩
    · exact ⟨m', hm, hB, Or.inl ⟨y1, by omega⟩⟩
    · obtain ⟨m2, z1, z2, z3, z4⟩ := f4 t' y1
      refine ⟨m', hm, hB, Or.inr ⟨t', y1, y2, by omega, ih t' m2 y1 z1 z2 ?_⟩⟩
      have := cn_lt (f := fun n => (ρ n : Int)) (g := fun n => (ρ n : Int)) (θ := (ρ m2 : Int) - 1) (τ := (ρ m' : Int) - 1) 3 (fun j hj z => by
        have z' : (ρ j : Int) ≤ (ρ m2 : Int) - 1 := z
        show (ρ j : Int) ≤ (ρ m' : Int) - 1
        omega) ⟨m2, z1, by show ¬ (ρ m2 : Int) ≤ (ρ m2 : Int) - 1; omega, by show (ρ m2 : Int) ≤ (ρ m' : Int) - 1; omega⟩
      omega
theorem way_3 {d x L p A B : Nat → Int} {ρ : Nat → Nat} (hd : ∀ i, i < 18 → 1 ≤ d i ∧ d i ≤ 30) (h : LF d x L p A B ρ) {t : Nat} (ht : t < 6) : Rm B x L 1 3 t := by
  obtain ⟨m, q1, q2, q3, q4⟩ := h.2.2.2.1 t ht
  refine way_ex hd h 3 t m ht q1 q2 ?_
  have := cn_lt (f := fun n => (ρ n : Int)) (g := fun n => (ρ n : Int)) (θ := (ρ m : Int) - 1) (τ := (ρ m : Int)) 3 (fun j hj z => by
    have z' : (ρ j : Int) ≤ (ρ m : Int) - 1 := z
    show (ρ j : Int) ≤ (ρ m : Int)
    omega) ⟨m, q1, by show ¬ (ρ m : Int) ≤ (ρ m : Int) - 1; omega, Int.le_refl _⟩
  have := cn_le (fun n => (ρ n : Int)) (ρ m : Int) 3
  omega
/-- the new potentials -/
def pn (A p : Nat → Int) (Δ : Int) (n : Nat) : Int := if A n ≤ p n + Δ then A n else p n + Δ
theorem pn_le (A p : Nat → Int) (Δ : Int) (n : Nat) : pn A p Δ n ≤ A n ∧ pn A p Δ n ≤ p n + Δ ∧ (pn A p Δ n = A n ∨ pn A p Δ n = p n + Δ) := by
  unfold pn
  by_cases c : A n ≤ p n + Δ
  · rw [if_pos c]; omega
  · rw [if_neg c]; omega
/-- while the way is walked: we stand at the town t, which wants q still -/
def AW (d g nd x L W : Nat → Int) (C : Int) (p A B : Nat → Int) (D : Int) (ρ : Nat → Nat) (u : Nat) (q : Int) (x' : Nat → Int) (t : Nat) : Prop := t < 6 ∧ (∀ i, i < 18 → 0 ≤ x' i) ∧ (∀ m, m < 3 → col x' m = g m - L m) ∧ (∀ t', t' < 6 → row x' t' = nd t' - va_up W u (W u - q) t' - (if t' = t then q else 0)) ∧ CS x' d = C + q * (A (3 + u) - A (3 + t)) ∧ (∀ t' m', t' < 6 → m' < 3 → 0 < x' (3 * t' + m') → pn A p (A (3 + u) - D) (3 + t') = pn A p (A (3 + u) - D) m' + d (3 * t' + m')) ∧ A (3 + t) - p (3 + t) ≤ A (3 + u) - D ∧ ∀ (t' m' m : Nat), t' < 6 → m' < 3 → m < 3 → B (3 + t) = (m : Int) → ρ m' ≤ ρ m → x' (3 * t' + m') = x (3 * t' + m')
theorem AW_0 {d g nd x L W p A B : Nat → Int} {C D : Int} {ρ : Nat → Nat} (h : FI d g nd x L W C p D) (hf : LF d x L p A B ρ) {u : Nat} (hu : u < 6) (hw : 0 < W u) (q : Int) : AW d g nd x L W C p A B D ρ u q x u := by
  obtain ⟨h1, h2, h3, h4, h5, h6, h7, h8, h9⟩ := h
  refine ⟨hu, h1, fun m hm => (h2 m hm).2, fun t' ht' => ?_, ?_, fun t' m' ht' hm' hx => ?_, ?_, fun _ _ _ _ _ _ _ _ => rfl⟩
  · have := (h3 t' ht').2
    by_cases e : t' = u
    · subst e
      rw [va_up_self, if_pos rfl]; omega
    · rw [va_up_ne _ _ e, if_neg e]; omega
  · rw [Int.sub_self, Int.mul_zero]; omega
  · have a := (h5 t' m' ht' hm').2 hx
    have b := (hf.1 t' m' ht' hm').2 hx
    unfold pn
    by_cases c : A m' ≤ p m' + (A (3 + u) - D)
    · rw [if_pos c, if_pos (by omega)]; omega
    · rw [if_neg c, if_neg (by omega)]; omega
  · have := (h7 u hu).1 hw
    omega
/-- at the town t: its mint is near enough -/
theorem AW_m {d g nd x L W p A B : Nat → Int} {C D : Int} {ρ : Nat → Nat} (h : FI d g nd x L W C p D) (hf : LF d x L p A B ρ) {u : Nat} {q : Int} {x' : Nat → Int} {t : Nat} (hA : AW d g nd x L W C p A B D ρ u q x' t) {m : Nat} (hm : m < 3) (hB : B (3 + t) = (m : Int)) : A (3 + t) = A m + d (3 * t + m) ∧ ρ m < ρ (3 + t) ∧ A m - p m ≤ A (3 + u) - D ∧ pn A p (A (3 + u) - D) (3 + t) = pn A p (A (3 + u) - D) m + d (3 * t + m) := by
  obtain ⟨a0, a1, a2, a3, a4, a5, a6, a7⟩ := hA
  obtain ⟨m', q1, q2, q3, q4⟩ := hf.2.2.2.1 t a0
  have e : m' = m := by
    have : (m' : Int) = (m : Int) := q2.symm.trans hB
    omega
  subst e
  have b := (h.2.2.2.2.1 t m' a0 hm).1
  refine ⟨q3, q4, by omega, ?_⟩
  unfold pn
  rw [if_pos (by omega), if_pos (by omega)]
  exact q3
theorem AW_root {d g nd x L W p A B : Nat → Int} {C D : Int} {ρ : Nat → Nat} (h : FI d g nd x L W C p D) (hf : LF d x L p A B ρ) {u : Nat} (hu : u < 6) (hw : 0 < W u) (hch : ∀ t, t < 6 → 0 < W t → A (3 + u) ≤ A (3 + t)) {q : Int} (hq : 0 < q) (hqw : q ≤ W u) {x' : Nat → Int} {t : Nat} (hA : AW d g nd x L W C p A B D ρ u q x' t) {m : Nat} (hm : m < 3) (hB : B (3 + t) = (m : Int)) (hBm : A m = 0) (hqL : q ≤ L m) : FI d g nd (va_up x' (3 * t + m) (x' (3 * t + m) + q)) (va_up L m (L m - q)) (va_up W u (W u - q)) (C + q * A (3 + u)) (pn A p (A (3 + u) - D)) (A (3 + u)) := by
  obtain ⟨m1, m2, m3, m4⟩ := AW_m h hf hA hm hB
  obtain ⟨h1, h2, h3, h4, h5, h6, h7, h8, h9⟩ := h
  obtain ⟨a0, a1, a2, a3, a4, a5, a6, a7⟩ := hA
  have hD : D ≤ A (3 + u) := by
    have := (h7 u hu).1 hw
    have := (hf.2.2.2.2.2 (3 + u) (by omega)).1
    omega
  refine ⟨fun i hi => ?_, fun k hk => ?_, fun k hk => ?_, ?_, fun t' m' ht' hm' => ⟨?_, fun hx => ?_⟩, fun k hk hl => ?_, fun k hk => ⟨fun hl => ?_, fun hl => ?_⟩, by omega, fun n hn => ?_⟩
  · by_cases e : i = 3 * t + m
    · subst e
      rw [va_up_self]
      have := a1 _ hi; omega
    · rw [va_up_ne _ _ e]; exact a1 i hi
  · have := h2 k hk
    have := a2 k hk
    by_cases e : k = m
    · subst e
      rw [va_up_self, col_s _ _ a0]; omega
    · rw [va_up_ne _ _ e, col_n _ _ hm hk e]; omega
  · have := (h3 k hk).1
    have a := a3 k hk
    have w0 : 0 ≤ va_up W u (W u - q) k := by
      by_cases e : k = u
      · subst e; rw [va_up_self]; omega
      · rw [va_up_ne _ _ e]; exact this
    refine ⟨w0, ?_⟩
    by_cases e : k = t
    · subst e
      rw [if_pos rfl] at a
      rw [row_s _ _ hm]; omega
    · rw [if_neg e] at a
      rw [row_n _ _ hm e]; omega
  · rw [CS_s _ _ _ a0 hm, a4]
    have e : x' (3 * t + m) + q - x' (3 * t + m) = q := by omega
    rw [e, m1, hBm]
    grind
  · have a := (h5 t' m' ht' hm').1
    have b := (hf.1 t' m' ht' hm').1
    have c1 := pn_le A p (A (3 + u) - D) (3 + t')
    have c2 := pn_le A p (A (3 + u) - D) m'
    omega
  · by_cases e : 3 * t' + m' = 3 * t + m
    · have e1 : t' = t := by omega
      have e2 : m' = m := by omega
      subst e1; subst e2
      exact m4
    · rw [va_up_ne _ _ e] at hx
      exact a5 t' m' ht' hm' hx
  · have hl' : 0 < L k := by
      by_cases e : k = m
      · subst e; rw [va_up_self] at hl; omega
      · rw [va_up_ne _ _ e] at hl; exact hl
    have b1 := hf.2.2.1 k hk hl'
    have b2 := h6 k hk hl'
    unfold pn
    rw [if_pos (by omega)]; exact b1
  · have hl' : 0 < W k := by
      by_cases e : k = u
      · subst e; exact hw
      · rw [va_up_ne _ _ e] at hl; exact hl
    have b1 := hch k hk hl'
    have b2 := (h7 k hk).1 hl'
    have c1 := pn_le A p (A (3 + u) - D) (3 + k)
    omega
  · have c1 := pn_le A p (A (3 + u) - D) (3 + k)
    by_cases e : k = u
    · subst e; omega
    · rw [va_up_ne _ _ e] at hl
      have := (h7 k hk).2 hl
      omega
  · have b1 := hf.2.2.2.2.2 n hn
    have b2 := h9 n hn
    have c1 := pn_le A p (A (3 + u) - D) n
    omega
theorem AW_step {d g nd x L W p A B : Nat → Int} {C D : Int} {ρ : Nat → Nat} (hd : ∀ i, i < 18 → 1 ≤ d i ∧ d i ≤ 30) (h : FI d g nd x L W C p D) (hf : LF d x L p A B ρ) {u : Nat} {q : Int} (hq : 0 < q) {x' : Nat → Int} {t : Nat} (hA : AW d g nd x L W C p A B D ρ u q x' t) {m : Nat} (hm : m < 3) (hB : B (3 + t) = (m : Int)) {t' : Nat} (ht' : t' < 6) (hBm : B m = ((3 + t' : Nat) : Int)) (hqx : q ≤ x (3 * t' + m)) : t' ≠ t ∧ x' (3 * t' + m) = x (3 * t' + m) ∧ AW d g nd x L W C p A B D ρ u q (va_up (va_up x' (3 * t + m) (x' (3 * t + m) + q)) (3 * t' + m) (x' (3 * t' + m) - q)) t' := by
  obtain ⟨m1, m2, m3, m4⟩ := AW_m h hf hA hm hB
  obtain ⟨h1, h2, h3, h4, h5, h6, h7, h8, h9⟩ := h
  obtain ⟨a0, a1, a2, a3, a4, a5, a6, a7⟩ := hA
  have hAm : A m < 1000000 := by
    have := hf.2.1 t a0
    have := hd (3 * t + m) (by omega)
    omega
  obtain ⟨t2, r1, r2, r3, r4, r5⟩ : ∃ t2 : Nat, t2 < 6 ∧ B m = ((3 + t2 : Nat) : Int) ∧ 0 < x (3 * t2 + m) ∧ A (3 + t2) = A m + d (3 * t2 + m) ∧ ρ (3 + t2) < ρ m := by
    rcases hf.2.2.2.2.1 m hm hAm with ⟨y1, _⟩ | y
    · rw [hBm] at y1
      omega
    · exact y
  have e : t2 = t' := by
    have : ((3 + t2 : Nat) : Int) = ((3 + t' : Nat) : Int) := r2.symm.trans hBm
    omega
  subst e
  have hne : t2 ≠ t := by
    intro z
    subst z
    omega
  have hx' : x' (3 * t2 + m) = x (3 * t2 + m) := a7 t2 m m r1 hm hm hB (Nat.le_refl _)
  have ptight := (h5 t2 m r1 hm).2 r3
  have i1 : 3 * t2 + m ≠ 3 * t + m := by omega
  refine ⟨hne, hx', r1, fun i hi => ?_, fun k hk => ?_, fun k hk => ?_, ?_, fun k j hk hj hx => ?_, by omega, fun k j j2 hk hj hj2 hB2 hρ => ?_⟩
  · by_cases e1 : i = 3 * t2 + m
    · subst e1
      rw [va_up_self]; omega
    · rw [va_up_ne _ _ e1]
      by_cases e2 : i = 3 * t + m
      · subst e2
        rw [va_up_self]
        have := a1 _ hi; omega
      · rw [va_up_ne _ _ e2]; exact a1 i hi
  · have := a2 k hk
    by_cases e1 : k = m
    · subst e1
      rw [col_s _ _ r1, col_s _ _ a0, va_up_ne _ _ i1]; omega
    · rw [col_n _ _ hm hk e1, col_n _ _ hm hk e1]; exact this
  · have a := a3 k hk
    by_cases e1 : k = t2
    · subst e1
      rw [if_neg hne] at a
      rw [row_s _ _ hm, va_up_ne _ _ i1, row_n _ _ hm hne, if_pos rfl]; omega
    · rw [row_n _ _ hm e1, if_neg e1]
      by_cases e2 : k = t
      · subst e2
        rw [if_pos rfl] at a
        rw [row_s _ _ hm]; omega
      · rw [if_neg e2] at a
        rw [row_n _ _ hm e2]; exact a
  · rw [CS_s _ _ _ r1 hm, CS_s _ _ _ a0 hm, va_up_ne _ _ i1, a4]
    have e1 : x' (3 * t + m) + q - x' (3 * t + m) = q := by omega
    have e2 : x' (3 * t2 + m) - q - x' (3 * t2 + m) = -q := by omega
    rw [e1, e2, m1, r4]
    grind
  · by_cases e1 : 3 * k + j = 3 * t2 + m
    · have e2 : k = t2 := by omega
      have e3 : j = m := by omega
      subst e2; subst e3
      exact a5 k j hk hj (by omega)
    · rw [va_up_ne _ _ e1] at hx
      by_cases e2 : 3 * k + j = 3 * t + m
      · have e3 : k = t := by omega
        have e4 : j = m := by omega
        subst e3; subst e4
        exact m4
      · rw [va_up_ne _ _ e2] at hx
        exact a5 k j hk hj hx
  · obtain ⟨m5, s1, s2, s3, s4⟩ := hf.2.2.2.1 t2 r1
    have e5 : m5 = j2 := by
      have : (m5 : Int) = (j2 : Int) := s2.symm.trans hB2
      omega
    subst e5
    have hj' : j ≠ m := by
      intro z
      subst z
      omega
    rw [va_up_ne _ _ (by omega), va_up_ne _ _ (by omega)]
    exact a7 k j m hk hj hm hB (by omega)
end AUG
