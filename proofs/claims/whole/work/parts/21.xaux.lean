/-! HELPERS of the class's side: references that may be null; Arrays.fill -/
section XAUX
def oq {β : Type} (o : Option Nat) (a : Option β) (b : Nat → Option β) : Option β := match o with
  | none => a
  | some k => b k
theorem o_q {β : Type} {o : Option Nat} {a : Option β} {b : Nat → Option β} {r : β} (hf : oq o a b = some r) : (o = none ∧ a = some r) ∨ ∃ k, o = some k ∧ b k = some r := by
  cases o with
  | none => exact Or.inl ⟨rfl, hf⟩
  | some k => exact Or.inr ⟨k, rfl, hf⟩
theorem va_rf_none : va_rf none = .null := rfl
theorem va_rf_some (k : Nat) : va_rf (some k) = .ref k := rfl
theorem rf_or (o : Option Nat) : va_rf o = .null ∨ ∃ a, va_rf o = .ref a := by
  cases o with
  | none => exact Or.inl rfl
  | some k => exact Or.inr ⟨k, rfl⟩
/-- Arrays.fill(int[], int) -/
def fillf (n : Nat) (v : Int32) (f : Nat → Int32) : Nat → Int32 := fun j => if j < n then v else f j
def rJ7_fill : Room := { frames := 0, cells := 0, slots := 0, locals := 0 }
theorem hup_hup (h : hH) (k : Nat) (a b : hE) : hup (hup h k a) k b = hup h k b := by
  funext j
  unfold hup
  by_cases q : j = k
  · rw [if_pos q, if_pos q]
  · rw [if_neg q, if_neg q, if_neg q]
theorem hup_same {h : hH} {k : Nat} {a : hE} (e : h k = some a) : hup h k a = h := by
  funext j
  unfold hup
  by_cases q : j = k
  · rw [if_pos q, q, e]
  · rw [if_neg q]
set_option maxHeartbeats 4000000 in
set_option maxRecDepth 100000 in
theorem s_fill_loop {key n : Nat} {v : Int32} {f : Nat → Int32} {h : hH} {Q : Option Value → hH → Prop} (hro : key < 9000) (hn : n < 10000) (q : Q none (hup h key (.inl (.int, n, .inl (fillf n v f))))) :
    ∀ (m i : Nat), i ≤ n → n ≤ i + m → J mJ7_fill_53178 rJ7_fill Q 0 0 (hup h key (.inl (.int, n, .inl (fillf i v f)))) 5 [(3, .int (Int32.ofNat n)), (2, .int (Int32.ofNat i)), (0, .ref key), (1, .int v)] [] := by
  intro m
  induction m with
  | zero =>
    intro i h1 h2
    have e : i = n := by omega
    subst e
    refine j_iload_n (pc' := 6) rfl rfl rfl ?_
    refine j_iload_n (pc' := 7) rfl rfl rfl ?_
    refine j_icmp_ge (tgt := 20) (pc' := 10) rfl rfl rfl (fun c => ?_) (fun c => absurd (Int32.le_refl _) c)
    exact j_vret rfl rfl (Nat.zero_le _) (Nat.zero_le _) q
  | succ m ih =>
    intro i h1 h2
    by_cases e : i = n
    · subst e
      refine j_iload_n (pc' := 6) rfl rfl rfl ?_
      refine j_iload_n (pc' := 7) rfl rfl rfl ?_
      refine j_icmp_ge (tgt := 20) (pc' := 10) rfl rfl rfl (fun c => ?_) (fun c => absurd (Int32.le_refl _) c)
      exact j_vret rfl rfl (Nat.zero_le _) (Nat.zero_le _) q
    · have hti : (Int32.ofNat i).toInt = (i : Int) := Int32.toInt_ofNat_of_lt (by omega)
      have htn : (Int32.ofNat n).toInt = (n : Int) := Int32.toInt_ofNat_of_lt (by omega)
      refine j_iload_n (pc' := 6) rfl rfl rfl ?_
      refine j_iload_n (pc' := 7) rfl rfl rfl ?_
      refine j_icmp_ge (tgt := 20) (pc' := 10) rfl rfl rfl (fun c => ?_) (fun c => ?_)
      · exact absurd (Int32.le_iff_toInt_le.mp c) (by omega)
      · refine j_aload_n (pc' := 11) rfl rfl rfl ?_
        refine j_iload_n (pc' := 12) rfl rfl rfl ?_
        refine j_iload_n (pc' := 13) rfl rfl rfl ?_
        have hcl : (Int32.ofNat i).toNatClampNeg = i := Int32.toNatClampNeg_ofNat_of_lt (by omega)
        have hin : vp_in (Int32.ofNat i) n := fun z => by
          rcases z with z | z
          · have := Int32.lt_iff_toInt_lt.mp z
            rw [hti] at this
            have h0 : (0 : Int32).toInt = 0 := by decide
            omega
          · rw [hcl] at z; omega
        refine j_iast (pc' := 14) rfl rfl (hup_self _ _ _) hro hin ?_
        rw [hup_hup, hcl]
        refine j_iinc (pc' := 17) (d := 1) (ls' := [(2, _), (3, _), (0, _), (1, _)]) rfl rfl rfl (by decide) (Nat.le_of_ble_eq_true rfl) rfl ?_
        refine j_goto (tgt := 5) rfl rfl ?_
        have e1 : va_up (fillf i v f) i v = fillf (i + 1) v f := by
          funext j
          unfold va_up fillf
          by_cases z : j = i
          · rw [if_pos z, if_pos (by omega)]
          · rw [if_neg z]
            by_cases z2 : j < i
            · rw [if_pos z2, if_pos (by omega)]
            · rw [if_neg z2, if_neg (by omega)]
        have e2 : Int32.ofNat i + 1 = Int32.ofNat (i + 1) := by
          rw [Int32.ofNat_add]
          rfl
        rw [e1, e2]
        refine j_sub (ls' := [(3, .int (Int32.ofNat n)), (2, .int (Int32.ofNat (i + 1))), (0, .ref key), (1, .int v)]) ⟨rfl, rfl, rfl, rfl, trivial⟩ ?_
        exact ih (i + 1) (by omega) (by omega)
set_option maxHeartbeats 4000000 in
set_option maxRecDepth 100000 in
theorem s_fill {key n : Nat} {f : Nat → Int32} {h : hH} (hk : h key = some (.inl (.int, n, .inl f))) (hro : key < 9000) (hn : n < 10000) (v : Int32) : SpD mJ7_fill_53178 rJ7_fill [.ref key, .int v] h none (hup h key (.inl (.int, n, .inl (fillf n v f)))) := by
  refine sp_of miJ7_fill_53178 (Nat.le_of_ble_eq_true rfl) ?_
  show J _ _ _ 0 0 _ 0 [(0, .ref key), (1, .int v)] []
  refine j_iconst (v := 0) (pc' := 1) rfl rfl (by decide) ?_
  refine j_istore_n (pc' := 2) (ls' := [(2, _), (0, _), (1, _)]) rfl rfl (Nat.le_of_ble_eq_true rfl) rfl ?_
  refine j_aload_n (pc' := 3) rfl rfl rfl ?_
  refine j_alen (pc' := 4) (v := Int32.ofNat n) (t0 := 0) rfl rfl hk (fun _ => rfl) rfl ?_
  refine j_istore_n (pc' := 5) (ls' := [(3, _), (2, _), (0, _), (1, _)]) rfl rfl (Nat.le_of_ble_eq_true rfl) rfl ?_
  have e0 : h = hup h key (.inl (.int, n, .inl (fillf 0 v f))) := by
    have : fillf 0 v f = f := by
      funext j
      unfold fillf
      rw [if_neg (by omega)]
    rw [this]
    exact (hup_same hk).symm
  refine j_heap e0 ?_
  exact s_fill_loop hro hn ⟨rfl, rfl⟩ n 0 (by omega) (by omega)
end XAUX
