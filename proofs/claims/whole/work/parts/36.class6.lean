section CLASS6
def rX6_sent : Room := { frames := 1, cells := 0, slots := 0, locals := 30 }
def f_X6_sent (σ : xS) : Option Int32 := (f_X6_sumOf__9 σ).bind fun r4 => (f_X6_sumOf__10 σ).bind fun r11 => some (if r11 < r4 then r11 else r4)
set_option maxHeartbeats 4000000 in
set_option maxRecDepth 100000 in
theorem s_X6_sent (g : hH) (σ : xS) (r : Int32) (hf : f_X6_sent σ = some r) : SpD mX6_sent rX6_sent [.ref 0] (gx g σ) (some (.int r)) (gx g σ) := by
  refine sp_of miX6_sent (Nat.le_of_ble_eq_true rfl) ?_
  show J _ _ _ 0 0 _ 0 [(0, .ref 0)] []
  unfold f_X6_sent at hf
  refine j_aload_n (pc' := 1) rfl rfl rfl ?_
  refine j_get (pc' := 4) rfl rfl flX6_54 (gxk_0 g σ) (nsF_13 σ) ?_
  obtain ⟨r4, e4, hf⟩ := o_bind hf
  refine j_s1 (pc' := 7) rfl rfl miX6_sumOf lnX6_301 (s_X6_sumOf__9 g σ _ e4) (h_rm_of rfl) (Nat.le_of_ble_eq_true rfl) (c' := 0) (s' := 0) rfl rfl ?_
  refine j_aload_n (pc' := 8) rfl rfl rfl ?_
  refine j_get (pc' := 11) rfl rfl flX6_57 (gxk_0 g σ) (nsF_14 σ) ?_
  obtain ⟨r11, e11, hf⟩ := o_bind hf
  refine j_s1 (pc' := 14) rfl rfl miX6_sumOf lnX6_301 (s_X6_sumOf__10 g σ _ e11) (h_rm_of rfl) (Nat.le_of_ble_eq_true rfl) (c' := 0) (s' := 0) rfl rfl ?_
  refine j_mmin (pc' := 17) rfl rfl kjX6_305 kj_min_s kj_math kj_min_c ⟨(Nat.le_of_ble_eq_true rfl), (Nat.le_of_ble_eq_true rfl)⟩ (Nat.le_of_ble_eq_true rfl) (Nat.le_of_ble_eq_true rfl) ?_
  have hf := Option.some.inj hf; subst hf
  exact j_iret rfl rfl (Nat.le_of_ble_eq_true rfl) (Nat.le_of_ble_eq_true rfl) ⟨rfl, rfl⟩
def rX6_countMelted : Room := { frames := 2, cells := 0, slots := 0, locals := 43 }
def f_X6_countMelted_L4 : Nat → xS → Int32 → Int32 → Option (Int32)
  | 0, _, _, _ => none
  | n + 1, σ, x1, x2 => if (σ.1 3 0) ≤ x2 then some (x1) else (f_X6_lotAt σ x2).bind fun r14 => oq r14 ((f_X6_oneIf 0).bind fun r35 => f_X6_countMelted_L4 n σ (x1 + r35) (x2 + 1)) (fun k17_1 => bif isL σ k17_1 then if (σ.1 109 (k17_1 - 1000)) = 0 then (f_X6_oneIf 0).bind fun r35 => f_X6_countMelted_L4 n σ (x1 + r35) (x2 + 1) else (f_X6_oneIf 1).bind fun r35 => f_X6_countMelted_L4 n σ (x1 + r35) (x2 + 1) else none)
set_option maxHeartbeats 4000000 in
set_option maxRecDepth 100000 in
theorem s_X6_countMelted_L4 {Q : Option Value → hH → Prop} (g : hH) : ∀ (n : Nat) (σ : xS) (x1 : Int32) (x2 : Int32) (r : Int32), f_X6_countMelted_L4 n σ x1 x2 = some r → (J mX6_countMelted rX6_countMelted Q 0 0 (gx g σ) 46 [(1, .int r)] []) → J mX6_countMelted rX6_countMelted Q 0 0 (gx g σ) 4 [(0, .ref 0), (1, .int x1), (2, .int x2)] [] := by
  intro n
  induction n with
  | zero =>
    intro σ x1 x2 r hf
    cases hf
  | succ n ih =>
    intro σ x1 x2 r hf k0
    rw [f_X6_countMelted_L4] at hf
    refine j_iload_n (pc' := 5) rfl rfl rfl ?_
    refine j_aload_n (pc' := 6) rfl rfl rfl ?_
    refine j_get (pc' := 9) rfl rfl flX6_97 (gxk_0 g σ) (nsF_3 σ) ?_
    refine j_icmp_ge (tgt := 46) (pc' := 12) rfl rfl rfl (fun c9 => ?_) (fun c9 => ?_)
    · rw [if_pos c9] at hf
      have hf := Option.some.inj hf; subst hf
      exact j_sub (ls' := [(1, .int _)]) ⟨rfl, trivial⟩ (k0)
    · rw [if_neg c9] at hf
      refine j_aload_n (pc' := 13) rfl rfl rfl ?_
      refine j_iload_n (pc' := 14) rfl rfl rfl ?_
      obtain ⟨r14, e14, hf⟩ := o_bind hf
      refine j_v1 (pc' := 17) rfl rfl miX6_lotAt lnX6_116 (gxk_0 g σ) rfl (s_X6_lotAt g σ x2 _ e14) (h_rm_of rfl) (Nat.le_of_ble_eq_true rfl) (c' := 0) (s' := 0) rfl rfl ?_
      rcases o_q hf with ⟨q17_1, hf⟩ | ⟨k17_1, q17_1, hf⟩
      · rw [q17_1, va_rf_none]
        refine j_astore_nN (pc' := 18) (ls' := [(3, _), (0, _), (1, _), (2, _)]) rfl rfl (Nat.le_of_ble_eq_true rfl) rfl ?_
        refine j_iload_n (pc' := 19) rfl rfl rfl ?_
        refine j_aload_nN (pc' := 20) rfl rfl rfl ?_
        refine j_ifnullN (tgt := 34) rfl rfl ?_
        refine j_iconst (v := 0) (pc' := 35) rfl rfl (by decide) ?_
        obtain ⟨r35, e35, hf⟩ := o_bind hf
        refine j_s1 (pc' := 38) rfl rfl miX6_oneIf lnX6_143 (s_X6_oneIf (gx g σ) 0 _ e35) (h_rm_of rfl) (Nat.le_of_ble_eq_true rfl) (c' := 0) (s' := 0) rfl rfl ?_
        refine j_iadd (pc' := 39) rfl rfl ?_
        refine j_istore_n (pc' := 40) (ls' := [(1, _), (3, _), (0, _), (2, _)]) rfl rfl (Nat.le_of_ble_eq_true rfl) rfl ?_
        refine j_iinc (pc' := 43) (d := 1) (ls' := [(2, _), (1, _), (3, _), (0, _)]) rfl rfl rfl (by decide) (Nat.le_of_ble_eq_true rfl) rfl ?_
        refine j_goto (tgt := 4) rfl rfl ?_
        refine j_sub (ls' := [(0, .ref 0), (1, .int _), (2, .int _)]) ⟨rfl, rfl, rfl, trivial⟩ ?_
        exact ih _ _ _ _ hf k0
      · rw [q17_1, va_rf_some]
        refine j_astore_n (pc' := 18) (ls' := [(3, _), (0, _), (1, _), (2, _)]) rfl rfl (Nat.le_of_ble_eq_true rfl) rfl ?_
        refine j_iload_n (pc' := 19) rfl rfl rfl ?_
        refine j_aload_n (pc' := 20) rfl rfl rfl ?_
        refine j_ifnull (pc' := 23) rfl rfl ?_
        refine j_aload_n (pc' := 24) rfl rfl rfl ?_
        obtain ⟨c24_2, hf⟩ := o_chk hf
        refine j_get (pc' := 27) (v := .int (σ.1 109 (k17_1 - 1000))) rfl rfl flX6_163 (gx_lot c24_2) (lotF_9 _ _) ?_
        refine j_if_eq (tgt := 34) (pc' := 30) rfl rfl rfl (fun c27 => ?_) (fun c27 => ?_)
        · rw [if_pos c27] at hf
          refine j_iconst (v := 0) (pc' := 35) rfl rfl (by decide) ?_
          obtain ⟨r35, e35, hf⟩ := o_bind hf
          refine j_s1 (pc' := 38) rfl rfl miX6_oneIf lnX6_143 (s_X6_oneIf (gx g σ) 0 _ e35) (h_rm_of rfl) (Nat.le_of_ble_eq_true rfl) (c' := 0) (s' := 0) rfl rfl ?_
          refine j_iadd (pc' := 39) rfl rfl ?_
          refine j_istore_n (pc' := 40) (ls' := [(1, _), (3, _), (0, _), (2, _)]) rfl rfl (Nat.le_of_ble_eq_true rfl) rfl ?_
          refine j_iinc (pc' := 43) (d := 1) (ls' := [(2, _), (1, _), (3, _), (0, _)]) rfl rfl rfl (by decide) (Nat.le_of_ble_eq_true rfl) rfl ?_
          refine j_goto (tgt := 4) rfl rfl ?_
          refine j_sub (ls' := [(0, .ref 0), (1, .int _), (2, .int _)]) ⟨rfl, rfl, rfl, trivial⟩ ?_
          exact ih _ _ _ _ hf k0
        · rw [if_neg c27] at hf
          refine j_iconst (v := 1) (pc' := 31) rfl rfl (by decide) ?_
          refine j_goto (tgt := 35) rfl rfl ?_
          obtain ⟨r35, e35, hf⟩ := o_bind hf
          refine j_s1 (pc' := 38) rfl rfl miX6_oneIf lnX6_143 (s_X6_oneIf (gx g σ) 1 _ e35) (h_rm_of rfl) (Nat.le_of_ble_eq_true rfl) (c' := 0) (s' := 0) rfl rfl ?_
          refine j_iadd (pc' := 39) rfl rfl ?_
          refine j_istore_n (pc' := 40) (ls' := [(1, _), (3, _), (0, _), (2, _)]) rfl rfl (Nat.le_of_ble_eq_true rfl) rfl ?_
          refine j_iinc (pc' := 43) (d := 1) (ls' := [(2, _), (1, _), (3, _), (0, _)]) rfl rfl rfl (by decide) (Nat.le_of_ble_eq_true rfl) rfl ?_
          refine j_goto (tgt := 4) rfl rfl ?_
          refine j_sub (ls' := [(0, .ref 0), (1, .int _), (2, .int _)]) ⟨rfl, rfl, rfl, trivial⟩ ?_
          exact ih _ _ _ _ hf k0
def f_X6_countMelted (σ : xS) : Option Int32 := (f_X6_countMelted_L4 4000 σ 0 0).bind fun r4 => some r4
set_option maxHeartbeats 4000000 in
set_option maxRecDepth 100000 in
theorem s_X6_countMelted (g : hH) (σ : xS) (r : Int32) (hf : f_X6_countMelted σ = some r) : SpD mX6_countMelted rX6_countMelted [.ref 0] (gx g σ) (some (.int r)) (gx g σ) := by
  refine sp_of miX6_countMelted (Nat.le_of_ble_eq_true rfl) ?_
  show J _ _ _ 0 0 _ 0 [(0, .ref 0)] []
  unfold f_X6_countMelted at hf
  refine j_iconst (v := 0) (pc' := 1) rfl rfl (by decide) ?_
  refine j_istore_n (pc' := 2) (ls' := [(1, _), (0, _)]) rfl rfl (Nat.le_of_ble_eq_true rfl) rfl ?_
  refine j_iconst (v := 0) (pc' := 3) rfl rfl (by decide) ?_
  refine j_istore_n (pc' := 4) (ls' := [(2, _), (1, _), (0, _)]) rfl rfl (Nat.le_of_ble_eq_true rfl) rfl ?_
  obtain ⟨r4, e4, hf⟩ := o_bind hf
  refine j_sub (ls' := [(0, .ref 0), (1, .int _), (2, .int _)]) ⟨rfl, rfl, rfl, trivial⟩ ?_
  refine s_X6_countMelted_L4 g _ _ _ _ _ e4 ?_
  refine j_iload_n (pc' := 47) rfl rfl rfl ?_
  have hf := Option.some.inj hf; subst hf
  exact j_iret rfl rfl (Nat.le_of_ble_eq_true rfl) (Nat.le_of_ble_eq_true rfl) ⟨rfl, rfl⟩
def rX6_countOnRoads : Room := { frames := 2, cells := 0, slots := 0, locals := 43 }
def f_X6_countOnRoads_L4 : Nat → xS → Int32 → Int32 → Option (Int32)
  | 0, _, _, _ => none
  | n + 1, σ, x1, x2 => if (σ.1 3 0) ≤ x2 then some (x1) else (f_X6_lotAt σ x2).bind fun r14 => oq r14 ((f_X6_oneIf 0).bind fun r39 => f_X6_countOnRoads_L4 n σ (x1 + r39) (x2 + 1)) (fun k17_1 => bif isL σ k17_1 then (f_X1_isOnRoad σ k17_1 (σ.1 16 0)).bind fun r28 => if r28 = 0 then (f_X6_oneIf 0).bind fun r39 => f_X6_countOnRoads_L4 n σ (x1 + r39) (x2 + 1) else (f_X6_oneIf 1).bind fun r39 => f_X6_countOnRoads_L4 n σ (x1 + r39) (x2 + 1) else none)
set_option maxHeartbeats 4000000 in
set_option maxRecDepth 100000 in
theorem s_X6_countOnRoads_L4 {Q : Option Value → hH → Prop} (g : hH) : ∀ (n : Nat) (σ : xS) (x1 : Int32) (x2 : Int32) (r : Int32), f_X6_countOnRoads_L4 n σ x1 x2 = some r → (J mX6_countOnRoads rX6_countOnRoads Q 0 0 (gx g σ) 50 [(1, .int r)] []) → J mX6_countOnRoads rX6_countOnRoads Q 0 0 (gx g σ) 4 [(0, .ref 0), (1, .int x1), (2, .int x2)] [] := by
  intro n
  induction n with
  | zero =>
    intro σ x1 x2 r hf
    cases hf
  | succ n ih =>
    intro σ x1 x2 r hf k0
    rw [f_X6_countOnRoads_L4] at hf
    refine j_iload_n (pc' := 5) rfl rfl rfl ?_
    refine j_aload_n (pc' := 6) rfl rfl rfl ?_
    refine j_get (pc' := 9) rfl rfl flX6_97 (gxk_0 g σ) (nsF_3 σ) ?_
    refine j_icmp_ge (tgt := 50) (pc' := 12) rfl rfl rfl (fun c9 => ?_) (fun c9 => ?_)
    · rw [if_pos c9] at hf
      have hf := Option.some.inj hf; subst hf
      exact j_sub (ls' := [(1, .int _)]) ⟨rfl, trivial⟩ (k0)
    · rw [if_neg c9] at hf
      refine j_aload_n (pc' := 13) rfl rfl rfl ?_
      refine j_iload_n (pc' := 14) rfl rfl rfl ?_
      obtain ⟨r14, e14, hf⟩ := o_bind hf
      refine j_v1 (pc' := 17) rfl rfl miX6_lotAt lnX6_116 (gxk_0 g σ) rfl (s_X6_lotAt g σ x2 _ e14) (h_rm_of rfl) (Nat.le_of_ble_eq_true rfl) (c' := 0) (s' := 0) rfl rfl ?_
      rcases o_q hf with ⟨q17_1, hf⟩ | ⟨k17_1, q17_1, hf⟩
      · rw [q17_1, va_rf_none]
        refine j_astore_nN (pc' := 18) (ls' := [(3, _), (0, _), (1, _), (2, _)]) rfl rfl (Nat.le_of_ble_eq_true rfl) rfl ?_
        refine j_iload_n (pc' := 19) rfl rfl rfl ?_
        refine j_aload_nN (pc' := 20) rfl rfl rfl ?_
        refine j_ifnullN (tgt := 38) rfl rfl ?_
        refine j_iconst (v := 0) (pc' := 39) rfl rfl (by decide) ?_
        obtain ⟨r39, e39, hf⟩ := o_bind hf
        refine j_s1 (pc' := 42) rfl rfl miX6_oneIf lnX6_143 (s_X6_oneIf (gx g σ) 0 _ e39) (h_rm_of rfl) (Nat.le_of_ble_eq_true rfl) (c' := 0) (s' := 0) rfl rfl ?_
        refine j_iadd (pc' := 43) rfl rfl ?_
        refine j_istore_n (pc' := 44) (ls' := [(1, _), (3, _), (0, _), (2, _)]) rfl rfl (Nat.le_of_ble_eq_true rfl) rfl ?_
        refine j_iinc (pc' := 47) (d := 1) (ls' := [(2, _), (1, _), (3, _), (0, _)]) rfl rfl rfl (by decide) (Nat.le_of_ble_eq_true rfl) rfl ?_
        refine j_goto (tgt := 4) rfl rfl ?_
        refine j_sub (ls' := [(0, .ref 0), (1, .int _), (2, .int _)]) ⟨rfl, rfl, rfl, trivial⟩ ?_
        exact ih _ _ _ _ hf k0
      · rw [q17_1, va_rf_some]
        refine j_astore_n (pc' := 18) (ls' := [(3, _), (0, _), (1, _), (2, _)]) rfl rfl (Nat.le_of_ble_eq_true rfl) rfl ?_
        refine j_iload_n (pc' := 19) rfl rfl rfl ?_
        refine j_aload_n (pc' := 20) rfl rfl rfl ?_
        refine j_ifnull (pc' := 23) rfl rfl ?_
        refine j_aload_n (pc' := 24) rfl rfl rfl ?_
        refine j_aload_n (pc' := 25) rfl rfl rfl ?_
        refine j_get (pc' := 28) rfl rfl flX6_154 (gxk_0 g σ) (nsF_16 σ) ?_
        obtain ⟨c28_2, hf⟩ := o_chk hf
        obtain ⟨r28, e28, hf⟩ := o_bind hf
        refine j_v1 (pc' := 31) rfl rfl miX1_isOnRoad lnX6_157 (gx_lot c28_2) rfl (s_X1_isOnRoad g σ k17_1 (σ.1 16 0) _ e28) (h_rm_of rfl) (Nat.le_of_ble_eq_true rfl) (c' := 0) (s' := 0) rfl rfl ?_
        refine j_if_eq (tgt := 38) (pc' := 34) rfl rfl rfl (fun c31 => ?_) (fun c31 => ?_)
        · rw [if_pos c31] at hf
          refine j_iconst (v := 0) (pc' := 39) rfl rfl (by decide) ?_
          obtain ⟨r39, e39, hf⟩ := o_bind hf
          refine j_s1 (pc' := 42) rfl rfl miX6_oneIf lnX6_143 (s_X6_oneIf (gx g σ) 0 _ e39) (h_rm_of rfl) (Nat.le_of_ble_eq_true rfl) (c' := 0) (s' := 0) rfl rfl ?_
          refine j_iadd (pc' := 43) rfl rfl ?_
          refine j_istore_n (pc' := 44) (ls' := [(1, _), (3, _), (0, _), (2, _)]) rfl rfl (Nat.le_of_ble_eq_true rfl) rfl ?_
          refine j_iinc (pc' := 47) (d := 1) (ls' := [(2, _), (1, _), (3, _), (0, _)]) rfl rfl rfl (by decide) (Nat.le_of_ble_eq_true rfl) rfl ?_
          refine j_goto (tgt := 4) rfl rfl ?_
          refine j_sub (ls' := [(0, .ref 0), (1, .int _), (2, .int _)]) ⟨rfl, rfl, rfl, trivial⟩ ?_
          exact ih _ _ _ _ hf k0
        · rw [if_neg c31] at hf
          refine j_iconst (v := 1) (pc' := 35) rfl rfl (by decide) ?_
          refine j_goto (tgt := 39) rfl rfl ?_
          obtain ⟨r39, e39, hf⟩ := o_bind hf
          refine j_s1 (pc' := 42) rfl rfl miX6_oneIf lnX6_143 (s_X6_oneIf (gx g σ) 1 _ e39) (h_rm_of rfl) (Nat.le_of_ble_eq_true rfl) (c' := 0) (s' := 0) rfl rfl ?_
          refine j_iadd (pc' := 43) rfl rfl ?_
          refine j_istore_n (pc' := 44) (ls' := [(1, _), (3, _), (0, _), (2, _)]) rfl rfl (Nat.le_of_ble_eq_true rfl) rfl ?_
          refine j_iinc (pc' := 47) (d := 1) (ls' := [(2, _), (1, _), (3, _), (0, _)]) rfl rfl rfl (by decide) (Nat.le_of_ble_eq_true rfl) rfl ?_
          refine j_goto (tgt := 4) rfl rfl ?_
          refine j_sub (ls' := [(0, .ref 0), (1, .int _), (2, .int _)]) ⟨rfl, rfl, rfl, trivial⟩ ?_
          exact ih _ _ _ _ hf k0
def f_X6_countOnRoads (σ : xS) : Option Int32 := (f_X6_countOnRoads_L4 4000 σ 0 0).bind fun r4 => some r4
set_option maxHeartbeats 4000000 in
set_option maxRecDepth 100000 in
theorem s_X6_countOnRoads (g : hH) (σ : xS) (r : Int32) (hf : f_X6_countOnRoads σ = some r) : SpD mX6_countOnRoads rX6_countOnRoads [.ref 0] (gx g σ) (some (.int r)) (gx g σ) := by
  refine sp_of miX6_countOnRoads (Nat.le_of_ble_eq_true rfl) ?_
  show J _ _ _ 0 0 _ 0 [(0, .ref 0)] []
  unfold f_X6_countOnRoads at hf
  refine j_iconst (v := 0) (pc' := 1) rfl rfl (by decide) ?_
  refine j_istore_n (pc' := 2) (ls' := [(1, _), (0, _)]) rfl rfl (Nat.le_of_ble_eq_true rfl) rfl ?_
  refine j_iconst (v := 0) (pc' := 3) rfl rfl (by decide) ?_
  refine j_istore_n (pc' := 4) (ls' := [(2, _), (1, _), (0, _)]) rfl rfl (Nat.le_of_ble_eq_true rfl) rfl ?_
  obtain ⟨r4, e4, hf⟩ := o_bind hf
  refine j_sub (ls' := [(0, .ref 0), (1, .int _), (2, .int _)]) ⟨rfl, rfl, rfl, trivial⟩ ?_
  refine s_X6_countOnRoads_L4 g _ _ _ _ _ e4 ?_
  refine j_iload_n (pc' := 51) rfl rfl rfl ?_
  have hf := Option.some.inj hf; subst hf
  exact j_iret rfl rfl (Nat.le_of_ble_eq_true rfl) (Nat.le_of_ble_eq_true rfl) ⟨rfl, rfl⟩
def rX6_countInChests : Room := { frames := 2, cells := 0, slots := 0, locals := 43 }
def f_X6_countInChests_L4 : Nat → xS → Int32 → Int32 → Option (Int32)
  | 0, _, _, _ => none
  | n + 1, σ, x1, x2 => if (σ.1 3 0) ≤ x2 then some (x1) else (f_X6_lotAt σ x2).bind fun r14 => oq r14 ((f_X6_oneIf 0).bind fun r35 => f_X6_countInChests_L4 n σ (x1 + r35) (x2 + 1)) (fun k17_1 => bif isL σ k17_1 then if (σ.1 110 (k17_1 - 1000)) = 0 then (f_X6_oneIf 0).bind fun r35 => f_X6_countInChests_L4 n σ (x1 + r35) (x2 + 1) else (f_X6_oneIf 1).bind fun r35 => f_X6_countInChests_L4 n σ (x1 + r35) (x2 + 1) else none)
set_option maxHeartbeats 4000000 in
set_option maxRecDepth 100000 in
theorem s_X6_countInChests_L4 {Q : Option Value → hH → Prop} (g : hH) : ∀ (n : Nat) (σ : xS) (x1 : Int32) (x2 : Int32) (r : Int32), f_X6_countInChests_L4 n σ x1 x2 = some r → (J mX6_countInChests rX6_countInChests Q 0 0 (gx g σ) 46 [(1, .int r)] []) → J mX6_countInChests rX6_countInChests Q 0 0 (gx g σ) 4 [(0, .ref 0), (1, .int x1), (2, .int x2)] [] := by
  intro n
  induction n with
  | zero =>
    intro σ x1 x2 r hf
    cases hf
  | succ n ih =>
    intro σ x1 x2 r hf k0
    rw [f_X6_countInChests_L4] at hf
    refine j_iload_n (pc' := 5) rfl rfl rfl ?_
    refine j_aload_n (pc' := 6) rfl rfl rfl ?_
    refine j_get (pc' := 9) rfl rfl flX6_97 (gxk_0 g σ) (nsF_3 σ) ?_
    refine j_icmp_ge (tgt := 46) (pc' := 12) rfl rfl rfl (fun c9 => ?_) (fun c9 => ?_)
    · rw [if_pos c9] at hf
      have hf := Option.some.inj hf; subst hf
      exact j_sub (ls' := [(1, .int _)]) ⟨rfl, trivial⟩ (k0)
    · rw [if_neg c9] at hf
      refine j_aload_n (pc' := 13) rfl rfl rfl ?_
      refine j_iload_n (pc' := 14) rfl rfl rfl ?_
      obtain ⟨r14, e14, hf⟩ := o_bind hf
      refine j_v1 (pc' := 17) rfl rfl miX6_lotAt lnX6_116 (gxk_0 g σ) rfl (s_X6_lotAt g σ x2 _ e14) (h_rm_of rfl) (Nat.le_of_ble_eq_true rfl) (c' := 0) (s' := 0) rfl rfl ?_
      rcases o_q hf with ⟨q17_1, hf⟩ | ⟨k17_1, q17_1, hf⟩
      · rw [q17_1, va_rf_none]
        refine j_astore_nN (pc' := 18) (ls' := [(3, _), (0, _), (1, _), (2, _)]) rfl rfl (Nat.le_of_ble_eq_true rfl) rfl ?_
        refine j_iload_n (pc' := 19) rfl rfl rfl ?_
        refine j_aload_nN (pc' := 20) rfl rfl rfl ?_
        refine j_ifnullN (tgt := 34) rfl rfl ?_
        refine j_iconst (v := 0) (pc' := 35) rfl rfl (by decide) ?_
        obtain ⟨r35, e35, hf⟩ := o_bind hf
        refine j_s1 (pc' := 38) rfl rfl miX6_oneIf lnX6_143 (s_X6_oneIf (gx g σ) 0 _ e35) (h_rm_of rfl) (Nat.le_of_ble_eq_true rfl) (c' := 0) (s' := 0) rfl rfl ?_
        refine j_iadd (pc' := 39) rfl rfl ?_
        refine j_istore_n (pc' := 40) (ls' := [(1, _), (3, _), (0, _), (2, _)]) rfl rfl (Nat.le_of_ble_eq_true rfl) rfl ?_
        refine j_iinc (pc' := 43) (d := 1) (ls' := [(2, _), (1, _), (3, _), (0, _)]) rfl rfl rfl (by decide) (Nat.le_of_ble_eq_true rfl) rfl ?_
        refine j_goto (tgt := 4) rfl rfl ?_
        refine j_sub (ls' := [(0, .ref 0), (1, .int _), (2, .int _)]) ⟨rfl, rfl, rfl, trivial⟩ ?_
        exact ih _ _ _ _ hf k0
      · rw [q17_1, va_rf_some]
        refine j_astore_n (pc' := 18) (ls' := [(3, _), (0, _), (1, _), (2, _)]) rfl rfl (Nat.le_of_ble_eq_true rfl) rfl ?_
        refine j_iload_n (pc' := 19) rfl rfl rfl ?_
        refine j_aload_n (pc' := 20) rfl rfl rfl ?_
        refine j_ifnull (pc' := 23) rfl rfl ?_
        refine j_aload_n (pc' := 24) rfl rfl rfl ?_
        obtain ⟨c24_2, hf⟩ := o_chk hf
        refine j_get (pc' := 27) (v := .int (σ.1 110 (k17_1 - 1000))) rfl rfl flX6_167 (gx_lot c24_2) (lotF_10 _ _) ?_
        refine j_if_eq (tgt := 34) (pc' := 30) rfl rfl rfl (fun c27 => ?_) (fun c27 => ?_)
        · rw [if_pos c27] at hf
          refine j_iconst (v := 0) (pc' := 35) rfl rfl (by decide) ?_
          obtain ⟨r35, e35, hf⟩ := o_bind hf
          refine j_s1 (pc' := 38) rfl rfl miX6_oneIf lnX6_143 (s_X6_oneIf (gx g σ) 0 _ e35) (h_rm_of rfl) (Nat.le_of_ble_eq_true rfl) (c' := 0) (s' := 0) rfl rfl ?_
          refine j_iadd (pc' := 39) rfl rfl ?_
          refine j_istore_n (pc' := 40) (ls' := [(1, _), (3, _), (0, _), (2, _)]) rfl rfl (Nat.le_of_ble_eq_true rfl) rfl ?_
          refine j_iinc (pc' := 43) (d := 1) (ls' := [(2, _), (1, _), (3, _), (0, _)]) rfl rfl rfl (by decide) (Nat.le_of_ble_eq_true rfl) rfl ?_
          refine j_goto (tgt := 4) rfl rfl ?_
          refine j_sub (ls' := [(0, .ref 0), (1, .int _), (2, .int _)]) ⟨rfl, rfl, rfl, trivial⟩ ?_
          exact ih _ _ _ _ hf k0
        · rw [if_neg c27] at hf
          refine j_iconst (v := 1) (pc' := 31) rfl rfl (by decide) ?_
          refine j_goto (tgt := 35) rfl rfl ?_
          obtain ⟨r35, e35, hf⟩ := o_bind hf
          refine j_s1 (pc' := 38) rfl rfl miX6_oneIf lnX6_143 (s_X6_oneIf (gx g σ) 1 _ e35) (h_rm_of rfl) (Nat.le_of_ble_eq_true rfl) (c' := 0) (s' := 0) rfl rfl ?_
          refine j_iadd (pc' := 39) rfl rfl ?_
          refine j_istore_n (pc' := 40) (ls' := [(1, _), (3, _), (0, _), (2, _)]) rfl rfl (Nat.le_of_ble_eq_true rfl) rfl ?_
          refine j_iinc (pc' := 43) (d := 1) (ls' := [(2, _), (1, _), (3, _), (0, _)]) rfl rfl rfl (by decide) (Nat.le_of_ble_eq_true rfl) rfl ?_
          refine j_goto (tgt := 4) rfl rfl ?_
          refine j_sub (ls' := [(0, .ref 0), (1, .int _), (2, .int _)]) ⟨rfl, rfl, rfl, trivial⟩ ?_
          exact ih _ _ _ _ hf k0
def f_X6_countInChests (σ : xS) : Option Int32 := (f_X6_countInChests_L4 4000 σ 0 0).bind fun r4 => some r4
set_option maxHeartbeats 4000000 in
set_option maxRecDepth 100000 in
theorem s_X6_countInChests (g : hH) (σ : xS) (r : Int32) (hf : f_X6_countInChests σ = some r) : SpD mX6_countInChests rX6_countInChests [.ref 0] (gx g σ) (some (.int r)) (gx g σ) := by
  refine sp_of miX6_countInChests (Nat.le_of_ble_eq_true rfl) ?_
  show J _ _ _ 0 0 _ 0 [(0, .ref 0)] []
  unfold f_X6_countInChests at hf
  refine j_iconst (v := 0) (pc' := 1) rfl rfl (by decide) ?_
  refine j_istore_n (pc' := 2) (ls' := [(1, _), (0, _)]) rfl rfl (Nat.le_of_ble_eq_true rfl) rfl ?_
  refine j_iconst (v := 0) (pc' := 3) rfl rfl (by decide) ?_
  refine j_istore_n (pc' := 4) (ls' := [(2, _), (1, _), (0, _)]) rfl rfl (Nat.le_of_ble_eq_true rfl) rfl ?_
  obtain ⟨r4, e4, hf⟩ := o_bind hf
  refine j_sub (ls' := [(0, .ref 0), (1, .int _), (2, .int _)]) ⟨rfl, rfl, rfl, trivial⟩ ?_
  refine s_X6_countInChests_L4 g _ _ _ _ _ e4 ?_
  refine j_iload_n (pc' := 47) rfl rfl rfl ?_
  have hf := Option.some.inj hf; subst hf
  exact j_iret rfl rfl (Nat.le_of_ble_eq_true rfl) (Nat.le_of_ble_eq_true rfl) ⟨rfl, rfl⟩
def rX6_count : Room := { frames := 3, cells := 0, slots := 0, locals := 66 }
def f_X6_count (σ : xS) (x1 : Int32) : Option Int32 := if x1 = 0 then some (σ.1 1 0) else if x1 = 1 then some (σ.1 3 0) else if x1 = 2 then some (σ.1 5 0) else if x1 = 3 then some (σ.1 16 0) else if x1 = 4 then (f_X6_countMelted σ).bind fun r69 => some r69 else if x1 = 5 then (f_X6_countOnRoads σ).bind fun r74 => some r74 else if x1 = 6 then (f_X6_countInChests σ).bind fun r79 => some r79 else if x1 = 7 then some (σ.1 20 0) else some (-1)
set_option maxHeartbeats 4000000 in
set_option maxRecDepth 100000 in
theorem s_X6_count (g : hH) (σ : xS) (x1 : Int32) (r : Int32) (hf : f_X6_count σ x1 = some r) : SpD mX6_count rX6_count [.ref 0, .int x1] (gx g σ) (some (.int r)) (gx g σ) := by
  refine sp_of miX6_count (Nat.le_of_ble_eq_true rfl) ?_
  show J _ _ _ 0 0 _ 0 [(0, .ref 0), (1, .int x1)] []
  unfold f_X6_count at hf
  refine j_iload_n (pc' := 1) rfl rfl rfl ?_
  by_cases w1_0 : x1 = 0
  · rw [if_pos w1_0] at hf
    rw [w1_0]
    refine j_tableIn (tgt := 48) rfl (by decide) (by decide) rfl rfl ?_
    refine j_aload_n (pc' := 49) rfl rfl rfl ?_
    refine j_get (pc' := 52) rfl rfl flX6_78 (gxk_0 g σ) (nsF_1 σ) ?_
    have hf := Option.some.inj hf; subst hf
    exact j_iret rfl rfl (Nat.le_of_ble_eq_true rfl) (Nat.le_of_ble_eq_true rfl) ⟨rfl, rfl⟩
  rw [if_neg w1_0] at hf
  by_cases w1_1 : x1 = 1
  · rw [if_pos w1_1] at hf
    rw [w1_1]
    refine j_tableIn (tgt := 53) rfl (by decide) (by decide) rfl rfl ?_
    refine j_aload_n (pc' := 54) rfl rfl rfl ?_
    refine j_get (pc' := 57) rfl rfl flX6_97 (gxk_0 g σ) (nsF_3 σ) ?_
    have hf := Option.some.inj hf; subst hf
    exact j_iret rfl rfl (Nat.le_of_ble_eq_true rfl) (Nat.le_of_ble_eq_true rfl) ⟨rfl, rfl⟩
  rw [if_neg w1_1] at hf
  by_cases w1_2 : x1 = 2
  · rw [if_pos w1_2] at hf
    rw [w1_2]
    refine j_tableIn (tgt := 58) rfl (by decide) (by decide) rfl rfl ?_
    refine j_aload_n (pc' := 59) rfl rfl rfl ?_
    refine j_get (pc' := 62) rfl rfl flX6_186 (gxk_0 g σ) (nsF_5 σ) ?_
    have hf := Option.some.inj hf; subst hf
    exact j_iret rfl rfl (Nat.le_of_ble_eq_true rfl) (Nat.le_of_ble_eq_true rfl) ⟨rfl, rfl⟩
  rw [if_neg w1_2] at hf
  by_cases w1_3 : x1 = 3
  · rw [if_pos w1_3] at hf
    rw [w1_3]
    refine j_tableIn (tgt := 63) rfl (by decide) (by decide) rfl rfl ?_
    refine j_aload_n (pc' := 64) rfl rfl rfl ?_
    refine j_get (pc' := 67) rfl rfl flX6_154 (gxk_0 g σ) (nsF_16 σ) ?_
    have hf := Option.some.inj hf; subst hf
    exact j_iret rfl rfl (Nat.le_of_ble_eq_true rfl) (Nat.le_of_ble_eq_true rfl) ⟨rfl, rfl⟩
  rw [if_neg w1_3] at hf
  by_cases w1_4 : x1 = 4
  · rw [if_pos w1_4] at hf
    rw [w1_4]
    refine j_tableIn (tgt := 68) rfl (by decide) (by decide) rfl rfl ?_
    refine j_aload_n (pc' := 69) rfl rfl rfl ?_
    obtain ⟨r69, e69, hf⟩ := o_bind hf
    refine j_v0 (pc' := 72) rfl rfl miX6_countMelted lnX6_308 (gxk_0 g σ) rfl (s_X6_countMelted g σ _ e69) (h_rm_of rfl) (Nat.le_of_ble_eq_true rfl) (c' := 0) (s' := 0) rfl rfl ?_
    have hf := Option.some.inj hf; subst hf
    exact j_iret rfl rfl (Nat.le_of_ble_eq_true rfl) (Nat.le_of_ble_eq_true rfl) ⟨rfl, rfl⟩
  rw [if_neg w1_4] at hf
  by_cases w1_5 : x1 = 5
  · rw [if_pos w1_5] at hf
    rw [w1_5]
    refine j_tableIn (tgt := 73) rfl (by decide) (by decide) rfl rfl ?_
    refine j_aload_n (pc' := 74) rfl rfl rfl ?_
    obtain ⟨r74, e74, hf⟩ := o_bind hf
    refine j_v0 (pc' := 77) rfl rfl miX6_countOnRoads lnX6_311 (gxk_0 g σ) rfl (s_X6_countOnRoads g σ _ e74) (h_rm_of rfl) (Nat.le_of_ble_eq_true rfl) (c' := 0) (s' := 0) rfl rfl ?_
    have hf := Option.some.inj hf; subst hf
    exact j_iret rfl rfl (Nat.le_of_ble_eq_true rfl) (Nat.le_of_ble_eq_true rfl) ⟨rfl, rfl⟩
  rw [if_neg w1_5] at hf
  by_cases w1_6 : x1 = 6
  · rw [if_pos w1_6] at hf
    rw [w1_6]
    refine j_tableIn (tgt := 78) rfl (by decide) (by decide) rfl rfl ?_
    refine j_aload_n (pc' := 79) rfl rfl rfl ?_
    obtain ⟨r79, e79, hf⟩ := o_bind hf
    refine j_v0 (pc' := 82) rfl rfl miX6_countInChests lnX6_314 (gxk_0 g σ) rfl (s_X6_countInChests g σ _ e79) (h_rm_of rfl) (Nat.le_of_ble_eq_true rfl) (c' := 0) (s' := 0) rfl rfl ?_
    have hf := Option.some.inj hf; subst hf
    exact j_iret rfl rfl (Nat.le_of_ble_eq_true rfl) (Nat.le_of_ble_eq_true rfl) ⟨rfl, rfl⟩
  rw [if_neg w1_6] at hf
  by_cases w1_7 : x1 = 7
  · rw [if_pos w1_7] at hf
    rw [w1_7]
    refine j_tableIn (tgt := 83) rfl (by decide) (by decide) rfl rfl ?_
    refine j_aload_n (pc' := 84) rfl rfl rfl ?_
    refine j_get (pc' := 87) rfl rfl flX6_30 (gxk_0 g σ) (nsF_6 σ) ?_
    refine j_get (pc' := 90) rfl rfl flX6_183 (gxk_11 g σ) (tpF_2 σ) ?_
    have hf := Option.some.inj hf; subst hf
    exact j_iret rfl rfl (Nat.le_of_ble_eq_true rfl) (Nat.le_of_ble_eq_true rfl) ⟨rfl, rfl⟩
  rw [if_neg w1_7] at hf
  refine j_tableOut (tgt := 91) rfl (sw_out (n := 7) (by decide) (fun v hv => by
    have : v = 0 ∨ v = 1 ∨ v = 2 ∨ v = 3 ∨ v = 4 ∨ v = 5 ∨ v = 6 ∨ v = 7 := by omega
    rcases this with rfl | rfl | rfl | rfl | rfl | rfl | rfl | rfl
    · exact w1_0
    · exact w1_1
    · exact w1_2
    · exact w1_3
    · exact w1_4
    · exact w1_5
    · exact w1_6
    · exact w1_7)) rfl ?_
  refine j_iconst (v := (-1)) (pc' := 92) rfl rfl (by decide) ?_
  have hf := Option.some.inj hf; subst hf
  exact j_iret rfl rfl (Nat.le_of_ble_eq_true rfl) (Nat.le_of_ble_eq_true rfl) ⟨rfl, rfl⟩
end CLASS6
