section CLASS2
def rX6_feed : Room := { frames := 1, cells := 0, slots := 0, locals := 24 }
def f_X6_feed (σ : xS) (x1 : Int64) (x3 : Int32) : Option (Int32 × xS) := (f_X6_within x3 1 8).bind fun r4 => if r4 = 0 then some ((-2), σ) else (f_X5_append σ x1 x3).bind fun r19 => if r19.1 = 0 then some ((-4), r19.2) else some ((r19.2.1 20 0), r19.2)
set_option maxHeartbeats 4000000 in
set_option maxRecDepth 100000 in
theorem s_X6_feed (g : hH) (σ : xS) (x1 : Int64) (x3 : Int32) (r : (Int32 × xS)) (hf : f_X6_feed σ x1 x3 = some r) : SpD mX6_feed rX6_feed [.ref 0, .long x1, .int x3] (gx g σ) (some (.int r.1)) (gx g r.2) := by
  refine sp_of miX6_feed (Nat.le_of_ble_eq_true rfl) ?_
  show J _ _ _ 0 0 _ 0 [(0, .ref 0), (1, .long x1), (3, .int x3)] []
  unfold f_X6_feed at hf
  refine j_iload_n (pc' := 1) rfl rfl rfl ?_
  refine j_iconst (v := 1) (pc' := 2) rfl rfl (by decide) ?_
  refine j_bipush (v := 8) (pc' := 4) rfl rfl (by decide) ?_
  obtain ⟨r4, e4, hf⟩ := o_bind hf
  refine j_s3 (pc' := 7) rfl rfl miX6_within lnX6_74 (s_X6_within (gx g σ) x3 1 8 _ e4) (h_rm_of rfl) (Nat.le_of_ble_eq_true rfl) (c' := 0) (s' := 0) rfl rfl ?_
  refine j_if_ne (tgt := 13) (pc' := 10) rfl rfl rfl (fun c7 => ?_) (fun c7 => ?_)
  · rw [if_neg c7] at hf
    refine j_aload_n (pc' := 14) rfl rfl rfl ?_
    refine j_get (pc' := 17) rfl rfl flX6_30 (gxk_0 g σ) (nsF_6 σ) ?_
    refine j_lload_n (pc' := 18) rfl rfl rfl ?_
    refine j_iload_n (pc' := 19) rfl rfl rfl ?_
    obtain ⟨r19, e19, hf⟩ := o_bind hf
    refine j_v2 (pc' := 22) rfl rfl miX5_append lnX6_179 (gxk_11 g σ) rfl (s_X5_append g σ x1 x3 _ e19) (h_rm_of rfl) (Nat.le_of_ble_eq_true rfl) (c' := 0) (s' := 0) rfl rfl ?_
    refine j_if_eq (tgt := 35) (pc' := 25) rfl rfl rfl (fun c22 => ?_) (fun c22 => ?_)
    · rw [if_pos c22] at hf
      refine j_bipush (v := (-4)) (pc' := 37) rfl rfl (by decide) ?_
      have hf := Option.some.inj hf; subst hf
      exact j_iret rfl rfl (Nat.le_of_ble_eq_true rfl) (Nat.le_of_ble_eq_true rfl) ⟨rfl, rfl⟩
    · rw [if_neg c22] at hf
      refine j_aload_n (pc' := 26) rfl rfl rfl ?_
      refine j_get (pc' := 29) rfl rfl flX6_30 (gxk_0 g r19.2) (nsF_6 r19.2) ?_
      refine j_get (pc' := 32) rfl rfl flX6_183 (gxk_11 g r19.2) (tpF_2 r19.2) ?_
      refine j_goto (tgt := 37) rfl rfl ?_
      have hf := Option.some.inj hf; subst hf
      exact j_iret rfl rfl (Nat.le_of_ble_eq_true rfl) (Nat.le_of_ble_eq_true rfl) ⟨rfl, rfl⟩
  · rw [if_pos c7] at hf
    refine j_bipush (v := (-2)) (pc' := 12) rfl rfl (by decide) ?_
    have hf := Option.some.inj hf; subst hf
    exact j_iret rfl rfl (Nat.le_of_ble_eq_true rfl) (Nat.le_of_ble_eq_true rfl) ⟨rfl, rfl⟩
def rX6_orderInForce : Room := { frames := 2, cells := 0, slots := 0, locals := 43 }
def f_X6_orderInForce_L8 : Nat → xS → Int32 → Int32 → Int32 → Int32 → Int32 → Option (Int32)
  | 0, _, _, _, _, _, _ => none
  | n + 1, σ, x1, x2, x3, x4, x5 => if (σ.1 5 0) ≤ x5 then some (x3) else (f_X6_orderAt σ x5).bind fun r20 => oq r20 (f_X6_orderInForce_L8 n σ x1 x2 x3 x4 (x5 + 1)) (fun k23_1 => bif isO σ k23_1 then (σ.2.2.1 132 (k23_1 - 3000)).bind fun a36_3 => bif isT σ a36_3 then bif vin x1 6 then letm (σ.1 (1000 + (a36_3 - 3200)) (x1).toNatClampNeg) fun y41 => if y41 = (-1) then f_X6_orderInForce_L8 n σ x1 x2 x3 x4 (x5 + 1) else if x2 < y41 then f_X6_orderInForce_L8 n σ x1 x2 x3 x4 (x5 + 1) else if y41 < x4 then f_X6_orderInForce_L8 n σ x1 x2 x3 x4 (x5 + 1) else f_X6_orderInForce_L8 n σ x1 x2 x5 y41 (x5 + 1) else none else none else none)
set_option maxHeartbeats 4000000 in
set_option maxRecDepth 100000 in
theorem s_X6_orderInForce_L8 {Q : Option Value → hH → Prop} (g : hH) : ∀ (n : Nat) (σ : xS) (x1 : Int32) (x2 : Int32) (x3 : Int32) (x4 : Int32) (x5 : Int32) (r : Int32), f_X6_orderInForce_L8 n σ x1 x2 x3 x4 x5 = some r → (J mX6_orderInForce rX6_orderInForce Q 0 0 (gx g σ) 75 [(3, .int r)] []) → J mX6_orderInForce rX6_orderInForce Q 0 0 (gx g σ) 8 [(0, .ref 0), (1, .int x1), (2, .int x2), (3, .int x3), (4, .int x4), (5, .int x5)] [] := by
  intro n
  induction n with
  | zero =>
    intro σ x1 x2 x3 x4 x5 r hf
    cases hf
  | succ n ih =>
    intro σ x1 x2 x3 x4 x5 r hf k0
    rw [f_X6_orderInForce_L8] at hf
    refine j_iload (pc' := 10) rfl rfl rfl ?_
    refine j_aload_n (pc' := 11) rfl rfl rfl ?_
    refine j_get (pc' := 14) rfl rfl flX6_186 (gxk_0 g σ) (nsF_5 σ) ?_
    refine j_icmp_ge (tgt := 75) (pc' := 17) rfl rfl rfl (fun c14 => ?_) (fun c14 => ?_)
    · rw [if_pos c14] at hf
      have hf := Option.some.inj hf; subst hf
      exact j_sub (ls' := [(3, .int _)]) ⟨rfl, trivial⟩ (k0)
    · rw [if_neg c14] at hf
      refine j_aload_n (pc' := 18) rfl rfl rfl ?_
      refine j_iload (pc' := 20) rfl rfl rfl ?_
      obtain ⟨r20, e20, hf⟩ := o_bind hf
      refine j_v1 (pc' := 23) rfl rfl miX6_orderAt lnX6_202 (gxk_0 g σ) rfl (s_X6_orderAt g σ x5 _ e20) (h_rm_of rfl) (Nat.le_of_ble_eq_true rfl) (c' := 0) (s' := 0) rfl rfl ?_
      rcases o_q hf with ⟨q23_1, hf⟩ | ⟨k23_1, q23_1, hf⟩
      · rw [q23_1, va_rf_none]
        refine j_astoreN (pc' := 25) (ls' := [(6, _), (0, _), (1, _), (2, _), (3, _), (4, _), (5, _)]) rfl rfl (Nat.le_of_ble_eq_true rfl) rfl ?_
        refine j_aloadN (pc' := 27) rfl rfl rfl ?_
        refine j_ifnonnullN (pc' := 30) rfl rfl ?_
        refine j_iconst (v := (-1)) (pc' := 31) rfl rfl (by decide) ?_
        refine j_goto (tgt := 41) rfl rfl ?_
        refine j_istore (pc' := 43) (ls' := [(7, _), (6, _), (0, _), (1, _), (2, _), (3, _), (4, _), (5, _)]) rfl rfl (Nat.le_of_ble_eq_true rfl) rfl ?_
        refine j_iload (pc' := 45) rfl rfl rfl ?_
        refine j_iconst (v := (-1)) (pc' := 46) rfl rfl (by decide) ?_
        refine j_icmp_eq (tgt := 69) (pc' := 49) rfl rfl rfl (fun _ => ?_) (fun c46 => absurd c46 (by decide))
        refine j_iinc (pc' := 72) (d := 1) (ls' := [(5, _), (7, _), (6, _), (0, _), (1, _), (2, _), (3, _), (4, _)]) rfl rfl rfl (by decide) (Nat.le_of_ble_eq_true rfl) rfl ?_
        refine j_goto (tgt := 8) rfl rfl ?_
        refine j_sub (ls' := [(0, .ref 0), (1, .int _), (2, .int _), (3, .int _), (4, .int _), (5, .int _)]) ⟨rfl, rfl, rfl, rfl, rfl, rfl, trivial⟩ ?_
        exact ih _ _ _ _ _ _ _ hf k0
      · rw [q23_1, va_rf_some]
        refine j_astore (pc' := 25) (ls' := [(6, _), (0, _), (1, _), (2, _), (3, _), (4, _), (5, _)]) rfl rfl (Nat.le_of_ble_eq_true rfl) rfl ?_
        refine j_aload (pc' := 27) rfl rfl rfl ?_
        refine j_ifnonnull (tgt := 34) rfl rfl ?_
        refine j_aload (pc' := 36) rfl rfl rfl ?_
        obtain ⟨c36_2, hf⟩ := o_chk hf
        obtain ⟨a36_3, ea36_3, hf⟩ := o_bind hf
        refine j_get (pc' := 39) (v := .ref a36_3) rfl rfl flX6_206 (gx_ord c36_2) ((ordF_2 _ _).trans (by rw [ea36_3, va_rf_some])) ?_
        refine j_iload_n (pc' := 40) rfl rfl rfl ?_
        obtain ⟨c40_4, hf⟩ := o_chk hf
        obtain ⟨c40, hf⟩ := o_chk hf
        refine j_iald (pc' := 41) rfl rfl (gx_told c40_4) (vin_ok c40) ?_
        obtain ⟨y41, e41, hf⟩ := o_let hf
        rw [e41]
        refine j_istore (pc' := 43) (ls' := [(7, _), (6, _), (0, _), (1, _), (2, _), (3, _), (4, _), (5, _)]) rfl rfl (Nat.le_of_ble_eq_true rfl) rfl ?_
        refine j_iload (pc' := 45) rfl rfl rfl ?_
        refine j_iconst (v := (-1)) (pc' := 46) rfl rfl (by decide) ?_
        refine j_icmp_eq (tgt := 69) (pc' := 49) rfl rfl rfl (fun c46 => ?_) (fun c46 => ?_)
        · rw [if_pos c46] at hf
          refine j_iinc (pc' := 72) (d := 1) (ls' := [(5, _), (7, _), (6, _), (0, _), (1, _), (2, _), (3, _), (4, _)]) rfl rfl rfl (by decide) (Nat.le_of_ble_eq_true rfl) rfl ?_
          refine j_goto (tgt := 8) rfl rfl ?_
          refine j_sub (ls' := [(0, .ref 0), (1, .int _), (2, .int _), (3, .int _), (4, .int _), (5, .int _)]) ⟨rfl, rfl, rfl, rfl, rfl, rfl, trivial⟩ ?_
          exact ih _ _ _ _ _ _ _ hf k0
        · rw [if_neg c46] at hf
          refine j_iload (pc' := 51) rfl rfl rfl ?_
          refine j_iload_n (pc' := 52) rfl rfl rfl ?_
          refine j_icmp_gt (tgt := 69) (pc' := 55) rfl rfl rfl (fun c52 => ?_) (fun c52 => ?_)
          · rw [if_pos c52] at hf
            refine j_iinc (pc' := 72) (d := 1) (ls' := [(5, _), (7, _), (6, _), (0, _), (1, _), (2, _), (3, _), (4, _)]) rfl rfl rfl (by decide) (Nat.le_of_ble_eq_true rfl) rfl ?_
            refine j_goto (tgt := 8) rfl rfl ?_
            refine j_sub (ls' := [(0, .ref 0), (1, .int _), (2, .int _), (3, .int _), (4, .int _), (5, .int _)]) ⟨rfl, rfl, rfl, rfl, rfl, rfl, trivial⟩ ?_
            exact ih _ _ _ _ _ _ _ hf k0
          · rw [if_neg c52] at hf
            refine j_iload (pc' := 57) rfl rfl rfl ?_
            refine j_iload (pc' := 59) rfl rfl rfl ?_
            refine j_icmp_lt (tgt := 69) (pc' := 62) rfl rfl rfl (fun c59 => ?_) (fun c59 => ?_)
            · rw [if_pos c59] at hf
              refine j_iinc (pc' := 72) (d := 1) (ls' := [(5, _), (7, _), (6, _), (0, _), (1, _), (2, _), (3, _), (4, _)]) rfl rfl rfl (by decide) (Nat.le_of_ble_eq_true rfl) rfl ?_
              refine j_goto (tgt := 8) rfl rfl ?_
              refine j_sub (ls' := [(0, .ref 0), (1, .int _), (2, .int _), (3, .int _), (4, .int _), (5, .int _)]) ⟨rfl, rfl, rfl, rfl, rfl, rfl, trivial⟩ ?_
              exact ih _ _ _ _ _ _ _ hf k0
            · rw [if_neg c59] at hf
              refine j_iload (pc' := 64) rfl rfl rfl ?_
              refine j_istore_n (pc' := 65) (ls' := [(3, _), (7, _), (6, _), (0, _), (1, _), (2, _), (4, _), (5, _)]) rfl rfl (Nat.le_of_ble_eq_true rfl) rfl ?_
              refine j_iload (pc' := 67) rfl rfl rfl ?_
              refine j_istore (pc' := 69) (ls' := [(4, _), (3, _), (7, _), (6, _), (0, _), (1, _), (2, _), (5, _)]) rfl rfl (Nat.le_of_ble_eq_true rfl) rfl ?_
              refine j_iinc (pc' := 72) (d := 1) (ls' := [(5, _), (4, _), (3, _), (7, _), (6, _), (0, _), (1, _), (2, _)]) rfl rfl rfl (by decide) (Nat.le_of_ble_eq_true rfl) rfl ?_
              refine j_goto (tgt := 8) rfl rfl ?_
              refine j_sub (ls' := [(0, .ref 0), (1, .int _), (2, .int _), (3, .int _), (4, .int _), (5, .int _)]) ⟨rfl, rfl, rfl, rfl, rfl, rfl, trivial⟩ ?_
              exact ih _ _ _ _ _ _ _ hf k0
def f_X6_orderInForce (σ : xS) (x1 : Int32) (x2 : Int32) : Option Int32 := (f_X6_orderInForce_L8 4000 σ x1 x2 (-1) 0 0).bind fun r8 => some r8
set_option maxHeartbeats 4000000 in
set_option maxRecDepth 100000 in
theorem s_X6_orderInForce (g : hH) (σ : xS) (x1 : Int32) (x2 : Int32) (r : Int32) (hf : f_X6_orderInForce σ x1 x2 = some r) : SpD mX6_orderInForce rX6_orderInForce [.ref 0, .int x1, .int x2] (gx g σ) (some (.int r)) (gx g σ) := by
  refine sp_of miX6_orderInForce (Nat.le_of_ble_eq_true rfl) ?_
  show J _ _ _ 0 0 _ 0 [(0, .ref 0), (1, .int x1), (2, .int x2)] []
  unfold f_X6_orderInForce at hf
  refine j_iconst (v := (-1)) (pc' := 1) rfl rfl (by decide) ?_
  refine j_istore_n (pc' := 2) (ls' := [(3, _), (0, _), (1, _), (2, _)]) rfl rfl (Nat.le_of_ble_eq_true rfl) rfl ?_
  refine j_iconst (v := 0) (pc' := 3) rfl rfl (by decide) ?_
  refine j_istore (pc' := 5) (ls' := [(4, _), (3, _), (0, _), (1, _), (2, _)]) rfl rfl (Nat.le_of_ble_eq_true rfl) rfl ?_
  refine j_iconst (v := 0) (pc' := 6) rfl rfl (by decide) ?_
  refine j_istore (pc' := 8) (ls' := [(5, _), (4, _), (3, _), (0, _), (1, _), (2, _)]) rfl rfl (Nat.le_of_ble_eq_true rfl) rfl ?_
  obtain ⟨r8, e8, hf⟩ := o_bind hf
  refine j_sub (ls' := [(0, .ref 0), (1, .int _), (2, .int _), (3, .int _), (4, .int _), (5, .int _)]) ⟨rfl, rfl, rfl, rfl, rfl, rfl, trivial⟩ ?_
  refine s_X6_orderInForce_L8 g _ _ _ _ _ _ _ _ e8 ?_
  refine j_iload_n (pc' := 76) rfl rfl rfl ?_
  have hf := Option.some.inj hf; subst hf
  exact j_iret rfl rfl (Nat.le_of_ble_eq_true rfl) (Nat.le_of_ble_eq_true rfl) ⟨rfl, rfl⟩
def rX6_tell : Room := { frames := 2, cells := 0, slots := 0, locals := 43 }
def f_X6_tell (σ : xS) (x1 : Int32) (x2 : Int32) : Option (Int32 × xS) := (f_X6_orderAt σ x1).bind fun r2 => oq r2 (some ((-1), σ)) (fun k5_1 => (f_X6_isTown x2).bind fun r11 => if r11 = 0 then some ((-1), σ) else bif isO σ k5_1 then (σ.2.2.1 132 (k5_1 - 3000)).bind fun a20_3 => bif isT σ a20_3 then bif vin x2 6 then if (σ.1 (1000 + (a20_3 - 3200)) (x2).toNatClampNeg) = (-1) then (σ.2.2.1 132 (k5_1 - 3000)).bind fun a32_5 => bif isT σ a32_5 then bif vin x2 6 then letm (xi σ (1000 + (a32_5 - 3200)) (va_up (σ.1 (1000 + (a32_5 - 3200))) (x2).toNatClampNeg (σ.1 16 0))) fun σ40 => some (1, σ40) else none else none else some (0, σ) else none else none else none)
set_option maxHeartbeats 4000000 in
set_option maxRecDepth 100000 in
theorem s_X6_tell (g : hH) (σ : xS) (x1 : Int32) (x2 : Int32) (r : (Int32 × xS)) (hf : f_X6_tell σ x1 x2 = some r) : SpD mX6_tell rX6_tell [.ref 0, .int x1, .int x2] (gx g σ) (some (.int r.1)) (gx g r.2) := by
  refine sp_of miX6_tell (Nat.le_of_ble_eq_true rfl) ?_
  show J _ _ _ 0 0 _ 0 [(0, .ref 0), (1, .int x1), (2, .int x2)] []
  unfold f_X6_tell at hf
  refine j_aload_n (pc' := 1) rfl rfl rfl ?_
  refine j_iload_n (pc' := 2) rfl rfl rfl ?_
  obtain ⟨r2, e2, hf⟩ := o_bind hf
  refine j_v1 (pc' := 5) rfl rfl miX6_orderAt lnX6_202 (gxk_0 g σ) rfl (s_X6_orderAt g σ x1 _ e2) (h_rm_of rfl) (Nat.le_of_ble_eq_true rfl) (c' := 0) (s' := 0) rfl rfl ?_
  rcases o_q hf with ⟨q5_1, hf⟩ | ⟨k5_1, q5_1, hf⟩
  · rw [q5_1, va_rf_none]
    refine j_astore_nN (pc' := 6) (ls' := [(3, _), (0, _), (1, _), (2, _)]) rfl rfl (Nat.le_of_ble_eq_true rfl) rfl ?_
    refine j_aload_nN (pc' := 7) rfl rfl rfl ?_
    refine j_ifnullN (tgt := 17) rfl rfl ?_
    refine j_iconst (v := (-1)) (pc' := 18) rfl rfl (by decide) ?_
    have hf := Option.some.inj hf; subst hf
    exact j_iret rfl rfl (Nat.le_of_ble_eq_true rfl) (Nat.le_of_ble_eq_true rfl) ⟨rfl, rfl⟩
  · rw [q5_1, va_rf_some]
    refine j_astore_n (pc' := 6) (ls' := [(3, _), (0, _), (1, _), (2, _)]) rfl rfl (Nat.le_of_ble_eq_true rfl) rfl ?_
    refine j_aload_n (pc' := 7) rfl rfl rfl ?_
    refine j_ifnull (pc' := 10) rfl rfl ?_
    refine j_iload_n (pc' := 11) rfl rfl rfl ?_
    obtain ⟨r11, e11, hf⟩ := o_bind hf
    refine j_s1 (pc' := 14) rfl rfl miX6_isTown lnX6_89 (s_X6_isTown (gx g σ) x2 _ e11) (h_rm_of rfl) (Nat.le_of_ble_eq_true rfl) (c' := 0) (s' := 0) rfl rfl ?_
    refine j_if_ne (tgt := 19) (pc' := 17) rfl rfl rfl (fun c14 => ?_) (fun c14 => ?_)
    · rw [if_neg c14] at hf
      refine j_aload_n (pc' := 20) rfl rfl rfl ?_
      obtain ⟨c20_2, hf⟩ := o_chk hf
      obtain ⟨a20_3, ea20_3, hf⟩ := o_bind hf
      refine j_get (pc' := 23) (v := .ref a20_3) rfl rfl flX6_206 (gx_ord c20_2) ((ordF_2 _ _).trans (by rw [ea20_3, va_rf_some])) ?_
      refine j_iload_n (pc' := 24) rfl rfl rfl ?_
      obtain ⟨c24_4, hf⟩ := o_chk hf
      obtain ⟨c24, hf⟩ := o_chk hf
      refine j_iald (pc' := 25) rfl rfl (gx_told c24_4) (vin_ok c24) ?_
      refine j_iconst (v := (-1)) (pc' := 26) rfl rfl (by decide) ?_
      refine j_icmp_eq (tgt := 31) (pc' := 29) rfl rfl rfl (fun c26 => ?_) (fun c26 => ?_)
      · rw [if_pos c26] at hf
        refine j_aload_n (pc' := 32) rfl rfl rfl ?_
        obtain ⟨a32_5, ea32_5, hf⟩ := o_bind hf
        refine j_get (pc' := 35) (v := .ref a32_5) rfl rfl flX6_206 (gx_ord c20_2) ((ordF_2 _ _).trans (by rw [ea32_5, va_rf_some])) ?_
        refine j_iload_n (pc' := 36) rfl rfl rfl ?_
        refine j_aload_n (pc' := 37) rfl rfl rfl ?_
        refine j_get (pc' := 40) rfl rfl flX6_154 (gxk_0 g σ) (nsF_16 σ) ?_
        obtain ⟨c40_6, hf⟩ := o_chk hf
        obtain ⟨c40, hf⟩ := o_chk hf
        obtain ⟨σ40, e40, hf⟩ := o_let hf
        refine j_iast (pc' := 41) rfl rfl (gx_told c40_6) (lt_T c40_6) (vin_ok c40) ?_
        rw [gxs_told c40_6]; rw [e40]
        refine j_iconst (v := 1) (pc' := 42) rfl rfl (by decide) ?_
        have hf := Option.some.inj hf; subst hf
        exact j_iret rfl rfl (Nat.le_of_ble_eq_true rfl) (Nat.le_of_ble_eq_true rfl) ⟨rfl, rfl⟩
      · rw [if_neg c26] at hf
        refine j_iconst (v := 0) (pc' := 30) rfl rfl (by decide) ?_
        have hf := Option.some.inj hf; subst hf
        exact j_iret rfl rfl (Nat.le_of_ble_eq_true rfl) (Nat.le_of_ble_eq_true rfl) ⟨rfl, rfl⟩
    · rw [if_pos c14] at hf
      refine j_iconst (v := (-1)) (pc' := 18) rfl rfl (by decide) ?_
      have hf := Option.some.inj hf; subst hf
      exact j_iret rfl rfl (Nat.le_of_ble_eq_true rfl) (Nat.le_of_ble_eq_true rfl) ⟨rfl, rfl⟩
def rX6_force : Room := { frames := 3, cells := 0, slots := 0, locals := 70 }
def f_X6_force (σ : xS) (x1 : Int32) (x2 : Int32) : Option Int32 := (f_X6_isTown x1).bind fun r1 => if r1 = 0 then some (-1) else (f_X6_orderInForce σ x1 x2).bind fun r10 => some r10
set_option maxHeartbeats 4000000 in
set_option maxRecDepth 100000 in
theorem s_X6_force (g : hH) (σ : xS) (x1 : Int32) (x2 : Int32) (r : Int32) (hf : f_X6_force σ x1 x2 = some r) : SpD mX6_force rX6_force [.ref 0, .int x1, .int x2] (gx g σ) (some (.int r)) (gx g σ) := by
  refine sp_of miX6_force (Nat.le_of_ble_eq_true rfl) ?_
  show J _ _ _ 0 0 _ 0 [(0, .ref 0), (1, .int x1), (2, .int x2)] []
  unfold f_X6_force at hf
  refine j_iload_n (pc' := 1) rfl rfl rfl ?_
  obtain ⟨r1, e1, hf⟩ := o_bind hf
  refine j_s1 (pc' := 4) rfl rfl miX6_isTown lnX6_89 (s_X6_isTown (gx g σ) x1 _ e1) (h_rm_of rfl) (Nat.le_of_ble_eq_true rfl) (c' := 0) (s' := 0) rfl rfl ?_
  refine j_if_eq (tgt := 16) (pc' := 7) rfl rfl rfl (fun c4 => ?_) (fun c4 => ?_)
  · rw [if_pos c4] at hf
    refine j_iconst (v := (-1)) (pc' := 17) rfl rfl (by decide) ?_
    have hf := Option.some.inj hf; subst hf
    exact j_iret rfl rfl (Nat.le_of_ble_eq_true rfl) (Nat.le_of_ble_eq_true rfl) ⟨rfl, rfl⟩
  · rw [if_neg c4] at hf
    refine j_aload_n (pc' := 8) rfl rfl rfl ?_
    refine j_iload_n (pc' := 9) rfl rfl rfl ?_
    refine j_iload_n (pc' := 10) rfl rfl rfl ?_
    obtain ⟨r10, e10, hf⟩ := o_bind hf
    refine j_v2 (pc' := 13) rfl rfl miX6_orderInForce lnX6_209 (gxk_0 g σ) rfl (s_X6_orderInForce g σ x1 x2 _ e10) (h_rm_of rfl) (Nat.le_of_ble_eq_true rfl) (c' := 0) (s' := 0) rfl rfl ?_
    refine j_goto (tgt := 17) rfl rfl ?_
    have hf := Option.some.inj hf; subst hf
    exact j_iret rfl rfl (Nat.le_of_ble_eq_true rfl) (Nat.le_of_ble_eq_true rfl) ⟨rfl, rfl⟩
def rX6_worthOf : Room := { frames := 0, cells := 0, slots := 0, locals := 0 }
def f_X6_worthOf (σ : xS) (x0 : Nat) (x1 : Int32) (x2 : Option Nat) : Option Int32 := bif isL σ x0 then if (σ.1 110 (x0 - 1000)) = 0 then oq x2 (if (σ.1 104 (x0 - 1000)) = 3 then some 0 else if (σ.1 111 (x0 - 1000)) = 0 then (σ.2.2.1 101 (x0 - 1000)).bind fun a64_3 => bif isS σ a64_3 then some ((σ.1 102 (x0 - 1000)) * (σ.1 123 (a64_3 - 2000))) else none else some 0) (fun k20_2 => if (σ.1 104 (x0 - 1000)) = 3 then some 0 else if (σ.1 111 (x0 - 1000)) = 0 then bif isO σ k20_2 then (σ.2.2.1 130 (k20_2 - 3000)).bind fun a47_6 => bif isPe σ a47_6 then bif vin (σ.1 100 (x0 - 1000)) 8 then if (σ.1 (2000 + (a47_6 - 3400)) ((σ.1 100 (x0 - 1000))).toNatClampNeg) = (-1) then (σ.2.2.1 101 (x0 - 1000)).bind fun a64_14 => bif isS σ a64_14 then some ((σ.1 102 (x0 - 1000)) * (σ.1 123 (a64_14 - 2000))) else none else (σ.2.2.1 131 (k20_2 - 3000)).bind fun a73_8 => bif isGr σ a73_8 then bif vin (σ.1 100 (x0 - 1000)) 8 then letm (σ.1 (3000 + (a73_8 - 3600)) ((σ.1 100 (x0 - 1000))).toNatClampNeg) fun y81 => if y81 ≤ 0 then (σ.2.2.1 130 (k20_2 - 3000)).bind fun a107_10 => bif isPe σ a107_10 then bif vin (σ.1 100 (x0 - 1000)) 8 then some ((σ.1 (2000 + (a107_10 - 3400)) ((σ.1 100 (x0 - 1000))).toNatClampNeg) * (σ.1 102 (x0 - 1000))) else none else none else (σ.2.2.1 130 (k20_2 - 3000)).bind fun a89_12 => bif isPe σ a89_12 then bif vin (σ.1 100 (x0 - 1000)) 8 then if y81 = 0 then none else some (((σ.1 (2000 + (a89_12 - 3400)) ((σ.1 100 (x0 - 1000))).toNatClampNeg) * (σ.1 105 (x0 - 1000))) / y81) else none else none else none else none else none else none else none else some 0) else if (σ.1 106 (x0 - 1000)) = x1 then oq x2 (if (σ.1 104 (x0 - 1000)) = 3 then some 0 else if (σ.1 111 (x0 - 1000)) = 0 then some 0 else some 0) (fun k20_30 => if (σ.1 104 (x0 - 1000)) = 3 then some 0 else if (σ.1 111 (x0 - 1000)) = 0 then some 0 else some 0) else oq x2 (if (σ.1 104 (x0 - 1000)) = 3 then some 0 else if (σ.1 111 (x0 - 1000)) = 0 then (σ.2.2.1 101 (x0 - 1000)).bind fun a64_17 => bif isS σ a64_17 then some ((σ.1 102 (x0 - 1000)) * (σ.1 123 (a64_17 - 2000))) else none else some 0) (fun k20_16 => if (σ.1 104 (x0 - 1000)) = 3 then some 0 else if (σ.1 111 (x0 - 1000)) = 0 then bif isO σ k20_16 then (σ.2.2.1 130 (k20_16 - 3000)).bind fun a47_20 => bif isPe σ a47_20 then bif vin (σ.1 100 (x0 - 1000)) 8 then if (σ.1 (2000 + (a47_20 - 3400)) ((σ.1 100 (x0 - 1000))).toNatClampNeg) = (-1) then (σ.2.2.1 101 (x0 - 1000)).bind fun a64_28 => bif isS σ a64_28 then some ((σ.1 102 (x0 - 1000)) * (σ.1 123 (a64_28 - 2000))) else none else (σ.2.2.1 131 (k20_16 - 3000)).bind fun a73_22 => bif isGr σ a73_22 then bif vin (σ.1 100 (x0 - 1000)) 8 then letm (σ.1 (3000 + (a73_22 - 3600)) ((σ.1 100 (x0 - 1000))).toNatClampNeg) fun y81 => if y81 ≤ 0 then (σ.2.2.1 130 (k20_16 - 3000)).bind fun a107_24 => bif isPe σ a107_24 then bif vin (σ.1 100 (x0 - 1000)) 8 then some ((σ.1 (2000 + (a107_24 - 3400)) ((σ.1 100 (x0 - 1000))).toNatClampNeg) * (σ.1 102 (x0 - 1000))) else none else none else (σ.2.2.1 130 (k20_16 - 3000)).bind fun a89_26 => bif isPe σ a89_26 then bif vin (σ.1 100 (x0 - 1000)) 8 then if y81 = 0 then none else some (((σ.1 (2000 + (a89_26 - 3400)) ((σ.1 100 (x0 - 1000))).toNatClampNeg) * (σ.1 105 (x0 - 1000))) / y81) else none else none else none else none else none else none else none else some 0) else none
set_option maxHeartbeats 4000000 in
set_option maxRecDepth 100000 in
theorem s_X6_worthOf (g : hH) (σ : xS) (x0 : Nat) (x1 : Int32) (x2 : Option Nat) (r : Int32) (hf : f_X6_worthOf σ x0 x1 x2 = some r) : SpD mX6_worthOf rX6_worthOf [.ref x0, .int x1, va_rf x2] (gx g σ) (some (.int r)) (gx g σ) := by
  refine sp_of miX6_worthOf (by cases x2 <;> exact Nat.le_of_ble_eq_true rfl) ?_
  have hls : lv_args 0 [.ref x0, .int x1, va_rf x2] = [(0, .ref x0), (1, .int x1), (2, va_rf x2)] := by cases x2 <;> rfl
  rw [hls]
  unfold f_X6_worthOf at hf
  refine j_aload_n (pc' := 1) rfl rfl rfl ?_
  obtain ⟨c1_1, hf⟩ := o_chk hf
  refine j_get (pc' := 4) (v := .int (σ.1 110 (x0 - 1000))) rfl rfl flX6_167 (gx_lot c1_1) (lotF_10 _ _) ?_
  refine j_if_eq (tgt := 19) (pc' := 7) rfl rfl rfl (fun c4 => ?_) (fun c4 => ?_)
  · rw [if_pos c4] at hf
    refine j_iconst (v := 0) (pc' := 20) rfl rfl (by decide) ?_
    rcases o_q hf with ⟨q20_2, hf⟩ | ⟨k20_2, q20_2, hf⟩
    · rw [q20_2, va_rf_none]
      refine j_istore_n (pc' := 21) (ls' := [(3, _), (0, _), (1, _), (2, _)]) rfl rfl (Nat.le_of_ble_eq_true rfl) rfl ?_
      refine j_aload_n (pc' := 22) rfl rfl rfl ?_
      refine j_get (pc' := 25) (v := .int (σ.1 104 (x0 - 1000))) rfl rfl flX6_137 (gx_lot c1_1) (lotF_4 _ _) ?_
      refine j_iconst (v := 3) (pc' := 26) rfl rfl (by decide) ?_
      refine j_icmp_eq (tgt := 40) (pc' := 29) rfl rfl rfl (fun c26 => ?_) (fun c26 => ?_)
      · rw [if_pos c26] at hf
        refine j_iconst (v := 0) (pc' := 41) rfl rfl (by decide) ?_
        have hf := Option.some.inj hf; subst hf
        exact j_iret rfl rfl (Nat.le_of_ble_eq_true rfl) (Nat.le_of_ble_eq_true rfl) ⟨rfl, rfl⟩
      · rw [if_neg c26] at hf
        refine j_aload_n (pc' := 30) rfl rfl rfl ?_
        refine j_get (pc' := 33) (v := .int (σ.1 111 (x0 - 1000))) rfl rfl flX6_170 (gx_lot c1_1) (lotF_11 _ _) ?_
        refine j_if_ne (tgt := 40) (pc' := 36) rfl rfl rfl (fun c33 => ?_) (fun c33 => ?_)
        · rw [if_neg c33] at hf
          refine j_iconst (v := 0) (pc' := 41) rfl rfl (by decide) ?_
          have hf := Option.some.inj hf; subst hf
          exact j_iret rfl rfl (Nat.le_of_ble_eq_true rfl) (Nat.le_of_ble_eq_true rfl) ⟨rfl, rfl⟩
        · rw [if_pos c33] at hf
          refine j_iload_n (pc' := 37) rfl rfl rfl ?_
          refine j_if_eq (tgt := 42) (pc' := 40) rfl rfl rfl (fun _ => ?_) (fun c37 => absurd c37 (by decide))
          refine j_aload_nN (pc' := 43) rfl rfl rfl ?_
          refine j_ifnullN (tgt := 59) rfl rfl ?_
          refine j_aload_n (pc' := 60) rfl rfl rfl ?_
          refine j_get (pc' := 63) (v := .int (σ.1 102 (x0 - 1000))) rfl rfl flX6_120 (gx_lot c1_1) (lotF_2 _ _) ?_
          refine j_aload_n (pc' := 64) rfl rfl rfl ?_
          obtain ⟨a64_3, ea64_3, hf⟩ := o_bind hf
          refine j_get (pc' := 67) (v := .ref a64_3) rfl rfl flX6_123 (gx_lot c1_1) ((lotF_1 _ _).trans (by rw [ea64_3, va_rf_some])) ?_
          obtain ⟨c67_4, hf⟩ := o_chk hf
          refine j_get (pc' := 70) (v := .int (σ.1 123 (a64_3 - 2000))) rfl rfl flX6_321 (gx_sort c67_4) (sortF_3 _ _) ?_
          refine j_imul (pc' := 71) rfl rfl ?_
          have hf := Option.some.inj hf; subst hf
          exact j_iret rfl rfl (Nat.le_of_ble_eq_true rfl) (Nat.le_of_ble_eq_true rfl) ⟨rfl, rfl⟩
    · rw [q20_2, va_rf_some]
      refine j_istore_n (pc' := 21) (ls' := [(3, _), (0, _), (1, _), (2, _)]) rfl rfl (Nat.le_of_ble_eq_true rfl) rfl ?_
      refine j_aload_n (pc' := 22) rfl rfl rfl ?_
      refine j_get (pc' := 25) (v := .int (σ.1 104 (x0 - 1000))) rfl rfl flX6_137 (gx_lot c1_1) (lotF_4 _ _) ?_
      refine j_iconst (v := 3) (pc' := 26) rfl rfl (by decide) ?_
      refine j_icmp_eq (tgt := 40) (pc' := 29) rfl rfl rfl (fun c26 => ?_) (fun c26 => ?_)
      · rw [if_pos c26] at hf
        refine j_iconst (v := 0) (pc' := 41) rfl rfl (by decide) ?_
        have hf := Option.some.inj hf; subst hf
        exact j_iret rfl rfl (Nat.le_of_ble_eq_true rfl) (Nat.le_of_ble_eq_true rfl) ⟨rfl, rfl⟩
      · rw [if_neg c26] at hf
        refine j_aload_n (pc' := 30) rfl rfl rfl ?_
        refine j_get (pc' := 33) (v := .int (σ.1 111 (x0 - 1000))) rfl rfl flX6_170 (gx_lot c1_1) (lotF_11 _ _) ?_
        refine j_if_ne (tgt := 40) (pc' := 36) rfl rfl rfl (fun c33 => ?_) (fun c33 => ?_)
        · rw [if_neg c33] at hf
          refine j_iconst (v := 0) (pc' := 41) rfl rfl (by decide) ?_
          have hf := Option.some.inj hf; subst hf
          exact j_iret rfl rfl (Nat.le_of_ble_eq_true rfl) (Nat.le_of_ble_eq_true rfl) ⟨rfl, rfl⟩
        · rw [if_pos c33] at hf
          refine j_iload_n (pc' := 37) rfl rfl rfl ?_
          refine j_if_eq (tgt := 42) (pc' := 40) rfl rfl rfl (fun _ => ?_) (fun c37 => absurd c37 (by decide))
          refine j_aload_n (pc' := 43) rfl rfl rfl ?_
          refine j_ifnull (pc' := 46) rfl rfl ?_
          refine j_aload_n (pc' := 47) rfl rfl rfl ?_
          obtain ⟨c47_5, hf⟩ := o_chk hf
          obtain ⟨a47_6, ea47_6, hf⟩ := o_bind hf
          refine j_get (pc' := 50) (v := .ref a47_6) rfl rfl flX6_320 (gx_ord c47_5) ((ordF_0 _ _).trans (by rw [ea47_6, va_rf_some])) ?_
          refine j_aload_n (pc' := 51) rfl rfl rfl ?_
          refine j_get (pc' := 54) (v := .int (σ.1 100 (x0 - 1000))) rfl rfl flX6_147 (gx_lot c1_1) (lotF_0 _ _) ?_
          obtain ⟨c54_7, hf⟩ := o_chk hf
          obtain ⟨c54, hf⟩ := o_chk hf
          refine j_iald (pc' := 55) rfl rfl (gx_pence c54_7) (vin_ok c54) ?_
          refine j_iconst (v := (-1)) (pc' := 56) rfl rfl (by decide) ?_
          refine j_icmp_ne (tgt := 72) (pc' := 59) rfl rfl rfl (fun c56 => ?_) (fun c56 => ?_)
          · rw [if_neg c56] at hf
            refine j_aload_n (pc' := 73) rfl rfl rfl ?_
            obtain ⟨a73_8, ea73_8, hf⟩ := o_bind hf
            refine j_get (pc' := 76) (v := .ref a73_8) rfl rfl flX6_224 (gx_ord c47_5) ((ordF_1 _ _).trans (by rw [ea73_8, va_rf_some])) ?_
            refine j_aload_n (pc' := 77) rfl rfl rfl ?_
            refine j_get (pc' := 80) (v := .int (σ.1 100 (x0 - 1000))) rfl rfl flX6_147 (gx_lot c1_1) (lotF_0 _ _) ?_
            obtain ⟨c80_9, hf⟩ := o_chk hf
            obtain ⟨c80, hf⟩ := o_chk hf
            refine j_iald (pc' := 81) rfl rfl (gx_grains c80_9) (vin_ok c80) ?_
            obtain ⟨y81, e81, hf⟩ := o_let hf
            rw [e81]
            refine j_istore (pc' := 83) (ls' := [(4, _), (3, _), (0, _), (1, _), (2, _)]) rfl rfl (Nat.le_of_ble_eq_true rfl) rfl ?_
            refine j_iload (pc' := 85) rfl rfl rfl ?_
            refine j_if_le (tgt := 106) (pc' := 88) rfl rfl rfl (fun c85 => ?_) (fun c85 => ?_)
            · rw [if_pos c85] at hf
              refine j_aload_n (pc' := 107) rfl rfl rfl ?_
              obtain ⟨a107_10, ea107_10, hf⟩ := o_bind hf
              refine j_get (pc' := 110) (v := .ref a107_10) rfl rfl flX6_320 (gx_ord c47_5) ((ordF_0 _ _).trans (by rw [ea107_10, va_rf_some])) ?_
              refine j_aload_n (pc' := 111) rfl rfl rfl ?_
              refine j_get (pc' := 114) (v := .int (σ.1 100 (x0 - 1000))) rfl rfl flX6_147 (gx_lot c1_1) (lotF_0 _ _) ?_
              obtain ⟨c114_11, hf⟩ := o_chk hf
              obtain ⟨c114, hf⟩ := o_chk hf
              refine j_iald (pc' := 115) rfl rfl (gx_pence c114_11) (vin_ok c114) ?_
              refine j_aload_n (pc' := 116) rfl rfl rfl ?_
              refine j_get (pc' := 119) (v := .int (σ.1 102 (x0 - 1000))) rfl rfl flX6_120 (gx_lot c1_1) (lotF_2 _ _) ?_
              refine j_imul (pc' := 120) rfl rfl ?_
              have hf := Option.some.inj hf; subst hf
              exact j_iret rfl rfl (Nat.le_of_ble_eq_true rfl) (Nat.le_of_ble_eq_true rfl) ⟨rfl, rfl⟩
            · rw [if_neg c85] at hf
              refine j_aload_n (pc' := 89) rfl rfl rfl ?_
              obtain ⟨a89_12, ea89_12, hf⟩ := o_bind hf
              refine j_get (pc' := 92) (v := .ref a89_12) rfl rfl flX6_320 (gx_ord c47_5) ((ordF_0 _ _).trans (by rw [ea89_12, va_rf_some])) ?_
              refine j_aload_n (pc' := 93) rfl rfl rfl ?_
              refine j_get (pc' := 96) (v := .int (σ.1 100 (x0 - 1000))) rfl rfl flX6_147 (gx_lot c1_1) (lotF_0 _ _) ?_
              obtain ⟨c96_13, hf⟩ := o_chk hf
              obtain ⟨c96, hf⟩ := o_chk hf
              refine j_iald (pc' := 97) rfl rfl (gx_pence c96_13) (vin_ok c96) ?_
              refine j_aload_n (pc' := 98) rfl rfl rfl ?_
              refine j_get (pc' := 101) (v := .int (σ.1 105 (x0 - 1000))) rfl rfl flX6_140 (gx_lot c1_1) (lotF_5 _ _) ?_
              refine j_imul (pc' := 102) rfl rfl ?_
              refine j_iload (pc' := 104) rfl rfl rfl ?_
              obtain ⟨c104, hf⟩ := o_nz hf
              refine j_idiv (pc' := 105) rfl rfl c104 ?_
              have hf := Option.some.inj hf; subst hf
              exact j_iret rfl rfl (Nat.le_of_ble_eq_true rfl) (Nat.le_of_ble_eq_true rfl) ⟨rfl, rfl⟩
          · rw [if_pos c56] at hf
            refine j_aload_n (pc' := 60) rfl rfl rfl ?_
            refine j_get (pc' := 63) (v := .int (σ.1 102 (x0 - 1000))) rfl rfl flX6_120 (gx_lot c1_1) (lotF_2 _ _) ?_
            refine j_aload_n (pc' := 64) rfl rfl rfl ?_
            obtain ⟨a64_14, ea64_14, hf⟩ := o_bind hf
            refine j_get (pc' := 67) (v := .ref a64_14) rfl rfl flX6_123 (gx_lot c1_1) ((lotF_1 _ _).trans (by rw [ea64_14, va_rf_some])) ?_
            obtain ⟨c67_15, hf⟩ := o_chk hf
            refine j_get (pc' := 70) (v := .int (σ.1 123 (a64_14 - 2000))) rfl rfl flX6_321 (gx_sort c67_15) (sortF_3 _ _) ?_
            refine j_imul (pc' := 71) rfl rfl ?_
            have hf := Option.some.inj hf; subst hf
            exact j_iret rfl rfl (Nat.le_of_ble_eq_true rfl) (Nat.le_of_ble_eq_true rfl) ⟨rfl, rfl⟩
  · rw [if_neg c4] at hf
    refine j_aload_n (pc' := 8) rfl rfl rfl ?_
    refine j_get (pc' := 11) (v := .int (σ.1 106 (x0 - 1000))) rfl rfl flX6_109 (gx_lot c1_1) (lotF_6 _ _) ?_
    refine j_iload_n (pc' := 12) rfl rfl rfl ?_
    refine j_icmp_ne (tgt := 19) (pc' := 15) rfl rfl rfl (fun c12 => ?_) (fun c12 => ?_)
    · rw [if_neg c12] at hf
      refine j_iconst (v := 0) (pc' := 20) rfl rfl (by decide) ?_
      rcases o_q hf with ⟨q20_16, hf⟩ | ⟨k20_16, q20_16, hf⟩
      · rw [q20_16, va_rf_none]
        refine j_istore_n (pc' := 21) (ls' := [(3, _), (0, _), (1, _), (2, _)]) rfl rfl (Nat.le_of_ble_eq_true rfl) rfl ?_
        refine j_aload_n (pc' := 22) rfl rfl rfl ?_
        refine j_get (pc' := 25) (v := .int (σ.1 104 (x0 - 1000))) rfl rfl flX6_137 (gx_lot c1_1) (lotF_4 _ _) ?_
        refine j_iconst (v := 3) (pc' := 26) rfl rfl (by decide) ?_
        refine j_icmp_eq (tgt := 40) (pc' := 29) rfl rfl rfl (fun c26 => ?_) (fun c26 => ?_)
        · rw [if_pos c26] at hf
          refine j_iconst (v := 0) (pc' := 41) rfl rfl (by decide) ?_
          have hf := Option.some.inj hf; subst hf
          exact j_iret rfl rfl (Nat.le_of_ble_eq_true rfl) (Nat.le_of_ble_eq_true rfl) ⟨rfl, rfl⟩
        · rw [if_neg c26] at hf
          refine j_aload_n (pc' := 30) rfl rfl rfl ?_
          refine j_get (pc' := 33) (v := .int (σ.1 111 (x0 - 1000))) rfl rfl flX6_170 (gx_lot c1_1) (lotF_11 _ _) ?_
          refine j_if_ne (tgt := 40) (pc' := 36) rfl rfl rfl (fun c33 => ?_) (fun c33 => ?_)
          · rw [if_neg c33] at hf
            refine j_iconst (v := 0) (pc' := 41) rfl rfl (by decide) ?_
            have hf := Option.some.inj hf; subst hf
            exact j_iret rfl rfl (Nat.le_of_ble_eq_true rfl) (Nat.le_of_ble_eq_true rfl) ⟨rfl, rfl⟩
          · rw [if_pos c33] at hf
            refine j_iload_n (pc' := 37) rfl rfl rfl ?_
            refine j_if_eq (tgt := 42) (pc' := 40) rfl rfl rfl (fun _ => ?_) (fun c37 => absurd c37 (by decide))
            refine j_aload_nN (pc' := 43) rfl rfl rfl ?_
            refine j_ifnullN (tgt := 59) rfl rfl ?_
            refine j_aload_n (pc' := 60) rfl rfl rfl ?_
            refine j_get (pc' := 63) (v := .int (σ.1 102 (x0 - 1000))) rfl rfl flX6_120 (gx_lot c1_1) (lotF_2 _ _) ?_
            refine j_aload_n (pc' := 64) rfl rfl rfl ?_
            obtain ⟨a64_17, ea64_17, hf⟩ := o_bind hf
            refine j_get (pc' := 67) (v := .ref a64_17) rfl rfl flX6_123 (gx_lot c1_1) ((lotF_1 _ _).trans (by rw [ea64_17, va_rf_some])) ?_
            obtain ⟨c67_18, hf⟩ := o_chk hf
            refine j_get (pc' := 70) (v := .int (σ.1 123 (a64_17 - 2000))) rfl rfl flX6_321 (gx_sort c67_18) (sortF_3 _ _) ?_
            refine j_imul (pc' := 71) rfl rfl ?_
            have hf := Option.some.inj hf; subst hf
            exact j_iret rfl rfl (Nat.le_of_ble_eq_true rfl) (Nat.le_of_ble_eq_true rfl) ⟨rfl, rfl⟩
      · rw [q20_16, va_rf_some]
        refine j_istore_n (pc' := 21) (ls' := [(3, _), (0, _), (1, _), (2, _)]) rfl rfl (Nat.le_of_ble_eq_true rfl) rfl ?_
        refine j_aload_n (pc' := 22) rfl rfl rfl ?_
        refine j_get (pc' := 25) (v := .int (σ.1 104 (x0 - 1000))) rfl rfl flX6_137 (gx_lot c1_1) (lotF_4 _ _) ?_
        refine j_iconst (v := 3) (pc' := 26) rfl rfl (by decide) ?_
        refine j_icmp_eq (tgt := 40) (pc' := 29) rfl rfl rfl (fun c26 => ?_) (fun c26 => ?_)
        · rw [if_pos c26] at hf
          refine j_iconst (v := 0) (pc' := 41) rfl rfl (by decide) ?_
          have hf := Option.some.inj hf; subst hf
          exact j_iret rfl rfl (Nat.le_of_ble_eq_true rfl) (Nat.le_of_ble_eq_true rfl) ⟨rfl, rfl⟩
        · rw [if_neg c26] at hf
          refine j_aload_n (pc' := 30) rfl rfl rfl ?_
          refine j_get (pc' := 33) (v := .int (σ.1 111 (x0 - 1000))) rfl rfl flX6_170 (gx_lot c1_1) (lotF_11 _ _) ?_
          refine j_if_ne (tgt := 40) (pc' := 36) rfl rfl rfl (fun c33 => ?_) (fun c33 => ?_)
          · rw [if_neg c33] at hf
            refine j_iconst (v := 0) (pc' := 41) rfl rfl (by decide) ?_
            have hf := Option.some.inj hf; subst hf
            exact j_iret rfl rfl (Nat.le_of_ble_eq_true rfl) (Nat.le_of_ble_eq_true rfl) ⟨rfl, rfl⟩
          · rw [if_pos c33] at hf
            refine j_iload_n (pc' := 37) rfl rfl rfl ?_
            refine j_if_eq (tgt := 42) (pc' := 40) rfl rfl rfl (fun _ => ?_) (fun c37 => absurd c37 (by decide))
            refine j_aload_n (pc' := 43) rfl rfl rfl ?_
            refine j_ifnull (pc' := 46) rfl rfl ?_
            refine j_aload_n (pc' := 47) rfl rfl rfl ?_
            obtain ⟨c47_19, hf⟩ := o_chk hf
            obtain ⟨a47_20, ea47_20, hf⟩ := o_bind hf
            refine j_get (pc' := 50) (v := .ref a47_20) rfl rfl flX6_320 (gx_ord c47_19) ((ordF_0 _ _).trans (by rw [ea47_20, va_rf_some])) ?_
            refine j_aload_n (pc' := 51) rfl rfl rfl ?_
            refine j_get (pc' := 54) (v := .int (σ.1 100 (x0 - 1000))) rfl rfl flX6_147 (gx_lot c1_1) (lotF_0 _ _) ?_
            obtain ⟨c54_21, hf⟩ := o_chk hf
            obtain ⟨c54, hf⟩ := o_chk hf
            refine j_iald (pc' := 55) rfl rfl (gx_pence c54_21) (vin_ok c54) ?_
            refine j_iconst (v := (-1)) (pc' := 56) rfl rfl (by decide) ?_
            refine j_icmp_ne (tgt := 72) (pc' := 59) rfl rfl rfl (fun c56 => ?_) (fun c56 => ?_)
            · rw [if_neg c56] at hf
              refine j_aload_n (pc' := 73) rfl rfl rfl ?_
              obtain ⟨a73_22, ea73_22, hf⟩ := o_bind hf
              refine j_get (pc' := 76) (v := .ref a73_22) rfl rfl flX6_224 (gx_ord c47_19) ((ordF_1 _ _).trans (by rw [ea73_22, va_rf_some])) ?_
              refine j_aload_n (pc' := 77) rfl rfl rfl ?_
              refine j_get (pc' := 80) (v := .int (σ.1 100 (x0 - 1000))) rfl rfl flX6_147 (gx_lot c1_1) (lotF_0 _ _) ?_
              obtain ⟨c80_23, hf⟩ := o_chk hf
              obtain ⟨c80, hf⟩ := o_chk hf
              refine j_iald (pc' := 81) rfl rfl (gx_grains c80_23) (vin_ok c80) ?_
              obtain ⟨y81, e81, hf⟩ := o_let hf
              rw [e81]
              refine j_istore (pc' := 83) (ls' := [(4, _), (3, _), (0, _), (1, _), (2, _)]) rfl rfl (Nat.le_of_ble_eq_true rfl) rfl ?_
              refine j_iload (pc' := 85) rfl rfl rfl ?_
              refine j_if_le (tgt := 106) (pc' := 88) rfl rfl rfl (fun c85 => ?_) (fun c85 => ?_)
              · rw [if_pos c85] at hf
                refine j_aload_n (pc' := 107) rfl rfl rfl ?_
                obtain ⟨a107_24, ea107_24, hf⟩ := o_bind hf
                refine j_get (pc' := 110) (v := .ref a107_24) rfl rfl flX6_320 (gx_ord c47_19) ((ordF_0 _ _).trans (by rw [ea107_24, va_rf_some])) ?_
                refine j_aload_n (pc' := 111) rfl rfl rfl ?_
                refine j_get (pc' := 114) (v := .int (σ.1 100 (x0 - 1000))) rfl rfl flX6_147 (gx_lot c1_1) (lotF_0 _ _) ?_
                obtain ⟨c114_25, hf⟩ := o_chk hf
                obtain ⟨c114, hf⟩ := o_chk hf
                refine j_iald (pc' := 115) rfl rfl (gx_pence c114_25) (vin_ok c114) ?_
                refine j_aload_n (pc' := 116) rfl rfl rfl ?_
                refine j_get (pc' := 119) (v := .int (σ.1 102 (x0 - 1000))) rfl rfl flX6_120 (gx_lot c1_1) (lotF_2 _ _) ?_
                refine j_imul (pc' := 120) rfl rfl ?_
                have hf := Option.some.inj hf; subst hf
                exact j_iret rfl rfl (Nat.le_of_ble_eq_true rfl) (Nat.le_of_ble_eq_true rfl) ⟨rfl, rfl⟩
              · rw [if_neg c85] at hf
                refine j_aload_n (pc' := 89) rfl rfl rfl ?_
                obtain ⟨a89_26, ea89_26, hf⟩ := o_bind hf
                refine j_get (pc' := 92) (v := .ref a89_26) rfl rfl flX6_320 (gx_ord c47_19) ((ordF_0 _ _).trans (by rw [ea89_26, va_rf_some])) ?_
                refine j_aload_n (pc' := 93) rfl rfl rfl ?_
                refine j_get (pc' := 96) (v := .int (σ.1 100 (x0 - 1000))) rfl rfl flX6_147 (gx_lot c1_1) (lotF_0 _ _) ?_
                obtain ⟨c96_27, hf⟩ := o_chk hf
                obtain ⟨c96, hf⟩ := o_chk hf
                refine j_iald (pc' := 97) rfl rfl (gx_pence c96_27) (vin_ok c96) ?_
                refine j_aload_n (pc' := 98) rfl rfl rfl ?_
                refine j_get (pc' := 101) (v := .int (σ.1 105 (x0 - 1000))) rfl rfl flX6_140 (gx_lot c1_1) (lotF_5 _ _) ?_
                refine j_imul (pc' := 102) rfl rfl ?_
                refine j_iload (pc' := 104) rfl rfl rfl ?_
                obtain ⟨c104, hf⟩ := o_nz hf
                refine j_idiv (pc' := 105) rfl rfl c104 ?_
                have hf := Option.some.inj hf; subst hf
                exact j_iret rfl rfl (Nat.le_of_ble_eq_true rfl) (Nat.le_of_ble_eq_true rfl) ⟨rfl, rfl⟩
            · rw [if_pos c56] at hf
              refine j_aload_n (pc' := 60) rfl rfl rfl ?_
              refine j_get (pc' := 63) (v := .int (σ.1 102 (x0 - 1000))) rfl rfl flX6_120 (gx_lot c1_1) (lotF_2 _ _) ?_
              refine j_aload_n (pc' := 64) rfl rfl rfl ?_
              obtain ⟨a64_28, ea64_28, hf⟩ := o_bind hf
              refine j_get (pc' := 67) (v := .ref a64_28) rfl rfl flX6_123 (gx_lot c1_1) ((lotF_1 _ _).trans (by rw [ea64_28, va_rf_some])) ?_
              obtain ⟨c67_29, hf⟩ := o_chk hf
              refine j_get (pc' := 70) (v := .int (σ.1 123 (a64_28 - 2000))) rfl rfl flX6_321 (gx_sort c67_29) (sortF_3 _ _) ?_
              refine j_imul (pc' := 71) rfl rfl ?_
              have hf := Option.some.inj hf; subst hf
              exact j_iret rfl rfl (Nat.le_of_ble_eq_true rfl) (Nat.le_of_ble_eq_true rfl) ⟨rfl, rfl⟩
    · rw [if_pos c12] at hf
      refine j_iconst (v := 1) (pc' := 16) rfl rfl (by decide) ?_
      refine j_goto (tgt := 20) rfl rfl ?_
      rcases o_q hf with ⟨q20_30, hf⟩ | ⟨k20_30, q20_30, hf⟩
      · rw [q20_30, va_rf_none]
        refine j_istore_n (pc' := 21) (ls' := [(3, _), (0, _), (1, _), (2, _)]) rfl rfl (Nat.le_of_ble_eq_true rfl) rfl ?_
        refine j_aload_n (pc' := 22) rfl rfl rfl ?_
        refine j_get (pc' := 25) (v := .int (σ.1 104 (x0 - 1000))) rfl rfl flX6_137 (gx_lot c1_1) (lotF_4 _ _) ?_
        refine j_iconst (v := 3) (pc' := 26) rfl rfl (by decide) ?_
        refine j_icmp_eq (tgt := 40) (pc' := 29) rfl rfl rfl (fun c26 => ?_) (fun c26 => ?_)
        · rw [if_pos c26] at hf
          refine j_iconst (v := 0) (pc' := 41) rfl rfl (by decide) ?_
          have hf := Option.some.inj hf; subst hf
          exact j_iret rfl rfl (Nat.le_of_ble_eq_true rfl) (Nat.le_of_ble_eq_true rfl) ⟨rfl, rfl⟩
        · rw [if_neg c26] at hf
          refine j_aload_n (pc' := 30) rfl rfl rfl ?_
          refine j_get (pc' := 33) (v := .int (σ.1 111 (x0 - 1000))) rfl rfl flX6_170 (gx_lot c1_1) (lotF_11 _ _) ?_
          refine j_if_ne (tgt := 40) (pc' := 36) rfl rfl rfl (fun c33 => ?_) (fun c33 => ?_)
          · rw [if_neg c33] at hf
            refine j_iconst (v := 0) (pc' := 41) rfl rfl (by decide) ?_
            have hf := Option.some.inj hf; subst hf
            exact j_iret rfl rfl (Nat.le_of_ble_eq_true rfl) (Nat.le_of_ble_eq_true rfl) ⟨rfl, rfl⟩
          · rw [if_pos c33] at hf
            refine j_iload_n (pc' := 37) rfl rfl rfl ?_
            refine j_if_eq (tgt := 42) (pc' := 40) rfl rfl rfl (fun c37 => absurd c37 (by decide)) (fun _ => ?_)
            refine j_iconst (v := 0) (pc' := 41) rfl rfl (by decide) ?_
            have hf := Option.some.inj hf; subst hf
            exact j_iret rfl rfl (Nat.le_of_ble_eq_true rfl) (Nat.le_of_ble_eq_true rfl) ⟨rfl, rfl⟩
      · rw [q20_30, va_rf_some]
        refine j_istore_n (pc' := 21) (ls' := [(3, _), (0, _), (1, _), (2, _)]) rfl rfl (Nat.le_of_ble_eq_true rfl) rfl ?_
        refine j_aload_n (pc' := 22) rfl rfl rfl ?_
        refine j_get (pc' := 25) (v := .int (σ.1 104 (x0 - 1000))) rfl rfl flX6_137 (gx_lot c1_1) (lotF_4 _ _) ?_
        refine j_iconst (v := 3) (pc' := 26) rfl rfl (by decide) ?_
        refine j_icmp_eq (tgt := 40) (pc' := 29) rfl rfl rfl (fun c26 => ?_) (fun c26 => ?_)
        · rw [if_pos c26] at hf
          refine j_iconst (v := 0) (pc' := 41) rfl rfl (by decide) ?_
          have hf := Option.some.inj hf; subst hf
          exact j_iret rfl rfl (Nat.le_of_ble_eq_true rfl) (Nat.le_of_ble_eq_true rfl) ⟨rfl, rfl⟩
        · rw [if_neg c26] at hf
          refine j_aload_n (pc' := 30) rfl rfl rfl ?_
          refine j_get (pc' := 33) (v := .int (σ.1 111 (x0 - 1000))) rfl rfl flX6_170 (gx_lot c1_1) (lotF_11 _ _) ?_
          refine j_if_ne (tgt := 40) (pc' := 36) rfl rfl rfl (fun c33 => ?_) (fun c33 => ?_)
          · rw [if_neg c33] at hf
            refine j_iconst (v := 0) (pc' := 41) rfl rfl (by decide) ?_
            have hf := Option.some.inj hf; subst hf
            exact j_iret rfl rfl (Nat.le_of_ble_eq_true rfl) (Nat.le_of_ble_eq_true rfl) ⟨rfl, rfl⟩
          · rw [if_pos c33] at hf
            refine j_iload_n (pc' := 37) rfl rfl rfl ?_
            refine j_if_eq (tgt := 42) (pc' := 40) rfl rfl rfl (fun c37 => absurd c37 (by decide)) (fun _ => ?_)
            refine j_iconst (v := 0) (pc' := 41) rfl rfl (by decide) ?_
            have hf := Option.some.inj hf; subst hf
            exact j_iret rfl rfl (Nat.le_of_ble_eq_true rfl) (Nat.le_of_ble_eq_true rfl) ⟨rfl, rfl⟩
def rX6_pass : Room := { frames := 3, cells := 0, slots := 0, locals := 70 }
def f_X6_pass (σ : xS) (x1 : Int32) (x2 : Int32) (x3 : Int32) : Option Int32 := (f_X6_lotAt σ x1).bind fun r2 => oq r2 (some (-1)) (fun k5_1 => (f_X6_isTown x2).bind fun r13 => if r13 = 0 then some (-1) else if 0 ≤ x3 then (f_X6_orderInForce σ x2 x3).bind fun r35 => (f_X6_orderAt σ r35).bind fun r38 => (f_X6_worthOf σ k5_1 x2 r38).bind fun r41 => some r41 else some (-2))
set_option maxHeartbeats 4000000 in
set_option maxRecDepth 100000 in
theorem s_X6_pass (g : hH) (σ : xS) (x1 : Int32) (x2 : Int32) (x3 : Int32) (r : Int32) (hf : f_X6_pass σ x1 x2 x3 = some r) : SpD mX6_pass rX6_pass [.ref 0, .int x1, .int x2, .int x3] (gx g σ) (some (.int r)) (gx g σ) := by
  refine sp_of miX6_pass (Nat.le_of_ble_eq_true rfl) ?_
  show J _ _ _ 0 0 _ 0 [(0, .ref 0), (1, .int x1), (2, .int x2), (3, .int x3)] []
  unfold f_X6_pass at hf
  refine j_aload_n (pc' := 1) rfl rfl rfl ?_
  refine j_iload_n (pc' := 2) rfl rfl rfl ?_
  obtain ⟨r2, e2, hf⟩ := o_bind hf
  refine j_v1 (pc' := 5) rfl rfl miX6_lotAt lnX6_116 (gxk_0 g σ) rfl (s_X6_lotAt g σ x1 _ e2) (h_rm_of rfl) (Nat.le_of_ble_eq_true rfl) (c' := 0) (s' := 0) rfl rfl ?_
  rcases o_q hf with ⟨q5_1, hf⟩ | ⟨k5_1, q5_1, hf⟩
  · rw [q5_1, va_rf_none]
    refine j_astoreN (pc' := 7) (ls' := [(4, _), (0, _), (1, _), (2, _), (3, _)]) rfl rfl (Nat.le_of_ble_eq_true rfl) rfl ?_
    refine j_aloadN (pc' := 9) rfl rfl rfl ?_
    refine j_ifnullN (tgt := 19) rfl rfl ?_
    refine j_iconst (v := (-1)) (pc' := 20) rfl rfl (by decide) ?_
    have hf := Option.some.inj hf; subst hf
    exact j_iret rfl rfl (Nat.le_of_ble_eq_true rfl) (Nat.le_of_ble_eq_true rfl) ⟨rfl, rfl⟩
  · rw [q5_1, va_rf_some]
    refine j_astore (pc' := 7) (ls' := [(4, _), (0, _), (1, _), (2, _), (3, _)]) rfl rfl (Nat.le_of_ble_eq_true rfl) rfl ?_
    refine j_aload (pc' := 9) rfl rfl rfl ?_
    refine j_ifnull (pc' := 12) rfl rfl ?_
    refine j_iload_n (pc' := 13) rfl rfl rfl ?_
    obtain ⟨r13, e13, hf⟩ := o_bind hf
    refine j_s1 (pc' := 16) rfl rfl miX6_isTown lnX6_89 (s_X6_isTown (gx g σ) x2 _ e13) (h_rm_of rfl) (Nat.le_of_ble_eq_true rfl) (c' := 0) (s' := 0) rfl rfl ?_
    refine j_if_ne (tgt := 21) (pc' := 19) rfl rfl rfl (fun c16 => ?_) (fun c16 => ?_)
    · rw [if_neg c16] at hf
      refine j_iload_n (pc' := 22) rfl rfl rfl ?_
      refine j_if_ge (tgt := 28) (pc' := 25) rfl rfl rfl (fun c22 => ?_) (fun c22 => ?_)
      · rw [if_pos c22] at hf
        refine j_aload (pc' := 30) rfl rfl rfl ?_
        refine j_iload_n (pc' := 31) rfl rfl rfl ?_
        refine j_aload_n (pc' := 32) rfl rfl rfl ?_
        refine j_aload_n (pc' := 33) rfl rfl rfl ?_
        refine j_iload_n (pc' := 34) rfl rfl rfl ?_
        refine j_iload_n (pc' := 35) rfl rfl rfl ?_
        obtain ⟨r35, e35, hf⟩ := o_bind hf
        refine j_v2 (pc' := 38) rfl rfl miX6_orderInForce lnX6_209 (gxk_0 g σ) rfl (s_X6_orderInForce g σ x2 x3 _ e35) (h_rm_of rfl) (Nat.le_of_ble_eq_true rfl) (c' := 0) (s' := 0) rfl rfl ?_
        obtain ⟨r38, e38, hf⟩ := o_bind hf
        refine j_v1 (pc' := 41) rfl rfl miX6_orderAt lnX6_202 (gxk_0 g σ) rfl (s_X6_orderAt g σ r35 _ e38) (h_rm_of rfl) (Nat.le_of_ble_eq_true rfl) (c' := 0) (s' := 0) rfl rfl ?_
        obtain ⟨r41, e41, hf⟩ := o_bind hf
        refine j_s3 (pc' := 44) rfl rfl miX6_worthOf lnX6_213 (s_X6_worthOf g σ k5_1 x2 r38 _ e41) (h_rm_of rfl) (Nat.le_of_ble_eq_true rfl) (c' := 0) (s' := 0) rfl rfl ?_
        have hf := Option.some.inj hf; subst hf
        exact j_iret rfl rfl (Nat.le_of_ble_eq_true rfl) (Nat.le_of_ble_eq_true rfl) ⟨rfl, rfl⟩
      · rw [if_neg c22] at hf
        refine j_bipush (v := (-2)) (pc' := 27) rfl rfl (by decide) ?_
        have hf := Option.some.inj hf; subst hf
        exact j_iret rfl rfl (Nat.le_of_ble_eq_true rfl) (Nat.le_of_ble_eq_true rfl) ⟨rfl, rfl⟩
    · rw [if_pos c16] at hf
      refine j_iconst (v := (-1)) (pc' := 20) rfl rfl (by decide) ?_
      have hf := Option.some.inj hf; subst hf
      exact j_iret rfl rfl (Nat.le_of_ble_eq_true rfl) (Nat.le_of_ble_eq_true rfl) ⟨rfl, rfl⟩
def rX6_light : Room := { frames := 3, cells := 0, slots := 0, locals := 70 }
def f_X6_light (σ : xS) (x1 : Int32) (x2 : Int32) (x3 : Int32) (x4 : Int32) : Option Int32 := (f_X6_lotAt σ x1).bind fun r2 => oq r2 (some (-1)) (fun k5_1 => (f_X6_isTown x4).bind fun r14 => if r14 = 0 then some (-1) else bif isL σ k5_1 then (f_X1_canDraw σ k5_1 x2 x3).bind fun r26 => if r26 = 0 then some (-2) else (f_X6_orderInForce σ x4 (σ.1 16 0)).bind fun r43 => (f_X6_orderAt σ r43).bind fun r46 => oq r46 (some 0) (fun k49_3 => (f_X1_mostDrawn σ k5_1 x2 x3).bind fun r62 => bif isO σ k49_3 then (σ.2.2.1 131 (k49_3 - 3000)).bind fun a67_5 => bif isGr σ a67_5 then bif vin (σ.1 100 (k5_1 - 1000)) 8 then if ((σ.1 (3000 + (a67_5 - 3600)) ((σ.1 100 (k5_1 - 1000))).toNatClampNeg) * (σ.1 102 (k5_1 - 1000))) ≤ r62 then (f_X6_oneIf 0).bind fun r90 => some r90 else (f_X6_oneIf 1).bind fun r90 => some r90 else none else none else none) else none)
set_option maxHeartbeats 4000000 in
set_option maxRecDepth 100000 in
theorem s_X6_light (g : hH) (σ : xS) (x1 : Int32) (x2 : Int32) (x3 : Int32) (x4 : Int32) (r : Int32) (hf : f_X6_light σ x1 x2 x3 x4 = some r) : SpD mX6_light rX6_light [.ref 0, .int x1, .int x2, .int x3, .int x4] (gx g σ) (some (.int r)) (gx g σ) := by
  refine sp_of miX6_light (Nat.le_of_ble_eq_true rfl) ?_
  show J _ _ _ 0 0 _ 0 [(0, .ref 0), (1, .int x1), (2, .int x2), (3, .int x3), (4, .int x4)] []
  unfold f_X6_light at hf
  refine j_aload_n (pc' := 1) rfl rfl rfl ?_
  refine j_iload_n (pc' := 2) rfl rfl rfl ?_
  obtain ⟨r2, e2, hf⟩ := o_bind hf
  refine j_v1 (pc' := 5) rfl rfl miX6_lotAt lnX6_116 (gxk_0 g σ) rfl (s_X6_lotAt g σ x1 _ e2) (h_rm_of rfl) (Nat.le_of_ble_eq_true rfl) (c' := 0) (s' := 0) rfl rfl ?_
  rcases o_q hf with ⟨q5_1, hf⟩ | ⟨k5_1, q5_1, hf⟩
  · rw [q5_1, va_rf_none]
    refine j_astoreN (pc' := 7) (ls' := [(5, _), (0, _), (1, _), (2, _), (3, _), (4, _)]) rfl rfl (Nat.le_of_ble_eq_true rfl) rfl ?_
    refine j_aloadN (pc' := 9) rfl rfl rfl ?_
    refine j_ifnullN (tgt := 20) rfl rfl ?_
    refine j_iconst (v := (-1)) (pc' := 21) rfl rfl (by decide) ?_
    have hf := Option.some.inj hf; subst hf
    exact j_iret rfl rfl (Nat.le_of_ble_eq_true rfl) (Nat.le_of_ble_eq_true rfl) ⟨rfl, rfl⟩
  · rw [q5_1, va_rf_some]
    refine j_astore (pc' := 7) (ls' := [(5, _), (0, _), (1, _), (2, _), (3, _), (4, _)]) rfl rfl (Nat.le_of_ble_eq_true rfl) rfl ?_
    refine j_aload (pc' := 9) rfl rfl rfl ?_
    refine j_ifnull (pc' := 12) rfl rfl ?_
    refine j_iload (pc' := 14) rfl rfl rfl ?_
    obtain ⟨r14, e14, hf⟩ := o_bind hf
    refine j_s1 (pc' := 17) rfl rfl miX6_isTown lnX6_89 (s_X6_isTown (gx g σ) x4 _ e14) (h_rm_of rfl) (Nat.le_of_ble_eq_true rfl) (c' := 0) (s' := 0) rfl rfl ?_
    refine j_if_ne (tgt := 22) (pc' := 20) rfl rfl rfl (fun c17 => ?_) (fun c17 => ?_)
    · rw [if_neg c17] at hf
      refine j_aload (pc' := 24) rfl rfl rfl ?_
      refine j_iload_n (pc' := 25) rfl rfl rfl ?_
      refine j_iload_n (pc' := 26) rfl rfl rfl ?_
      obtain ⟨c26_2, hf⟩ := o_chk hf
      obtain ⟨r26, e26, hf⟩ := o_bind hf
      refine j_v2 (pc' := 29) rfl rfl miX1_canDraw lnX6_217 (gx_lot c26_2) rfl (s_X1_canDraw g σ k5_1 x2 x3 _ e26) (h_rm_of rfl) (Nat.le_of_ble_eq_true rfl) (c' := 0) (s' := 0) rfl rfl ?_
      refine j_if_ne (tgt := 35) (pc' := 32) rfl rfl rfl (fun c29 => ?_) (fun c29 => ?_)
      · rw [if_neg c29] at hf
        refine j_aload_n (pc' := 36) rfl rfl rfl ?_
        refine j_aload_n (pc' := 37) rfl rfl rfl ?_
        refine j_iload (pc' := 39) rfl rfl rfl ?_
        refine j_aload_n (pc' := 40) rfl rfl rfl ?_
        refine j_get (pc' := 43) rfl rfl flX6_154 (gxk_0 g σ) (nsF_16 σ) ?_
        obtain ⟨r43, e43, hf⟩ := o_bind hf
        refine j_v2 (pc' := 46) rfl rfl miX6_orderInForce lnX6_209 (gxk_0 g σ) rfl (s_X6_orderInForce g σ x4 (σ.1 16 0) _ e43) (h_rm_of rfl) (Nat.le_of_ble_eq_true rfl) (c' := 0) (s' := 0) rfl rfl ?_
        obtain ⟨r46, e46, hf⟩ := o_bind hf
        refine j_v1 (pc' := 49) rfl rfl miX6_orderAt lnX6_202 (gxk_0 g σ) rfl (s_X6_orderAt g σ r43 _ e46) (h_rm_of rfl) (Nat.le_of_ble_eq_true rfl) (c' := 0) (s' := 0) rfl rfl ?_
        rcases o_q hf with ⟨q49_3, hf⟩ | ⟨k49_3, q49_3, hf⟩
        · rw [q49_3, va_rf_none]
          refine j_astoreN (pc' := 51) (ls' := [(6, _), (5, _), (0, _), (1, _), (2, _), (3, _), (4, _)]) rfl rfl (Nat.le_of_ble_eq_true rfl) rfl ?_
          refine j_aloadN (pc' := 53) rfl rfl rfl ?_
          refine j_ifnonnullN (pc' := 56) rfl rfl ?_
          refine j_iconst (v := 0) (pc' := 57) rfl rfl (by decide) ?_
          have hf := Option.some.inj hf; subst hf
          exact j_iret rfl rfl (Nat.le_of_ble_eq_true rfl) (Nat.le_of_ble_eq_true rfl) ⟨rfl, rfl⟩
        · rw [q49_3, va_rf_some]
          refine j_astore (pc' := 51) (ls' := [(6, _), (5, _), (0, _), (1, _), (2, _), (3, _), (4, _)]) rfl rfl (Nat.le_of_ble_eq_true rfl) rfl ?_
          refine j_aload (pc' := 53) rfl rfl rfl ?_
          refine j_ifnonnull (tgt := 58) rfl rfl ?_
          refine j_aload (pc' := 60) rfl rfl rfl ?_
          refine j_iload_n (pc' := 61) rfl rfl rfl ?_
          refine j_iload_n (pc' := 62) rfl rfl rfl ?_
          obtain ⟨r62, e62, hf⟩ := o_bind hf
          refine j_v2 (pc' := 65) rfl rfl miX1_mostDrawn lnX6_221 (gx_lot c26_2) rfl (s_X1_mostDrawn g σ k5_1 x2 x3 _ e62) (h_rm_of rfl) (Nat.le_of_ble_eq_true rfl) (c' := 0) (s' := 0) rfl rfl ?_
          refine j_aload (pc' := 67) rfl rfl rfl ?_
          obtain ⟨c67_4, hf⟩ := o_chk hf
          obtain ⟨a67_5, ea67_5, hf⟩ := o_bind hf
          refine j_get (pc' := 70) (v := .ref a67_5) rfl rfl flX6_224 (gx_ord c67_4) ((ordF_1 _ _).trans (by rw [ea67_5, va_rf_some])) ?_
          refine j_aload (pc' := 72) rfl rfl rfl ?_
          refine j_get (pc' := 75) (v := .int (σ.1 100 (k5_1 - 1000))) rfl rfl flX6_147 (gx_lot c26_2) (lotF_0 _ _) ?_
          obtain ⟨c75_6, hf⟩ := o_chk hf
          obtain ⟨c75, hf⟩ := o_chk hf
          refine j_iald (pc' := 76) rfl rfl (gx_grains c75_6) (vin_ok c75) ?_
          refine j_aload (pc' := 78) rfl rfl rfl ?_
          refine j_get (pc' := 81) (v := .int (σ.1 102 (k5_1 - 1000))) rfl rfl flX6_120 (gx_lot c26_2) (lotF_2 _ _) ?_
          refine j_imul (pc' := 82) rfl rfl ?_
          refine j_icmp_ge (tgt := 89) (pc' := 85) rfl rfl rfl (fun c82 => ?_) (fun c82 => ?_)
          · rw [if_pos c82] at hf
            refine j_iconst (v := 0) (pc' := 90) rfl rfl (by decide) ?_
            obtain ⟨r90, e90, hf⟩ := o_bind hf
            refine j_s1 (pc' := 93) rfl rfl miX6_oneIf lnX6_143 (s_X6_oneIf (gx g σ) 0 _ e90) (h_rm_of rfl) (Nat.le_of_ble_eq_true rfl) (c' := 0) (s' := 0) rfl rfl ?_
            have hf := Option.some.inj hf; subst hf
            exact j_iret rfl rfl (Nat.le_of_ble_eq_true rfl) (Nat.le_of_ble_eq_true rfl) ⟨rfl, rfl⟩
          · rw [if_neg c82] at hf
            refine j_iconst (v := 1) (pc' := 86) rfl rfl (by decide) ?_
            refine j_goto (tgt := 90) rfl rfl ?_
            obtain ⟨r90, e90, hf⟩ := o_bind hf
            refine j_s1 (pc' := 93) rfl rfl miX6_oneIf lnX6_143 (s_X6_oneIf (gx g σ) 1 _ e90) (h_rm_of rfl) (Nat.le_of_ble_eq_true rfl) (c' := 0) (s' := 0) rfl rfl ?_
            have hf := Option.some.inj hf; subst hf
            exact j_iret rfl rfl (Nat.le_of_ble_eq_true rfl) (Nat.le_of_ble_eq_true rfl) ⟨rfl, rfl⟩
      · rw [if_pos c29] at hf
        refine j_bipush (v := (-2)) (pc' := 34) rfl rfl (by decide) ?_
        have hf := Option.some.inj hf; subst hf
        exact j_iret rfl rfl (Nat.le_of_ble_eq_true rfl) (Nat.le_of_ble_eq_true rfl) ⟨rfl, rfl⟩
    · rw [if_pos c17] at hf
      refine j_iconst (v := (-1)) (pc' := 21) rfl rfl (by decide) ?_
      have hf := Option.some.inj hf; subst hf
      exact j_iret rfl rfl (Nat.le_of_ble_eq_true rfl) (Nat.le_of_ble_eq_true rfl) ⟨rfl, rfl⟩
def rX6_reckonWorth : Room := { frames := 3, cells := 0, slots := 0, locals := 70 }
def f_X6_reckonWorth_L19 : Nat → xS → Int32 → (Option Nat) → Int64 → Int32 → Option (Int64 × xS)
  | 0, _, _, _, _, _ => none
  | n + 1, σ, x1, x2, x3, x5 => if (σ.1 3 0) ≤ x5 then some (x3, σ) else (f_X6_lotAt σ x5).bind fun r31 => oq x2 (oq r31 (bif vin x5 30 then letm (xi σ 12 (va_up (σ.1 12) (x5).toNatClampNeg 0)) fun σ91 => bif vin x5 30 then letm (x3 + ((σ91.1 12 (x5).toNatClampNeg)).toInt64) fun y102 => f_X6_reckonWorth_L19 n σ91 x1 none y102 (x5 + 1) else none else none) (fun k34_3 => bif isL σ k34_3 then if (σ.1 106 (k34_3 - 1000)) = x1 then (f_X1_isOnRoad σ k34_3 (σ.1 16 0)).bind fun r56 => if r56 = 0 then (f_X6_worthOf σ k34_3 x1 none).bind fun r84 => bif vin x5 30 then letm (xi σ 12 (va_up (σ.1 12) (x5).toNatClampNeg r84)) fun σ91 => bif vin x5 30 then letm (x3 + ((σ91.1 12 (x5).toNatClampNeg)).toInt64) fun y102 => f_X6_reckonWorth_L19 n σ91 x1 none y102 (x5 + 1) else none else none else bif vin x5 30 then letm (xi σ 12 (va_up (σ.1 12) (x5).toNatClampNeg 0)) fun σ91 => bif vin x5 30 then letm (x3 + ((σ91.1 12 (x5).toNatClampNeg)).toInt64) fun y102 => f_X6_reckonWorth_L19 n σ91 x1 none y102 (x5 + 1) else none else none else bif vin x5 30 then letm (xi σ 12 (va_up (σ.1 12) (x5).toNatClampNeg 0)) fun σ91 => bif vin x5 30 then letm (x3 + ((σ91.1 12 (x5).toNatClampNeg)).toInt64) fun y102 => f_X6_reckonWorth_L19 n σ91 x1 none y102 (x5 + 1) else none else none else none)) (fun k34_2 => oq r31 (bif vin x5 30 then letm (xi σ 12 (va_up (σ.1 12) (x5).toNatClampNeg 0)) fun σ91 => bif vin x5 30 then letm (x3 + ((σ91.1 12 (x5).toNatClampNeg)).toInt64) fun y102 => f_X6_reckonWorth_L19 n σ91 x1 (some k34_2) y102 (x5 + 1) else none else none) (fun k34_5 => bif isL σ k34_5 then if (σ.1 106 (k34_5 - 1000)) = x1 then (f_X1_isOnRoad σ k34_5 (σ.1 16 0)).bind fun r56 => if r56 = 0 then (f_X6_worthOf σ k34_5 x1 (some k34_2)).bind fun r84 => bif vin x5 30 then letm (xi σ 12 (va_up (σ.1 12) (x5).toNatClampNeg r84)) fun σ91 => bif vin x5 30 then letm (x3 + ((σ91.1 12 (x5).toNatClampNeg)).toInt64) fun y102 => f_X6_reckonWorth_L19 n σ91 x1 (some k34_2) y102 (x5 + 1) else none else none else bif vin x5 30 then letm (xi σ 12 (va_up (σ.1 12) (x5).toNatClampNeg 0)) fun σ91 => bif vin x5 30 then letm (x3 + ((σ91.1 12 (x5).toNatClampNeg)).toInt64) fun y102 => f_X6_reckonWorth_L19 n σ91 x1 (some k34_2) y102 (x5 + 1) else none else none else bif vin x5 30 then letm (xi σ 12 (va_up (σ.1 12) (x5).toNatClampNeg 0)) fun σ91 => bif vin x5 30 then letm (x3 + ((σ91.1 12 (x5).toNatClampNeg)).toInt64) fun y102 => f_X6_reckonWorth_L19 n σ91 x1 (some k34_2) y102 (x5 + 1) else none else none else none))
set_option maxHeartbeats 4000000 in
set_option maxRecDepth 100000 in
theorem s_X6_reckonWorth_L19 {Q : Option Value → hH → Prop} (g : hH) : ∀ (n : Nat) (σ : xS) (x1 : Int32) (x2 : (Option Nat)) (x3 : Int64) (x5 : Int32) (r : Int64 × xS), f_X6_reckonWorth_L19 n σ x1 x2 x3 x5 = some r → (J mX6_reckonWorth rX6_reckonWorth Q 0 0 (gx g r.2) 109 [(3, .long r.1)] []) → J mX6_reckonWorth rX6_reckonWorth Q 0 0 (gx g σ) 19 [(0, .ref 0), (1, .int x1), (2, va_rf x2), (3, .long x3), (5, .int x5)] [] := by
  intro n
  induction n with
  | zero =>
    intro σ x1 x2 x3 x5 r hf
    cases hf
  | succ n ih =>
    intro σ x1 x2 x3 x5 r hf k0
    rw [f_X6_reckonWorth_L19] at hf
    refine j_iload (pc' := 21) rfl rfl rfl ?_
    refine j_aload_n (pc' := 22) rfl rfl rfl ?_
    refine j_get (pc' := 25) rfl rfl flX6_97 (gxk_0 g σ) (nsF_3 σ) ?_
    refine j_icmp_ge (tgt := 109) (pc' := 28) rfl rfl rfl (fun c25 => ?_) (fun c25 => ?_)
    · rw [if_pos c25] at hf
      have hf := Option.some.inj hf; subst hf
      exact j_sub (ls' := [(3, .long _)]) ⟨rfl, trivial⟩ (k0)
    · rw [if_neg c25] at hf
      refine j_aload_n (pc' := 29) rfl rfl rfl ?_
      refine j_iload (pc' := 31) rfl rfl rfl ?_
      obtain ⟨r31, e31, hf⟩ := o_bind hf
      refine j_v1 (pc' := 34) rfl rfl miX6_lotAt lnX6_116 (gxk_0 g σ) rfl (s_X6_lotAt g σ x5 _ e31) (h_rm_of rfl) (Nat.le_of_ble_eq_true rfl) (c' := 0) (s' := 0) rfl rfl ?_
      rcases o_q hf with ⟨q34_2, hf⟩ | ⟨k34_2, q34_2, hf⟩
      · rw [q34_2, va_rf_none]
        rcases o_q hf with ⟨q34_3, hf⟩ | ⟨k34_3, q34_3, hf⟩
        · rw [q34_3, va_rf_none]
          refine j_astoreN (pc' := 36) (ls' := [(6, _), (0, _), (1, _), (2, _), (3, _), (5, _)]) rfl rfl (Nat.le_of_ble_eq_true rfl) rfl ?_
          refine j_aloadN (pc' := 38) rfl rfl rfl ?_
          refine j_ifnullN (tgt := 66) rfl rfl ?_
          refine j_iconst (v := 0) (pc' := 67) rfl rfl (by decide) ?_
          refine j_istore (pc' := 69) (ls' := [(7, _), (6, _), (0, _), (1, _), (2, _), (3, _), (5, _)]) rfl rfl (Nat.le_of_ble_eq_true rfl) rfl ?_
          refine j_aload_n (pc' := 70) rfl rfl rfl ?_
          refine j_get (pc' := 73) rfl rfl flX6_51 (gxk_0 g σ) (nsF_12 σ) ?_
          refine j_iload (pc' := 75) rfl rfl rfl ?_
          refine j_iload (pc' := 77) rfl rfl rfl ?_
          refine j_if_eq (tgt := 90) (pc' := 80) rfl rfl rfl (fun _ => ?_) (fun c77 => absurd c77 (by decide))
          refine j_iconst (v := 0) (pc' := 91) rfl rfl (by decide) ?_
          obtain ⟨c91, hf⟩ := o_chk hf
          obtain ⟨σ91, e91, hf⟩ := o_let hf
          refine j_iast (pc' := 92) rfl rfl (gxk_8 g σ) (by decide) (vin_ok c91) ?_
          rw [gxs_8]; rw [e91]
          refine j_lload_n (pc' := 93) rfl rfl rfl ?_
          refine j_aload_n (pc' := 94) rfl rfl rfl ?_
          refine j_get (pc' := 97) rfl rfl flX6_51 (gxk_0 g σ91) (nsF_12 σ91) ?_
          refine j_iload (pc' := 99) rfl rfl rfl ?_
          obtain ⟨c99, hf⟩ := o_chk hf
          refine j_iald (pc' := 100) rfl rfl (gxk_8 g σ91) (vin_ok c99) ?_
          refine j_i2l (pc' := 101) rfl rfl ?_
          refine j_ladd (pc' := 102) rfl rfl ?_
          obtain ⟨y102, e102, hf⟩ := o_let hf
          rw [e102]
          refine j_lstore_n (pc' := 103) (ls' := [(3, _), (7, _), (6, _), (0, _), (1, _), (2, _), (5, _)]) rfl rfl (Nat.le_of_ble_eq_true rfl) rfl ?_
          refine j_iinc (pc' := 106) (d := 1) (ls' := [(5, _), (3, _), (7, _), (6, _), (0, _), (1, _), (2, _)]) rfl rfl rfl (by decide) (Nat.le_of_ble_eq_true rfl) rfl ?_
          refine j_goto (tgt := 19) rfl rfl ?_
          refine j_sub (ls' := [(0, .ref 0), (1, .int _), (2, va_rf none), (3, .long _), (5, .int _)]) ⟨rfl, rfl, rfl, rfl, rfl, trivial⟩ ?_
          exact ih _ _ _ _ _ _ hf k0
        · rw [q34_3, va_rf_some]
          refine j_astore (pc' := 36) (ls' := [(6, _), (0, _), (1, _), (2, _), (3, _), (5, _)]) rfl rfl (Nat.le_of_ble_eq_true rfl) rfl ?_
          refine j_aload (pc' := 38) rfl rfl rfl ?_
          refine j_ifnull (pc' := 41) rfl rfl ?_
          refine j_aload (pc' := 43) rfl rfl rfl ?_
          obtain ⟨c43_4, hf⟩ := o_chk hf
          refine j_get (pc' := 46) (v := .int (σ.1 106 (k34_3 - 1000))) rfl rfl flX6_109 (gx_lot c43_4) (lotF_6 _ _) ?_
          refine j_iload_n (pc' := 47) rfl rfl rfl ?_
          refine j_icmp_ne (tgt := 66) (pc' := 50) rfl rfl rfl (fun c47 => ?_) (fun c47 => ?_)
          · rw [if_neg c47] at hf
            refine j_iconst (v := 0) (pc' := 67) rfl rfl (by decide) ?_
            refine j_istore (pc' := 69) (ls' := [(7, _), (6, _), (0, _), (1, _), (2, _), (3, _), (5, _)]) rfl rfl (Nat.le_of_ble_eq_true rfl) rfl ?_
            refine j_aload_n (pc' := 70) rfl rfl rfl ?_
            refine j_get (pc' := 73) rfl rfl flX6_51 (gxk_0 g σ) (nsF_12 σ) ?_
            refine j_iload (pc' := 75) rfl rfl rfl ?_
            refine j_iload (pc' := 77) rfl rfl rfl ?_
            refine j_if_eq (tgt := 90) (pc' := 80) rfl rfl rfl (fun _ => ?_) (fun c77 => absurd c77 (by decide))
            refine j_iconst (v := 0) (pc' := 91) rfl rfl (by decide) ?_
            obtain ⟨c91, hf⟩ := o_chk hf
            obtain ⟨σ91, e91, hf⟩ := o_let hf
            refine j_iast (pc' := 92) rfl rfl (gxk_8 g σ) (by decide) (vin_ok c91) ?_
            rw [gxs_8]; rw [e91]
            refine j_lload_n (pc' := 93) rfl rfl rfl ?_
            refine j_aload_n (pc' := 94) rfl rfl rfl ?_
            refine j_get (pc' := 97) rfl rfl flX6_51 (gxk_0 g σ91) (nsF_12 σ91) ?_
            refine j_iload (pc' := 99) rfl rfl rfl ?_
            obtain ⟨c99, hf⟩ := o_chk hf
            refine j_iald (pc' := 100) rfl rfl (gxk_8 g σ91) (vin_ok c99) ?_
            refine j_i2l (pc' := 101) rfl rfl ?_
            refine j_ladd (pc' := 102) rfl rfl ?_
            obtain ⟨y102, e102, hf⟩ := o_let hf
            rw [e102]
            refine j_lstore_n (pc' := 103) (ls' := [(3, _), (7, _), (6, _), (0, _), (1, _), (2, _), (5, _)]) rfl rfl (Nat.le_of_ble_eq_true rfl) rfl ?_
            refine j_iinc (pc' := 106) (d := 1) (ls' := [(5, _), (3, _), (7, _), (6, _), (0, _), (1, _), (2, _)]) rfl rfl rfl (by decide) (Nat.le_of_ble_eq_true rfl) rfl ?_
            refine j_goto (tgt := 19) rfl rfl ?_
            refine j_sub (ls' := [(0, .ref 0), (1, .int _), (2, va_rf none), (3, .long _), (5, .int _)]) ⟨rfl, rfl, rfl, rfl, rfl, trivial⟩ ?_
            exact ih _ _ _ _ _ _ hf k0
          · rw [if_pos c47] at hf
            refine j_aload (pc' := 52) rfl rfl rfl ?_
            refine j_aload_n (pc' := 53) rfl rfl rfl ?_
            refine j_get (pc' := 56) rfl rfl flX6_154 (gxk_0 g σ) (nsF_16 σ) ?_
            obtain ⟨r56, e56, hf⟩ := o_bind hf
            refine j_v1 (pc' := 59) rfl rfl miX1_isOnRoad lnX6_157 (gx_lot c43_4) rfl (s_X1_isOnRoad g σ k34_3 (σ.1 16 0) _ e56) (h_rm_of rfl) (Nat.le_of_ble_eq_true rfl) (c' := 0) (s' := 0) rfl rfl ?_
            refine j_if_ne (tgt := 66) (pc' := 62) rfl rfl rfl (fun c59 => ?_) (fun c59 => ?_)
            · rw [if_neg c59] at hf
              refine j_iconst (v := 0) (pc' := 67) rfl rfl (by decide) ?_
              refine j_istore (pc' := 69) (ls' := [(7, _), (6, _), (0, _), (1, _), (2, _), (3, _), (5, _)]) rfl rfl (Nat.le_of_ble_eq_true rfl) rfl ?_
              refine j_aload_n (pc' := 70) rfl rfl rfl ?_
              refine j_get (pc' := 73) rfl rfl flX6_51 (gxk_0 g σ) (nsF_12 σ) ?_
              refine j_iload (pc' := 75) rfl rfl rfl ?_
              refine j_iload (pc' := 77) rfl rfl rfl ?_
              refine j_if_eq (tgt := 90) (pc' := 80) rfl rfl rfl (fun _ => ?_) (fun c77 => absurd c77 (by decide))
              refine j_iconst (v := 0) (pc' := 91) rfl rfl (by decide) ?_
              obtain ⟨c91, hf⟩ := o_chk hf
              obtain ⟨σ91, e91, hf⟩ := o_let hf
              refine j_iast (pc' := 92) rfl rfl (gxk_8 g σ) (by decide) (vin_ok c91) ?_
              rw [gxs_8]; rw [e91]
              refine j_lload_n (pc' := 93) rfl rfl rfl ?_
              refine j_aload_n (pc' := 94) rfl rfl rfl ?_
              refine j_get (pc' := 97) rfl rfl flX6_51 (gxk_0 g σ91) (nsF_12 σ91) ?_
              refine j_iload (pc' := 99) rfl rfl rfl ?_
              obtain ⟨c99, hf⟩ := o_chk hf
              refine j_iald (pc' := 100) rfl rfl (gxk_8 g σ91) (vin_ok c99) ?_
              refine j_i2l (pc' := 101) rfl rfl ?_
              refine j_ladd (pc' := 102) rfl rfl ?_
              obtain ⟨y102, e102, hf⟩ := o_let hf
              rw [e102]
              refine j_lstore_n (pc' := 103) (ls' := [(3, _), (7, _), (6, _), (0, _), (1, _), (2, _), (5, _)]) rfl rfl (Nat.le_of_ble_eq_true rfl) rfl ?_
              refine j_iinc (pc' := 106) (d := 1) (ls' := [(5, _), (3, _), (7, _), (6, _), (0, _), (1, _), (2, _)]) rfl rfl rfl (by decide) (Nat.le_of_ble_eq_true rfl) rfl ?_
              refine j_goto (tgt := 19) rfl rfl ?_
              refine j_sub (ls' := [(0, .ref 0), (1, .int _), (2, va_rf none), (3, .long _), (5, .int _)]) ⟨rfl, rfl, rfl, rfl, rfl, trivial⟩ ?_
              exact ih _ _ _ _ _ _ hf k0
            · rw [if_pos c59] at hf
              refine j_iconst (v := 1) (pc' := 63) rfl rfl (by decide) ?_
              refine j_goto (tgt := 67) rfl rfl ?_
              refine j_istore (pc' := 69) (ls' := [(7, _), (6, _), (0, _), (1, _), (2, _), (3, _), (5, _)]) rfl rfl (Nat.le_of_ble_eq_true rfl) rfl ?_
              refine j_aload_n (pc' := 70) rfl rfl rfl ?_
              refine j_get (pc' := 73) rfl rfl flX6_51 (gxk_0 g σ) (nsF_12 σ) ?_
              refine j_iload (pc' := 75) rfl rfl rfl ?_
              refine j_iload (pc' := 77) rfl rfl rfl ?_
              refine j_if_eq (tgt := 90) (pc' := 80) rfl rfl rfl (fun c77 => absurd c77 (by decide)) (fun _ => ?_)
              refine j_aload (pc' := 82) rfl rfl rfl ?_
              refine j_iload_n (pc' := 83) rfl rfl rfl ?_
              refine j_aload_nN (pc' := 84) rfl rfl rfl ?_
              obtain ⟨r84, e84, hf⟩ := o_bind hf
              refine j_s3 (pc' := 87) rfl rfl miX6_worthOf lnX6_213 (s_X6_worthOf g σ k34_3 x1 none _ e84) (h_rm_of rfl) (Nat.le_of_ble_eq_true rfl) (c' := 0) (s' := 0) rfl rfl ?_
              refine j_goto (tgt := 91) rfl rfl ?_
              obtain ⟨c91, hf⟩ := o_chk hf
              obtain ⟨σ91, e91, hf⟩ := o_let hf
              refine j_iast (pc' := 92) rfl rfl (gxk_8 g σ) (by decide) (vin_ok c91) ?_
              rw [gxs_8]; rw [e91]
              refine j_lload_n (pc' := 93) rfl rfl rfl ?_
              refine j_aload_n (pc' := 94) rfl rfl rfl ?_
              refine j_get (pc' := 97) rfl rfl flX6_51 (gxk_0 g σ91) (nsF_12 σ91) ?_
              refine j_iload (pc' := 99) rfl rfl rfl ?_
              obtain ⟨c99, hf⟩ := o_chk hf
              refine j_iald (pc' := 100) rfl rfl (gxk_8 g σ91) (vin_ok c99) ?_
              refine j_i2l (pc' := 101) rfl rfl ?_
              refine j_ladd (pc' := 102) rfl rfl ?_
              obtain ⟨y102, e102, hf⟩ := o_let hf
              rw [e102]
              refine j_lstore_n (pc' := 103) (ls' := [(3, _), (7, _), (6, _), (0, _), (1, _), (2, _), (5, _)]) rfl rfl (Nat.le_of_ble_eq_true rfl) rfl ?_
              refine j_iinc (pc' := 106) (d := 1) (ls' := [(5, _), (3, _), (7, _), (6, _), (0, _), (1, _), (2, _)]) rfl rfl rfl (by decide) (Nat.le_of_ble_eq_true rfl) rfl ?_
              refine j_goto (tgt := 19) rfl rfl ?_
              refine j_sub (ls' := [(0, .ref 0), (1, .int _), (2, va_rf none), (3, .long _), (5, .int _)]) ⟨rfl, rfl, rfl, rfl, rfl, trivial⟩ ?_
              exact ih _ _ _ _ _ _ hf k0
      · rw [q34_2, va_rf_some]
        rcases o_q hf with ⟨q34_5, hf⟩ | ⟨k34_5, q34_5, hf⟩
        · rw [q34_5, va_rf_none]
          refine j_astoreN (pc' := 36) (ls' := [(6, _), (0, _), (1, _), (2, _), (3, _), (5, _)]) rfl rfl (Nat.le_of_ble_eq_true rfl) rfl ?_
          refine j_aloadN (pc' := 38) rfl rfl rfl ?_
          refine j_ifnullN (tgt := 66) rfl rfl ?_
          refine j_iconst (v := 0) (pc' := 67) rfl rfl (by decide) ?_
          refine j_istore (pc' := 69) (ls' := [(7, _), (6, _), (0, _), (1, _), (2, _), (3, _), (5, _)]) rfl rfl (Nat.le_of_ble_eq_true rfl) rfl ?_
          refine j_aload_n (pc' := 70) rfl rfl rfl ?_
          refine j_get (pc' := 73) rfl rfl flX6_51 (gxk_0 g σ) (nsF_12 σ) ?_
          refine j_iload (pc' := 75) rfl rfl rfl ?_
          refine j_iload (pc' := 77) rfl rfl rfl ?_
          refine j_if_eq (tgt := 90) (pc' := 80) rfl rfl rfl (fun _ => ?_) (fun c77 => absurd c77 (by decide))
          refine j_iconst (v := 0) (pc' := 91) rfl rfl (by decide) ?_
          obtain ⟨c91, hf⟩ := o_chk hf
          obtain ⟨σ91, e91, hf⟩ := o_let hf
          refine j_iast (pc' := 92) rfl rfl (gxk_8 g σ) (by decide) (vin_ok c91) ?_
          rw [gxs_8]; rw [e91]
          refine j_lload_n (pc' := 93) rfl rfl rfl ?_
          refine j_aload_n (pc' := 94) rfl rfl rfl ?_
          refine j_get (pc' := 97) rfl rfl flX6_51 (gxk_0 g σ91) (nsF_12 σ91) ?_
          refine j_iload (pc' := 99) rfl rfl rfl ?_
          obtain ⟨c99, hf⟩ := o_chk hf
          refine j_iald (pc' := 100) rfl rfl (gxk_8 g σ91) (vin_ok c99) ?_
          refine j_i2l (pc' := 101) rfl rfl ?_
          refine j_ladd (pc' := 102) rfl rfl ?_
          obtain ⟨y102, e102, hf⟩ := o_let hf
          rw [e102]
          refine j_lstore_n (pc' := 103) (ls' := [(3, _), (7, _), (6, _), (0, _), (1, _), (2, _), (5, _)]) rfl rfl (Nat.le_of_ble_eq_true rfl) rfl ?_
          refine j_iinc (pc' := 106) (d := 1) (ls' := [(5, _), (3, _), (7, _), (6, _), (0, _), (1, _), (2, _)]) rfl rfl rfl (by decide) (Nat.le_of_ble_eq_true rfl) rfl ?_
          refine j_goto (tgt := 19) rfl rfl ?_
          refine j_sub (ls' := [(0, .ref 0), (1, .int _), (2, va_rf (some k34_2)), (3, .long _), (5, .int _)]) ⟨rfl, rfl, rfl, rfl, rfl, trivial⟩ ?_
          exact ih _ _ _ _ _ _ hf k0
        · rw [q34_5, va_rf_some]
          refine j_astore (pc' := 36) (ls' := [(6, _), (0, _), (1, _), (2, _), (3, _), (5, _)]) rfl rfl (Nat.le_of_ble_eq_true rfl) rfl ?_
          refine j_aload (pc' := 38) rfl rfl rfl ?_
          refine j_ifnull (pc' := 41) rfl rfl ?_
          refine j_aload (pc' := 43) rfl rfl rfl ?_
          obtain ⟨c43_6, hf⟩ := o_chk hf
          refine j_get (pc' := 46) (v := .int (σ.1 106 (k34_5 - 1000))) rfl rfl flX6_109 (gx_lot c43_6) (lotF_6 _ _) ?_
          refine j_iload_n (pc' := 47) rfl rfl rfl ?_
          refine j_icmp_ne (tgt := 66) (pc' := 50) rfl rfl rfl (fun c47 => ?_) (fun c47 => ?_)
          · rw [if_neg c47] at hf
            refine j_iconst (v := 0) (pc' := 67) rfl rfl (by decide) ?_
            refine j_istore (pc' := 69) (ls' := [(7, _), (6, _), (0, _), (1, _), (2, _), (3, _), (5, _)]) rfl rfl (Nat.le_of_ble_eq_true rfl) rfl ?_
            refine j_aload_n (pc' := 70) rfl rfl rfl ?_
            refine j_get (pc' := 73) rfl rfl flX6_51 (gxk_0 g σ) (nsF_12 σ) ?_
            refine j_iload (pc' := 75) rfl rfl rfl ?_
            refine j_iload (pc' := 77) rfl rfl rfl ?_
            refine j_if_eq (tgt := 90) (pc' := 80) rfl rfl rfl (fun _ => ?_) (fun c77 => absurd c77 (by decide))
            refine j_iconst (v := 0) (pc' := 91) rfl rfl (by decide) ?_
            obtain ⟨c91, hf⟩ := o_chk hf
            obtain ⟨σ91, e91, hf⟩ := o_let hf
            refine j_iast (pc' := 92) rfl rfl (gxk_8 g σ) (by decide) (vin_ok c91) ?_
            rw [gxs_8]; rw [e91]
            refine j_lload_n (pc' := 93) rfl rfl rfl ?_
            refine j_aload_n (pc' := 94) rfl rfl rfl ?_
            refine j_get (pc' := 97) rfl rfl flX6_51 (gxk_0 g σ91) (nsF_12 σ91) ?_
            refine j_iload (pc' := 99) rfl rfl rfl ?_
            obtain ⟨c99, hf⟩ := o_chk hf
            refine j_iald (pc' := 100) rfl rfl (gxk_8 g σ91) (vin_ok c99) ?_
            refine j_i2l (pc' := 101) rfl rfl ?_
            refine j_ladd (pc' := 102) rfl rfl ?_
            obtain ⟨y102, e102, hf⟩ := o_let hf
            rw [e102]
            refine j_lstore_n (pc' := 103) (ls' := [(3, _), (7, _), (6, _), (0, _), (1, _), (2, _), (5, _)]) rfl rfl (Nat.le_of_ble_eq_true rfl) rfl ?_
            refine j_iinc (pc' := 106) (d := 1) (ls' := [(5, _), (3, _), (7, _), (6, _), (0, _), (1, _), (2, _)]) rfl rfl rfl (by decide) (Nat.le_of_ble_eq_true rfl) rfl ?_
            refine j_goto (tgt := 19) rfl rfl ?_
            refine j_sub (ls' := [(0, .ref 0), (1, .int _), (2, va_rf (some k34_2)), (3, .long _), (5, .int _)]) ⟨rfl, rfl, rfl, rfl, rfl, trivial⟩ ?_
            exact ih _ _ _ _ _ _ hf k0
          · rw [if_pos c47] at hf
            refine j_aload (pc' := 52) rfl rfl rfl ?_
            refine j_aload_n (pc' := 53) rfl rfl rfl ?_
            refine j_get (pc' := 56) rfl rfl flX6_154 (gxk_0 g σ) (nsF_16 σ) ?_
            obtain ⟨r56, e56, hf⟩ := o_bind hf
            refine j_v1 (pc' := 59) rfl rfl miX1_isOnRoad lnX6_157 (gx_lot c43_6) rfl (s_X1_isOnRoad g σ k34_5 (σ.1 16 0) _ e56) (h_rm_of rfl) (Nat.le_of_ble_eq_true rfl) (c' := 0) (s' := 0) rfl rfl ?_
            refine j_if_ne (tgt := 66) (pc' := 62) rfl rfl rfl (fun c59 => ?_) (fun c59 => ?_)
            · rw [if_neg c59] at hf
              refine j_iconst (v := 0) (pc' := 67) rfl rfl (by decide) ?_
              refine j_istore (pc' := 69) (ls' := [(7, _), (6, _), (0, _), (1, _), (2, _), (3, _), (5, _)]) rfl rfl (Nat.le_of_ble_eq_true rfl) rfl ?_
              refine j_aload_n (pc' := 70) rfl rfl rfl ?_
              refine j_get (pc' := 73) rfl rfl flX6_51 (gxk_0 g σ) (nsF_12 σ) ?_
              refine j_iload (pc' := 75) rfl rfl rfl ?_
              refine j_iload (pc' := 77) rfl rfl rfl ?_
              refine j_if_eq (tgt := 90) (pc' := 80) rfl rfl rfl (fun _ => ?_) (fun c77 => absurd c77 (by decide))
              refine j_iconst (v := 0) (pc' := 91) rfl rfl (by decide) ?_
              obtain ⟨c91, hf⟩ := o_chk hf
              obtain ⟨σ91, e91, hf⟩ := o_let hf
              refine j_iast (pc' := 92) rfl rfl (gxk_8 g σ) (by decide) (vin_ok c91) ?_
              rw [gxs_8]; rw [e91]
              refine j_lload_n (pc' := 93) rfl rfl rfl ?_
              refine j_aload_n (pc' := 94) rfl rfl rfl ?_
              refine j_get (pc' := 97) rfl rfl flX6_51 (gxk_0 g σ91) (nsF_12 σ91) ?_
              refine j_iload (pc' := 99) rfl rfl rfl ?_
              obtain ⟨c99, hf⟩ := o_chk hf
              refine j_iald (pc' := 100) rfl rfl (gxk_8 g σ91) (vin_ok c99) ?_
              refine j_i2l (pc' := 101) rfl rfl ?_
              refine j_ladd (pc' := 102) rfl rfl ?_
              obtain ⟨y102, e102, hf⟩ := o_let hf
              rw [e102]
              refine j_lstore_n (pc' := 103) (ls' := [(3, _), (7, _), (6, _), (0, _), (1, _), (2, _), (5, _)]) rfl rfl (Nat.le_of_ble_eq_true rfl) rfl ?_
              refine j_iinc (pc' := 106) (d := 1) (ls' := [(5, _), (3, _), (7, _), (6, _), (0, _), (1, _), (2, _)]) rfl rfl rfl (by decide) (Nat.le_of_ble_eq_true rfl) rfl ?_
              refine j_goto (tgt := 19) rfl rfl ?_
              refine j_sub (ls' := [(0, .ref 0), (1, .int _), (2, va_rf (some k34_2)), (3, .long _), (5, .int _)]) ⟨rfl, rfl, rfl, rfl, rfl, trivial⟩ ?_
              exact ih _ _ _ _ _ _ hf k0
            · rw [if_pos c59] at hf
              refine j_iconst (v := 1) (pc' := 63) rfl rfl (by decide) ?_
              refine j_goto (tgt := 67) rfl rfl ?_
              refine j_istore (pc' := 69) (ls' := [(7, _), (6, _), (0, _), (1, _), (2, _), (3, _), (5, _)]) rfl rfl (Nat.le_of_ble_eq_true rfl) rfl ?_
              refine j_aload_n (pc' := 70) rfl rfl rfl ?_
              refine j_get (pc' := 73) rfl rfl flX6_51 (gxk_0 g σ) (nsF_12 σ) ?_
              refine j_iload (pc' := 75) rfl rfl rfl ?_
              refine j_iload (pc' := 77) rfl rfl rfl ?_
              refine j_if_eq (tgt := 90) (pc' := 80) rfl rfl rfl (fun c77 => absurd c77 (by decide)) (fun _ => ?_)
              refine j_aload (pc' := 82) rfl rfl rfl ?_
              refine j_iload_n (pc' := 83) rfl rfl rfl ?_
              refine j_aload_n (pc' := 84) rfl rfl rfl ?_
              obtain ⟨r84, e84, hf⟩ := o_bind hf
              refine j_s3 (pc' := 87) rfl rfl miX6_worthOf lnX6_213 (s_X6_worthOf g σ k34_5 x1 (some k34_2) _ e84) (h_rm_of rfl) (Nat.le_of_ble_eq_true rfl) (c' := 0) (s' := 0) rfl rfl ?_
              refine j_goto (tgt := 91) rfl rfl ?_
              obtain ⟨c91, hf⟩ := o_chk hf
              obtain ⟨σ91, e91, hf⟩ := o_let hf
              refine j_iast (pc' := 92) rfl rfl (gxk_8 g σ) (by decide) (vin_ok c91) ?_
              rw [gxs_8]; rw [e91]
              refine j_lload_n (pc' := 93) rfl rfl rfl ?_
              refine j_aload_n (pc' := 94) rfl rfl rfl ?_
              refine j_get (pc' := 97) rfl rfl flX6_51 (gxk_0 g σ91) (nsF_12 σ91) ?_
              refine j_iload (pc' := 99) rfl rfl rfl ?_
              obtain ⟨c99, hf⟩ := o_chk hf
              refine j_iald (pc' := 100) rfl rfl (gxk_8 g σ91) (vin_ok c99) ?_
              refine j_i2l (pc' := 101) rfl rfl ?_
              refine j_ladd (pc' := 102) rfl rfl ?_
              obtain ⟨y102, e102, hf⟩ := o_let hf
              rw [e102]
              refine j_lstore_n (pc' := 103) (ls' := [(3, _), (7, _), (6, _), (0, _), (1, _), (2, _), (5, _)]) rfl rfl (Nat.le_of_ble_eq_true rfl) rfl ?_
              refine j_iinc (pc' := 106) (d := 1) (ls' := [(5, _), (3, _), (7, _), (6, _), (0, _), (1, _), (2, _)]) rfl rfl rfl (by decide) (Nat.le_of_ble_eq_true rfl) rfl ?_
              refine j_goto (tgt := 19) rfl rfl ?_
              refine j_sub (ls' := [(0, .ref 0), (1, .int _), (2, va_rf (some k34_2)), (3, .long _), (5, .int _)]) ⟨rfl, rfl, rfl, rfl, rfl, trivial⟩ ?_
              exact ih _ _ _ _ _ _ hf k0
def f_X6_reckonWorth (σ : xS) (x1 : Int32) : Option (Int64 × xS) := (f_X6_orderInForce σ x1 (σ.1 16 0)).bind fun r7 => (f_X6_orderAt σ r7).bind fun r10 => oq r10 ((f_X6_reckonWorth_L19 4000 σ x1 none 0 0).bind fun r19 => some (r19.1, r19.2)) (fun k13_1 => (f_X6_reckonWorth_L19 4000 σ x1 (some k13_1) 0 0).bind fun r19 => some (r19.1, r19.2))
set_option maxHeartbeats 4000000 in
set_option maxRecDepth 100000 in
theorem s_X6_reckonWorth (g : hH) (σ : xS) (x1 : Int32) (r : (Int64 × xS)) (hf : f_X6_reckonWorth σ x1 = some r) : SpD mX6_reckonWorth rX6_reckonWorth [.ref 0, .int x1] (gx g σ) (some (.long r.1)) (gx g r.2) := by
  refine sp_of miX6_reckonWorth (Nat.le_of_ble_eq_true rfl) ?_
  show J _ _ _ 0 0 _ 0 [(0, .ref 0), (1, .int x1)] []
  unfold f_X6_reckonWorth at hf
  refine j_aload_n (pc' := 1) rfl rfl rfl ?_
  refine j_aload_n (pc' := 2) rfl rfl rfl ?_
  refine j_iload_n (pc' := 3) rfl rfl rfl ?_
  refine j_aload_n (pc' := 4) rfl rfl rfl ?_
  refine j_get (pc' := 7) rfl rfl flX6_154 (gxk_0 g σ) (nsF_16 σ) ?_
  obtain ⟨r7, e7, hf⟩ := o_bind hf
  refine j_v2 (pc' := 10) rfl rfl miX6_orderInForce lnX6_209 (gxk_0 g σ) rfl (s_X6_orderInForce g σ x1 (σ.1 16 0) _ e7) (h_rm_of rfl) (Nat.le_of_ble_eq_true rfl) (c' := 0) (s' := 0) rfl rfl ?_
  obtain ⟨r10, e10, hf⟩ := o_bind hf
  refine j_v1 (pc' := 13) rfl rfl miX6_orderAt lnX6_202 (gxk_0 g σ) rfl (s_X6_orderAt g σ r7 _ e10) (h_rm_of rfl) (Nat.le_of_ble_eq_true rfl) (c' := 0) (s' := 0) rfl rfl ?_
  rcases o_q hf with ⟨q13_1, hf⟩ | ⟨k13_1, q13_1, hf⟩
  · rw [q13_1, va_rf_none]
    refine j_astore_nN (pc' := 14) (ls' := [(2, _), (0, _), (1, _)]) rfl rfl (Nat.le_of_ble_eq_true rfl) rfl ?_
    refine j_lconst (v := 0) (pc' := 15) rfl rfl (by decide) ?_
    refine j_lstore_n (pc' := 16) (ls' := [(3, _), (2, _), (0, _), (1, _)]) rfl rfl (Nat.le_of_ble_eq_true rfl) rfl ?_
    refine j_iconst (v := 0) (pc' := 17) rfl rfl (by decide) ?_
    refine j_istore (pc' := 19) (ls' := [(5, _), (3, _), (2, _), (0, _), (1, _)]) rfl rfl (Nat.le_of_ble_eq_true rfl) rfl ?_
    obtain ⟨r19, e19, hf⟩ := o_bind hf
    refine j_sub (ls' := [(0, .ref 0), (1, .int _), (2, va_rf none), (3, .long _), (5, .int _)]) ⟨rfl, rfl, rfl, rfl, rfl, trivial⟩ ?_
    refine s_X6_reckonWorth_L19 g _ _ _ _ _ _ _ e19 ?_
    refine j_lload_n (pc' := 110) rfl rfl rfl ?_
    have hf := Option.some.inj hf; subst hf
    exact j_lret rfl rfl (Nat.le_of_ble_eq_true rfl) (Nat.le_of_ble_eq_true rfl) ⟨rfl, rfl⟩
  · rw [q13_1, va_rf_some]
    refine j_astore_n (pc' := 14) (ls' := [(2, _), (0, _), (1, _)]) rfl rfl (Nat.le_of_ble_eq_true rfl) rfl ?_
    refine j_lconst (v := 0) (pc' := 15) rfl rfl (by decide) ?_
    refine j_lstore_n (pc' := 16) (ls' := [(3, _), (2, _), (0, _), (1, _)]) rfl rfl (Nat.le_of_ble_eq_true rfl) rfl ?_
    refine j_iconst (v := 0) (pc' := 17) rfl rfl (by decide) ?_
    refine j_istore (pc' := 19) (ls' := [(5, _), (3, _), (2, _), (0, _), (1, _)]) rfl rfl (Nat.le_of_ble_eq_true rfl) rfl ?_
    obtain ⟨r19, e19, hf⟩ := o_bind hf
    refine j_sub (ls' := [(0, .ref 0), (1, .int _), (2, va_rf (some k13_1)), (3, .long _), (5, .int _)]) ⟨rfl, rfl, rfl, rfl, rfl, trivial⟩ ?_
    refine s_X6_reckonWorth_L19 g _ _ _ _ _ _ _ e19 ?_
    refine j_lload_n (pc' := 110) rfl rfl rfl ?_
    have hf := Option.some.inj hf; subst hf
    exact j_lret rfl rfl (Nat.le_of_ble_eq_true rfl) (Nat.le_of_ble_eq_true rfl) ⟨rfl, rfl⟩
end CLASS2
