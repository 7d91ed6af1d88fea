section MODEL3
def rX7_silver : Room := { frames := 2, cells := 0, slots := 0, locals := 43 }
def f_X7_silver (μ : mS) (x1 : Int32) : Option Int64 := (f_X7_isLot μ x1).bind fun r2 => if r2 = 0 then some (-1) else (f_X7_silverOf μ x1).bind fun r10 => some r10
set_option maxHeartbeats 4000000 in
set_option maxRecDepth 100000 in
theorem s_X7_silver (g : hH) (μ : mS) (x1 : Int32) (r : Int64) (hf : f_X7_silver μ x1 = some r) : SpD mX7_silver rX7_silver [.ref 5000, .int x1] (gm g μ) (some (.long r)) (gm g μ) := by
  refine sp_of miX7_silver (Nat.le_of_ble_eq_true rfl) ?_
  show J _ _ _ 0 0 _ 0 [(0, .ref 5000), (1, .int x1)] []
  unfold f_X7_silver at hf
  refine j_aload_n (pc' := 1) rfl rfl rfl ?_
  refine j_iload_n (pc' := 2) rfl rfl rfl ?_
  obtain ⟨r2, e2, hf⟩ := o_bind hf
  refine j_v1 (pc' := 5) rfl rfl miX7_isLot lnX7_160 (gm_o g μ) rfl (s_X7_isLot g μ x1 _ e2) (h_rm_of rfl) (Nat.le_of_ble_eq_true rfl) (c' := 0) (s' := 0) rfl rfl ?_
  refine j_if_eq (tgt := 16) (pc' := 8) rfl rfl rfl (fun c5 => ?_) (fun c5 => ?_)
  · rw [if_pos c5] at hf
    refine j_ldc2 (pc' := 19) rfl rfl kcX7_177 ?_
    have hf := Option.some.inj hf; subst hf
    exact j_lret rfl rfl (Nat.zero_le _) (Nat.zero_le _) ⟨rfl, rfl⟩
  · rw [if_neg c5] at hf
    refine j_aload_n (pc' := 9) rfl rfl rfl ?_
    refine j_iload_n (pc' := 10) rfl rfl rfl ?_
    obtain ⟨r10, e10, hf⟩ := o_bind hf
    refine j_v1 (pc' := 13) rfl rfl miX7_silverOf lnX7_173 (gm_o g μ) rfl (s_X7_silverOf g μ x1 _ e10) (h_rm_of rfl) (Nat.le_of_ble_eq_true rfl) (c' := 0) (s' := 0) rfl rfl ?_
    refine j_goto (tgt := 19) rfl rfl ?_
    have hf := Option.some.inj hf; subst hf
    exact j_lret rfl rfl (Nat.zero_le _) (Nat.zero_le _) ⟨rfl, rfl⟩
def rX7_today : Room := { frames := 1, cells := 0, slots := 0, locals := 22 }
def f_X7_today (μ : mS) (x1 : Int32) : Option (Int32 × mS) := (f_X7_in x1 (μ.1 6 0) 999).bind fun r8 => if r8 = 0 then some ((-2), μ) else letm (seti μ 6 (fun _ => x1)) fun μ24 => some ((μ.1 6 0), μ24)
set_option maxHeartbeats 4000000 in
set_option maxRecDepth 100000 in
theorem s_X7_today (g : hH) (μ : mS) (x1 : Int32) (r : (Int32 × mS)) (hf : f_X7_today μ x1 = some r) : SpD mX7_today rX7_today [.ref 5000, .int x1] (gm g μ) (some (.int r.1)) (gm g r.2) := by
  refine sp_of miX7_today (Nat.le_of_ble_eq_true rfl) ?_
  show J _ _ _ 0 0 _ 0 [(0, .ref 5000), (1, .int x1)] []
  unfold f_X7_today at hf
  refine j_iload_n (pc' := 1) rfl rfl rfl ?_
  refine j_aload_n (pc' := 2) rfl rfl rfl ?_
  refine j_get (pc' := 5) rfl rfl flX7_167 (gm_o g μ) (mF_6 μ) ?_
  refine j_sipush (v := 999) (pc' := 8) rfl rfl (by decide) ?_
  obtain ⟨r8, e8, hf⟩ := o_bind hf
  refine j_s3 (pc' := 11) rfl rfl miX7_in lnX7_138 (s_X7_in (gm g μ) x1 (μ.1 6 0) 999 _ e8) (h_rm_of rfl) (Nat.le_of_ble_eq_true rfl) (c' := 0) (s' := 0) rfl rfl ?_
  refine j_if_ne (tgt := 17) (pc' := 14) rfl rfl rfl (fun c11 => ?_) (fun c11 => ?_)
  · rw [if_neg c11] at hf
    refine j_aload_n (pc' := 18) rfl rfl rfl ?_
    refine j_get (pc' := 21) rfl rfl flX7_167 (gm_o g μ) (mF_6 μ) ?_
    refine j_istore_n (pc' := 22) (ls' := [(2, _), (0, _), (1, _)]) rfl rfl (Nat.le_of_ble_eq_true rfl) rfl ?_
    refine j_aload_n (pc' := 23) rfl rfl rfl ?_
    refine j_iload_n (pc' := 24) rfl rfl rfl ?_
    obtain ⟨μ24, e24, hf⟩ := o_let hf
    refine j_put (pc' := 27) rfl rfl flX7_167 (gm_o g μ) (by decide) (Nat.le_of_ble_eq_true rfl) rfl rfl ?_
    rw [gs_6]; rw [e24]
    refine j_iload_n (pc' := 28) rfl rfl rfl ?_
    have hf := Option.some.inj hf; subst hf
    exact j_iret rfl rfl (Nat.zero_le _) (Nat.zero_le _) ⟨rfl, rfl⟩
  · rw [if_pos c11] at hf
    refine j_bipush (v := (-2)) (pc' := 16) rfl rfl (by decide) ?_
    have hf := Option.some.inj hf; subst hf
    exact j_iret rfl rfl (Nat.zero_le _) (Nat.zero_le _) ⟨rfl, rfl⟩
def rX7_feed : Room := { frames := 1, cells := 0, slots := 0, locals := 22 }
def f_X7_feed_L33 : Nat → mS → Int64 → Int32 → Option (mS)
  | 0, _, _, _ => none
  | n + 1, μ, x1, x4 => if x4 < 0 then some (μ) else bif vin (μ.1 20 0) 160 then letm (seti μ 19 (va_up (μ.1 19) ((μ.1 20 0)).toNatClampNeg (vp_nar .byte ((((x1 >>> ((8 * x4).toInt64 &&& 63))).toInt32).toInt8.toInt32)))) fun μ55 => letm (seti μ55 20 (fun _ => ((μ55.1 20 0) + 1))) fun μ63 => f_X7_feed_L33 n μ63 x1 (x4 + (-1)) else none
set_option maxHeartbeats 4000000 in
set_option maxRecDepth 100000 in
theorem s_X7_feed_L33 {Q : Option Value → hH → Prop} (g : hH) : ∀ (n : Nat) (μ : mS) (x1 : Int64) (x4 : Int32) (r : mS), f_X7_feed_L33 n μ x1 x4 = some r → (J mX7_feed rX7_feed Q 0 0 (gm g r) 72 [(0, .ref 5000)] []) → J mX7_feed rX7_feed Q 0 0 (gm g μ) 33 [(0, .ref 5000), (1, .long x1), (4, .int x4)] [] := by
  intro n
  induction n with
  | zero =>
    intro μ x1 x4 r hf
    cases hf
  | succ n ih =>
    intro μ x1 x4 r hf k0
    rw [f_X7_feed_L33] at hf
    refine j_iload (pc' := 35) rfl rfl rfl ?_
    refine j_if_lt (tgt := 72) (pc' := 38) rfl rfl rfl (fun c35 => ?_) (fun c35 => ?_)
    · rw [if_pos c35] at hf
      have hf := Option.some.inj hf; subst hf
      exact j_sub (ls' := [(0, .ref 5000)]) ⟨rfl, trivial⟩ (k0)
    · rw [if_neg c35] at hf
      refine j_aload_n (pc' := 39) rfl rfl rfl ?_
      refine j_get (pc' := 42) rfl rfl flX7_56 (gm_o g μ) (mF_19 μ) ?_
      refine j_aload_n (pc' := 43) rfl rfl rfl ?_
      refine j_get (pc' := 46) rfl rfl flX7_179 (gm_o g μ) (mF_20 μ) ?_
      refine j_lload_n (pc' := 47) rfl rfl rfl ?_
      refine j_bipush (v := 8) (pc' := 49) rfl rfl (by decide) ?_
      refine j_iload (pc' := 51) rfl rfl rfl ?_
      refine j_imul (pc' := 52) rfl rfl ?_
      refine j_lshr (pc' := 53) rfl rfl ?_
      refine j_l2i (pc' := 54) rfl rfl ?_
      refine j_i2b (pc' := 55) rfl rfl ?_
      obtain ⟨c55, hf⟩ := o_chk hf
      obtain ⟨μ55, e55, hf⟩ := o_let hf
      refine j_bast (pc' := 56) rfl rfl (gm_19 g μ) (by decide) (vin_ok c55) ?_
      rw [gs_19]; rw [e55]
      refine j_aload_n (pc' := 57) rfl rfl rfl ?_
      refine j_dup (pc' := 58) rfl rfl rfl ?_
      refine j_get (pc' := 61) rfl rfl flX7_179 (gm_o g μ55) (mF_20 μ55) ?_
      refine j_iconst (v := 1) (pc' := 62) rfl rfl (by decide) ?_
      refine j_iadd (pc' := 63) rfl rfl ?_
      obtain ⟨μ63, e63, hf⟩ := o_let hf
      refine j_put (pc' := 66) rfl rfl flX7_179 (gm_o g μ55) (by decide) (Nat.le_of_ble_eq_true rfl) rfl rfl ?_
      rw [gs_20]; rw [e63]
      refine j_iinc (pc' := 69) (d := -1) (ls' := [(4, _), (0, _), (1, _)]) rfl rfl rfl (by decide) (Nat.le_of_ble_eq_true rfl) rfl ?_
      refine j_goto (tgt := 33) rfl rfl ?_
      refine j_sub (ls' := [(0, .ref 5000), (1, .long _), (4, .int _)]) ⟨rfl, rfl, rfl, trivial⟩ ?_
      exact ih _ _ _ _ hf k0
def f_X7_feed (μ : mS) (x1 : Int64) (x3 : Int32) : Option (Int32 × mS) := (f_X7_in x3 1 8).bind fun r4 => if r4 = 0 then some ((-2), μ) else if ((μ.1 20 0) + x3) ≤ 160 then (f_X7_feed_L33 4000 μ x1 (x3 - 1)).bind fun r33 => some ((r33.1 20 0), r33) else some ((-4), μ)
set_option maxHeartbeats 4000000 in
set_option maxRecDepth 100000 in
theorem s_X7_feed (g : hH) (μ : mS) (x1 : Int64) (x3 : Int32) (r : (Int32 × mS)) (hf : f_X7_feed μ x1 x3 = some r) : SpD mX7_feed rX7_feed [.ref 5000, .long x1, .int x3] (gm g μ) (some (.int r.1)) (gm g r.2) := by
  refine sp_of miX7_feed (Nat.le_of_ble_eq_true rfl) ?_
  show J _ _ _ 0 0 _ 0 [(0, .ref 5000), (1, .long x1), (3, .int x3)] []
  unfold f_X7_feed at hf
  refine j_iload_n (pc' := 1) rfl rfl rfl ?_
  refine j_iconst (v := 1) (pc' := 2) rfl rfl (by decide) ?_
  refine j_bipush (v := 8) (pc' := 4) rfl rfl (by decide) ?_
  obtain ⟨r4, e4, hf⟩ := o_bind hf
  refine j_s3 (pc' := 7) rfl rfl miX7_in lnX7_138 (s_X7_in (gm g μ) x3 1 8 _ e4) (h_rm_of rfl) (Nat.le_of_ble_eq_true rfl) (c' := 0) (s' := 0) rfl rfl ?_
  refine j_if_ne (tgt := 13) (pc' := 10) rfl rfl rfl (fun c7 => ?_) (fun c7 => ?_)
  · rw [if_neg c7] at hf
    refine j_aload_n (pc' := 14) rfl rfl rfl ?_
    refine j_get (pc' := 17) rfl rfl flX7_179 (gm_o g μ) (mF_20 μ) ?_
    refine j_iload_n (pc' := 18) rfl rfl rfl ?_
    refine j_iadd (pc' := 19) rfl rfl ?_
    refine j_sipush (v := 160) (pc' := 22) rfl rfl (by decide) ?_
    refine j_icmp_le (tgt := 28) (pc' := 25) rfl rfl rfl (fun c22 => ?_) (fun c22 => ?_)
    · rw [if_pos c22] at hf
      refine j_iload_n (pc' := 29) rfl rfl rfl ?_
      refine j_iconst (v := 1) (pc' := 30) rfl rfl (by decide) ?_
      refine j_isub (pc' := 31) rfl rfl ?_
      refine j_istore (pc' := 33) (ls' := [(4, _), (0, _), (1, _), (3, _)]) rfl rfl (Nat.le_of_ble_eq_true rfl) rfl ?_
      obtain ⟨r33, e33, hf⟩ := o_bind hf
      refine j_sub (ls' := [(0, .ref 5000), (1, .long x1), (4, .int (x3 - 1))]) ⟨rfl, rfl, rfl, trivial⟩ ?_
      refine s_X7_feed_L33 g _ _ _ _ _ e33 ?_
      refine j_aload_n (pc' := 73) rfl rfl rfl ?_
      refine j_get (pc' := 76) rfl rfl flX7_179 (gm_o g r33) (mF_20 r33) ?_
      have hf := Option.some.inj hf; subst hf
      exact j_iret rfl rfl (Nat.zero_le _) (Nat.zero_le _) ⟨rfl, rfl⟩
    · rw [if_neg c22] at hf
      refine j_bipush (v := (-4)) (pc' := 27) rfl rfl (by decide) ?_
      have hf := Option.some.inj hf; subst hf
      exact j_iret rfl rfl (Nat.zero_le _) (Nat.zero_le _) ⟨rfl, rfl⟩
  · rw [if_pos c7] at hf
    refine j_bipush (v := (-2)) (pc' := 12) rfl rfl (by decide) ?_
    have hf := Option.some.inj hf; subst hf
    exact j_iret rfl rfl (Nat.zero_le _) (Nat.zero_le _) ⟨rfl, rfl⟩
def rX7_order : Room := { frames := 3, cells := 0, slots := 0, locals := 66 }
def f_X7_order_L19 : Nat → mS → Int32 → Int32 → Option (mS)
  | 0, _, _, _ => none
  | n + 1, μ, x1, x2 => if 8 ≤ x2 then some (μ) else bif vin ((8 * x1) + x2) 80 then letm (seti μ 22 (va_up (μ.1 22) (((8 * x1) + x2)).toNatClampNeg 0)) fun μ36 => f_X7_order_L19 n μ36 x1 (x2 + 1) else none
set_option maxHeartbeats 4000000 in
set_option maxRecDepth 100000 in
theorem s_X7_order_L19 {Q : Option Value → hH → Prop} (g : hH) : ∀ (n : Nat) (μ : mS) (x1 : Int32) (x2 : Int32) (r : mS), f_X7_order_L19 n μ x1 x2 = some r → (J mX7_order rX7_order Q 0 0 (gm g r) 43 [(0, .ref 5000), (1, .int x1)] []) → J mX7_order rX7_order Q 0 0 (gm g μ) 19 [(0, .ref 5000), (1, .int x1), (2, .int x2)] [] := by
  intro n
  induction n with
  | zero =>
    intro μ x1 x2 r hf
    cases hf
  | succ n ih =>
    intro μ x1 x2 r hf k0
    rw [f_X7_order_L19] at hf
    refine j_iload_n (pc' := 20) rfl rfl rfl ?_
    refine j_bipush (v := 8) (pc' := 22) rfl rfl (by decide) ?_
    refine j_icmp_ge (tgt := 43) (pc' := 25) rfl rfl rfl (fun c22 => ?_) (fun c22 => ?_)
    · rw [if_pos c22] at hf
      have hf := Option.some.inj hf; subst hf
      exact j_sub (ls' := [(0, .ref 5000), (1, .int _)]) ⟨rfl, rfl, trivial⟩ (k0)
    · rw [if_neg c22] at hf
      refine j_aload_n (pc' := 26) rfl rfl rfl ?_
      refine j_get (pc' := 29) rfl rfl flX7_60 (gm_o g μ) (mF_22 μ) ?_
      refine j_bipush (v := 8) (pc' := 31) rfl rfl (by decide) ?_
      refine j_iload_n (pc' := 32) rfl rfl rfl ?_
      refine j_imul (pc' := 33) rfl rfl ?_
      refine j_iload_n (pc' := 34) rfl rfl rfl ?_
      refine j_iadd (pc' := 35) rfl rfl ?_
      refine j_iconst (v := 0) (pc' := 36) rfl rfl (by decide) ?_
      obtain ⟨c36, hf⟩ := o_chk hf
      obtain ⟨μ36, e36, hf⟩ := o_let hf
      refine j_iast (pc' := 37) rfl rfl (gm_22 g μ) (by decide) (vin_ok c36) ?_
      rw [gs_22]; rw [e36]
      refine j_iinc (pc' := 40) (d := 1) (ls' := [(2, _), (0, _), (1, _)]) rfl rfl rfl (by decide) (Nat.le_of_ble_eq_true rfl) rfl ?_
      refine j_goto (tgt := 19) rfl rfl ?_
      refine j_sub (ls' := [(0, .ref 5000), (1, .int _), (2, .int _)]) ⟨rfl, rfl, rfl, trivial⟩ ?_
      exact ih _ _ _ _ hf k0
def f_X7_order_L56 : Nat → mS → Int32 → Int32 → Int32 → Option (Int32 × mS)
  | 0, _, _, _, _ => none
  | n + 1, μ, x1, x2, x3 => if x3 = 0 then some (x3, μ) else if (μ.1 20 0) ≤ (μ.1 26 0) then some (x3, μ) else if 6 ≤ x2 then f_X7_order_L56 n μ x1 (x2 + 1) 0 else (f_X7_takes μ 59).bind fun r80 => if r80.1 = 0 then f_X7_order_L56 n r80.2 x1 (x2 + 1) 0 else (f_X7_clause r80.2 x1).bind fun r88 => if r88.1 = 0 then f_X7_order_L56 n r88.2 x1 (x2 + 1) 0 else f_X7_order_L56 n r88.2 x1 (x2 + 1) 1
set_option maxHeartbeats 4000000 in
set_option maxRecDepth 100000 in
theorem s_X7_order_L56 {Q : Option Value → hH → Prop} (g : hH) : ∀ (n : Nat) (μ : mS) (x1 : Int32) (x2 : Int32) (x3 : Int32) (r : Int32 × mS), f_X7_order_L56 n μ x1 x2 x3 = some r → (J mX7_order rX7_order Q 0 0 (gm g r.2) 106 [(0, .ref 5000), (1, .int x1), (3, .int r.1)] []) → J mX7_order rX7_order Q 0 0 (gm g μ) 56 [(0, .ref 5000), (1, .int x1), (2, .int x2), (3, .int x3)] [] := by
  intro n
  induction n with
  | zero =>
    intro μ x1 x2 x3 r hf
    cases hf
  | succ n ih =>
    intro μ x1 x2 x3 r hf k0
    rw [f_X7_order_L56] at hf
    refine j_iload_n (pc' := 57) rfl rfl rfl ?_
    refine j_if_eq (tgt := 106) (pc' := 60) rfl rfl rfl (fun c57 => ?_) (fun c57 => ?_)
    · rw [if_pos c57] at hf
      have hf := Option.some.inj hf; subst hf
      exact j_sub (ls' := [(0, .ref 5000), (1, .int _), (3, .int _)]) ⟨rfl, rfl, rfl, trivial⟩ (k0)
    · rw [if_neg c57] at hf
      refine j_aload_n (pc' := 61) rfl rfl rfl ?_
      refine j_get (pc' := 64) rfl rfl flX7_182 (gm_o g μ) (mF_26 μ) ?_
      refine j_aload_n (pc' := 65) rfl rfl rfl ?_
      refine j_get (pc' := 68) rfl rfl flX7_179 (gm_o g μ) (mF_20 μ) ?_
      refine j_icmp_ge (tgt := 106) (pc' := 71) rfl rfl rfl (fun c68 => ?_) (fun c68 => ?_)
      · rw [if_pos c68] at hf
        have hf := Option.some.inj hf; subst hf
        exact j_sub (ls' := [(0, .ref 5000), (1, .int _), (3, .int _)]) ⟨rfl, rfl, rfl, trivial⟩ (k0)
      · rw [if_neg c68] at hf
        refine j_iload_n (pc' := 72) rfl rfl rfl ?_
        refine j_bipush (v := 6) (pc' := 74) rfl rfl (by decide) ?_
        refine j_icmp_ge (tgt := 98) (pc' := 77) rfl rfl rfl (fun c74 => ?_) (fun c74 => ?_)
        · rw [if_pos c74] at hf
          refine j_iconst (v := 0) (pc' := 99) rfl rfl (by decide) ?_
          refine j_istore_n (pc' := 100) (ls' := [(3, _), (0, _), (1, _), (2, _)]) rfl rfl (Nat.le_of_ble_eq_true rfl) rfl ?_
          refine j_iinc (pc' := 103) (d := 1) (ls' := [(2, _), (3, _), (0, _), (1, _)]) rfl rfl rfl (by decide) (Nat.le_of_ble_eq_true rfl) rfl ?_
          refine j_goto (tgt := 56) rfl rfl ?_
          refine j_sub (ls' := [(0, .ref 5000), (1, .int _), (2, .int _), (3, .int _)]) ⟨rfl, rfl, rfl, rfl, trivial⟩ ?_
          exact ih _ _ _ _ _ hf k0
        · rw [if_neg c74] at hf
          refine j_aload_n (pc' := 78) rfl rfl rfl ?_
          refine j_bipush (v := 59) (pc' := 80) rfl rfl (by decide) ?_
          obtain ⟨r80, e80, hf⟩ := o_bind hf
          refine j_v1 (pc' := 83) rfl rfl miX7_takes lnX7_191 (gm_o g μ) rfl (s_X7_takes g μ 59 _ e80) (h_rm_of rfl) (Nat.le_of_ble_eq_true rfl) (c' := 0) (s' := 0) rfl rfl ?_
          refine j_if_eq (tgt := 98) (pc' := 86) rfl rfl rfl (fun c83 => ?_) (fun c83 => ?_)
          · rw [if_pos c83] at hf
            refine j_iconst (v := 0) (pc' := 99) rfl rfl (by decide) ?_
            refine j_istore_n (pc' := 100) (ls' := [(3, _), (0, _), (1, _), (2, _)]) rfl rfl (Nat.le_of_ble_eq_true rfl) rfl ?_
            refine j_iinc (pc' := 103) (d := 1) (ls' := [(2, _), (3, _), (0, _), (1, _)]) rfl rfl rfl (by decide) (Nat.le_of_ble_eq_true rfl) rfl ?_
            refine j_goto (tgt := 56) rfl rfl ?_
            refine j_sub (ls' := [(0, .ref 5000), (1, .int _), (2, .int _), (3, .int _)]) ⟨rfl, rfl, rfl, rfl, trivial⟩ ?_
            exact ih _ _ _ _ _ hf k0
          · rw [if_neg c83] at hf
            refine j_aload_n (pc' := 87) rfl rfl rfl ?_
            refine j_iload_n (pc' := 88) rfl rfl rfl ?_
            obtain ⟨r88, e88, hf⟩ := o_bind hf
            refine j_v1 (pc' := 91) rfl rfl miX7_clause lnX7_208 (gm_o g r80.2) rfl (s_X7_clause g r80.2 x1 _ e88) (h_rm_of rfl) (Nat.le_of_ble_eq_true rfl) (c' := 0) (s' := 0) rfl rfl ?_
            refine j_if_eq (tgt := 98) (pc' := 94) rfl rfl rfl (fun c91 => ?_) (fun c91 => ?_)
            · rw [if_pos c91] at hf
              refine j_iconst (v := 0) (pc' := 99) rfl rfl (by decide) ?_
              refine j_istore_n (pc' := 100) (ls' := [(3, _), (0, _), (1, _), (2, _)]) rfl rfl (Nat.le_of_ble_eq_true rfl) rfl ?_
              refine j_iinc (pc' := 103) (d := 1) (ls' := [(2, _), (3, _), (0, _), (1, _)]) rfl rfl rfl (by decide) (Nat.le_of_ble_eq_true rfl) rfl ?_
              refine j_goto (tgt := 56) rfl rfl ?_
              refine j_sub (ls' := [(0, .ref 5000), (1, .int _), (2, .int _), (3, .int _)]) ⟨rfl, rfl, rfl, rfl, trivial⟩ ?_
              exact ih _ _ _ _ _ hf k0
            · rw [if_neg c91] at hf
              refine j_iconst (v := 1) (pc' := 95) rfl rfl (by decide) ?_
              refine j_goto (tgt := 99) rfl rfl ?_
              refine j_istore_n (pc' := 100) (ls' := [(3, _), (0, _), (1, _), (2, _)]) rfl rfl (Nat.le_of_ble_eq_true rfl) rfl ?_
              refine j_iinc (pc' := 103) (d := 1) (ls' := [(2, _), (3, _), (0, _), (1, _)]) rfl rfl rfl (by decide) (Nat.le_of_ble_eq_true rfl) rfl ?_
              refine j_goto (tgt := 56) rfl rfl ?_
              refine j_sub (ls' := [(0, .ref 5000), (1, .int _), (2, .int _), (3, .int _)]) ⟨rfl, rfl, rfl, rfl, trivial⟩ ?_
              exact ih _ _ _ _ _ hf k0
def f_X7_order_L126 : Nat → mS → Int32 → Int32 → Option (mS)
  | 0, _, _, _ => none
  | n + 1, μ, x1, x4 => if 6 ≤ x4 then some (μ) else bif vin ((6 * x1) + x4) 60 then letm (seti μ 25 (va_up (μ.1 25) (((6 * x1) + x4)).toNatClampNeg 0)) fun μ145 => f_X7_order_L126 n μ145 x1 (x4 + 1) else none
set_option maxHeartbeats 4000000 in
set_option maxRecDepth 100000 in
theorem s_X7_order_L126 {Q : Option Value → hH → Prop} (g : hH) : ∀ (n : Nat) (μ : mS) (x1 : Int32) (x4 : Int32) (r : mS), f_X7_order_L126 n μ x1 x4 = some r → (J mX7_order rX7_order Q 0 0 (gm g r) 152 [(0, .ref 5000), (1, .int x1)] []) → J mX7_order rX7_order Q 0 0 (gm g μ) 126 [(0, .ref 5000), (1, .int x1), (4, .int x4)] [] := by
  intro n
  induction n with
  | zero =>
    intro μ x1 x4 r hf
    cases hf
  | succ n ih =>
    intro μ x1 x4 r hf k0
    rw [f_X7_order_L126] at hf
    refine j_iload (pc' := 128) rfl rfl rfl ?_
    refine j_bipush (v := 6) (pc' := 130) rfl rfl (by decide) ?_
    refine j_icmp_ge (tgt := 152) (pc' := 133) rfl rfl rfl (fun c130 => ?_) (fun c130 => ?_)
    · rw [if_pos c130] at hf
      have hf := Option.some.inj hf; subst hf
      exact j_sub (ls' := [(0, .ref 5000), (1, .int _)]) ⟨rfl, rfl, trivial⟩ (k0)
    · rw [if_neg c130] at hf
      refine j_aload_n (pc' := 134) rfl rfl rfl ?_
      refine j_get (pc' := 137) rfl rfl flX7_69 (gm_o g μ) (mF_25 μ) ?_
      refine j_bipush (v := 6) (pc' := 139) rfl rfl (by decide) ?_
      refine j_iload_n (pc' := 140) rfl rfl rfl ?_
      refine j_imul (pc' := 141) rfl rfl ?_
      refine j_iload (pc' := 143) rfl rfl rfl ?_
      refine j_iadd (pc' := 144) rfl rfl ?_
      refine j_iconst (v := 0) (pc' := 145) rfl rfl (by decide) ?_
      obtain ⟨c145, hf⟩ := o_chk hf
      obtain ⟨μ145, e145, hf⟩ := o_let hf
      refine j_iast (pc' := 146) rfl rfl (gm_25 g μ) (by decide) (vin_ok c145) ?_
      rw [gs_25]; rw [e145]
      refine j_iinc (pc' := 149) (d := 1) (ls' := [(4, _), (0, _), (1, _)]) rfl rfl rfl (by decide) (Nat.le_of_ble_eq_true rfl) rfl ?_
      refine j_goto (tgt := 126) rfl rfl ?_
      refine j_sub (ls' := [(0, .ref 5000), (1, .int _), (4, .int _)]) ⟨rfl, rfl, rfl, trivial⟩ ?_
      exact ih _ _ _ _ hf k0
def f_X7_order (μ : mS) : Option (Int32 × mS) := if (μ.1 21 0) = 10 then some ((-4), μ) else (f_X7_order_L19 4000 μ (μ.1 21 0) 0).bind fun r19 => letm (seti r19 26 (fun _ => 0)) fun μ45 => (f_X7_clause μ45 (μ.1 21 0)).bind fun r52 => (f_X7_order_L56 4000 r52.2 (μ.1 21 0) 1 r52.1).bind fun r56 => letm (seti r56.2 20 (fun _ => 0)) fun μ108 => if r56.1 = 0 then some (((-10) - (μ108.1 26 0)), μ108) else (f_X7_order_L126 4000 μ108 (μ.1 21 0) 0).bind fun r126 => letm (seti r126 21 (fun _ => ((r126.1 21 0) + 1))) fun μ159 => some ((μ.1 21 0), μ159)
set_option maxHeartbeats 4000000 in
set_option maxRecDepth 100000 in
theorem s_X7_order (g : hH) (μ : mS) (r : (Int32 × mS)) (hf : f_X7_order μ = some r) : SpD mX7_order rX7_order [.ref 5000] (gm g μ) (some (.int r.1)) (gm g r.2) := by
  refine sp_of miX7_order (Nat.le_of_ble_eq_true rfl) ?_
  show J _ _ _ 0 0 _ 0 [(0, .ref 5000)] []
  unfold f_X7_order at hf
  refine j_aload_n (pc' := 1) rfl rfl rfl ?_
  refine j_get (pc' := 4) rfl rfl flX7_205 (gm_o g μ) (mF_21 μ) ?_
  refine j_bipush (v := 10) (pc' := 6) rfl rfl (by decide) ?_
  refine j_icmp_ne (tgt := 12) (pc' := 9) rfl rfl rfl (fun c6 => ?_) (fun c6 => ?_)
  · rw [if_neg c6] at hf
    refine j_aload_n (pc' := 13) rfl rfl rfl ?_
    refine j_get (pc' := 16) rfl rfl flX7_205 (gm_o g μ) (mF_21 μ) ?_
    refine j_istore_n (pc' := 17) (ls' := [(1, _), (0, _)]) rfl rfl (Nat.le_of_ble_eq_true rfl) rfl ?_
    refine j_iconst (v := 0) (pc' := 18) rfl rfl (by decide) ?_
    refine j_istore_n (pc' := 19) (ls' := [(2, _), (1, _), (0, _)]) rfl rfl (Nat.le_of_ble_eq_true rfl) rfl ?_
    obtain ⟨r19, e19, hf⟩ := o_bind hf
    refine j_sub (ls' := [(0, .ref 5000), (1, .int (μ.1 21 0)), (2, .int 0)]) ⟨rfl, rfl, rfl, trivial⟩ ?_
    refine s_X7_order_L19 g _ _ _ _ _ e19 ?_
    refine j_aload_n (pc' := 44) rfl rfl rfl ?_
    refine j_iconst (v := 0) (pc' := 45) rfl rfl (by decide) ?_
    obtain ⟨μ45, e45, hf⟩ := o_let hf
    refine j_put (pc' := 48) rfl rfl flX7_182 (gm_o g r19) (by decide) (Nat.le_of_ble_eq_true rfl) rfl rfl ?_
    rw [gs_26]; rw [e45]
    refine j_iconst (v := 1) (pc' := 49) rfl rfl (by decide) ?_
    refine j_istore_n (pc' := 50) (ls' := [(2, _), (0, _), (1, _)]) rfl rfl (Nat.le_of_ble_eq_true rfl) rfl ?_
    refine j_aload_n (pc' := 51) rfl rfl rfl ?_
    refine j_iload_n (pc' := 52) rfl rfl rfl ?_
    obtain ⟨r52, e52, hf⟩ := o_bind hf
    refine j_v1 (pc' := 55) rfl rfl miX7_clause lnX7_208 (gm_o g μ45) rfl (s_X7_clause g μ45 (μ.1 21 0) _ e52) (h_rm_of rfl) (Nat.le_of_ble_eq_true rfl) (c' := 0) (s' := 0) rfl rfl ?_
    refine j_istore_n (pc' := 56) (ls' := [(3, _), (2, _), (0, _), (1, _)]) rfl rfl (Nat.le_of_ble_eq_true rfl) rfl ?_
    obtain ⟨r56, e56, hf⟩ := o_bind hf
    refine j_sub (ls' := [(0, .ref 5000), (1, .int (μ.1 21 0)), (2, .int 1), (3, .int r52.1)]) ⟨rfl, rfl, rfl, rfl, trivial⟩ ?_
    refine s_X7_order_L56 g _ _ _ _ _ _ e56 ?_
    refine j_aload_n (pc' := 107) rfl rfl rfl ?_
    refine j_iconst (v := 0) (pc' := 108) rfl rfl (by decide) ?_
    obtain ⟨μ108, e108, hf⟩ := o_let hf
    refine j_put (pc' := 111) rfl rfl flX7_179 (gm_o g r56.2) (by decide) (Nat.le_of_ble_eq_true rfl) rfl rfl ?_
    rw [gs_20]; rw [e108]
    refine j_iload_n (pc' := 112) rfl rfl rfl ?_
    refine j_if_ne (tgt := 123) (pc' := 115) rfl rfl rfl (fun c112 => ?_) (fun c112 => ?_)
    · rw [if_neg c112] at hf
      refine j_iconst (v := 0) (pc' := 124) rfl rfl (by decide) ?_
      refine j_istore (pc' := 126) (ls' := [(4, _), (0, _), (1, _), (3, _)]) rfl rfl (Nat.le_of_ble_eq_true rfl) rfl ?_
      obtain ⟨r126, e126, hf⟩ := o_bind hf
      refine j_sub (ls' := [(0, .ref 5000), (1, .int (μ.1 21 0)), (4, .int 0)]) ⟨rfl, rfl, rfl, trivial⟩ ?_
      refine s_X7_order_L126 g _ _ _ _ _ e126 ?_
      refine j_aload_n (pc' := 153) rfl rfl rfl ?_
      refine j_dup (pc' := 154) rfl rfl rfl ?_
      refine j_get (pc' := 157) rfl rfl flX7_205 (gm_o g r126) (mF_21 r126) ?_
      refine j_iconst (v := 1) (pc' := 158) rfl rfl (by decide) ?_
      refine j_iadd (pc' := 159) rfl rfl ?_
      obtain ⟨μ159, e159, hf⟩ := o_let hf
      refine j_put (pc' := 162) rfl rfl flX7_205 (gm_o g r126) (by decide) (Nat.le_of_ble_eq_true rfl) rfl rfl ?_
      rw [gs_21]; rw [e159]
      refine j_iload_n (pc' := 163) rfl rfl rfl ?_
      have hf := Option.some.inj hf; subst hf
      exact j_iret rfl rfl (Nat.zero_le _) (Nat.zero_le _) ⟨rfl, rfl⟩
    · rw [if_pos c112] at hf
      refine j_bipush (v := (-10)) (pc' := 117) rfl rfl (by decide) ?_
      refine j_aload_n (pc' := 118) rfl rfl rfl ?_
      refine j_get (pc' := 121) rfl rfl flX7_182 (gm_o g μ108) (mF_26 μ108) ?_
      refine j_isub (pc' := 122) rfl rfl ?_
      have hf := Option.some.inj hf; subst hf
      exact j_iret rfl rfl (Nat.zero_le _) (Nat.zero_le _) ⟨rfl, rfl⟩
  · rw [if_pos c6] at hf
    refine j_bipush (v := (-4)) (pc' := 11) rfl rfl (by decide) ?_
    have hf := Option.some.inj hf; subst hf
    exact j_iret rfl rfl (Nat.zero_le _) (Nat.zero_le _) ⟨rfl, rfl⟩
def rX7_tell : Room := { frames := 2, cells := 0, slots := 0, locals := 43 }
def f_X7_tell (μ : mS) (x1 : Int32) (x2 : Int32) : Option (Int32 × mS) := (f_X7_isOrder μ x1).bind fun r2 => if r2 = 0 then some ((-1), μ) else (f_X7_isTown x2).bind fun r9 => if r9 = 0 then some ((-1), μ) else bif vin ((6 * x1) + x2) 60 then if (μ.1 25 (((6 * x1) + x2)).toNatClampNeg) ≤ 0 then bif vin ((6 * x1) + x2) 60 then letm (seti μ 25 (va_up (μ.1 25) (((6 * x1) + x2)).toNatClampNeg ((μ.1 6 0) + 1))) fun μ49 => some (1, μ49) else none else some (0, μ) else none
set_option maxHeartbeats 4000000 in
set_option maxRecDepth 100000 in
theorem s_X7_tell (g : hH) (μ : mS) (x1 : Int32) (x2 : Int32) (r : (Int32 × mS)) (hf : f_X7_tell μ x1 x2 = some r) : SpD mX7_tell rX7_tell [.ref 5000, .int x1, .int x2] (gm g μ) (some (.int r.1)) (gm g r.2) := by
  refine sp_of miX7_tell (Nat.le_of_ble_eq_true rfl) ?_
  show J _ _ _ 0 0 _ 0 [(0, .ref 5000), (1, .int x1), (2, .int x2)] []
  unfold f_X7_tell at hf
  refine j_aload_n (pc' := 1) rfl rfl rfl ?_
  refine j_iload_n (pc' := 2) rfl rfl rfl ?_
  obtain ⟨r2, e2, hf⟩ := o_bind hf
  refine j_v1 (pc' := 5) rfl rfl miX7_isOrder lnX7_211 (gm_o g μ) rfl (s_X7_isOrder g μ x1 _ e2) (h_rm_of rfl) (Nat.le_of_ble_eq_true rfl) (c' := 0) (s' := 0) rfl rfl ?_
  refine j_if_eq (tgt := 15) (pc' := 8) rfl rfl rfl (fun c5 => ?_) (fun c5 => ?_)
  · rw [if_pos c5] at hf
    refine j_iconst (v := (-1)) (pc' := 16) rfl rfl (by decide) ?_
    have hf := Option.some.inj hf; subst hf
    exact j_iret rfl rfl (Nat.zero_le _) (Nat.zero_le _) ⟨rfl, rfl⟩
  · rw [if_neg c5] at hf
    refine j_iload_n (pc' := 9) rfl rfl rfl ?_
    obtain ⟨r9, e9, hf⟩ := o_bind hf
    refine j_s1 (pc' := 12) rfl rfl miX7_isTown lnX7_149 (s_X7_isTown (gm g μ) x2 _ e9) (h_rm_of rfl) (Nat.le_of_ble_eq_true rfl) (c' := 0) (s' := 0) rfl rfl ?_
    refine j_if_ne (tgt := 17) (pc' := 15) rfl rfl rfl (fun c12 => ?_) (fun c12 => ?_)
    · rw [if_neg c12] at hf
      refine j_aload_n (pc' := 18) rfl rfl rfl ?_
      refine j_get (pc' := 21) rfl rfl flX7_69 (gm_o g μ) (mF_25 μ) ?_
      refine j_bipush (v := 6) (pc' := 23) rfl rfl (by decide) ?_
      refine j_iload_n (pc' := 24) rfl rfl rfl ?_
      refine j_imul (pc' := 25) rfl rfl ?_
      refine j_iload_n (pc' := 26) rfl rfl rfl ?_
      refine j_iadd (pc' := 27) rfl rfl ?_
      obtain ⟨c27, hf⟩ := o_chk hf
      refine j_iald (pc' := 28) rfl rfl (gm_25 g μ) (vin_ok c27) ?_
      refine j_if_le (tgt := 33) (pc' := 31) rfl rfl rfl (fun c28 => ?_) (fun c28 => ?_)
      · rw [if_pos c28] at hf
        refine j_aload_n (pc' := 34) rfl rfl rfl ?_
        refine j_get (pc' := 37) rfl rfl flX7_69 (gm_o g μ) (mF_25 μ) ?_
        refine j_bipush (v := 6) (pc' := 39) rfl rfl (by decide) ?_
        refine j_iload_n (pc' := 40) rfl rfl rfl ?_
        refine j_imul (pc' := 41) rfl rfl ?_
        refine j_iload_n (pc' := 42) rfl rfl rfl ?_
        refine j_iadd (pc' := 43) rfl rfl ?_
        refine j_aload_n (pc' := 44) rfl rfl rfl ?_
        refine j_get (pc' := 47) rfl rfl flX7_167 (gm_o g μ) (mF_6 μ) ?_
        refine j_iconst (v := 1) (pc' := 48) rfl rfl (by decide) ?_
        refine j_iadd (pc' := 49) rfl rfl ?_
        obtain ⟨c49, hf⟩ := o_chk hf
        obtain ⟨μ49, e49, hf⟩ := o_let hf
        refine j_iast (pc' := 50) rfl rfl (gm_25 g μ) (by decide) (vin_ok c49) ?_
        rw [gs_25]; rw [e49]
        refine j_iconst (v := 1) (pc' := 51) rfl rfl (by decide) ?_
        have hf := Option.some.inj hf; subst hf
        exact j_iret rfl rfl (Nat.zero_le _) (Nat.zero_le _) ⟨rfl, rfl⟩
      · rw [if_neg c28] at hf
        refine j_iconst (v := 0) (pc' := 32) rfl rfl (by decide) ?_
        have hf := Option.some.inj hf; subst hf
        exact j_iret rfl rfl (Nat.zero_le _) (Nat.zero_le _) ⟨rfl, rfl⟩
    · rw [if_pos c12] at hf
      refine j_iconst (v := (-1)) (pc' := 16) rfl rfl (by decide) ?_
      have hf := Option.some.inj hf; subst hf
      exact j_iret rfl rfl (Nat.zero_le _) (Nat.zero_le _) ⟨rfl, rfl⟩
def rX7_force : Room := { frames := 2, cells := 0, slots := 0, locals := 42 }
def f_X7_force (μ : mS) (x1 : Int32) (x2 : Int32) : Option Int32 := (f_X7_isTown x1).bind fun r1 => if r1 = 0 then some (-1) else (f_X7_forceIn μ x1 x2).bind fun r10 => some r10
set_option maxHeartbeats 4000000 in
set_option maxRecDepth 100000 in
theorem s_X7_force (g : hH) (μ : mS) (x1 : Int32) (x2 : Int32) (r : Int32) (hf : f_X7_force μ x1 x2 = some r) : SpD mX7_force rX7_force [.ref 5000, .int x1, .int x2] (gm g μ) (some (.int r)) (gm g μ) := by
  refine sp_of miX7_force (Nat.le_of_ble_eq_true rfl) ?_
  show J _ _ _ 0 0 _ 0 [(0, .ref 5000), (1, .int x1), (2, .int x2)] []
  unfold f_X7_force at hf
  refine j_iload_n (pc' := 1) rfl rfl rfl ?_
  obtain ⟨r1, e1, hf⟩ := o_bind hf
  refine j_s1 (pc' := 4) rfl rfl miX7_isTown lnX7_149 (s_X7_isTown (gm g μ) x1 _ e1) (h_rm_of rfl) (Nat.le_of_ble_eq_true rfl) (c' := 0) (s' := 0) rfl rfl ?_
  refine j_if_eq (tgt := 16) (pc' := 7) rfl rfl rfl (fun c4 => ?_) (fun c4 => ?_)
  · rw [if_pos c4] at hf
    refine j_iconst (v := (-1)) (pc' := 17) rfl rfl (by decide) ?_
    have hf := Option.some.inj hf; subst hf
    exact j_iret rfl rfl (Nat.zero_le _) (Nat.zero_le _) ⟨rfl, rfl⟩
  · rw [if_neg c4] at hf
    refine j_aload_n (pc' := 8) rfl rfl rfl ?_
    refine j_iload_n (pc' := 9) rfl rfl rfl ?_
    refine j_iload_n (pc' := 10) rfl rfl rfl ?_
    obtain ⟨r10, e10, hf⟩ := o_bind hf
    refine j_v2 (pc' := 13) rfl rfl miX7_forceIn lnX7_214 (gm_o g μ) rfl (s_X7_forceIn g μ x1 x2 _ e10) (h_rm_of rfl) (Nat.le_of_ble_eq_true rfl) (c' := 0) (s' := 0) rfl rfl ?_
    refine j_goto (tgt := 17) rfl rfl ?_
    have hf := Option.some.inj hf; subst hf
    exact j_iret rfl rfl (Nat.zero_le _) (Nat.zero_le _) ⟨rfl, rfl⟩
def rX7_pass : Room := { frames := 2, cells := 0, slots := 0, locals := 50 }
def f_X7_pass (μ : mS) (x1 : Int32) (x2 : Int32) (x3 : Int32) : Option Int32 := (f_X7_isLot μ x1).bind fun r2 => if r2 = 0 then some (-1) else (f_X7_isTown x2).bind fun r9 => if r9 = 0 then some (-1) else if 0 ≤ x3 then (f_X7_passes μ x1 x2 x3).bind fun r32 => some r32 else some (-2)
set_option maxHeartbeats 4000000 in
set_option maxRecDepth 100000 in
theorem s_X7_pass (g : hH) (μ : mS) (x1 : Int32) (x2 : Int32) (x3 : Int32) (r : Int32) (hf : f_X7_pass μ x1 x2 x3 = some r) : SpD mX7_pass rX7_pass [.ref 5000, .int x1, .int x2, .int x3] (gm g μ) (some (.int r)) (gm g μ) := by
  refine sp_of miX7_pass (Nat.le_of_ble_eq_true rfl) ?_
  show J _ _ _ 0 0 _ 0 [(0, .ref 5000), (1, .int x1), (2, .int x2), (3, .int x3)] []
  unfold f_X7_pass at hf
  refine j_aload_n (pc' := 1) rfl rfl rfl ?_
  refine j_iload_n (pc' := 2) rfl rfl rfl ?_
  obtain ⟨r2, e2, hf⟩ := o_bind hf
  refine j_v1 (pc' := 5) rfl rfl miX7_isLot lnX7_160 (gm_o g μ) rfl (s_X7_isLot g μ x1 _ e2) (h_rm_of rfl) (Nat.le_of_ble_eq_true rfl) (c' := 0) (s' := 0) rfl rfl ?_
  refine j_if_eq (tgt := 15) (pc' := 8) rfl rfl rfl (fun c5 => ?_) (fun c5 => ?_)
  · rw [if_pos c5] at hf
    refine j_iconst (v := (-1)) (pc' := 16) rfl rfl (by decide) ?_
    refine j_goto (tgt := 35) rfl rfl ?_
    have hf := Option.some.inj hf; subst hf
    exact j_iret rfl rfl (Nat.zero_le _) (Nat.zero_le _) ⟨rfl, rfl⟩
  · rw [if_neg c5] at hf
    refine j_iload_n (pc' := 9) rfl rfl rfl ?_
    obtain ⟨r9, e9, hf⟩ := o_bind hf
    refine j_s1 (pc' := 12) rfl rfl miX7_isTown lnX7_149 (s_X7_isTown (gm g μ) x2 _ e9) (h_rm_of rfl) (Nat.le_of_ble_eq_true rfl) (c' := 0) (s' := 0) rfl rfl ?_
    refine j_if_ne (tgt := 19) (pc' := 15) rfl rfl rfl (fun c12 => ?_) (fun c12 => ?_)
    · rw [if_neg c12] at hf
      refine j_iload_n (pc' := 20) rfl rfl rfl ?_
      refine j_if_ge (tgt := 28) (pc' := 23) rfl rfl rfl (fun c20 => ?_) (fun c20 => ?_)
      · rw [if_pos c20] at hf
        refine j_aload_n (pc' := 29) rfl rfl rfl ?_
        refine j_iload_n (pc' := 30) rfl rfl rfl ?_
        refine j_iload_n (pc' := 31) rfl rfl rfl ?_
        refine j_iload_n (pc' := 32) rfl rfl rfl ?_
        obtain ⟨r32, e32, hf⟩ := o_bind hf
        refine j_v3 (pc' := 35) rfl rfl miX7_passes lnX7_218 (gm_o g μ) rfl (s_X7_passes g μ x1 x2 x3 _ e32) (h_rm_of rfl) (Nat.le_of_ble_eq_true rfl) (c' := 0) (s' := 0) rfl rfl ?_
        have hf := Option.some.inj hf; subst hf
        exact j_iret rfl rfl (Nat.zero_le _) (Nat.zero_le _) ⟨rfl, rfl⟩
      · rw [if_neg c20] at hf
        refine j_bipush (v := (-2)) (pc' := 25) rfl rfl (by decide) ?_
        refine j_goto (tgt := 35) rfl rfl ?_
        have hf := Option.some.inj hf; subst hf
        exact j_iret rfl rfl (Nat.zero_le _) (Nat.zero_le _) ⟨rfl, rfl⟩
    · rw [if_pos c12] at hf
      refine j_iconst (v := (-1)) (pc' := 16) rfl rfl (by decide) ?_
      refine j_goto (tgt := 35) rfl rfl ?_
      have hf := Option.some.inj hf; subst hf
      exact j_iret rfl rfl (Nat.zero_le _) (Nat.zero_le _) ⟨rfl, rfl⟩
def rX7_light : Room := { frames := 2, cells := 0, slots := 0, locals := 45 }
def f_X7_light (μ : mS) (x1 : Int32) (x2 : Int32) (x3 : Int32) (x4 : Int32) : Option Int32 := (f_X7_isLot μ x1).bind fun r2 => if r2 = 0 then some (-1) else (f_X7_isTown x4).bind fun r10 => if r10 = 0 then some (-1) else (f_X7_isDrawn μ x1 x2 x3).bind fun r22 => if r22 = 0 then some (-2) else (f_X7_forceIn μ x4 (μ.1 6 0)).bind fun r38 => bif vin x1 30 then letm ((8 * r38) + (μ.1 9 (x1).toNatClampNeg)) fun y55 => if r38 < 0 then some 0 else bif vin y55 80 then if (μ.1 22 (y55).toNatClampNeg) = 2 then bif vin x1 30 then bif vin x1 30 then bif vin (μ.1 9 (x1).toNatClampNeg) 8 then bif vin y55 80 then bif vin x1 30 then if 0 ≤ (lg_cmp (((x3 + (((μ.1 10 (x1).toNatClampNeg) - x2) * (μ.1 3 ((μ.1 9 (x1).toNatClampNeg)).toNatClampNeg)))).toInt64) (((μ.1 24 (y55).toNatClampNeg)).toInt64 * ((μ.1 10 (x1).toNatClampNeg)).toInt64)) then some 0 else some 1 else none else none else none else none else none else some 0 else none else none
set_option maxHeartbeats 4000000 in
set_option maxRecDepth 100000 in
theorem s_X7_light (g : hH) (μ : mS) (x1 : Int32) (x2 : Int32) (x3 : Int32) (x4 : Int32) (r : Int32) (hf : f_X7_light μ x1 x2 x3 x4 = some r) : SpD mX7_light rX7_light [.ref 5000, .int x1, .int x2, .int x3, .int x4] (gm g μ) (some (.int r)) (gm g μ) := by
  refine sp_of miX7_light (Nat.le_of_ble_eq_true rfl) ?_
  show J _ _ _ 0 0 _ 0 [(0, .ref 5000), (1, .int x1), (2, .int x2), (3, .int x3), (4, .int x4)] []
  unfold f_X7_light at hf
  refine j_aload_n (pc' := 1) rfl rfl rfl ?_
  refine j_iload_n (pc' := 2) rfl rfl rfl ?_
  obtain ⟨r2, e2, hf⟩ := o_bind hf
  refine j_v1 (pc' := 5) rfl rfl miX7_isLot lnX7_160 (gm_o g μ) rfl (s_X7_isLot g μ x1 _ e2) (h_rm_of rfl) (Nat.le_of_ble_eq_true rfl) (c' := 0) (s' := 0) rfl rfl ?_
  refine j_if_eq (tgt := 16) (pc' := 8) rfl rfl rfl (fun c5 => ?_) (fun c5 => ?_)
  · rw [if_pos c5] at hf
    refine j_iconst (v := (-1)) (pc' := 17) rfl rfl (by decide) ?_
    have hf := Option.some.inj hf; subst hf
    exact j_iret rfl rfl (Nat.zero_le _) (Nat.zero_le _) ⟨rfl, rfl⟩
  · rw [if_neg c5] at hf
    refine j_iload (pc' := 10) rfl rfl rfl ?_
    obtain ⟨r10, e10, hf⟩ := o_bind hf
    refine j_s1 (pc' := 13) rfl rfl miX7_isTown lnX7_149 (s_X7_isTown (gm g μ) x4 _ e10) (h_rm_of rfl) (Nat.le_of_ble_eq_true rfl) (c' := 0) (s' := 0) rfl rfl ?_
    refine j_if_ne (tgt := 18) (pc' := 16) rfl rfl rfl (fun c13 => ?_) (fun c13 => ?_)
    · rw [if_neg c13] at hf
      refine j_aload_n (pc' := 19) rfl rfl rfl ?_
      refine j_iload_n (pc' := 20) rfl rfl rfl ?_
      refine j_iload_n (pc' := 21) rfl rfl rfl ?_
      refine j_iload_n (pc' := 22) rfl rfl rfl ?_
      obtain ⟨r22, e22, hf⟩ := o_bind hf
      refine j_v3 (pc' := 25) rfl rfl miX7_isDrawn lnX7_225 (gm_o g μ) rfl (s_X7_isDrawn g μ x1 x2 x3 _ e22) (h_rm_of rfl) (Nat.le_of_ble_eq_true rfl) (c' := 0) (s' := 0) rfl rfl ?_
      refine j_if_ne (tgt := 31) (pc' := 28) rfl rfl rfl (fun c25 => ?_) (fun c25 => ?_)
      · rw [if_neg c25] at hf
        refine j_aload_n (pc' := 32) rfl rfl rfl ?_
        refine j_iload (pc' := 34) rfl rfl rfl ?_
        refine j_aload_n (pc' := 35) rfl rfl rfl ?_
        refine j_get (pc' := 38) rfl rfl flX7_167 (gm_o g μ) (mF_6 μ) ?_
        obtain ⟨r38, e38, hf⟩ := o_bind hf
        refine j_v2 (pc' := 41) rfl rfl miX7_forceIn lnX7_214 (gm_o g μ) rfl (s_X7_forceIn g μ x4 (μ.1 6 0) _ e38) (h_rm_of rfl) (Nat.le_of_ble_eq_true rfl) (c' := 0) (s' := 0) rfl rfl ?_
        refine j_istore (pc' := 43) (ls' := [(5, _), (0, _), (1, _), (2, _), (3, _), (4, _)]) rfl rfl (Nat.le_of_ble_eq_true rfl) rfl ?_
        refine j_bipush (v := 8) (pc' := 45) rfl rfl (by decide) ?_
        refine j_iload (pc' := 47) rfl rfl rfl ?_
        refine j_imul (pc' := 48) rfl rfl ?_
        refine j_aload_n (pc' := 49) rfl rfl rfl ?_
        refine j_get (pc' := 52) rfl rfl flX7_25 (gm_o g μ) (mF_9 μ) ?_
        refine j_iload_n (pc' := 53) rfl rfl rfl ?_
        obtain ⟨c53, hf⟩ := o_chk hf
        refine j_iald (pc' := 54) rfl rfl (gm_9 g μ) (vin_ok c53) ?_
        refine j_iadd (pc' := 55) rfl rfl ?_
        obtain ⟨y55, e55, hf⟩ := o_let hf
        rw [e55]
        refine j_istore (pc' := 57) (ls' := [(6, _), (5, _), (0, _), (1, _), (2, _), (3, _), (4, _)]) rfl rfl (Nat.le_of_ble_eq_true rfl) rfl ?_
        refine j_iload (pc' := 59) rfl rfl rfl ?_
        refine j_if_lt (tgt := 73) (pc' := 62) rfl rfl rfl (fun c59 => ?_) (fun c59 => ?_)
        · rw [if_pos c59] at hf
          refine j_iconst (v := 0) (pc' := 74) rfl rfl (by decide) ?_
          have hf := Option.some.inj hf; subst hf
          exact j_iret rfl rfl (Nat.zero_le _) (Nat.zero_le _) ⟨rfl, rfl⟩
        · rw [if_neg c59] at hf
          refine j_aload_n (pc' := 63) rfl rfl rfl ?_
          refine j_get (pc' := 66) rfl rfl flX7_60 (gm_o g μ) (mF_22 μ) ?_
          refine j_iload (pc' := 68) rfl rfl rfl ?_
          obtain ⟨c68, hf⟩ := o_chk hf
          refine j_iald (pc' := 69) rfl rfl (gm_22 g μ) (vin_ok c68) ?_
          refine j_iconst (v := 2) (pc' := 70) rfl rfl (by decide) ?_
          refine j_icmp_eq (tgt := 75) (pc' := 73) rfl rfl rfl (fun c70 => ?_) (fun c70 => ?_)
          · rw [if_pos c70] at hf
            refine j_iload_n (pc' := 76) rfl rfl rfl ?_
            refine j_aload_n (pc' := 77) rfl rfl rfl ?_
            refine j_get (pc' := 80) rfl rfl flX7_28 (gm_o g μ) (mF_10 μ) ?_
            refine j_iload_n (pc' := 81) rfl rfl rfl ?_
            obtain ⟨c81, hf⟩ := o_chk hf
            refine j_iald (pc' := 82) rfl rfl (gm_10 g μ) (vin_ok c81) ?_
            refine j_iload_n (pc' := 83) rfl rfl rfl ?_
            refine j_isub (pc' := 84) rfl rfl ?_
            refine j_aload_n (pc' := 85) rfl rfl rfl ?_
            refine j_get (pc' := 88) rfl rfl flX7_13 (gm_o g μ) (mF_3 μ) ?_
            refine j_aload_n (pc' := 89) rfl rfl rfl ?_
            refine j_get (pc' := 92) rfl rfl flX7_25 (gm_o g μ) (mF_9 μ) ?_
            refine j_iload_n (pc' := 93) rfl rfl rfl ?_
            obtain ⟨c93, hf⟩ := o_chk hf
            refine j_iald (pc' := 94) rfl rfl (gm_9 g μ) (vin_ok c93) ?_
            obtain ⟨c94, hf⟩ := o_chk hf
            refine j_iald (pc' := 95) rfl rfl (gm_3 g μ) (vin_ok c94) ?_
            refine j_imul (pc' := 96) rfl rfl ?_
            refine j_iadd (pc' := 97) rfl rfl ?_
            refine j_i2l (pc' := 98) rfl rfl ?_
            refine j_aload_n (pc' := 99) rfl rfl rfl ?_
            refine j_get (pc' := 102) rfl rfl flX7_66 (gm_o g μ) (mF_24 μ) ?_
            refine j_iload (pc' := 104) rfl rfl rfl ?_
            obtain ⟨c104, hf⟩ := o_chk hf
            refine j_iald (pc' := 105) rfl rfl (gm_24 g μ) (vin_ok c104) ?_
            refine j_i2l (pc' := 106) rfl rfl ?_
            refine j_aload_n (pc' := 107) rfl rfl rfl ?_
            refine j_get (pc' := 110) rfl rfl flX7_28 (gm_o g μ) (mF_10 μ) ?_
            refine j_iload_n (pc' := 111) rfl rfl rfl ?_
            obtain ⟨c111, hf⟩ := o_chk hf
            refine j_iald (pc' := 112) rfl rfl (gm_10 g μ) (vin_ok c111) ?_
            refine j_i2l (pc' := 113) rfl rfl ?_
            refine j_lmul (pc' := 114) rfl rfl ?_
            refine j_lcmp (pc' := 115) rfl rfl ?_
            refine j_if_ge (tgt := 122) (pc' := 118) rfl rfl rfl (fun c115 => ?_) (fun c115 => ?_)
            · rw [if_pos c115] at hf
              refine j_iconst (v := 0) (pc' := 123) rfl rfl (by decide) ?_
              have hf := Option.some.inj hf; subst hf
              exact j_iret rfl rfl (Nat.zero_le _) (Nat.zero_le _) ⟨rfl, rfl⟩
            · rw [if_neg c115] at hf
              refine j_iconst (v := 1) (pc' := 119) rfl rfl (by decide) ?_
              refine j_goto (tgt := 123) rfl rfl ?_
              have hf := Option.some.inj hf; subst hf
              exact j_iret rfl rfl (Nat.zero_le _) (Nat.zero_le _) ⟨rfl, rfl⟩
          · rw [if_neg c70] at hf
            refine j_iconst (v := 0) (pc' := 74) rfl rfl (by decide) ?_
            have hf := Option.some.inj hf; subst hf
            exact j_iret rfl rfl (Nat.zero_le _) (Nat.zero_le _) ⟨rfl, rfl⟩
      · rw [if_pos c25] at hf
        refine j_bipush (v := (-2)) (pc' := 30) rfl rfl (by decide) ?_
        have hf := Option.some.inj hf; subst hf
        exact j_iret rfl rfl (Nat.zero_le _) (Nat.zero_le _) ⟨rfl, rfl⟩
    · rw [if_pos c13] at hf
      refine j_iconst (v := (-1)) (pc' := 17) rfl rfl (by decide) ?_
      have hf := Option.some.inj hf; subst hf
      exact j_iret rfl rfl (Nat.zero_le _) (Nat.zero_le _) ⟨rfl, rfl⟩
def rX7_pay : Room := { frames := 3, cells := 0, slots := 0, locals := 77 }
def f_X7_pay_L69 : Nat → mS → Int32 → Int32 → Int32 → Int64 → Int32 → Int32 → Option (Int32 × mS)
  | 0, _, _, _, _, _, _, _ => none
  | n + 1, μ, x1, x2, x3, x4, x6, x7 => if x7 ≤ 0 then some (x7, μ) else bif vin (x7 - 1) 30 then (f_X7_isWorse μ x6 (μ.1 31 ((x7 - 1)).toNatClampNeg) x1).bind fun r87 => if r87 = 0 then some (x7, μ) else bif vin (x7 - 1) 30 then bif vin x7 30 then letm (seti μ 31 (va_up (μ.1 31) (x7).toNatClampNeg (μ.1 31 ((x7 - 1)).toNatClampNeg))) fun μ108 => f_X7_pay_L69 n μ108 x1 x2 x3 x4 x6 (x7 + (-1)) else none else none else none
set_option maxHeartbeats 4000000 in
set_option maxRecDepth 100000 in
theorem s_X7_pay_L69 {Q : Option Value → hH → Prop} (g : hH) : ∀ (n : Nat) (μ : mS) (x1 : Int32) (x2 : Int32) (x3 : Int32) (x4 : Int64) (x6 : Int32) (x7 : Int32) (r : Int32 × mS), f_X7_pay_L69 n μ x1 x2 x3 x4 x6 x7 = some r → (J mX7_pay rX7_pay Q 0 0 (gm g r.2) 115 [(0, .ref 5000), (1, .int x1), (2, .int x2), (3, .int x3), (4, .long x4), (6, .int x6), (7, .int r.1)] []) → J mX7_pay rX7_pay Q 0 0 (gm g μ) 69 [(0, .ref 5000), (1, .int x1), (2, .int x2), (3, .int x3), (4, .long x4), (6, .int x6), (7, .int x7)] [] := by
  intro n
  induction n with
  | zero =>
    intro μ x1 x2 x3 x4 x6 x7 r hf
    cases hf
  | succ n ih =>
    intro μ x1 x2 x3 x4 x6 x7 r hf k0
    rw [f_X7_pay_L69] at hf
    refine j_iload (pc' := 71) rfl rfl rfl ?_
    refine j_if_le (tgt := 115) (pc' := 74) rfl rfl rfl (fun c71 => ?_) (fun c71 => ?_)
    · rw [if_pos c71] at hf
      have hf := Option.some.inj hf; subst hf
      exact j_sub (ls' := [(0, .ref 5000), (1, .int _), (2, .int _), (3, .int _), (4, .long _), (6, .int _), (7, .int _)]) ⟨rfl, rfl, rfl, rfl, rfl, rfl, rfl, trivial⟩ (k0)
    · rw [if_neg c71] at hf
      refine j_aload_n (pc' := 75) rfl rfl rfl ?_
      refine j_iload (pc' := 77) rfl rfl rfl ?_
      refine j_aload_n (pc' := 78) rfl rfl rfl ?_
      refine j_get (pc' := 81) rfl rfl flX7_79 (gm_o g μ) (mF_31 μ) ?_
      refine j_iload (pc' := 83) rfl rfl rfl ?_
      refine j_iconst (v := 1) (pc' := 84) rfl rfl (by decide) ?_
      refine j_isub (pc' := 85) rfl rfl ?_
      obtain ⟨c85, hf⟩ := o_chk hf
      refine j_iald (pc' := 86) rfl rfl (gm_31 g μ) (vin_ok c85) ?_
      refine j_iload_n (pc' := 87) rfl rfl rfl ?_
      obtain ⟨r87, e87, hf⟩ := o_bind hf
      refine j_v3 (pc' := 90) rfl rfl miX7_isWorse lnX7_232 (gm_o g μ) rfl (s_X7_isWorse g μ x6 (μ.1 31 ((x7 - 1)).toNatClampNeg) x1 _ e87) (h_rm_of rfl) (Nat.le_of_ble_eq_true rfl) (c' := 0) (s' := 0) rfl rfl ?_
      refine j_if_eq (tgt := 115) (pc' := 93) rfl rfl rfl (fun c90 => ?_) (fun c90 => ?_)
      · rw [if_pos c90] at hf
        have hf := Option.some.inj hf; subst hf
        exact j_sub (ls' := [(0, .ref 5000), (1, .int _), (2, .int _), (3, .int _), (4, .long _), (6, .int _), (7, .int _)]) ⟨rfl, rfl, rfl, rfl, rfl, rfl, rfl, trivial⟩ (k0)
      · rw [if_neg c90] at hf
        refine j_aload_n (pc' := 94) rfl rfl rfl ?_
        refine j_get (pc' := 97) rfl rfl flX7_79 (gm_o g μ) (mF_31 μ) ?_
        refine j_iload (pc' := 99) rfl rfl rfl ?_
        refine j_aload_n (pc' := 100) rfl rfl rfl ?_
        refine j_get (pc' := 103) rfl rfl flX7_79 (gm_o g μ) (mF_31 μ) ?_
        refine j_iload (pc' := 105) rfl rfl rfl ?_
        refine j_iconst (v := 1) (pc' := 106) rfl rfl (by decide) ?_
        refine j_isub (pc' := 107) rfl rfl ?_
        obtain ⟨c107, hf⟩ := o_chk hf
        refine j_iald (pc' := 108) rfl rfl (gm_31 g μ) (vin_ok c107) ?_
        obtain ⟨c108, hf⟩ := o_chk hf
        obtain ⟨μ108, e108, hf⟩ := o_let hf
        refine j_iast (pc' := 109) rfl rfl (gm_31 g μ) (by decide) (vin_ok c108) ?_
        rw [gs_31]; rw [e108]
        refine j_iinc (pc' := 112) (d := -1) (ls' := [(7, _), (0, _), (1, _), (2, _), (3, _), (4, _), (6, _)]) rfl rfl rfl (by decide) (Nat.le_of_ble_eq_true rfl) rfl ?_
        refine j_goto (tgt := 69) rfl rfl ?_
        refine j_sub (ls' := [(0, .ref 5000), (1, .int _), (2, .int _), (3, .int _), (4, .long _), (6, .int _), (7, .int _)]) ⟨rfl, rfl, rfl, rfl, rfl, rfl, rfl, trivial⟩ ?_
        exact ih _ _ _ _ _ _ _ _ hf k0
def f_X7_pay_L30 : Nat → mS → Int32 → Int32 → Int32 → Int64 → Int32 → Option (Int64 × mS)
  | 0, _, _, _, _, _, _ => none
  | n + 1, μ, x1, x2, x3, x4, x6 => if (μ.1 7 0) ≤ x6 then some (x4, μ) else (f_X7_isThere μ x6 x1).bind fun r43 => if r43 = 0 then f_X7_pay_L30 n μ x1 x2 x3 x4 (x6 + 1) else (f_X7_passes μ x6 x1 (μ.1 6 0)).bind fun r57 => if r57 = 0 then f_X7_pay_L30 n μ x1 x2 x3 x4 (x6 + 1) else (f_X7_pay_L69 4000 μ x1 x2 x3 x4 x6 x3).bind fun r69 => bif vin r69.1 30 then letm (seti r69.2 31 (va_up (r69.2.1 31) (r69.1).toNatClampNeg x6)) fun μ123 => (f_X7_passes μ123 x6 x1 (μ123.1 6 0)).bind fun r137 => f_X7_pay_L30 n μ123 x1 x2 (x3 + 1) (x4 + (r137).toInt64) (x6 + 1) else none
set_option maxHeartbeats 4000000 in
set_option maxRecDepth 100000 in
theorem s_X7_pay_L30 {Q : Option Value → hH → Prop} (g : hH) : ∀ (n : Nat) (μ : mS) (x1 : Int32) (x2 : Int32) (x3 : Int32) (x4 : Int64) (x6 : Int32) (r : Int64 × mS), f_X7_pay_L30 n μ x1 x2 x3 x4 x6 = some r → (J mX7_pay rX7_pay Q 0 0 (gm g r.2) 150 [(0, .ref 5000), (1, .int x1), (2, .int x2), (4, .long r.1)] []) → J mX7_pay rX7_pay Q 0 0 (gm g μ) 30 [(0, .ref 5000), (1, .int x1), (2, .int x2), (3, .int x3), (4, .long x4), (6, .int x6)] [] := by
  intro n
  induction n with
  | zero =>
    intro μ x1 x2 x3 x4 x6 r hf
    cases hf
  | succ n ih =>
    intro μ x1 x2 x3 x4 x6 r hf k0
    rw [f_X7_pay_L30] at hf
    refine j_iload (pc' := 32) rfl rfl rfl ?_
    refine j_aload_n (pc' := 33) rfl rfl rfl ?_
    refine j_get (pc' := 36) rfl rfl flX7_142 (gm_o g μ) (mF_7 μ) ?_
    refine j_icmp_ge (tgt := 150) (pc' := 39) rfl rfl rfl (fun c36 => ?_) (fun c36 => ?_)
    · rw [if_pos c36] at hf
      have hf := Option.some.inj hf; subst hf
      exact j_sub (ls' := [(0, .ref 5000), (1, .int _), (2, .int _), (4, .long _)]) ⟨rfl, rfl, rfl, rfl, trivial⟩ (k0)
    · rw [if_neg c36] at hf
      refine j_aload_n (pc' := 40) rfl rfl rfl ?_
      refine j_iload (pc' := 42) rfl rfl rfl ?_
      refine j_iload_n (pc' := 43) rfl rfl rfl ?_
      obtain ⟨r43, e43, hf⟩ := o_bind hf
      refine j_v2 (pc' := 46) rfl rfl miX7_isThere lnX7_229 (gm_o g μ) rfl (s_X7_isThere g μ x6 x1 _ e43) (h_rm_of rfl) (Nat.le_of_ble_eq_true rfl) (c' := 0) (s' := 0) rfl rfl ?_
      refine j_if_eq (tgt := 144) (pc' := 49) rfl rfl rfl (fun c46 => ?_) (fun c46 => ?_)
      · rw [if_pos c46] at hf
        refine j_iinc (pc' := 147) (d := 1) (ls' := [(6, _), (0, _), (1, _), (2, _), (3, _), (4, _)]) rfl rfl rfl (by decide) (Nat.le_of_ble_eq_true rfl) rfl ?_
        refine j_goto (tgt := 30) rfl rfl ?_
        refine j_sub (ls' := [(0, .ref 5000), (1, .int _), (2, .int _), (3, .int _), (4, .long _), (6, .int _)]) ⟨rfl, rfl, rfl, rfl, rfl, rfl, trivial⟩ ?_
        exact ih _ _ _ _ _ _ _ hf k0
      · rw [if_neg c46] at hf
        refine j_aload_n (pc' := 50) rfl rfl rfl ?_
        refine j_iload (pc' := 52) rfl rfl rfl ?_
        refine j_iload_n (pc' := 53) rfl rfl rfl ?_
        refine j_aload_n (pc' := 54) rfl rfl rfl ?_
        refine j_get (pc' := 57) rfl rfl flX7_167 (gm_o g μ) (mF_6 μ) ?_
        obtain ⟨r57, e57, hf⟩ := o_bind hf
        refine j_v3 (pc' := 60) rfl rfl miX7_passes lnX7_218 (gm_o g μ) rfl (s_X7_passes g μ x6 x1 (μ.1 6 0) _ e57) (h_rm_of rfl) (Nat.le_of_ble_eq_true rfl) (c' := 0) (s' := 0) rfl rfl ?_
        refine j_if_ne (tgt := 66) (pc' := 63) rfl rfl rfl (fun c60 => ?_) (fun c60 => ?_)
        · rw [if_neg c60] at hf
          refine j_iload_n (pc' := 67) rfl rfl rfl ?_
          refine j_istore (pc' := 69) (ls' := [(7, _), (0, _), (1, _), (2, _), (3, _), (4, _), (6, _)]) rfl rfl (Nat.le_of_ble_eq_true rfl) rfl ?_
          obtain ⟨r69, e69, hf⟩ := o_bind hf
          refine j_sub (ls' := [(0, .ref 5000), (1, .int x1), (2, .int x2), (3, .int x3), (4, .long x4), (6, .int x6), (7, .int x3)]) ⟨rfl, rfl, rfl, rfl, rfl, rfl, rfl, trivial⟩ ?_
          refine s_X7_pay_L69 g _ _ _ _ _ _ _ _ _ e69 ?_
          refine j_aload_n (pc' := 116) rfl rfl rfl ?_
          refine j_get (pc' := 119) rfl rfl flX7_79 (gm_o g r69.2) (mF_31 r69.2) ?_
          refine j_iload (pc' := 121) rfl rfl rfl ?_
          refine j_iload (pc' := 123) rfl rfl rfl ?_
          obtain ⟨c123, hf⟩ := o_chk hf
          obtain ⟨μ123, e123, hf⟩ := o_let hf
          refine j_iast (pc' := 124) rfl rfl (gm_31 g r69.2) (by decide) (vin_ok c123) ?_
          rw [gs_31]; rw [e123]
          refine j_iinc (pc' := 127) (d := 1) (ls' := [(3, _), (0, _), (1, _), (2, _), (4, _), (6, _), (7, _)]) rfl rfl rfl (by decide) (Nat.le_of_ble_eq_true rfl) rfl ?_
          refine j_lload (pc' := 129) rfl rfl rfl ?_
          refine j_aload_n (pc' := 130) rfl rfl rfl ?_
          refine j_iload (pc' := 132) rfl rfl rfl ?_
          refine j_iload_n (pc' := 133) rfl rfl rfl ?_
          refine j_aload_n (pc' := 134) rfl rfl rfl ?_
          refine j_get (pc' := 137) rfl rfl flX7_167 (gm_o g μ123) (mF_6 μ123) ?_
          obtain ⟨r137, e137, hf⟩ := o_bind hf
          refine j_v3 (pc' := 140) rfl rfl miX7_passes lnX7_218 (gm_o g μ123) rfl (s_X7_passes g μ123 x6 x1 (μ123.1 6 0) _ e137) (h_rm_of rfl) (Nat.le_of_ble_eq_true rfl) (c' := 0) (s' := 0) rfl rfl ?_
          refine j_i2l (pc' := 141) rfl rfl ?_
          refine j_ladd (pc' := 142) rfl rfl ?_
          refine j_lstore (pc' := 144) (ls' := [(4, _), (3, _), (0, _), (1, _), (2, _), (6, _), (7, _)]) rfl rfl (Nat.le_of_ble_eq_true rfl) rfl ?_
          refine j_iinc (pc' := 147) (d := 1) (ls' := [(6, _), (4, _), (3, _), (0, _), (1, _), (2, _), (7, _)]) rfl rfl rfl (by decide) (Nat.le_of_ble_eq_true rfl) rfl ?_
          refine j_goto (tgt := 30) rfl rfl ?_
          refine j_sub (ls' := [(0, .ref 5000), (1, .int _), (2, .int _), (3, .int _), (4, .long _), (6, .int _)]) ⟨rfl, rfl, rfl, rfl, rfl, rfl, trivial⟩ ?_
          exact ih _ _ _ _ _ _ _ hf k0
        · rw [if_pos c60] at hf
          refine j_goto (tgt := 144) rfl rfl ?_
          refine j_iinc (pc' := 147) (d := 1) (ls' := [(6, _), (0, _), (1, _), (2, _), (3, _), (4, _)]) rfl rfl rfl (by decide) (Nat.le_of_ble_eq_true rfl) rfl ?_
          refine j_goto (tgt := 30) rfl rfl ?_
          refine j_sub (ls' := [(0, .ref 5000), (1, .int _), (2, .int _), (3, .int _), (4, .long _), (6, .int _)]) ⟨rfl, rfl, rfl, rfl, rfl, rfl, trivial⟩ ?_
          exact ih _ _ _ _ _ _ _ hf k0
def f_X7_pay_L169 : Nat → mS → Int32 → Int32 → Int64 → Option (Int64 × mS)
  | 0, _, _, _, _ => none
  | n + 1, μ, x1, x2, x6 => if 0 ≤ (lg_cmp x6 ((x2).toInt64)) then some (x6, μ) else bif vin (μ.1 29 0) 30 then letm (μ.1 31 ((μ.1 29 0)).toNatClampNeg) fun y186 => (f_X7_passes μ y186 x1 (μ.1 6 0)).bind fun r198 => bif vin (μ.1 29 0) 30 then letm (seti μ 30 (va_up (μ.1 30) ((μ.1 29 0)).toNatClampNeg y186)) fun μ215 => letm (seti μ215 29 (fun _ => ((μ215.1 29 0) + 1))) fun μ223 => f_X7_pay_L169 n μ223 x1 x2 (x6 + (r198).toInt64) else none else none
set_option maxHeartbeats 4000000 in
set_option maxRecDepth 100000 in
theorem s_X7_pay_L169 {Q : Option Value → hH → Prop} (g : hH) : ∀ (n : Nat) (μ : mS) (x1 : Int32) (x2 : Int32) (x6 : Int64) (r : Int64 × mS), f_X7_pay_L169 n μ x1 x2 x6 = some r → (J mX7_pay rX7_pay Q 0 0 (gm g r.2) 229 [(0, .ref 5000), (1, .int x1), (2, .int x2), (6, .long r.1)] []) → J mX7_pay rX7_pay Q 0 0 (gm g μ) 169 [(0, .ref 5000), (1, .int x1), (2, .int x2), (6, .long x6)] [] := by
  intro n
  induction n with
  | zero =>
    intro μ x1 x2 x6 r hf
    cases hf
  | succ n ih =>
    intro μ x1 x2 x6 r hf k0
    rw [f_X7_pay_L169] at hf
    refine j_lload (pc' := 171) rfl rfl rfl ?_
    refine j_iload_n (pc' := 172) rfl rfl rfl ?_
    refine j_i2l (pc' := 173) rfl rfl ?_
    refine j_lcmp (pc' := 174) rfl rfl ?_
    refine j_if_ge (tgt := 229) (pc' := 177) rfl rfl rfl (fun c174 => ?_) (fun c174 => ?_)
    · rw [if_pos c174] at hf
      have hf := Option.some.inj hf; subst hf
      exact j_sub (ls' := [(0, .ref 5000), (1, .int _), (2, .int _), (6, .long _)]) ⟨rfl, rfl, rfl, rfl, trivial⟩ (k0)
    · rw [if_neg c174] at hf
      refine j_aload_n (pc' := 178) rfl rfl rfl ?_
      refine j_get (pc' := 181) rfl rfl flX7_79 (gm_o g μ) (mF_31 μ) ?_
      refine j_aload_n (pc' := 182) rfl rfl rfl ?_
      refine j_get (pc' := 185) rfl rfl flX7_235 (gm_o g μ) (mF_29 μ) ?_
      obtain ⟨c185, hf⟩ := o_chk hf
      refine j_iald (pc' := 186) rfl rfl (gm_31 g μ) (vin_ok c185) ?_
      obtain ⟨y186, e186, hf⟩ := o_let hf
      rw [e186]
      refine j_istore (pc' := 188) (ls' := [(8, _), (0, _), (1, _), (2, _), (6, _)]) rfl rfl (Nat.le_of_ble_eq_true rfl) rfl ?_
      refine j_lload (pc' := 190) rfl rfl rfl ?_
      refine j_aload_n (pc' := 191) rfl rfl rfl ?_
      refine j_iload (pc' := 193) rfl rfl rfl ?_
      refine j_iload_n (pc' := 194) rfl rfl rfl ?_
      refine j_aload_n (pc' := 195) rfl rfl rfl ?_
      refine j_get (pc' := 198) rfl rfl flX7_167 (gm_o g μ) (mF_6 μ) ?_
      obtain ⟨r198, e198, hf⟩ := o_bind hf
      refine j_v3 (pc' := 201) rfl rfl miX7_passes lnX7_218 (gm_o g μ) rfl (s_X7_passes g μ y186 x1 (μ.1 6 0) _ e198) (h_rm_of rfl) (Nat.le_of_ble_eq_true rfl) (c' := 0) (s' := 0) rfl rfl ?_
      refine j_i2l (pc' := 202) rfl rfl ?_
      refine j_ladd (pc' := 203) rfl rfl ?_
      refine j_lstore (pc' := 205) (ls' := [(6, _), (8, _), (0, _), (1, _), (2, _)]) rfl rfl (Nat.le_of_ble_eq_true rfl) rfl ?_
      refine j_aload_n (pc' := 206) rfl rfl rfl ?_
      refine j_get (pc' := 209) rfl rfl flX7_76 (gm_o g μ) (mF_30 μ) ?_
      refine j_aload_n (pc' := 210) rfl rfl rfl ?_
      refine j_get (pc' := 213) rfl rfl flX7_235 (gm_o g μ) (mF_29 μ) ?_
      refine j_iload (pc' := 215) rfl rfl rfl ?_
      obtain ⟨c215, hf⟩ := o_chk hf
      obtain ⟨μ215, e215, hf⟩ := o_let hf
      refine j_iast (pc' := 216) rfl rfl (gm_30 g μ) (by decide) (vin_ok c215) ?_
      rw [gs_30]; rw [e215]
      refine j_aload_n (pc' := 217) rfl rfl rfl ?_
      refine j_dup (pc' := 218) rfl rfl rfl ?_
      refine j_get (pc' := 221) rfl rfl flX7_235 (gm_o g μ215) (mF_29 μ215) ?_
      refine j_iconst (v := 1) (pc' := 222) rfl rfl (by decide) ?_
      refine j_iadd (pc' := 223) rfl rfl ?_
      obtain ⟨μ223, e223, hf⟩ := o_let hf
      refine j_put (pc' := 226) rfl rfl flX7_235 (gm_o g μ215) (by decide) (Nat.le_of_ble_eq_true rfl) rfl rfl ?_
      rw [gs_29]; rw [e223]
      refine j_goto (tgt := 169) rfl rfl ?_
      refine j_sub (ls' := [(0, .ref 5000), (1, .int _), (2, .int _), (6, .long _)]) ⟨rfl, rfl, rfl, rfl, trivial⟩ ?_
      exact ih _ _ _ _ _ hf k0
def f_X7_pay_L232 : Nat → mS → Int32 → Int32 → Int64 → Int32 → Option (mS)
  | 0, _, _, _, _, _ => none
  | n + 1, μ, x1, x2, x6, x8 => if (μ.1 29 0) ≤ x8 then some (μ) else bif vin x8 30 then bif vin (μ.1 30 (x8).toNatClampNeg) 30 then letm (seti μ 17 (va_up (μ.1 17) ((μ.1 30 (x8).toNatClampNeg)).toNatClampNeg (vp_nar .boolean 1))) fun μ253 => f_X7_pay_L232 n μ253 x1 x2 x6 (x8 + 1) else none else none
set_option maxHeartbeats 4000000 in
set_option maxRecDepth 100000 in
theorem s_X7_pay_L232 {Q : Option Value → hH → Prop} (g : hH) : ∀ (n : Nat) (μ : mS) (x1 : Int32) (x2 : Int32) (x6 : Int64) (x8 : Int32) (r : mS), f_X7_pay_L232 n μ x1 x2 x6 x8 = some r → (J mX7_pay rX7_pay Q 0 0 (gm g r) 260 [(0, .ref 5000), (1, .int x1), (2, .int x2), (6, .long x6)] []) → J mX7_pay rX7_pay Q 0 0 (gm g μ) 232 [(0, .ref 5000), (1, .int x1), (2, .int x2), (6, .long x6), (8, .int x8)] [] := by
  intro n
  induction n with
  | zero =>
    intro μ x1 x2 x6 x8 r hf
    cases hf
  | succ n ih =>
    intro μ x1 x2 x6 x8 r hf k0
    rw [f_X7_pay_L232] at hf
    refine j_iload (pc' := 234) rfl rfl rfl ?_
    refine j_aload_n (pc' := 235) rfl rfl rfl ?_
    refine j_get (pc' := 238) rfl rfl flX7_235 (gm_o g μ) (mF_29 μ) ?_
    refine j_icmp_ge (tgt := 260) (pc' := 241) rfl rfl rfl (fun c238 => ?_) (fun c238 => ?_)
    · rw [if_pos c238] at hf
      have hf := Option.some.inj hf; subst hf
      exact j_sub (ls' := [(0, .ref 5000), (1, .int _), (2, .int _), (6, .long _)]) ⟨rfl, rfl, rfl, rfl, trivial⟩ (k0)
    · rw [if_neg c238] at hf
      refine j_aload_n (pc' := 242) rfl rfl rfl ?_
      refine j_get (pc' := 245) rfl rfl flX7_50 (gm_o g μ) (mF_17 μ) ?_
      refine j_aload_n (pc' := 246) rfl rfl rfl ?_
      refine j_get (pc' := 249) rfl rfl flX7_76 (gm_o g μ) (mF_30 μ) ?_
      refine j_iload (pc' := 251) rfl rfl rfl ?_
      obtain ⟨c251, hf⟩ := o_chk hf
      refine j_iald (pc' := 252) rfl rfl (gm_30 g μ) (vin_ok c251) ?_
      refine j_iconst (v := 1) (pc' := 253) rfl rfl (by decide) ?_
      obtain ⟨c253, hf⟩ := o_chk hf
      obtain ⟨μ253, e253, hf⟩ := o_let hf
      refine j_zast (pc' := 254) rfl rfl (gm_17 g μ) (by decide) (vin_ok c253) ?_
      rw [gs_17]; rw [e253]
      refine j_iinc (pc' := 257) (d := 1) (ls' := [(8, _), (0, _), (1, _), (2, _), (6, _)]) rfl rfl rfl (by decide) (Nat.le_of_ble_eq_true rfl) rfl ?_
      refine j_goto (tgt := 232) rfl rfl ?_
      refine j_sub (ls' := [(0, .ref 5000), (1, .int _), (2, .int _), (6, .long _), (8, .int _)]) ⟨rfl, rfl, rfl, rfl, rfl, trivial⟩ ?_
      exact ih _ _ _ _ _ _ hf k0
def f_X7_pay (μ : mS) (x1 : Int32) (x2 : Int32) : Option (Int32 × mS) := (f_X7_isTown x1).bind fun r1 => if r1 = 0 then some ((-1), μ) else (f_X7_in x2 1 1000000).bind fun r13 => if r13 = 0 then some ((-2), μ) else (f_X7_pay_L30 4000 μ x1 x2 0 0 0).bind fun r30 => if 0 ≤ (lg_cmp r30.1 ((x2).toInt64)) then letm (seti r30.2 29 (fun _ => 0)) fun μ166 => (f_X7_pay_L169 4000 μ166 x1 x2 0).bind fun r169 => (f_X7_pay_L232 4000 r169.2 x1 x2 r169.1 0).bind fun r232 => bif vin x1 6 then bif vin x1 6 then letm (setl r232 28 (va_up (r232.2 28) (x1).toNatClampNeg ((r232.2 28 (x1).toNatClampNeg) + (r169.1 - (x2).toInt64)))) fun μ273 => some ((μ273.1 29 0), μ273) else none else none else some ((-3), r30.2)
set_option maxHeartbeats 4000000 in
set_option maxRecDepth 100000 in
theorem s_X7_pay (g : hH) (μ : mS) (x1 : Int32) (x2 : Int32) (r : (Int32 × mS)) (hf : f_X7_pay μ x1 x2 = some r) : SpD mX7_pay rX7_pay [.ref 5000, .int x1, .int x2] (gm g μ) (some (.int r.1)) (gm g r.2) := by
  refine sp_of miX7_pay (Nat.le_of_ble_eq_true rfl) ?_
  show J _ _ _ 0 0 _ 0 [(0, .ref 5000), (1, .int x1), (2, .int x2)] []
  unfold f_X7_pay at hf
  refine j_iload_n (pc' := 1) rfl rfl rfl ?_
  obtain ⟨r1, e1, hf⟩ := o_bind hf
  refine j_s1 (pc' := 4) rfl rfl miX7_isTown lnX7_149 (s_X7_isTown (gm g μ) x1 _ e1) (h_rm_of rfl) (Nat.le_of_ble_eq_true rfl) (c' := 0) (s' := 0) rfl rfl ?_
  refine j_if_ne (tgt := 9) (pc' := 7) rfl rfl rfl (fun c4 => ?_) (fun c4 => ?_)
  · rw [if_neg c4] at hf
    refine j_iload_n (pc' := 10) rfl rfl rfl ?_
    refine j_iconst (v := 1) (pc' := 11) rfl rfl (by decide) ?_
    refine j_ldc (pc' := 13) rfl rfl kcX7_228 ?_
    obtain ⟨r13, e13, hf⟩ := o_bind hf
    refine j_s3 (pc' := 16) rfl rfl miX7_in lnX7_138 (s_X7_in (gm g μ) x2 1 1000000 _ e13) (h_rm_of rfl) (Nat.le_of_ble_eq_true rfl) (c' := 0) (s' := 0) rfl rfl ?_
    refine j_if_ne (tgt := 22) (pc' := 19) rfl rfl rfl (fun c16 => ?_) (fun c16 => ?_)
    · rw [if_neg c16] at hf
      refine j_iconst (v := 0) (pc' := 23) rfl rfl (by decide) ?_
      refine j_istore_n (pc' := 24) (ls' := [(3, _), (0, _), (1, _), (2, _)]) rfl rfl (Nat.le_of_ble_eq_true rfl) rfl ?_
      refine j_lconst (v := 0) (pc' := 25) rfl rfl (by decide) ?_
      refine j_lstore (pc' := 27) (ls' := [(4, _), (3, _), (0, _), (1, _), (2, _)]) rfl rfl (Nat.le_of_ble_eq_true rfl) rfl ?_
      refine j_iconst (v := 0) (pc' := 28) rfl rfl (by decide) ?_
      refine j_istore (pc' := 30) (ls' := [(6, _), (4, _), (3, _), (0, _), (1, _), (2, _)]) rfl rfl (Nat.le_of_ble_eq_true rfl) rfl ?_
      obtain ⟨r30, e30, hf⟩ := o_bind hf
      refine j_sub (ls' := [(0, .ref 5000), (1, .int x1), (2, .int x2), (3, .int 0), (4, .long 0), (6, .int 0)]) ⟨rfl, rfl, rfl, rfl, rfl, rfl, trivial⟩ ?_
      refine s_X7_pay_L30 g _ _ _ _ _ _ _ _ e30 ?_
      refine j_lload (pc' := 152) rfl rfl rfl ?_
      refine j_iload_n (pc' := 153) rfl rfl rfl ?_
      refine j_i2l (pc' := 154) rfl rfl ?_
      refine j_lcmp (pc' := 155) rfl rfl ?_
      refine j_if_ge (tgt := 161) (pc' := 158) rfl rfl rfl (fun c155 => ?_) (fun c155 => ?_)
      · rw [if_pos c155] at hf
        refine j_lconst (v := 0) (pc' := 162) rfl rfl (by decide) ?_
        refine j_lstore (pc' := 164) (ls' := [(6, _), (0, _), (1, _), (2, _), (4, _)]) rfl rfl (Nat.le_of_ble_eq_true rfl) rfl ?_
        refine j_aload_n (pc' := 165) rfl rfl rfl ?_
        refine j_iconst (v := 0) (pc' := 166) rfl rfl (by decide) ?_
        obtain ⟨μ166, e166, hf⟩ := o_let hf
        refine j_put (pc' := 169) rfl rfl flX7_235 (gm_o g r30.2) (by decide) (Nat.le_of_ble_eq_true rfl) rfl rfl ?_
        rw [gs_29]; rw [e166]
        obtain ⟨r169, e169, hf⟩ := o_bind hf
        refine j_sub (ls' := [(0, .ref 5000), (1, .int x1), (2, .int x2), (6, .long 0)]) ⟨rfl, rfl, rfl, rfl, trivial⟩ ?_
        refine s_X7_pay_L169 g _ _ _ _ _ _ e169 ?_
        refine j_iconst (v := 0) (pc' := 230) rfl rfl (by decide) ?_
        refine j_istore (pc' := 232) (ls' := [(8, _), (0, _), (1, _), (2, _), (6, _)]) rfl rfl (Nat.le_of_ble_eq_true rfl) rfl ?_
        obtain ⟨r232, e232, hf⟩ := o_bind hf
        refine j_sub (ls' := [(0, .ref 5000), (1, .int x1), (2, .int x2), (6, .long r169.1), (8, .int 0)]) ⟨rfl, rfl, rfl, rfl, rfl, trivial⟩ ?_
        refine s_X7_pay_L232 g _ _ _ _ _ _ _ e232 ?_
        refine j_aload_n (pc' := 261) rfl rfl rfl ?_
        refine j_get (pc' := 264) rfl rfl flX7_72 (gm_o g r232) (mF_28 r232) ?_
        refine j_iload_n (pc' := 265) rfl rfl rfl ?_
        refine j_dup2_11 (pc' := 266) rfl rfl rfl rfl ?_
        obtain ⟨c266, hf⟩ := o_chk hf
        refine j_lald (pc' := 267) rfl rfl (gm_28 g r232) (vin_ok c266) ?_
        refine j_lload (pc' := 269) rfl rfl rfl ?_
        refine j_iload_n (pc' := 270) rfl rfl rfl ?_
        refine j_i2l (pc' := 271) rfl rfl ?_
        refine j_lsub (pc' := 272) rfl rfl ?_
        refine j_ladd (pc' := 273) rfl rfl ?_
        obtain ⟨c273, hf⟩ := o_chk hf
        obtain ⟨μ273, e273, hf⟩ := o_let hf
        refine j_last (pc' := 274) rfl rfl (gm_28 g r232) (by decide) (vin_ok c273) ?_
        rw [gs_28]; rw [e273]
        refine j_aload_n (pc' := 275) rfl rfl rfl ?_
        refine j_get (pc' := 278) rfl rfl flX7_235 (gm_o g μ273) (mF_29 μ273) ?_
        have hf := Option.some.inj hf; subst hf
        exact j_iret rfl rfl (Nat.zero_le _) (Nat.zero_le _) ⟨rfl, rfl⟩
      · rw [if_neg c155] at hf
        refine j_bipush (v := (-3)) (pc' := 160) rfl rfl (by decide) ?_
        have hf := Option.some.inj hf; subst hf
        exact j_iret rfl rfl (Nat.zero_le _) (Nat.zero_le _) ⟨rfl, rfl⟩
    · rw [if_pos c16] at hf
      refine j_bipush (v := (-2)) (pc' := 21) rfl rfl (by decide) ?_
      have hf := Option.some.inj hf; subst hf
      exact j_iret rfl rfl (Nat.zero_le _) (Nat.zero_le _) ⟨rfl, rfl⟩
  · rw [if_pos c4] at hf
    refine j_iconst (v := (-1)) (pc' := 8) rfl rfl (by decide) ?_
    have hf := Option.some.inj hf; subst hf
    exact j_iret rfl rfl (Nat.zero_le _) (Nat.zero_le _) ⟨rfl, rfl⟩
end MODEL3
