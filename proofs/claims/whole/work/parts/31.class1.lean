section CLASS1
def rX6_keepLot : Room := { frames := 0, cells := 0, slots := 0, locals := 0 }
def f_X6_keepLot (σ : xS) (x1 : Nat) : Option (Int32 × xS) := bif isL σ x1 then bif vin (σ.1 3 0) 30 then letm (xr σ 2 (va_up (σ.2.2.1 2) ((σ.1 3 0)).toNatClampNeg (some x1))) fun σ9 => letm (xi σ9 3 (fun _ => ((σ9.1 3 0) + 1))) fun σ18 => some ((σ9.1 3 0), σ18) else none else none
set_option maxHeartbeats 4000000 in
set_option maxRecDepth 100000 in
theorem s_X6_keepLot (g : hH) (σ : xS) (x1 : Nat) (r : (Int32 × xS)) (hf : f_X6_keepLot σ x1 = some r) : SpD mX6_keepLot rX6_keepLot [.ref 0, .ref x1] (gx g σ) (some (.int r.1)) (gx g r.2) := by
  refine sp_of miX6_keepLot (Nat.le_of_ble_eq_true rfl) ?_
  show J _ _ _ 0 0 _ 0 [(0, .ref 0), (1, .ref x1)] []
  unfold f_X6_keepLot at hf
  refine j_aload_n (pc' := 1) rfl rfl rfl ?_
  refine j_get (pc' := 4) rfl rfl flX6_17 (gxk_0 g σ) (nsF_2 σ) ?_
  refine j_aload_n (pc' := 5) rfl rfl rfl ?_
  refine j_get (pc' := 8) rfl rfl flX6_97 (gxk_0 g σ) (nsF_3 σ) ?_
  refine j_aload_n (pc' := 9) rfl rfl rfl ?_
  obtain ⟨c9_1, hf⟩ := o_chk hf
  obtain ⟨c9, hf⟩ := o_chk hf
  obtain ⟨σ9, e9, hf⟩ := o_let hf
  refine j_aast (pc' := 10) (ci := 1) (r := (RX1, TX1, 12)) rfl rfl (List.Mem.tail _ (List.Mem.head _)) (gxk_2 g σ) (by decide) (vin_ok c9) (gx_lot c9_1) rfl ?_
  rw [gxs_2]; rw [e9]
  refine j_aload_n (pc' := 11) rfl rfl rfl ?_
  refine j_dup (pc' := 12) rfl rfl rfl ?_
  refine j_get (pc' := 15) rfl rfl flX6_97 (gxk_0 g σ9) (nsF_3 σ9) ?_
  refine j_dup_x1 (pc' := 16) rfl rfl rfl rfl ?_
  refine j_iconst (v := 1) (pc' := 17) rfl rfl (by decide) ?_
  refine j_iadd (pc' := 18) rfl rfl ?_
  obtain ⟨σ18, e18, hf⟩ := o_let hf
  refine j_put (pc' := 21) rfl rfl flX6_97 (gxk_0 g σ9) (by decide) (Nat.le_of_ble_eq_true rfl) rfl rfl ?_
  rw [nss_3]; rw [e18]
  have hf := Option.some.inj hf; subst hf
  exact j_iret rfl rfl (Nat.le_of_ble_eq_true rfl) (Nat.le_of_ble_eq_true rfl) ⟨rfl, rfl⟩
def rX4_init : Room := { frames := 1, cells := 0, slots := 0, locals := 20 }
def f_X4_init (σ : xS) (x0 : Nat) (x1 : Int32) (x2 : Int32) (x3 : Int32) (x4 : Int32) : Option xS := bif isS σ x0 then letm (xi σ 120 (va_up (σ.1 120) (x0 - 2000) x1)) fun σ6 => bif isS σ6 x0 then letm (xi σ6 121 (va_up (σ6.1 121) (x0 - 2000) x2)) fun σ11 => bif isS σ11 x0 then letm (xi σ11 122 (va_up (σ11.1 122) (x0 - 2000) x3)) fun σ16 => bif isS σ16 x0 then letm (xi σ16 123 (va_up (σ16.1 123) (x0 - 2000) x4)) fun σ22 => some σ22 else none else none else none else none
set_option maxHeartbeats 4000000 in
set_option maxRecDepth 100000 in
theorem s_X4_init (g : hH) (σ : xS) (x0 : Nat) (x1 : Int32) (x2 : Int32) (x3 : Int32) (x4 : Int32) (r : xS) (hf : f_X4_init σ x0 x1 x2 x3 x4 = some r) : SpD mX4_init rX4_init [.ref x0, .int x1, .int x2, .int x3, .int x4] (gx g σ) (none) (gx g r) := by
  refine sp_of miX4_init (Nat.le_of_ble_eq_true rfl) ?_
  show J _ _ _ 0 0 _ 0 [(0, .ref x0), (1, .int x1), (2, .int x2), (3, .int x3), (4, .int x4)] []
  unfold f_X4_init at hf
  refine j_aload_n (pc' := 1) rfl rfl rfl ?_
  refine j_objInit (pc' := 4) rfl rfl koX4 ko_i ko_c ⟨Nat.le_of_ble_eq_true rfl, Nat.le_of_ble_eq_true rfl⟩ ?_
  refine j_aload_n (pc' := 5) rfl rfl rfl ?_
  refine j_iload_n (pc' := 6) rfl rfl rfl ?_
  obtain ⟨c6_1, hf⟩ := o_chk hf
  obtain ⟨σ6, e6, hf⟩ := o_let hf
  refine j_putF (pc' := 9) rfl rfl flX4_9 rfl rfl (gx_sort c6_1) (lt_S c6_1) (Nat.le_of_ble_eq_true rfl) rfl rfl ?_
  rw [sorts_0 c6_1]; rw [e6]
  refine j_aload_n (pc' := 10) rfl rfl rfl ?_
  refine j_iload_n (pc' := 11) rfl rfl rfl ?_
  obtain ⟨c11_2, hf⟩ := o_chk hf
  obtain ⟨σ11, e11, hf⟩ := o_let hf
  refine j_putF (pc' := 14) rfl rfl flX4_15 rfl rfl (gx_sort c11_2) (lt_S c11_2) (Nat.le_of_ble_eq_true rfl) rfl rfl ?_
  rw [sorts_1 c11_2]; rw [e11]
  refine j_aload_n (pc' := 15) rfl rfl rfl ?_
  refine j_iload_n (pc' := 16) rfl rfl rfl ?_
  obtain ⟨c16_3, hf⟩ := o_chk hf
  obtain ⟨σ16, e16, hf⟩ := o_let hf
  refine j_putF (pc' := 19) rfl rfl flX4_18 rfl rfl (gx_sort c16_3) (lt_S c16_3) (Nat.le_of_ble_eq_true rfl) rfl rfl ?_
  rw [sorts_2 c16_3]; rw [e16]
  refine j_aload_n (pc' := 20) rfl rfl rfl ?_
  refine j_iload (pc' := 22) rfl rfl rfl ?_
  obtain ⟨c22_4, hf⟩ := o_chk hf
  obtain ⟨σ22, e22, hf⟩ := o_let hf
  refine j_putF (pc' := 25) rfl rfl flX4_21 rfl rfl (gx_sort c22_4) (lt_S c22_4) (Nat.le_of_ble_eq_true rfl) rfl rfl ?_
  rw [sorts_3 c22_4]; rw [e22]
  have hf := Option.some.inj hf; subst hf
  exact j_vret rfl rfl (Nat.le_of_ble_eq_true rfl) (Nat.le_of_ble_eq_true rfl) ⟨rfl, rfl⟩
def rX1_init : Room := { frames := 1, cells := 0, slots := 0, locals := 20 }
def f_X1_init (σ : xS) (x0 : Nat) (x1 : Int32) (x2 : Int32) (x3 : Nat) (x4 : Int32) (x5 : Int32) (x6 : Int32) : Option xS := bif isL σ x0 then letm (xi σ 106 (va_up (σ.1 106) (x0 - 1000) (-1))) fun σ6 => bif isL σ6 x0 then letm (xi σ6 107 (va_up (σ6.1 107) (x0 - 1000) (-1))) fun σ11 => bif isL σ11 x0 then letm (xi σ11 104 (va_up (σ11.1 104) (x0 - 1000) x1)) fun σ16 => bif isL σ16 x0 then letm (xi σ16 100 (va_up (σ16.1 100) (x0 - 1000) x2)) fun σ21 => bif isL σ21 x0 then letm (xr σ21 101 (va_up (σ21.2.2.1 101) (x0 - 1000) (some x3))) fun σ26 => bif isL σ26 x0 then letm (xi σ26 102 (va_up (σ26.1 102) (x0 - 1000) x4)) fun σ32 => bif isL σ32 x0 then letm (xi σ32 105 (va_up (σ32.1 105) (x0 - 1000) x5)) fun σ38 => bif isL σ38 x0 then letm (xi σ38 103 (va_up (σ38.1 103) (x0 - 1000) x6)) fun σ44 => some σ44 else none else none else none else none else none else none else none else none
set_option maxHeartbeats 4000000 in
set_option maxRecDepth 100000 in
theorem s_X1_init (g : hH) (σ : xS) (x0 : Nat) (x1 : Int32) (x2 : Int32) (x3 : Nat) (x4 : Int32) (x5 : Int32) (x6 : Int32) (r : xS) (hf : f_X1_init σ x0 x1 x2 x3 x4 x5 x6 = some r) : SpD mX1_init rX1_init [.ref x0, .int x1, .int x2, .ref x3, .int x4, .int x5, .int x6] (gx g σ) (none) (gx g r) := by
  refine sp_of miX1_init (Nat.le_of_ble_eq_true rfl) ?_
  show J _ _ _ 0 0 _ 0 [(0, .ref x0), (1, .int x1), (2, .int x2), (3, .ref x3), (4, .int x4), (5, .int x5), (6, .int x6)] []
  unfold f_X1_init at hf
  refine j_aload_n (pc' := 1) rfl rfl rfl ?_
  refine j_objInit (pc' := 4) rfl rfl koX1 ko_i ko_c ⟨Nat.le_of_ble_eq_true rfl, Nat.le_of_ble_eq_true rfl⟩ ?_
  refine j_aload_n (pc' := 5) rfl rfl rfl ?_
  refine j_iconst (v := (-1)) (pc' := 6) rfl rfl (by decide) ?_
  obtain ⟨c6_1, hf⟩ := o_chk hf
  obtain ⟨σ6, e6, hf⟩ := o_let hf
  refine j_put (pc' := 9) rfl rfl flX1_9 (gx_lot c6_1) (lt_L c6_1) (Nat.le_of_ble_eq_true rfl) rfl rfl ?_
  rw [lots_6 c6_1]; rw [e6]
  refine j_aload_n (pc' := 10) rfl rfl rfl ?_
  refine j_iconst (v := (-1)) (pc' := 11) rfl rfl (by decide) ?_
  obtain ⟨c11_2, hf⟩ := o_chk hf
  obtain ⟨σ11, e11, hf⟩ := o_let hf
  refine j_put (pc' := 14) rfl rfl flX1_15 (gx_lot c11_2) (lt_L c11_2) (Nat.le_of_ble_eq_true rfl) rfl rfl ?_
  rw [lots_7 c11_2]; rw [e11]
  refine j_aload_n (pc' := 15) rfl rfl rfl ?_
  refine j_iload_n (pc' := 16) rfl rfl rfl ?_
  obtain ⟨c16_3, hf⟩ := o_chk hf
  obtain ⟨σ16, e16, hf⟩ := o_let hf
  refine j_put (pc' := 19) rfl rfl flX1_18 (gx_lot c16_3) (lt_L c16_3) (Nat.le_of_ble_eq_true rfl) rfl rfl ?_
  rw [lots_4 c16_3]; rw [e16]
  refine j_aload_n (pc' := 20) rfl rfl rfl ?_
  refine j_iload_n (pc' := 21) rfl rfl rfl ?_
  obtain ⟨c21_4, hf⟩ := o_chk hf
  obtain ⟨σ21, e21, hf⟩ := o_let hf
  refine j_putF (pc' := 24) rfl rfl flX1_21 rfl rfl (gx_lot c21_4) (lt_L c21_4) (Nat.le_of_ble_eq_true rfl) rfl rfl ?_
  rw [lots_0 c21_4]; rw [e21]
  refine j_aload_n (pc' := 25) rfl rfl rfl ?_
  refine j_aload_n (pc' := 26) rfl rfl rfl ?_
  obtain ⟨c26_5, hf⟩ := o_chk hf
  obtain ⟨σ26, e26, hf⟩ := o_let hf
  refine j_putF (pc' := 29) rfl rfl flX1_24 rfl rfl (gx_lot c26_5) (lt_L c26_5) (Nat.le_of_ble_eq_true rfl) rfl rfl ?_
  rw [lots_1 c26_5]; rw [e26]
  refine j_aload_n (pc' := 30) rfl rfl rfl ?_
  refine j_iload (pc' := 32) rfl rfl rfl ?_
  obtain ⟨c32_6, hf⟩ := o_chk hf
  obtain ⟨σ32, e32, hf⟩ := o_let hf
  refine j_putF (pc' := 35) rfl rfl flX1_28 rfl rfl (gx_lot c32_6) (lt_L c32_6) (Nat.le_of_ble_eq_true rfl) rfl rfl ?_
  rw [lots_2 c32_6]; rw [e32]
  refine j_aload_n (pc' := 36) rfl rfl rfl ?_
  refine j_iload (pc' := 38) rfl rfl rfl ?_
  obtain ⟨c38_7, hf⟩ := o_chk hf
  obtain ⟨σ38, e38, hf⟩ := o_let hf
  refine j_put (pc' := 41) rfl rfl flX1_31 (gx_lot c38_7) (lt_L c38_7) (Nat.le_of_ble_eq_true rfl) rfl rfl ?_
  rw [lots_5 c38_7]; rw [e38]
  refine j_aload_n (pc' := 42) rfl rfl rfl ?_
  refine j_iload (pc' := 44) rfl rfl rfl ?_
  obtain ⟨c44_8, hf⟩ := o_chk hf
  obtain ⟨σ44, e44, hf⟩ := o_let hf
  refine j_putF (pc' := 47) rfl rfl flX1_34 rfl rfl (gx_lot c44_8) (lt_L c44_8) (Nat.le_of_ble_eq_true rfl) rfl rfl ?_
  rw [lots_3 c44_8]; rw [e44]
  have hf := Option.some.inj hf; subst hf
  exact j_vret rfl rfl (Nat.le_of_ble_eq_true rfl) (Nat.le_of_ble_eq_true rfl) ⟨rfl, rfl⟩
def rX6_sort : Room := { frames := 2, cells := 1, slots := 4, locals := 44 }
def f_X6_sort (σ : xS) (x1 : Int32) (x2 : Int32) (x3 : Int32) (x4 : Int32) : Option (Int32 × xS) := (f_X6_within x2 1 500).bind fun r5 => if r5 = 0 then some ((-2), σ) else (f_X6_within x1 1 x2).bind fun r14 => if r14 = 0 then some ((-2), σ) else (f_X6_within x3 0 1000).bind fun r37 => if r37 = 0 then some ((-2), σ) else (f_X6_within x4 1 240).bind fun r49 => if r49 = 0 then some ((-2), σ) else if (σ.1 1 0) < 8 then bif decide (σ.2.2.2 0 < 1000) then letm (2000 + σ.2.2.2 0) fun k78 => letm (newsort σ) fun σ78 => (f_X4_init σ78 k78 x1 x2 x3 x4).bind fun r87 => bif isS r87 k78 then bif vin (σ.1 1 0) 8 then letm (xr r87 0 (va_up (r87.2.2.1 0) ((σ.1 1 0)).toNatClampNeg (some k78))) fun σ90 => letm (xi σ90 1 (fun _ => ((σ90.1 1 0) + 1))) fun σ99 => some ((σ90.1 1 0), σ99) else none else none else none else some ((-4), σ)
set_option maxHeartbeats 4000000 in
set_option maxRecDepth 100000 in
theorem s_X6_sort (g : hH) (σ : xS) (x1 : Int32) (x2 : Int32) (x3 : Int32) (x4 : Int32) (r : (Int32 × xS)) (hf : f_X6_sort σ x1 x2 x3 x4 = some r) : SpD mX6_sort rX6_sort [.ref 0, .int x1, .int x2, .int x3, .int x4] (gx g σ) (some (.int r.1)) (gx g r.2) := by
  refine sp_of miX6_sort (Nat.le_of_ble_eq_true rfl) ?_
  show J _ _ _ 0 0 _ 0 [(0, .ref 0), (1, .int x1), (2, .int x2), (3, .int x3), (4, .int x4)] []
  unfold f_X6_sort at hf
  refine j_iload_n (pc' := 1) rfl rfl rfl ?_
  refine j_iconst (v := 1) (pc' := 2) rfl rfl (by decide) ?_
  refine j_sipush (v := 500) (pc' := 5) rfl rfl (by decide) ?_
  obtain ⟨r5, e5, hf⟩ := o_bind hf
  refine j_s3 (pc' := 8) rfl rfl miX6_within lnX6_74 (s_X6_within (gx g σ) x2 1 500 _ e5) (h_rm_of rfl) (Nat.le_of_ble_eq_true rfl) (c' := 0) (s' := 0) rfl rfl ?_
  refine j_if_eq (tgt := 24) (pc' := 11) rfl rfl rfl (fun c8 => ?_) (fun c8 => ?_)
  · rw [if_pos c8] at hf
    refine j_iconst (v := 0) (pc' := 25) rfl rfl (by decide) ?_
    refine j_istore (pc' := 27) (ls' := [(5, _), (0, _), (1, _), (2, _), (3, _), (4, _)]) rfl rfl (Nat.le_of_ble_eq_true rfl) rfl ?_
    refine j_iload (pc' := 29) rfl rfl rfl ?_
    refine j_if_eq (tgt := 55) (pc' := 32) rfl rfl rfl (fun _ => ?_) (fun c29 => absurd c29 (by decide))
    refine j_bipush (v := (-2)) (pc' := 57) rfl rfl (by decide) ?_
    have hf := Option.some.inj hf; subst hf
    exact j_iret rfl rfl (Nat.le_of_ble_eq_true rfl) (Nat.le_of_ble_eq_true rfl) ⟨rfl, rfl⟩
  · rw [if_neg c8] at hf
    refine j_iload_n (pc' := 12) rfl rfl rfl ?_
    refine j_iconst (v := 1) (pc' := 13) rfl rfl (by decide) ?_
    refine j_iload_n (pc' := 14) rfl rfl rfl ?_
    obtain ⟨r14, e14, hf⟩ := o_bind hf
    refine j_s3 (pc' := 17) rfl rfl miX6_within lnX6_74 (s_X6_within (gx g σ) x1 1 x2 _ e14) (h_rm_of rfl) (Nat.le_of_ble_eq_true rfl) (c' := 0) (s' := 0) rfl rfl ?_
    refine j_if_eq (tgt := 24) (pc' := 20) rfl rfl rfl (fun c17 => ?_) (fun c17 => ?_)
    · rw [if_pos c17] at hf
      refine j_iconst (v := 0) (pc' := 25) rfl rfl (by decide) ?_
      refine j_istore (pc' := 27) (ls' := [(5, _), (0, _), (1, _), (2, _), (3, _), (4, _)]) rfl rfl (Nat.le_of_ble_eq_true rfl) rfl ?_
      refine j_iload (pc' := 29) rfl rfl rfl ?_
      refine j_if_eq (tgt := 55) (pc' := 32) rfl rfl rfl (fun _ => ?_) (fun c29 => absurd c29 (by decide))
      refine j_bipush (v := (-2)) (pc' := 57) rfl rfl (by decide) ?_
      have hf := Option.some.inj hf; subst hf
      exact j_iret rfl rfl (Nat.le_of_ble_eq_true rfl) (Nat.le_of_ble_eq_true rfl) ⟨rfl, rfl⟩
    · rw [if_neg c17] at hf
      refine j_iconst (v := 1) (pc' := 21) rfl rfl (by decide) ?_
      refine j_goto (tgt := 25) rfl rfl ?_
      refine j_istore (pc' := 27) (ls' := [(5, _), (0, _), (1, _), (2, _), (3, _), (4, _)]) rfl rfl (Nat.le_of_ble_eq_true rfl) rfl ?_
      refine j_iload (pc' := 29) rfl rfl rfl ?_
      refine j_if_eq (tgt := 55) (pc' := 32) rfl rfl rfl (fun c29 => absurd c29 (by decide)) (fun _ => ?_)
      refine j_iload_n (pc' := 33) rfl rfl rfl ?_
      refine j_iconst (v := 0) (pc' := 34) rfl rfl (by decide) ?_
      refine j_sipush (v := 1000) (pc' := 37) rfl rfl (by decide) ?_
      obtain ⟨r37, e37, hf⟩ := o_bind hf
      refine j_s3 (pc' := 40) rfl rfl miX6_within lnX6_74 (s_X6_within (gx g σ) x3 0 1000 _ e37) (h_rm_of rfl) (Nat.le_of_ble_eq_true rfl) (c' := 0) (s' := 0) rfl rfl ?_
      refine j_if_eq (tgt := 55) (pc' := 43) rfl rfl rfl (fun c40 => ?_) (fun c40 => ?_)
      · rw [if_pos c40] at hf
        refine j_bipush (v := (-2)) (pc' := 57) rfl rfl (by decide) ?_
        have hf := Option.some.inj hf; subst hf
        exact j_iret rfl rfl (Nat.le_of_ble_eq_true rfl) (Nat.le_of_ble_eq_true rfl) ⟨rfl, rfl⟩
      · rw [if_neg c40] at hf
        refine j_iload (pc' := 45) rfl rfl rfl ?_
        refine j_iconst (v := 1) (pc' := 46) rfl rfl (by decide) ?_
        refine j_sipush (v := 240) (pc' := 49) rfl rfl (by decide) ?_
        obtain ⟨r49, e49, hf⟩ := o_bind hf
        refine j_s3 (pc' := 52) rfl rfl miX6_within lnX6_74 (s_X6_within (gx g σ) x4 1 240 _ e49) (h_rm_of rfl) (Nat.le_of_ble_eq_true rfl) (c' := 0) (s' := 0) rfl rfl ?_
        refine j_if_ne (tgt := 58) (pc' := 55) rfl rfl rfl (fun c52 => ?_) (fun c52 => ?_)
        · rw [if_neg c52] at hf
          refine j_aload_n (pc' := 59) rfl rfl rfl ?_
          refine j_get (pc' := 62) rfl rfl flX6_78 (gxk_0 g σ) (nsF_1 σ) ?_
          refine j_bipush (v := 8) (pc' := 64) rfl rfl (by decide) ?_
          refine j_icmp_lt (tgt := 70) (pc' := 67) rfl rfl rfl (fun c64 => ?_) (fun c64 => ?_)
          · rw [if_pos c64] at hf
            refine j_aload_n (pc' := 71) rfl rfl rfl ?_
            refine j_get (pc' := 74) rfl rfl flX6_11 (gxk_0 g σ) (nsF_0 σ) ?_
            refine j_aload_n (pc' := 75) rfl rfl rfl ?_
            refine j_get (pc' := 78) rfl rfl flX6_78 (gxk_0 g σ) (nsF_1 σ) ?_
            obtain ⟨c78, hf⟩ := o_chk hf
            have c78 := of_decide_eq_true c78
            obtain ⟨k78, ek78, hf⟩ := o_let hf
            obtain ⟨σ78, e78, hf⟩ := o_let hf
            refine j_new (pc' := 81) (ci := 4) (fs := dfX4) rfl rfl klX6_9 rfl dfX4_ok (by decide) (gx_newsort c78).1 (by omega) (Nat.le_of_ble_eq_true rfl) (Nat.le_of_ble_eq_true rfl) ?_
            rw [(gx_newsort c78).2]; rw [e78, ek78]
            refine j_dup (pc' := 82) rfl rfl rfl ?_
            refine j_iload_n (pc' := 83) rfl rfl rfl ?_
            refine j_iload_n (pc' := 84) rfl rfl rfl ?_
            refine j_iload_n (pc' := 85) rfl rfl rfl ?_
            refine j_iload (pc' := 87) rfl rfl rfl ?_
            obtain ⟨r87, e87, hf⟩ := o_bind hf
            refine j_i4 (pc' := 90) rfl rfl miX4_init rfl lnX6_82 (s_X4_init g σ78 k78 x1 x2 x3 x4 _ e87) (h_rm_of rfl) (Nat.le_of_ble_eq_true rfl) (c' := 1) (s' := 4) rfl rfl ?_
            obtain ⟨c90_1, hf⟩ := o_chk hf
            obtain ⟨c90, hf⟩ := o_chk hf
            obtain ⟨σ90, e90, hf⟩ := o_let hf
            refine j_aast (pc' := 91) (ci := 4) (r := (RX4, TX4, 4)) rfl rfl (List.Mem.head _) (gxk_1 g r87) (by decide) (vin_ok c90) (gx_sort c90_1) rfl ?_
            rw [gxs_1]; rw [e90]
            refine j_aload_n (pc' := 92) rfl rfl rfl ?_
            refine j_dup (pc' := 93) rfl rfl rfl ?_
            refine j_get (pc' := 96) rfl rfl flX6_78 (gxk_0 g σ90) (nsF_1 σ90) ?_
            refine j_dup_x1 (pc' := 97) rfl rfl rfl rfl ?_
            refine j_iconst (v := 1) (pc' := 98) rfl rfl (by decide) ?_
            refine j_iadd (pc' := 99) rfl rfl ?_
            obtain ⟨σ99, e99, hf⟩ := o_let hf
            refine j_put (pc' := 102) rfl rfl flX6_78 (gxk_0 g σ90) (by decide) (Nat.le_of_ble_eq_true rfl) rfl rfl ?_
            rw [nss_1]; rw [e99]
            have hf := Option.some.inj hf; subst hf
            exact j_iret rfl rfl (Nat.le_of_ble_eq_true rfl) (Nat.le_of_ble_eq_true rfl) ⟨rfl, rfl⟩
          · rw [if_neg c64] at hf
            refine j_bipush (v := (-4)) (pc' := 69) rfl rfl (by decide) ?_
            have hf := Option.some.inj hf; subst hf
            exact j_iret rfl rfl (Nat.le_of_ble_eq_true rfl) (Nat.le_of_ble_eq_true rfl) ⟨rfl, rfl⟩
        · rw [if_pos c52] at hf
          refine j_bipush (v := (-2)) (pc' := 57) rfl rfl (by decide) ?_
          have hf := Option.some.inj hf; subst hf
          exact j_iret rfl rfl (Nat.le_of_ble_eq_true rfl) (Nat.le_of_ble_eq_true rfl) ⟨rfl, rfl⟩
def rX6_lot : Room := { frames := 2, cells := 1, slots := 12, locals := 47 }
def f_X6_lot (σ : xS) (x1 : Int32) (x2 : Int32) (x3 : Int32) (x4 : Int32) (x5 : Int32) (x6 : Int32) : Option (Int32 × xS) := (f_X6_sortAt σ x2).bind fun r2 => oq r2 (some ((-1), σ)) (fun k5_1 => (f_X6_isTown x6).bind fun r14 => if r14 = 0 then some ((-1), σ) else (f_X6_isLotAsTold σ x1 k5_1 x3 x4 x5).bind fun r30 => if r30 = 0 then some ((-2), σ) else if (σ.1 3 0) < 30 then bif decide (σ.2.2.2 1 < 1000) then letm (1000 + σ.2.2.2 1) fun k51 => letm (newlot σ) fun σ51 => (f_X6_hasOwnFine x1).bind fun r63 => if r63 = 0 then bif isS σ51 k5_1 then (f_X1_init σ51 k51 x1 x2 k5_1 x3 x4 (σ51.1 122 (k5_1 - 2000))).bind fun r79 => bif isL r79 k51 then letm (xi r79 106 (va_up (r79.1 106) (k51 - 1000) x6)) fun σ88 => (f_X6_keepLot σ88 k51).bind fun r94 => some (r94.1, r94.2) else none else none else (f_X1_init σ51 k51 x1 x2 k5_1 x3 x4 x5).bind fun r79 => bif isL r79 k51 then letm (xi r79 106 (va_up (r79.1 106) (k51 - 1000) x6)) fun σ88 => (f_X6_keepLot σ88 k51).bind fun r94 => some (r94.1, r94.2) else none else none else some ((-4), σ))
set_option maxHeartbeats 4000000 in
set_option maxRecDepth 100000 in
theorem s_X6_lot (g : hH) (σ : xS) (x1 : Int32) (x2 : Int32) (x3 : Int32) (x4 : Int32) (x5 : Int32) (x6 : Int32) (r : (Int32 × xS)) (hf : f_X6_lot σ x1 x2 x3 x4 x5 x6 = some r) : SpD mX6_lot rX6_lot [.ref 0, .int x1, .int x2, .int x3, .int x4, .int x5, .int x6] (gx g σ) (some (.int r.1)) (gx g r.2) := by
  refine sp_of miX6_lot (Nat.le_of_ble_eq_true rfl) ?_
  show J _ _ _ 0 0 _ 0 [(0, .ref 0), (1, .int x1), (2, .int x2), (3, .int x3), (4, .int x4), (5, .int x5), (6, .int x6)] []
  unfold f_X6_lot at hf
  refine j_aload_n (pc' := 1) rfl rfl rfl ?_
  refine j_iload_n (pc' := 2) rfl rfl rfl ?_
  obtain ⟨r2, e2, hf⟩ := o_bind hf
  refine j_v1 (pc' := 5) rfl rfl miX6_sortAt lnX6_85 (gxk_0 g σ) rfl (s_X6_sortAt g σ x2 _ e2) (h_rm_of rfl) (Nat.le_of_ble_eq_true rfl) (c' := 0) (s' := 0) rfl rfl ?_
  rcases o_q hf with ⟨q5_1, hf⟩ | ⟨k5_1, q5_1, hf⟩
  · rw [q5_1, va_rf_none]
    refine j_astoreN (pc' := 7) (ls' := [(7, _), (0, _), (1, _), (2, _), (3, _), (4, _), (5, _), (6, _)]) rfl rfl (Nat.le_of_ble_eq_true rfl) rfl ?_
    refine j_aloadN (pc' := 9) rfl rfl rfl ?_
    refine j_ifnullN (tgt := 20) rfl rfl ?_
    refine j_iconst (v := (-1)) (pc' := 21) rfl rfl (by decide) ?_
    have hf := Option.some.inj hf; subst hf
    exact j_iret rfl rfl (Nat.le_of_ble_eq_true rfl) (Nat.le_of_ble_eq_true rfl) ⟨rfl, rfl⟩
  · rw [q5_1, va_rf_some]
    refine j_astore (pc' := 7) (ls' := [(7, _), (0, _), (1, _), (2, _), (3, _), (4, _), (5, _), (6, _)]) rfl rfl (Nat.le_of_ble_eq_true rfl) rfl ?_
    refine j_aload (pc' := 9) rfl rfl rfl ?_
    refine j_ifnull (pc' := 12) rfl rfl ?_
    refine j_iload (pc' := 14) rfl rfl rfl ?_
    obtain ⟨r14, e14, hf⟩ := o_bind hf
    refine j_s1 (pc' := 17) rfl rfl miX6_isTown lnX6_89 (s_X6_isTown (gx g σ) x6 _ e14) (h_rm_of rfl) (Nat.le_of_ble_eq_true rfl) (c' := 0) (s' := 0) rfl rfl ?_
    refine j_if_ne (tgt := 22) (pc' := 20) rfl rfl rfl (fun c17 => ?_) (fun c17 => ?_)
    · rw [if_neg c17] at hf
      refine j_iload_n (pc' := 23) rfl rfl rfl ?_
      refine j_aload (pc' := 25) rfl rfl rfl ?_
      refine j_iload_n (pc' := 26) rfl rfl rfl ?_
      refine j_iload (pc' := 28) rfl rfl rfl ?_
      refine j_iload (pc' := 30) rfl rfl rfl ?_
      obtain ⟨r30, e30, hf⟩ := o_bind hf
      refine j_s5 (pc' := 33) rfl rfl miX6_isLotAsTold lnX6_93 (s_X6_isLotAsTold g σ x1 k5_1 x3 x4 x5 _ e30) (h_rm_of rfl) (Nat.le_of_ble_eq_true rfl) (c' := 0) (s' := 0) rfl rfl ?_
      refine j_if_ne (tgt := 39) (pc' := 36) rfl rfl rfl (fun c33 => ?_) (fun c33 => ?_)
      · rw [if_neg c33] at hf
        refine j_aload_n (pc' := 40) rfl rfl rfl ?_
        refine j_get (pc' := 43) rfl rfl flX6_97 (gxk_0 g σ) (nsF_3 σ) ?_
        refine j_bipush (v := 30) (pc' := 45) rfl rfl (by decide) ?_
        refine j_icmp_lt (tgt := 51) (pc' := 48) rfl rfl rfl (fun c45 => ?_) (fun c45 => ?_)
        · rw [if_pos c45] at hf
          obtain ⟨c51, hf⟩ := o_chk hf
          have c51 := of_decide_eq_true c51
          obtain ⟨k51, ek51, hf⟩ := o_let hf
          obtain ⟨σ51, e51, hf⟩ := o_let hf
          refine j_new (pc' := 54) (ci := 1) (fs := dfX1) rfl rfl klX6_15 rfl dfX1_ok (by decide) (gx_newlot c51).1 (by omega) (Nat.le_of_ble_eq_true rfl) (Nat.le_of_ble_eq_true rfl) ?_
          rw [(gx_newlot c51).2]; rw [e51, ek51]
          refine j_dup (pc' := 55) rfl rfl rfl ?_
          refine j_iload_n (pc' := 56) rfl rfl rfl ?_
          refine j_iload_n (pc' := 57) rfl rfl rfl ?_
          refine j_aload (pc' := 59) rfl rfl rfl ?_
          refine j_iload_n (pc' := 60) rfl rfl rfl ?_
          refine j_iload (pc' := 62) rfl rfl rfl ?_
          refine j_iload_n (pc' := 63) rfl rfl rfl ?_
          obtain ⟨r63, e63, hf⟩ := o_bind hf
          refine j_s1 (pc' := 66) rfl rfl miX6_hasOwnFine lnX6_100 (s_X6_hasOwnFine (gx g σ51) x1 _ e63) (h_rm_of rfl) (Nat.le_of_ble_eq_true rfl) (c' := 1) (s' := 12) rfl rfl ?_
          refine j_if_eq (tgt := 74) (pc' := 69) rfl rfl rfl (fun c66 => ?_) (fun c66 => ?_)
          · rw [if_pos c66] at hf
            refine j_aload (pc' := 76) rfl rfl rfl ?_
            obtain ⟨c76_2, hf⟩ := o_chk hf
            refine j_get (pc' := 79) (v := .int (σ51.1 122 (k5_1 - 2000))) rfl rfl flX6_103 (gx_sort c76_2) (sortF_2 _ _) ?_
            obtain ⟨r79, e79, hf⟩ := o_bind hf
            refine j_i6 (pc' := 82) rfl rfl miX1_init rfl lnX6_106 (s_X1_init g σ51 k51 x1 x2 k5_1 x3 x4 (σ51.1 122 (k5_1 - 2000)) _ e79) (h_rm_of rfl) (Nat.le_of_ble_eq_true rfl) (c' := 1) (s' := 12) rfl rfl ?_
            refine j_astore (pc' := 84) (ls' := [(8, _), (7, _), (0, _), (1, _), (2, _), (3, _), (4, _), (5, _), (6, _)]) rfl rfl (Nat.le_of_ble_eq_true rfl) rfl ?_
            refine j_aload (pc' := 86) rfl rfl rfl ?_
            refine j_iload (pc' := 88) rfl rfl rfl ?_
            obtain ⟨c88_3, hf⟩ := o_chk hf
            obtain ⟨σ88, e88, hf⟩ := o_let hf
            refine j_put (pc' := 91) rfl rfl flX6_109 (gx_lot c88_3) (lt_L c88_3) (Nat.le_of_ble_eq_true rfl) rfl rfl ?_
            rw [lots_6 c88_3]; rw [e88]
            refine j_aload_n (pc' := 92) rfl rfl rfl ?_
            refine j_aload (pc' := 94) rfl rfl rfl ?_
            obtain ⟨r94, e94, hf⟩ := o_bind hf
            refine j_v1 (pc' := 97) rfl rfl miX6_keepLot lnX6_112 (gxk_0 g σ88) rfl (s_X6_keepLot g σ88 k51 _ e94) (h_rm_of rfl) (Nat.le_of_ble_eq_true rfl) (c' := 1) (s' := 12) rfl rfl ?_
            have hf := Option.some.inj hf; subst hf
            exact j_iret rfl rfl (Nat.le_of_ble_eq_true rfl) (Nat.le_of_ble_eq_true rfl) ⟨rfl, rfl⟩
          · rw [if_neg c66] at hf
            refine j_iload (pc' := 71) rfl rfl rfl ?_
            refine j_goto (tgt := 79) rfl rfl ?_
            obtain ⟨r79, e79, hf⟩ := o_bind hf
            refine j_i6 (pc' := 82) rfl rfl miX1_init rfl lnX6_106 (s_X1_init g σ51 k51 x1 x2 k5_1 x3 x4 x5 _ e79) (h_rm_of rfl) (Nat.le_of_ble_eq_true rfl) (c' := 1) (s' := 12) rfl rfl ?_
            refine j_astore (pc' := 84) (ls' := [(8, _), (7, _), (0, _), (1, _), (2, _), (3, _), (4, _), (5, _), (6, _)]) rfl rfl (Nat.le_of_ble_eq_true rfl) rfl ?_
            refine j_aload (pc' := 86) rfl rfl rfl ?_
            refine j_iload (pc' := 88) rfl rfl rfl ?_
            obtain ⟨c88_4, hf⟩ := o_chk hf
            obtain ⟨σ88, e88, hf⟩ := o_let hf
            refine j_put (pc' := 91) rfl rfl flX6_109 (gx_lot c88_4) (lt_L c88_4) (Nat.le_of_ble_eq_true rfl) rfl rfl ?_
            rw [lots_6 c88_4]; rw [e88]
            refine j_aload_n (pc' := 92) rfl rfl rfl ?_
            refine j_aload (pc' := 94) rfl rfl rfl ?_
            obtain ⟨r94, e94, hf⟩ := o_bind hf
            refine j_v1 (pc' := 97) rfl rfl miX6_keepLot lnX6_112 (gxk_0 g σ88) rfl (s_X6_keepLot g σ88 k51 _ e94) (h_rm_of rfl) (Nat.le_of_ble_eq_true rfl) (c' := 1) (s' := 12) rfl rfl ?_
            have hf := Option.some.inj hf; subst hf
            exact j_iret rfl rfl (Nat.le_of_ble_eq_true rfl) (Nat.le_of_ble_eq_true rfl) ⟨rfl, rfl⟩
        · rw [if_neg c45] at hf
          refine j_bipush (v := (-4)) (pc' := 50) rfl rfl (by decide) ?_
          have hf := Option.some.inj hf; subst hf
          exact j_iret rfl rfl (Nat.le_of_ble_eq_true rfl) (Nat.le_of_ble_eq_true rfl) ⟨rfl, rfl⟩
      · rw [if_pos c33] at hf
        refine j_bipush (v := (-2)) (pc' := 38) rfl rfl (by decide) ?_
        have hf := Option.some.inj hf; subst hf
        exact j_iret rfl rfl (Nat.le_of_ble_eq_true rfl) (Nat.le_of_ble_eq_true rfl) ⟨rfl, rfl⟩
    · rw [if_pos c17] at hf
      refine j_iconst (v := (-1)) (pc' := 21) rfl rfl (by decide) ?_
      have hf := Option.some.inj hf; subst hf
      exact j_iret rfl rfl (Nat.le_of_ble_eq_true rfl) (Nat.le_of_ble_eq_true rfl) ⟨rfl, rfl⟩
def rX6_open : Room := { frames := 2, cells := 0, slots := 0, locals := 43 }
def f_X6_open (σ : xS) (x1 : Int32) (x2 : Int32) : Option (Int32 × xS) := (f_X6_lotAt σ x1).bind fun r2 => oq r2 (some ((-1), σ)) (fun k5_1 => bif isL σ k5_1 then (σ.2.2.1 101 (k5_1 - 1000)).bind fun a22_3 => bif isS σ a22_3 then (f_X6_within x2 (σ.1 102 (k5_1 - 1000)) ((σ.1 102 (k5_1 - 1000)) * (σ.1 121 (a22_3 - 2000)))).bind fun r29 => if r29 = 0 then some ((-2), σ) else (f_X1_isSealedBag σ k5_1).bind fun r39 => if r39 = 0 then some ((-3), σ) else (σ.2.2.1 101 (k5_1 - 1000)).bind fun a54_5 => bif isS σ a54_5 then if ((σ.1 102 (k5_1 - 1000)) * (σ.1 120 (a54_5 - 2000))) ≤ x2 then letm (xi σ 104 (va_up (σ.1 104) (k5_1 - 1000) 0)) fun σ82 => bif isL σ82 k5_1 then letm (xi σ82 105 (va_up (σ82.1 105) (k5_1 - 1000) x2)) fun σ87 => (f_X6_oneIf 0).bind fun r92 => some (r92, σ87) else none else letm (xi σ 104 (va_up (σ.1 104) (k5_1 - 1000) 1)) fun σ82 => bif isL σ82 k5_1 then letm (xi σ82 105 (va_up (σ82.1 105) (k5_1 - 1000) x2)) fun σ87 => (f_X6_oneIf 1).bind fun r92 => some (r92, σ87) else none else none else none else none)
set_option maxHeartbeats 4000000 in
set_option maxRecDepth 100000 in
theorem s_X6_open (g : hH) (σ : xS) (x1 : Int32) (x2 : Int32) (r : (Int32 × xS)) (hf : f_X6_open σ x1 x2 = some r) : SpD mX6_open rX6_open [.ref 0, .int x1, .int x2] (gx g σ) (some (.int r.1)) (gx g r.2) := by
  refine sp_of miX6_open (Nat.le_of_ble_eq_true rfl) ?_
  show J _ _ _ 0 0 _ 0 [(0, .ref 0), (1, .int x1), (2, .int x2)] []
  unfold f_X6_open at hf
  refine j_aload_n (pc' := 1) rfl rfl rfl ?_
  refine j_iload_n (pc' := 2) rfl rfl rfl ?_
  obtain ⟨r2, e2, hf⟩ := o_bind hf
  refine j_v1 (pc' := 5) rfl rfl miX6_lotAt lnX6_116 (gxk_0 g σ) rfl (s_X6_lotAt g σ x1 _ e2) (h_rm_of rfl) (Nat.le_of_ble_eq_true rfl) (c' := 0) (s' := 0) rfl rfl ?_
  rcases o_q hf with ⟨q5_1, hf⟩ | ⟨k5_1, q5_1, hf⟩
  · rw [q5_1, va_rf_none]
    refine j_astore_nN (pc' := 6) (ls' := [(3, _), (0, _), (1, _), (2, _)]) rfl rfl (Nat.le_of_ble_eq_true rfl) rfl ?_
    refine j_aload_nN (pc' := 7) rfl rfl rfl ?_
    refine j_ifnonnullN (pc' := 10) rfl rfl ?_
    refine j_iconst (v := (-1)) (pc' := 11) rfl rfl (by decide) ?_
    have hf := Option.some.inj hf; subst hf
    exact j_iret rfl rfl (Nat.le_of_ble_eq_true rfl) (Nat.le_of_ble_eq_true rfl) ⟨rfl, rfl⟩
  · rw [q5_1, va_rf_some]
    refine j_astore_n (pc' := 6) (ls' := [(3, _), (0, _), (1, _), (2, _)]) rfl rfl (Nat.le_of_ble_eq_true rfl) rfl ?_
    refine j_aload_n (pc' := 7) rfl rfl rfl ?_
    refine j_ifnonnull (tgt := 12) rfl rfl ?_
    refine j_iload_n (pc' := 13) rfl rfl rfl ?_
    refine j_aload_n (pc' := 14) rfl rfl rfl ?_
    obtain ⟨c14_2, hf⟩ := o_chk hf
    refine j_get (pc' := 17) (v := .int (σ.1 102 (k5_1 - 1000))) rfl rfl flX6_120 (gx_lot c14_2) (lotF_2 _ _) ?_
    refine j_aload_n (pc' := 18) rfl rfl rfl ?_
    refine j_get (pc' := 21) (v := .int (σ.1 102 (k5_1 - 1000))) rfl rfl flX6_120 (gx_lot c14_2) (lotF_2 _ _) ?_
    refine j_aload_n (pc' := 22) rfl rfl rfl ?_
    obtain ⟨a22_3, ea22_3, hf⟩ := o_bind hf
    refine j_get (pc' := 25) (v := .ref a22_3) rfl rfl flX6_123 (gx_lot c14_2) ((lotF_1 _ _).trans (by rw [ea22_3, va_rf_some])) ?_
    obtain ⟨c25_4, hf⟩ := o_chk hf
    refine j_get (pc' := 28) (v := .int (σ.1 121 (a22_3 - 2000))) rfl rfl flX6_127 (gx_sort c25_4) (sortF_1 _ _) ?_
    refine j_imul (pc' := 29) rfl rfl ?_
    obtain ⟨r29, e29, hf⟩ := o_bind hf
    refine j_s3 (pc' := 32) rfl rfl miX6_within lnX6_74 (s_X6_within (gx g σ) x2 (σ.1 102 (k5_1 - 1000)) ((σ.1 102 (k5_1 - 1000)) * (σ.1 121 (a22_3 - 2000))) _ e29) (h_rm_of rfl) (Nat.le_of_ble_eq_true rfl) (c' := 0) (s' := 0) rfl rfl ?_
    refine j_if_ne (tgt := 38) (pc' := 35) rfl rfl rfl (fun c32 => ?_) (fun c32 => ?_)
    · rw [if_neg c32] at hf
      refine j_aload_n (pc' := 39) rfl rfl rfl ?_
      obtain ⟨r39, e39, hf⟩ := o_bind hf
      refine j_v0 (pc' := 42) rfl rfl miX1_isSealedBag lnX6_130 (gx_lot c14_2) rfl (s_X1_isSealedBag g σ k5_1 _ e39) (h_rm_of rfl) (Nat.le_of_ble_eq_true rfl) (c' := 0) (s' := 0) rfl rfl ?_
      refine j_if_ne (tgt := 48) (pc' := 45) rfl rfl rfl (fun c42 => ?_) (fun c42 => ?_)
      · rw [if_neg c42] at hf
        refine j_iload_n (pc' := 49) rfl rfl rfl ?_
        refine j_aload_n (pc' := 50) rfl rfl rfl ?_
        refine j_get (pc' := 53) (v := .int (σ.1 102 (k5_1 - 1000))) rfl rfl flX6_120 (gx_lot c14_2) (lotF_2 _ _) ?_
        refine j_aload_n (pc' := 54) rfl rfl rfl ?_
        obtain ⟨a54_5, ea54_5, hf⟩ := o_bind hf
        refine j_get (pc' := 57) (v := .ref a54_5) rfl rfl flX6_123 (gx_lot c14_2) ((lotF_1 _ _).trans (by rw [ea54_5, va_rf_some])) ?_
        obtain ⟨c57_6, hf⟩ := o_chk hf
        refine j_get (pc' := 60) (v := .int (σ.1 120 (a54_5 - 2000))) rfl rfl flX6_134 (gx_sort c57_6) (sortF_0 _ _) ?_
        refine j_imul (pc' := 61) rfl rfl ?_
        refine j_icmp_ge (tgt := 68) (pc' := 64) rfl rfl rfl (fun c61 => ?_) (fun c61 => ?_)
        · rw [if_pos c61] at hf
          refine j_iconst (v := 0) (pc' := 69) rfl rfl (by decide) ?_
          refine j_istore (pc' := 71) (ls' := [(4, _), (3, _), (0, _), (1, _), (2, _)]) rfl rfl (Nat.le_of_ble_eq_true rfl) rfl ?_
          refine j_aload_n (pc' := 72) rfl rfl rfl ?_
          refine j_iload (pc' := 74) rfl rfl rfl ?_
          refine j_if_eq (tgt := 81) (pc' := 77) rfl rfl rfl (fun _ => ?_) (fun c74 => absurd c74 (by decide))
          refine j_iconst (v := 0) (pc' := 82) rfl rfl (by decide) ?_
          obtain ⟨σ82, e82, hf⟩ := o_let hf
          refine j_put (pc' := 85) rfl rfl flX6_137 (gx_lot c14_2) (lt_L c14_2) (Nat.le_of_ble_eq_true rfl) rfl rfl ?_
          rw [lots_4 c14_2]; rw [e82]
          refine j_aload_n (pc' := 86) rfl rfl rfl ?_
          refine j_iload_n (pc' := 87) rfl rfl rfl ?_
          obtain ⟨c87_7, hf⟩ := o_chk hf
          obtain ⟨σ87, e87, hf⟩ := o_let hf
          refine j_put (pc' := 90) rfl rfl flX6_140 (gx_lot c87_7) (lt_L c87_7) (Nat.le_of_ble_eq_true rfl) rfl rfl ?_
          rw [lots_5 c87_7]; rw [e87]
          refine j_iload (pc' := 92) rfl rfl rfl ?_
          obtain ⟨r92, e92, hf⟩ := o_bind hf
          refine j_s1 (pc' := 95) rfl rfl miX6_oneIf lnX6_143 (s_X6_oneIf (gx g σ87) 0 _ e92) (h_rm_of rfl) (Nat.le_of_ble_eq_true rfl) (c' := 0) (s' := 0) rfl rfl ?_
          have hf := Option.some.inj hf; subst hf
          exact j_iret rfl rfl (Nat.le_of_ble_eq_true rfl) (Nat.le_of_ble_eq_true rfl) ⟨rfl, rfl⟩
        · rw [if_neg c61] at hf
          refine j_iconst (v := 1) (pc' := 65) rfl rfl (by decide) ?_
          refine j_goto (tgt := 69) rfl rfl ?_
          refine j_istore (pc' := 71) (ls' := [(4, _), (3, _), (0, _), (1, _), (2, _)]) rfl rfl (Nat.le_of_ble_eq_true rfl) rfl ?_
          refine j_aload_n (pc' := 72) rfl rfl rfl ?_
          refine j_iload (pc' := 74) rfl rfl rfl ?_
          refine j_if_eq (tgt := 81) (pc' := 77) rfl rfl rfl (fun c74 => absurd c74 (by decide)) (fun _ => ?_)
          refine j_iconst (v := 1) (pc' := 78) rfl rfl (by decide) ?_
          refine j_goto (tgt := 82) rfl rfl ?_
          obtain ⟨σ82, e82, hf⟩ := o_let hf
          refine j_put (pc' := 85) rfl rfl flX6_137 (gx_lot c14_2) (lt_L c14_2) (Nat.le_of_ble_eq_true rfl) rfl rfl ?_
          rw [lots_4 c14_2]; rw [e82]
          refine j_aload_n (pc' := 86) rfl rfl rfl ?_
          refine j_iload_n (pc' := 87) rfl rfl rfl ?_
          obtain ⟨c87_8, hf⟩ := o_chk hf
          obtain ⟨σ87, e87, hf⟩ := o_let hf
          refine j_put (pc' := 90) rfl rfl flX6_140 (gx_lot c87_8) (lt_L c87_8) (Nat.le_of_ble_eq_true rfl) rfl rfl ?_
          rw [lots_5 c87_8]; rw [e87]
          refine j_iload (pc' := 92) rfl rfl rfl ?_
          obtain ⟨r92, e92, hf⟩ := o_bind hf
          refine j_s1 (pc' := 95) rfl rfl miX6_oneIf lnX6_143 (s_X6_oneIf (gx g σ87) 1 _ e92) (h_rm_of rfl) (Nat.le_of_ble_eq_true rfl) (c' := 0) (s' := 0) rfl rfl ?_
          have hf := Option.some.inj hf; subst hf
          exact j_iret rfl rfl (Nat.le_of_ble_eq_true rfl) (Nat.le_of_ble_eq_true rfl) ⟨rfl, rfl⟩
      · rw [if_pos c42] at hf
        refine j_bipush (v := (-3)) (pc' := 47) rfl rfl (by decide) ?_
        have hf := Option.some.inj hf; subst hf
        exact j_iret rfl rfl (Nat.le_of_ble_eq_true rfl) (Nat.le_of_ble_eq_true rfl) ⟨rfl, rfl⟩
    · rw [if_pos c32] at hf
      refine j_bipush (v := (-2)) (pc' := 37) rfl rfl (by decide) ?_
      have hf := Option.some.inj hf; subst hf
      exact j_iret rfl rfl (Nat.le_of_ble_eq_true rfl) (Nat.le_of_ble_eq_true rfl) ⟨rfl, rfl⟩
def rX6_about : Room := { frames := 2, cells := 0, slots := 0, locals := 43 }
def f_X6_about (σ : xS) (x1 : Int32) (x2 : Int32) : Option Int32 := (f_X6_lotAt σ x1).bind fun r2 => oq r2 (some (-1)) (fun k5_1 => if x2 = 0 then bif isL σ k5_1 then some (σ.1 104 (k5_1 - 1000)) else none else if x2 = 1 then bif isL σ k5_1 then some (σ.1 100 (k5_1 - 1000)) else none else if x2 = 2 then bif isL σ k5_1 then some (σ.1 102 (k5_1 - 1000)) else none else if x2 = 3 then bif isL σ k5_1 then some (σ.1 105 (k5_1 - 1000)) else none else if x2 = 4 then bif isL σ k5_1 then some (σ.1 103 (k5_1 - 1000)) else none else if x2 = 5 then bif isL σ k5_1 then some (σ.1 106 (k5_1 - 1000)) else none else if x2 = 6 then bif isL σ k5_1 then some (σ.1 107 (k5_1 - 1000)) else none else if x2 = 7 then bif isL σ k5_1 then (f_X1_isOnRoad σ k5_1 (σ.1 16 0)).bind fun r112 => if r112 = 0 then some (-1) else some (σ.1 108 (k5_1 - 1000)) else none else if x2 = 8 then bif isL σ k5_1 then (f_X6_oneIf (σ.1 109 (k5_1 - 1000))).bind fun r131 => some r131 else none else if x2 = 9 then bif isL σ k5_1 then (f_X6_oneIf (σ.1 110 (k5_1 - 1000))).bind fun r139 => some r139 else none else if x2 = 10 then bif isL σ k5_1 then (f_X6_oneIf (σ.1 111 (k5_1 - 1000))).bind fun r147 => some r147 else none else some (-1))
set_option maxHeartbeats 4000000 in
set_option maxRecDepth 100000 in
theorem s_X6_about (g : hH) (σ : xS) (x1 : Int32) (x2 : Int32) (r : Int32) (hf : f_X6_about σ x1 x2 = some r) : SpD mX6_about rX6_about [.ref 0, .int x1, .int x2] (gx g σ) (some (.int r)) (gx g σ) := by
  refine sp_of miX6_about (Nat.le_of_ble_eq_true rfl) ?_
  show J _ _ _ 0 0 _ 0 [(0, .ref 0), (1, .int x1), (2, .int x2)] []
  unfold f_X6_about at hf
  refine j_aload_n (pc' := 1) rfl rfl rfl ?_
  refine j_iload_n (pc' := 2) rfl rfl rfl ?_
  obtain ⟨r2, e2, hf⟩ := o_bind hf
  refine j_v1 (pc' := 5) rfl rfl miX6_lotAt lnX6_116 (gxk_0 g σ) rfl (s_X6_lotAt g σ x1 _ e2) (h_rm_of rfl) (Nat.le_of_ble_eq_true rfl) (c' := 0) (s' := 0) rfl rfl ?_
  rcases o_q hf with ⟨q5_1, hf⟩ | ⟨k5_1, q5_1, hf⟩
  · rw [q5_1, va_rf_none]
    refine j_astore_nN (pc' := 6) (ls' := [(3, _), (0, _), (1, _), (2, _)]) rfl rfl (Nat.le_of_ble_eq_true rfl) rfl ?_
    refine j_aload_nN (pc' := 7) rfl rfl rfl ?_
    refine j_ifnonnullN (pc' := 10) rfl rfl ?_
    refine j_iconst (v := (-1)) (pc' := 11) rfl rfl (by decide) ?_
    have hf := Option.some.inj hf; subst hf
    exact j_iret rfl rfl (Nat.le_of_ble_eq_true rfl) (Nat.le_of_ble_eq_true rfl) ⟨rfl, rfl⟩
  · rw [q5_1, va_rf_some]
    refine j_astore_n (pc' := 6) (ls' := [(3, _), (0, _), (1, _), (2, _)]) rfl rfl (Nat.le_of_ble_eq_true rfl) rfl ?_
    refine j_aload_n (pc' := 7) rfl rfl rfl ?_
    refine j_ifnonnull (tgt := 12) rfl rfl ?_
    refine j_iload_n (pc' := 13) rfl rfl rfl ?_
    by_cases w13_0 : x2 = 0
    · rw [if_pos w13_0] at hf
      rw [w13_0]
      refine j_tableIn (tgt := 72) rfl (by decide) (by decide) rfl rfl ?_
      refine j_aload_n (pc' := 73) rfl rfl rfl ?_
      obtain ⟨c73_2, hf⟩ := o_chk hf
      refine j_get (pc' := 76) (v := .int (σ.1 104 (k5_1 - 1000))) rfl rfl flX6_137 (gx_lot c73_2) (lotF_4 _ _) ?_
      have hf := Option.some.inj hf; subst hf
      exact j_iret rfl rfl (Nat.le_of_ble_eq_true rfl) (Nat.le_of_ble_eq_true rfl) ⟨rfl, rfl⟩
    rw [if_neg w13_0] at hf
    by_cases w13_1 : x2 = 1
    · rw [if_pos w13_1] at hf
      rw [w13_1]
      refine j_tableIn (tgt := 77) rfl (by decide) (by decide) rfl rfl ?_
      refine j_aload_n (pc' := 78) rfl rfl rfl ?_
      obtain ⟨c78_3, hf⟩ := o_chk hf
      refine j_get (pc' := 81) (v := .int (σ.1 100 (k5_1 - 1000))) rfl rfl flX6_147 (gx_lot c78_3) (lotF_0 _ _) ?_
      have hf := Option.some.inj hf; subst hf
      exact j_iret rfl rfl (Nat.le_of_ble_eq_true rfl) (Nat.le_of_ble_eq_true rfl) ⟨rfl, rfl⟩
    rw [if_neg w13_1] at hf
    by_cases w13_2 : x2 = 2
    · rw [if_pos w13_2] at hf
      rw [w13_2]
      refine j_tableIn (tgt := 82) rfl (by decide) (by decide) rfl rfl ?_
      refine j_aload_n (pc' := 83) rfl rfl rfl ?_
      obtain ⟨c83_4, hf⟩ := o_chk hf
      refine j_get (pc' := 86) (v := .int (σ.1 102 (k5_1 - 1000))) rfl rfl flX6_120 (gx_lot c83_4) (lotF_2 _ _) ?_
      have hf := Option.some.inj hf; subst hf
      exact j_iret rfl rfl (Nat.le_of_ble_eq_true rfl) (Nat.le_of_ble_eq_true rfl) ⟨rfl, rfl⟩
    rw [if_neg w13_2] at hf
    by_cases w13_3 : x2 = 3
    · rw [if_pos w13_3] at hf
      rw [w13_3]
      refine j_tableIn (tgt := 87) rfl (by decide) (by decide) rfl rfl ?_
      refine j_aload_n (pc' := 88) rfl rfl rfl ?_
      obtain ⟨c88_5, hf⟩ := o_chk hf
      refine j_get (pc' := 91) (v := .int (σ.1 105 (k5_1 - 1000))) rfl rfl flX6_140 (gx_lot c88_5) (lotF_5 _ _) ?_
      have hf := Option.some.inj hf; subst hf
      exact j_iret rfl rfl (Nat.le_of_ble_eq_true rfl) (Nat.le_of_ble_eq_true rfl) ⟨rfl, rfl⟩
    rw [if_neg w13_3] at hf
    by_cases w13_4 : x2 = 4
    · rw [if_pos w13_4] at hf
      rw [w13_4]
      refine j_tableIn (tgt := 92) rfl (by decide) (by decide) rfl rfl ?_
      refine j_aload_n (pc' := 93) rfl rfl rfl ?_
      obtain ⟨c93_6, hf⟩ := o_chk hf
      refine j_get (pc' := 96) (v := .int (σ.1 103 (k5_1 - 1000))) rfl rfl flX6_150 (gx_lot c93_6) (lotF_3 _ _) ?_
      have hf := Option.some.inj hf; subst hf
      exact j_iret rfl rfl (Nat.le_of_ble_eq_true rfl) (Nat.le_of_ble_eq_true rfl) ⟨rfl, rfl⟩
    rw [if_neg w13_4] at hf
    by_cases w13_5 : x2 = 5
    · rw [if_pos w13_5] at hf
      rw [w13_5]
      refine j_tableIn (tgt := 97) rfl (by decide) (by decide) rfl rfl ?_
      refine j_aload_n (pc' := 98) rfl rfl rfl ?_
      obtain ⟨c98_7, hf⟩ := o_chk hf
      refine j_get (pc' := 101) (v := .int (σ.1 106 (k5_1 - 1000))) rfl rfl flX6_109 (gx_lot c98_7) (lotF_6 _ _) ?_
      have hf := Option.some.inj hf; subst hf
      exact j_iret rfl rfl (Nat.le_of_ble_eq_true rfl) (Nat.le_of_ble_eq_true rfl) ⟨rfl, rfl⟩
    rw [if_neg w13_5] at hf
    by_cases w13_6 : x2 = 6
    · rw [if_pos w13_6] at hf
      rw [w13_6]
      refine j_tableIn (tgt := 102) rfl (by decide) (by decide) rfl rfl ?_
      refine j_aload_n (pc' := 103) rfl rfl rfl ?_
      obtain ⟨c103_8, hf⟩ := o_chk hf
      refine j_get (pc' := 106) (v := .int (σ.1 107 (k5_1 - 1000))) rfl rfl flX6_151 (gx_lot c103_8) (lotF_7 _ _) ?_
      have hf := Option.some.inj hf; subst hf
      exact j_iret rfl rfl (Nat.le_of_ble_eq_true rfl) (Nat.le_of_ble_eq_true rfl) ⟨rfl, rfl⟩
    rw [if_neg w13_6] at hf
    by_cases w13_7 : x2 = 7
    · rw [if_pos w13_7] at hf
      rw [w13_7]
      refine j_tableIn (tgt := 107) rfl (by decide) (by decide) rfl rfl ?_
      refine j_aload_n (pc' := 108) rfl rfl rfl ?_
      refine j_aload_n (pc' := 109) rfl rfl rfl ?_
      refine j_get (pc' := 112) rfl rfl flX6_154 (gxk_0 g σ) (nsF_16 σ) ?_
      obtain ⟨c112_9, hf⟩ := o_chk hf
      obtain ⟨r112, e112, hf⟩ := o_bind hf
      refine j_v1 (pc' := 115) rfl rfl miX1_isOnRoad lnX6_157 (gx_lot c112_9) rfl (s_X1_isOnRoad g σ k5_1 (σ.1 16 0) _ e112) (h_rm_of rfl) (Nat.le_of_ble_eq_true rfl) (c' := 0) (s' := 0) rfl rfl ?_
      refine j_if_eq (tgt := 125) (pc' := 118) rfl rfl rfl (fun c115 => ?_) (fun c115 => ?_)
      · rw [if_pos c115] at hf
        refine j_iconst (v := (-1)) (pc' := 126) rfl rfl (by decide) ?_
        have hf := Option.some.inj hf; subst hf
        exact j_iret rfl rfl (Nat.le_of_ble_eq_true rfl) (Nat.le_of_ble_eq_true rfl) ⟨rfl, rfl⟩
      · rw [if_neg c115] at hf
        refine j_aload_n (pc' := 119) rfl rfl rfl ?_
        refine j_get (pc' := 122) (v := .int (σ.1 108 (k5_1 - 1000))) rfl rfl flX6_160 (gx_lot c112_9) (lotF_8 _ _) ?_
        refine j_goto (tgt := 126) rfl rfl ?_
        have hf := Option.some.inj hf; subst hf
        exact j_iret rfl rfl (Nat.le_of_ble_eq_true rfl) (Nat.le_of_ble_eq_true rfl) ⟨rfl, rfl⟩
    rw [if_neg w13_7] at hf
    by_cases w13_8 : x2 = 8
    · rw [if_pos w13_8] at hf
      rw [w13_8]
      refine j_tableIn (tgt := 127) rfl (by decide) (by decide) rfl rfl ?_
      refine j_aload_n (pc' := 128) rfl rfl rfl ?_
      obtain ⟨c128_10, hf⟩ := o_chk hf
      refine j_get (pc' := 131) (v := .int (σ.1 109 (k5_1 - 1000))) rfl rfl flX6_163 (gx_lot c128_10) (lotF_9 _ _) ?_
      obtain ⟨r131, e131, hf⟩ := o_bind hf
      refine j_s1 (pc' := 134) rfl rfl miX6_oneIf lnX6_143 (s_X6_oneIf (gx g σ) (σ.1 109 (k5_1 - 1000)) _ e131) (h_rm_of rfl) (Nat.le_of_ble_eq_true rfl) (c' := 0) (s' := 0) rfl rfl ?_
      have hf := Option.some.inj hf; subst hf
      exact j_iret rfl rfl (Nat.le_of_ble_eq_true rfl) (Nat.le_of_ble_eq_true rfl) ⟨rfl, rfl⟩
    rw [if_neg w13_8] at hf
    by_cases w13_9 : x2 = 9
    · rw [if_pos w13_9] at hf
      rw [w13_9]
      refine j_tableIn (tgt := 135) rfl (by decide) (by decide) rfl rfl ?_
      refine j_aload_n (pc' := 136) rfl rfl rfl ?_
      obtain ⟨c136_11, hf⟩ := o_chk hf
      refine j_get (pc' := 139) (v := .int (σ.1 110 (k5_1 - 1000))) rfl rfl flX6_167 (gx_lot c136_11) (lotF_10 _ _) ?_
      obtain ⟨r139, e139, hf⟩ := o_bind hf
      refine j_s1 (pc' := 142) rfl rfl miX6_oneIf lnX6_143 (s_X6_oneIf (gx g σ) (σ.1 110 (k5_1 - 1000)) _ e139) (h_rm_of rfl) (Nat.le_of_ble_eq_true rfl) (c' := 0) (s' := 0) rfl rfl ?_
      have hf := Option.some.inj hf; subst hf
      exact j_iret rfl rfl (Nat.le_of_ble_eq_true rfl) (Nat.le_of_ble_eq_true rfl) ⟨rfl, rfl⟩
    rw [if_neg w13_9] at hf
    by_cases w13_10 : x2 = 10
    · rw [if_pos w13_10] at hf
      rw [w13_10]
      refine j_tableIn (tgt := 143) rfl (by decide) (by decide) rfl rfl ?_
      refine j_aload_n (pc' := 144) rfl rfl rfl ?_
      obtain ⟨c144_12, hf⟩ := o_chk hf
      refine j_get (pc' := 147) (v := .int (σ.1 111 (k5_1 - 1000))) rfl rfl flX6_170 (gx_lot c144_12) (lotF_11 _ _) ?_
      obtain ⟨r147, e147, hf⟩ := o_bind hf
      refine j_s1 (pc' := 150) rfl rfl miX6_oneIf lnX6_143 (s_X6_oneIf (gx g σ) (σ.1 111 (k5_1 - 1000)) _ e147) (h_rm_of rfl) (Nat.le_of_ble_eq_true rfl) (c' := 0) (s' := 0) rfl rfl ?_
      have hf := Option.some.inj hf; subst hf
      exact j_iret rfl rfl (Nat.le_of_ble_eq_true rfl) (Nat.le_of_ble_eq_true rfl) ⟨rfl, rfl⟩
    rw [if_neg w13_10] at hf
    refine j_tableOut (tgt := 151) rfl (sw_out (n := 10) (by decide) (fun v hv => by
      have : v = 0 ∨ v = 1 ∨ v = 2 ∨ v = 3 ∨ v = 4 ∨ v = 5 ∨ v = 6 ∨ v = 7 ∨ v = 8 ∨ v = 9 ∨ v = 10 := by omega
      rcases this with rfl | rfl | rfl | rfl | rfl | rfl | rfl | rfl | rfl | rfl | rfl
      · exact w13_0
      · exact w13_1
      · exact w13_2
      · exact w13_3
      · exact w13_4
      · exact w13_5
      · exact w13_6
      · exact w13_7
      · exact w13_8
      · exact w13_9
      · exact w13_10)) rfl ?_
    refine j_iconst (v := (-1)) (pc' := 152) rfl rfl (by decide) ?_
    have hf := Option.some.inj hf; subst hf
    exact j_iret rfl rfl (Nat.le_of_ble_eq_true rfl) (Nat.le_of_ble_eq_true rfl) ⟨rfl, rfl⟩
def rX6_silver : Room := { frames := 2, cells := 0, slots := 0, locals := 43 }
def f_X6_silver (σ : xS) (x1 : Int32) : Option Int64 := (f_X6_lotAt σ x1).bind fun r2 => oq r2 (some (-1)) (fun k5_1 => bif isL σ k5_1 then (f_X1_silverHeld σ k5_1).bind fun r17 => some r17 else none)
set_option maxHeartbeats 4000000 in
set_option maxRecDepth 100000 in
theorem s_X6_silver (g : hH) (σ : xS) (x1 : Int32) (r : Int64) (hf : f_X6_silver σ x1 = some r) : SpD mX6_silver rX6_silver [.ref 0, .int x1] (gx g σ) (some (.long r)) (gx g σ) := by
  refine sp_of miX6_silver (Nat.le_of_ble_eq_true rfl) ?_
  show J _ _ _ 0 0 _ 0 [(0, .ref 0), (1, .int x1)] []
  unfold f_X6_silver at hf
  refine j_aload_n (pc' := 1) rfl rfl rfl ?_
  refine j_iload_n (pc' := 2) rfl rfl rfl ?_
  obtain ⟨r2, e2, hf⟩ := o_bind hf
  refine j_v1 (pc' := 5) rfl rfl miX6_lotAt lnX6_116 (gxk_0 g σ) rfl (s_X6_lotAt g σ x1 _ e2) (h_rm_of rfl) (Nat.le_of_ble_eq_true rfl) (c' := 0) (s' := 0) rfl rfl ?_
  rcases o_q hf with ⟨q5_1, hf⟩ | ⟨k5_1, q5_1, hf⟩
  · rw [q5_1, va_rf_none]
    refine j_astore_nN (pc' := 6) (ls' := [(2, _), (0, _), (1, _)]) rfl rfl (Nat.le_of_ble_eq_true rfl) rfl ?_
    refine j_aload_nN (pc' := 7) rfl rfl rfl ?_
    refine j_ifnonnullN (pc' := 10) rfl rfl ?_
    refine j_ldc2 (pc' := 13) rfl rfl kcX6_173 ?_
    refine j_goto (tgt := 20) rfl rfl ?_
    have hf := Option.some.inj hf; subst hf
    exact j_lret rfl rfl (Nat.le_of_ble_eq_true rfl) (Nat.le_of_ble_eq_true rfl) ⟨rfl, rfl⟩
  · rw [q5_1, va_rf_some]
    refine j_astore_n (pc' := 6) (ls' := [(2, _), (0, _), (1, _)]) rfl rfl (Nat.le_of_ble_eq_true rfl) rfl ?_
    refine j_aload_n (pc' := 7) rfl rfl rfl ?_
    refine j_ifnonnull (tgt := 16) rfl rfl ?_
    refine j_aload_n (pc' := 17) rfl rfl rfl ?_
    obtain ⟨c17_2, hf⟩ := o_chk hf
    obtain ⟨r17, e17, hf⟩ := o_bind hf
    refine j_v0 (pc' := 20) rfl rfl miX1_silverHeld lnX6_175 (gx_lot c17_2) rfl (s_X1_silverHeld g σ k5_1 _ e17) (h_rm_of rfl) (Nat.le_of_ble_eq_true rfl) (c' := 0) (s' := 0) rfl rfl ?_
    have hf := Option.some.inj hf; subst hf
    exact j_lret rfl rfl (Nat.le_of_ble_eq_true rfl) (Nat.le_of_ble_eq_true rfl) ⟨rfl, rfl⟩
def rX6_today : Room := { frames := 1, cells := 0, slots := 0, locals := 22 }
def f_X6_today (σ : xS) (x1 : Int32) : Option (Int32 × xS) := (f_X6_within x1 (σ.1 16 0) 999).bind fun r8 => if r8 = 0 then some ((-2), σ) else letm (xi σ 16 (fun _ => x1)) fun σ24 => some ((σ.1 16 0), σ24)
set_option maxHeartbeats 4000000 in
set_option maxRecDepth 100000 in
theorem s_X6_today (g : hH) (σ : xS) (x1 : Int32) (r : (Int32 × xS)) (hf : f_X6_today σ x1 = some r) : SpD mX6_today rX6_today [.ref 0, .int x1] (gx g σ) (some (.int r.1)) (gx g r.2) := by
  refine sp_of miX6_today (Nat.le_of_ble_eq_true rfl) ?_
  show J _ _ _ 0 0 _ 0 [(0, .ref 0), (1, .int x1)] []
  unfold f_X6_today at hf
  refine j_iload_n (pc' := 1) rfl rfl rfl ?_
  refine j_aload_n (pc' := 2) rfl rfl rfl ?_
  refine j_get (pc' := 5) rfl rfl flX6_154 (gxk_0 g σ) (nsF_16 σ) ?_
  refine j_sipush (v := 999) (pc' := 8) rfl rfl (by decide) ?_
  obtain ⟨r8, e8, hf⟩ := o_bind hf
  refine j_s3 (pc' := 11) rfl rfl miX6_within lnX6_74 (s_X6_within (gx g σ) x1 (σ.1 16 0) 999 _ e8) (h_rm_of rfl) (Nat.le_of_ble_eq_true rfl) (c' := 0) (s' := 0) rfl rfl ?_
  refine j_if_ne (tgt := 17) (pc' := 14) rfl rfl rfl (fun c11 => ?_) (fun c11 => ?_)
  · rw [if_neg c11] at hf
    refine j_aload_n (pc' := 18) rfl rfl rfl ?_
    refine j_get (pc' := 21) rfl rfl flX6_154 (gxk_0 g σ) (nsF_16 σ) ?_
    refine j_istore_n (pc' := 22) (ls' := [(2, _), (0, _), (1, _)]) rfl rfl (Nat.le_of_ble_eq_true rfl) rfl ?_
    refine j_aload_n (pc' := 23) rfl rfl rfl ?_
    refine j_iload_n (pc' := 24) rfl rfl rfl ?_
    obtain ⟨σ24, e24, hf⟩ := o_let hf
    refine j_put (pc' := 27) rfl rfl flX6_154 (gxk_0 g σ) (by decide) (Nat.le_of_ble_eq_true rfl) rfl rfl ?_
    rw [nss_16]; rw [e24]
    refine j_iload_n (pc' := 28) rfl rfl rfl ?_
    have hf := Option.some.inj hf; subst hf
    exact j_iret rfl rfl (Nat.le_of_ble_eq_true rfl) (Nat.le_of_ble_eq_true rfl) ⟨rfl, rfl⟩
  · rw [if_pos c11] at hf
    refine j_bipush (v := (-2)) (pc' := 16) rfl rfl (by decide) ?_
    have hf := Option.some.inj hf; subst hf
    exact j_iret rfl rfl (Nat.le_of_ble_eq_true rfl) (Nat.le_of_ble_eq_true rfl) ⟨rfl, rfl⟩
def rX5_append : Room := { frames := 0, cells := 0, slots := 0, locals := 0 }
def f_X5_append_L19 : Nat → xS → Int64 → Int32 → Option (xS)
  | 0, _, _, _ => none
  | n + 1, σ, x1, x4 => if x4 < 0 then some (σ) else letm (xi σ 20 (fun _ => ((σ.1 20 0) + 1))) fun σ36 => bif vin (σ.1 20 0) 160 then letm (xi σ36 24 (va_up (σ36.1 24) ((σ.1 20 0)).toNatClampNeg (vp_nar .byte ((((x1 >>> ((8 * x4).toInt64 &&& 63))).toInt32).toInt8.toInt32)))) fun σ48 => f_X5_append_L19 n σ48 x1 (x4 + (-1)) else none
set_option maxHeartbeats 4000000 in
set_option maxRecDepth 100000 in
theorem s_X5_append_L19 {Q : Option Value → hH → Prop} (g : hH) : ∀ (n : Nat) (σ : xS) (x1 : Int64) (x4 : Int32) (r : xS), f_X5_append_L19 n σ x1 x4 = some r → (J mX5_append rX5_append Q 0 0 (gx g r) 55 [] []) → J mX5_append rX5_append Q 0 0 (gx g σ) 19 [(0, .ref 11), (1, .long x1), (4, .int x4)] [] := by
  intro n
  induction n with
  | zero =>
    intro σ x1 x4 r hf
    cases hf
  | succ n ih =>
    intro σ x1 x4 r hf k0
    rw [f_X5_append_L19] at hf
    refine j_iload (pc' := 21) rfl rfl rfl ?_
    refine j_if_lt (tgt := 55) (pc' := 24) rfl rfl rfl (fun c21 => ?_) (fun c21 => ?_)
    · rw [if_pos c21] at hf
      have hf := Option.some.inj hf; subst hf
      exact j_sub (ls' := []) trivial (k0)
    · rw [if_neg c21] at hf
      refine j_aload_n (pc' := 25) rfl rfl rfl ?_
      refine j_get (pc' := 28) rfl rfl flX5_18 (gxk_11 g σ) (tpF_3 σ) ?_
      refine j_aload_n (pc' := 29) rfl rfl rfl ?_
      refine j_dup (pc' := 30) rfl rfl rfl ?_
      refine j_get (pc' := 33) rfl rfl flX5_22 (gxk_11 g σ) (tpF_2 σ) ?_
      refine j_dup_x1 (pc' := 34) rfl rfl rfl rfl ?_
      refine j_iconst (v := 1) (pc' := 35) rfl rfl (by decide) ?_
      refine j_iadd (pc' := 36) rfl rfl ?_
      obtain ⟨σ36, e36, hf⟩ := o_let hf
      refine j_put (pc' := 39) rfl rfl flX5_22 (gxk_11 g σ) (by decide) (Nat.le_of_ble_eq_true rfl) rfl rfl ?_
      rw [tps_2]; rw [e36]
      refine j_lload_n (pc' := 40) rfl rfl rfl ?_
      refine j_bipush (v := 8) (pc' := 42) rfl rfl (by decide) ?_
      refine j_iload (pc' := 44) rfl rfl rfl ?_
      refine j_imul (pc' := 45) rfl rfl ?_
      refine j_lshr (pc' := 46) rfl rfl ?_
      refine j_l2i (pc' := 47) rfl rfl ?_
      refine j_i2b (pc' := 48) rfl rfl ?_
      obtain ⟨c48, hf⟩ := o_chk hf
      obtain ⟨σ48, e48, hf⟩ := o_let hf
      refine j_bast (pc' := 49) rfl rfl (gxk_14 g σ36) (by decide) (vin_ok c48) ?_
      rw [gxs_14]; rw [e48]
      refine j_iinc (pc' := 52) (d := -1) (ls' := [(4, _), (0, _), (1, _)]) rfl rfl rfl (by decide) (Nat.le_of_ble_eq_true rfl) rfl ?_
      refine j_goto (tgt := 19) rfl rfl ?_
      refine j_sub (ls' := [(0, .ref 11), (1, .long _), (4, .int _)]) ⟨rfl, rfl, rfl, trivial⟩ ?_
      exact ih _ _ _ _ hf k0
def f_X5_append (σ : xS) (x1 : Int64) (x3 : Int32) : Option (Int32 × xS) := if ((σ.1 20 0) + x3) ≤ 160 then (f_X5_append_L19 4000 σ x1 (x3 - 1)).bind fun r19 => some (1, r19) else some (0, σ)
set_option maxHeartbeats 4000000 in
set_option maxRecDepth 100000 in
theorem s_X5_append (g : hH) (σ : xS) (x1 : Int64) (x3 : Int32) (r : (Int32 × xS)) (hf : f_X5_append σ x1 x3 = some r) : SpD mX5_append rX5_append [.ref 11, .long x1, .int x3] (gx g σ) (some (.int r.1)) (gx g r.2) := by
  refine sp_of miX5_append (Nat.le_of_ble_eq_true rfl) ?_
  show J _ _ _ 0 0 _ 0 [(0, .ref 11), (1, .long x1), (3, .int x3)] []
  unfold f_X5_append at hf
  refine j_aload_n (pc' := 1) rfl rfl rfl ?_
  refine j_get (pc' := 4) rfl rfl flX5_22 (gxk_11 g σ) (tpF_2 σ) ?_
  refine j_iload_n (pc' := 5) rfl rfl rfl ?_
  refine j_iadd (pc' := 6) rfl rfl ?_
  refine j_sipush (v := 160) (pc' := 9) rfl rfl (by decide) ?_
  refine j_icmp_le (tgt := 14) (pc' := 12) rfl rfl rfl (fun c9 => ?_) (fun c9 => ?_)
  · rw [if_pos c9] at hf
    refine j_iload_n (pc' := 15) rfl rfl rfl ?_
    refine j_iconst (v := 1) (pc' := 16) rfl rfl (by decide) ?_
    refine j_isub (pc' := 17) rfl rfl ?_
    refine j_istore (pc' := 19) (ls' := [(4, _), (0, _), (1, _), (3, _)]) rfl rfl (Nat.le_of_ble_eq_true rfl) rfl ?_
    obtain ⟨r19, e19, hf⟩ := o_bind hf
    refine j_sub (ls' := [(0, .ref 11), (1, .long _), (4, .int _)]) ⟨rfl, rfl, rfl, trivial⟩ ?_
    refine s_X5_append_L19 g _ _ _ _ _ e19 ?_
    refine j_iconst (v := 1) (pc' := 56) rfl rfl (by decide) ?_
    have hf := Option.some.inj hf; subst hf
    exact j_zret rfl rfl (by decide) (Nat.le_of_ble_eq_true rfl) (Nat.le_of_ble_eq_true rfl) ⟨rfl, rfl⟩
  · rw [if_neg c9] at hf
    refine j_iconst (v := 0) (pc' := 13) rfl rfl (by decide) ?_
    have hf := Option.some.inj hf; subst hf
    exact j_zret rfl rfl (by decide) (Nat.le_of_ble_eq_true rfl) (Nat.le_of_ble_eq_true rfl) ⟨rfl, rfl⟩
def rX5_isHere : Room := { frames := 0, cells := 0, slots := 0, locals := 0 }
def f_X5_isHere (σ : xS) (x1 : Int32) : Option Int32 := if (σ.1 20 0) ≤ (σ.1 21 0) then some 0 else bif vin (σ.1 21 0) 160 then if (σ.1 24 ((σ.1 21 0)).toNatClampNeg) = x1 then some 1 else some 0 else none
set_option maxHeartbeats 4000000 in
set_option maxRecDepth 100000 in
theorem s_X5_isHere (g : hH) (σ : xS) (x1 : Int32) (r : Int32) (hf : f_X5_isHere σ x1 = some r) : SpD mX5_isHere rX5_isHere [.ref 11, .int x1] (gx g σ) (some (.int r)) (gx g σ) := by
  refine sp_of miX5_isHere (Nat.le_of_ble_eq_true rfl) ?_
  show J _ _ _ 0 0 _ 0 [(0, .ref 11), (1, .int x1)] []
  unfold f_X5_isHere at hf
  refine j_aload_n (pc' := 1) rfl rfl rfl ?_
  refine j_get (pc' := 4) rfl rfl flX5_26 (gxk_11 g σ) (tpF_4 σ) ?_
  refine j_aload_n (pc' := 5) rfl rfl rfl ?_
  refine j_get (pc' := 8) rfl rfl flX5_22 (gxk_11 g σ) (tpF_2 σ) ?_
  refine j_icmp_ge (tgt := 28) (pc' := 11) rfl rfl rfl (fun c8 => ?_) (fun c8 => ?_)
  · rw [if_pos c8] at hf
    refine j_iconst (v := 0) (pc' := 29) rfl rfl (by decide) ?_
    have hf := Option.some.inj hf; subst hf
    exact j_zret rfl rfl (by decide) (Nat.le_of_ble_eq_true rfl) (Nat.le_of_ble_eq_true rfl) ⟨rfl, rfl⟩
  · rw [if_neg c8] at hf
    refine j_aload_n (pc' := 12) rfl rfl rfl ?_
    refine j_get (pc' := 15) rfl rfl flX5_18 (gxk_11 g σ) (tpF_3 σ) ?_
    refine j_aload_n (pc' := 16) rfl rfl rfl ?_
    refine j_get (pc' := 19) rfl rfl flX5_26 (gxk_11 g σ) (tpF_4 σ) ?_
    obtain ⟨c19, hf⟩ := o_chk hf
    refine j_bald (pc' := 20) rfl rfl (gxk_14 g σ) (vin_ok c19) ?_
    refine j_iload_n (pc' := 21) rfl rfl rfl ?_
    refine j_icmp_ne (tgt := 28) (pc' := 24) rfl rfl rfl (fun c21 => ?_) (fun c21 => ?_)
    · rw [if_neg c21] at hf
      refine j_iconst (v := 0) (pc' := 29) rfl rfl (by decide) ?_
      have hf := Option.some.inj hf; subst hf
      exact j_zret rfl rfl (by decide) (Nat.le_of_ble_eq_true rfl) (Nat.le_of_ble_eq_true rfl) ⟨rfl, rfl⟩
    · rw [if_pos c21] at hf
      refine j_iconst (v := 1) (pc' := 25) rfl rfl (by decide) ?_
      refine j_goto (tgt := 29) rfl rfl ?_
      have hf := Option.some.inj hf; subst hf
      exact j_zret rfl rfl (by decide) (Nat.le_of_ble_eq_true rfl) (Nat.le_of_ble_eq_true rfl) ⟨rfl, rfl⟩
def rX5_digitHere : Room := { frames := 0, cells := 0, slots := 0, locals := 0 }
def f_X5_digitHere (σ : xS) : Option Int32 := if (σ.1 20 0) ≤ (σ.1 21 0) then some (-1) else bif vin (σ.1 21 0) 160 then if (σ.1 24 ((σ.1 21 0)).toNatClampNeg) < 48 then some (-1) else bif vin (σ.1 21 0) 160 then if 57 < (σ.1 24 ((σ.1 21 0)).toNatClampNeg) then some (-1) else bif vin (σ.1 21 0) 160 then some ((σ.1 24 ((σ.1 21 0)).toNatClampNeg) - 48) else none else none else none
set_option maxHeartbeats 4000000 in
set_option maxRecDepth 100000 in
theorem s_X5_digitHere (g : hH) (σ : xS) (r : Int32) (hf : f_X5_digitHere σ = some r) : SpD mX5_digitHere rX5_digitHere [.ref 11] (gx g σ) (some (.int r)) (gx g σ) := by
  refine sp_of miX5_digitHere (Nat.le_of_ble_eq_true rfl) ?_
  show J _ _ _ 0 0 _ 0 [(0, .ref 11)] []
  unfold f_X5_digitHere at hf
  refine j_aload_n (pc' := 1) rfl rfl rfl ?_
  refine j_get (pc' := 4) rfl rfl flX5_26 (gxk_11 g σ) (tpF_4 σ) ?_
  refine j_aload_n (pc' := 5) rfl rfl rfl ?_
  refine j_get (pc' := 8) rfl rfl flX5_22 (gxk_11 g σ) (tpF_2 σ) ?_
  refine j_icmp_ge (tgt := 43) (pc' := 11) rfl rfl rfl (fun c8 => ?_) (fun c8 => ?_)
  · rw [if_pos c8] at hf
    refine j_iconst (v := 0) (pc' := 44) rfl rfl (by decide) ?_
    refine j_istore_n (pc' := 45) (ls' := [(1, _), (0, _)]) rfl rfl (Nat.le_of_ble_eq_true rfl) rfl ?_
    refine j_iload_n (pc' := 46) rfl rfl rfl ?_
    refine j_if_eq (tgt := 64) (pc' := 49) rfl rfl rfl (fun _ => ?_) (fun c46 => absurd c46 (by decide))
    refine j_iconst (v := (-1)) (pc' := 65) rfl rfl (by decide) ?_
    have hf := Option.some.inj hf; subst hf
    exact j_iret rfl rfl (Nat.le_of_ble_eq_true rfl) (Nat.le_of_ble_eq_true rfl) ⟨rfl, rfl⟩
  · rw [if_neg c8] at hf
    refine j_aload_n (pc' := 12) rfl rfl rfl ?_
    refine j_get (pc' := 15) rfl rfl flX5_18 (gxk_11 g σ) (tpF_3 σ) ?_
    refine j_aload_n (pc' := 16) rfl rfl rfl ?_
    refine j_get (pc' := 19) rfl rfl flX5_26 (gxk_11 g σ) (tpF_4 σ) ?_
    obtain ⟨c19, hf⟩ := o_chk hf
    refine j_bald (pc' := 20) rfl rfl (gxk_14 g σ) (vin_ok c19) ?_
    refine j_bipush (v := 48) (pc' := 22) rfl rfl (by decide) ?_
    refine j_icmp_lt (tgt := 43) (pc' := 25) rfl rfl rfl (fun c22 => ?_) (fun c22 => ?_)
    · rw [if_pos c22] at hf
      refine j_iconst (v := 0) (pc' := 44) rfl rfl (by decide) ?_
      refine j_istore_n (pc' := 45) (ls' := [(1, _), (0, _)]) rfl rfl (Nat.le_of_ble_eq_true rfl) rfl ?_
      refine j_iload_n (pc' := 46) rfl rfl rfl ?_
      refine j_if_eq (tgt := 64) (pc' := 49) rfl rfl rfl (fun _ => ?_) (fun c46 => absurd c46 (by decide))
      refine j_iconst (v := (-1)) (pc' := 65) rfl rfl (by decide) ?_
      have hf := Option.some.inj hf; subst hf
      exact j_iret rfl rfl (Nat.le_of_ble_eq_true rfl) (Nat.le_of_ble_eq_true rfl) ⟨rfl, rfl⟩
    · rw [if_neg c22] at hf
      refine j_aload_n (pc' := 26) rfl rfl rfl ?_
      refine j_get (pc' := 29) rfl rfl flX5_18 (gxk_11 g σ) (tpF_3 σ) ?_
      refine j_aload_n (pc' := 30) rfl rfl rfl ?_
      refine j_get (pc' := 33) rfl rfl flX5_26 (gxk_11 g σ) (tpF_4 σ) ?_
      obtain ⟨c33, hf⟩ := o_chk hf
      refine j_bald (pc' := 34) rfl rfl (gxk_14 g σ) (vin_ok c33) ?_
      refine j_bipush (v := 57) (pc' := 36) rfl rfl (by decide) ?_
      refine j_icmp_gt (tgt := 43) (pc' := 39) rfl rfl rfl (fun c36 => ?_) (fun c36 => ?_)
      · rw [if_pos c36] at hf
        refine j_iconst (v := 0) (pc' := 44) rfl rfl (by decide) ?_
        refine j_istore_n (pc' := 45) (ls' := [(1, _), (0, _)]) rfl rfl (Nat.le_of_ble_eq_true rfl) rfl ?_
        refine j_iload_n (pc' := 46) rfl rfl rfl ?_
        refine j_if_eq (tgt := 64) (pc' := 49) rfl rfl rfl (fun _ => ?_) (fun c46 => absurd c46 (by decide))
        refine j_iconst (v := (-1)) (pc' := 65) rfl rfl (by decide) ?_
        have hf := Option.some.inj hf; subst hf
        exact j_iret rfl rfl (Nat.le_of_ble_eq_true rfl) (Nat.le_of_ble_eq_true rfl) ⟨rfl, rfl⟩
      · rw [if_neg c36] at hf
        refine j_iconst (v := 1) (pc' := 40) rfl rfl (by decide) ?_
        refine j_goto (tgt := 44) rfl rfl ?_
        refine j_istore_n (pc' := 45) (ls' := [(1, _), (0, _)]) rfl rfl (Nat.le_of_ble_eq_true rfl) rfl ?_
        refine j_iload_n (pc' := 46) rfl rfl rfl ?_
        refine j_if_eq (tgt := 64) (pc' := 49) rfl rfl rfl (fun c46 => absurd c46 (by decide)) (fun _ => ?_)
        refine j_aload_n (pc' := 50) rfl rfl rfl ?_
        refine j_get (pc' := 53) rfl rfl flX5_18 (gxk_11 g σ) (tpF_3 σ) ?_
        refine j_aload_n (pc' := 54) rfl rfl rfl ?_
        refine j_get (pc' := 57) rfl rfl flX5_26 (gxk_11 g σ) (tpF_4 σ) ?_
        obtain ⟨c57, hf⟩ := o_chk hf
        refine j_bald (pc' := 58) rfl rfl (gxk_14 g σ) (vin_ok c57) ?_
        refine j_bipush (v := 48) (pc' := 60) rfl rfl (by decide) ?_
        refine j_isub (pc' := 61) rfl rfl ?_
        refine j_goto (tgt := 65) rfl rfl ?_
        have hf := Option.some.inj hf; subst hf
        exact j_iret rfl rfl (Nat.le_of_ble_eq_true rfl) (Nat.le_of_ble_eq_true rfl) ⟨rfl, rfl⟩
def rX5_readNumber : Room := { frames := 1, cells := 0, slots := 0, locals := 21 }
def f_X5_readNumber_L15 : Nat → xS → Int32 → Int32 → Int32 → Option (Int32 × xS)
  | 0, _, _, _, _ => none
  | n + 1, σ, x2, x3, x4 => if x2 ≤ x4 then some (x3, σ) else (f_X5_digitHere σ).bind fun r22 => if r22 = (-1) then some (x3, σ) else (f_X5_digitHere σ).bind fun r34 => letm (xi σ 21 (fun _ => ((σ.1 21 0) + 1))) fun σ46 => f_X5_readNumber_L15 n σ46 x2 ((x3 * 10) + r34) (x4 + 1)
set_option maxHeartbeats 4000000 in
set_option maxRecDepth 100000 in
theorem s_X5_readNumber_L15 {Q : Option Value → hH → Prop} (g : hH) : ∀ (n : Nat) (σ : xS) (x2 : Int32) (x3 : Int32) (x4 : Int32) (r : Int32 × xS), f_X5_readNumber_L15 n σ x2 x3 x4 = some r → (J mX5_readNumber rX5_readNumber Q 0 0 (gx g r.2) 55 [(3, .int r.1)] []) → J mX5_readNumber rX5_readNumber Q 0 0 (gx g σ) 15 [(0, .ref 11), (2, .int x2), (3, .int x3), (4, .int x4)] [] := by
  intro n
  induction n with
  | zero =>
    intro σ x2 x3 x4 r hf
    cases hf
  | succ n ih =>
    intro σ x2 x3 x4 r hf k0
    rw [f_X5_readNumber_L15] at hf
    refine j_iload (pc' := 17) rfl rfl rfl ?_
    refine j_iload_n (pc' := 18) rfl rfl rfl ?_
    refine j_icmp_ge (tgt := 55) (pc' := 21) rfl rfl rfl (fun c18 => ?_) (fun c18 => ?_)
    · rw [if_pos c18] at hf
      have hf := Option.some.inj hf; subst hf
      exact j_sub (ls' := [(3, .int _)]) ⟨rfl, trivial⟩ (k0)
    · rw [if_neg c18] at hf
      refine j_aload_n (pc' := 22) rfl rfl rfl ?_
      obtain ⟨r22, e22, hf⟩ := o_bind hf
      refine j_v0 (pc' := 25) rfl rfl miX5_digitHere lnX5_48 (gxk_11 g σ) rfl (s_X5_digitHere g σ _ e22) (h_rm_of rfl) (Nat.le_of_ble_eq_true rfl) (c' := 0) (s' := 0) rfl rfl ?_
      refine j_iconst (v := (-1)) (pc' := 26) rfl rfl (by decide) ?_
      refine j_icmp_eq (tgt := 55) (pc' := 29) rfl rfl rfl (fun c26 => ?_) (fun c26 => ?_)
      · rw [if_pos c26] at hf
        have hf := Option.some.inj hf; subst hf
        exact j_sub (ls' := [(3, .int _)]) ⟨rfl, trivial⟩ (k0)
      · rw [if_neg c26] at hf
        refine j_iload_n (pc' := 30) rfl rfl rfl ?_
        refine j_bipush (v := 10) (pc' := 32) rfl rfl (by decide) ?_
        refine j_imul (pc' := 33) rfl rfl ?_
        refine j_aload_n (pc' := 34) rfl rfl rfl ?_
        obtain ⟨r34, e34, hf⟩ := o_bind hf
        refine j_v0 (pc' := 37) rfl rfl miX5_digitHere lnX5_48 (gxk_11 g σ) rfl (s_X5_digitHere g σ _ e34) (h_rm_of rfl) (Nat.le_of_ble_eq_true rfl) (c' := 0) (s' := 0) rfl rfl ?_
        refine j_iadd (pc' := 38) rfl rfl ?_
        refine j_istore_n (pc' := 39) (ls' := [(3, _), (0, _), (2, _), (4, _)]) rfl rfl (Nat.le_of_ble_eq_true rfl) rfl ?_
        refine j_aload_n (pc' := 40) rfl rfl rfl ?_
        refine j_dup (pc' := 41) rfl rfl rfl ?_
        refine j_get (pc' := 44) rfl rfl flX5_26 (gxk_11 g σ) (tpF_4 σ) ?_
        refine j_iconst (v := 1) (pc' := 45) rfl rfl (by decide) ?_
        refine j_iadd (pc' := 46) rfl rfl ?_
        obtain ⟨σ46, e46, hf⟩ := o_let hf
        refine j_put (pc' := 49) rfl rfl flX5_26 (gxk_11 g σ) (by decide) (Nat.le_of_ble_eq_true rfl) rfl rfl ?_
        rw [tps_4]; rw [e46]
        refine j_iinc (pc' := 52) (d := 1) (ls' := [(4, _), (3, _), (0, _), (2, _)]) rfl rfl rfl (by decide) (Nat.le_of_ble_eq_true rfl) rfl ?_
        refine j_goto (tgt := 15) rfl rfl ?_
        refine j_sub (ls' := [(0, .ref 11), (2, .int _), (3, .int _), (4, .int _)]) ⟨rfl, rfl, rfl, rfl, trivial⟩ ?_
        exact ih _ _ _ _ _ hf k0
def f_X5_readNumber (σ : xS) (x1 : Int32) (x2 : Int32) : Option (Int32 × xS) := (f_X5_digitHere σ).bind fun r1 => if x1 ≤ r1 then (f_X5_readNumber_L15 4000 σ x2 0 0).bind fun r15 => some (r15.1, r15.2) else some ((-1), σ)
set_option maxHeartbeats 4000000 in
set_option maxRecDepth 100000 in
theorem s_X5_readNumber (g : hH) (σ : xS) (x1 : Int32) (x2 : Int32) (r : (Int32 × xS)) (hf : f_X5_readNumber σ x1 x2 = some r) : SpD mX5_readNumber rX5_readNumber [.ref 11, .int x1, .int x2] (gx g σ) (some (.int r.1)) (gx g r.2) := by
  refine sp_of miX5_readNumber (Nat.le_of_ble_eq_true rfl) ?_
  show J _ _ _ 0 0 _ 0 [(0, .ref 11), (1, .int x1), (2, .int x2)] []
  unfold f_X5_readNumber at hf
  refine j_aload_n (pc' := 1) rfl rfl rfl ?_
  obtain ⟨r1, e1, hf⟩ := o_bind hf
  refine j_v0 (pc' := 4) rfl rfl miX5_digitHere lnX5_48 (gxk_11 g σ) rfl (s_X5_digitHere g σ _ e1) (h_rm_of rfl) (Nat.le_of_ble_eq_true rfl) (c' := 0) (s' := 0) rfl rfl ?_
  refine j_iload_n (pc' := 5) rfl rfl rfl ?_
  refine j_icmp_ge (tgt := 10) (pc' := 8) rfl rfl rfl (fun c5 => ?_) (fun c5 => ?_)
  · rw [if_pos c5] at hf
    refine j_iconst (v := 0) (pc' := 11) rfl rfl (by decide) ?_
    refine j_istore_n (pc' := 12) (ls' := [(3, _), (0, _), (1, _), (2, _)]) rfl rfl (Nat.le_of_ble_eq_true rfl) rfl ?_
    refine j_iconst (v := 0) (pc' := 13) rfl rfl (by decide) ?_
    refine j_istore (pc' := 15) (ls' := [(4, _), (3, _), (0, _), (1, _), (2, _)]) rfl rfl (Nat.le_of_ble_eq_true rfl) rfl ?_
    obtain ⟨r15, e15, hf⟩ := o_bind hf
    refine j_sub (ls' := [(0, .ref 11), (2, .int _), (3, .int _), (4, .int _)]) ⟨rfl, rfl, rfl, rfl, trivial⟩ ?_
    refine s_X5_readNumber_L15 g _ _ _ _ _ _ e15 ?_
    refine j_iload_n (pc' := 56) rfl rfl rfl ?_
    have hf := Option.some.inj hf; subst hf
    exact j_iret rfl rfl (Nat.le_of_ble_eq_true rfl) (Nat.le_of_ble_eq_true rfl) ⟨rfl, rfl⟩
  · rw [if_neg c5] at hf
    refine j_iconst (v := (-1)) (pc' := 9) rfl rfl (by decide) ?_
    have hf := Option.some.inj hf; subst hf
    exact j_iret rfl rfl (Nat.le_of_ble_eq_true rfl) (Nat.le_of_ble_eq_true rfl) ⟨rfl, rfl⟩
end CLASS1
