section CLASS0
def rX6_within : Room := { frames := 0, cells := 0, slots := 0, locals := 0 }
def f_X6_within (x0 : Int32) (x1 : Int32) (x2 : Int32) : Option Int32 := if x0 < x1 then some 0 else if x2 < x0 then some 0 else some 1
set_option maxHeartbeats 4000000 in
set_option maxRecDepth 100000 in
theorem s_X6_within (h : hH) (x0 : Int32) (x1 : Int32) (x2 : Int32) (r : Int32) (hf : f_X6_within x0 x1 x2 = some r) : SpD mX6_within rX6_within [.int x0, .int x1, .int x2] h (some (.int r)) h := by
  refine sp_of miX6_within (Nat.le_of_ble_eq_true rfl) ?_
  show J _ _ _ 0 0 _ 0 [(0, .int x0), (1, .int x1), (2, .int x2)] []
  unfold f_X6_within at hf
  refine j_iload_n (pc' := 1) rfl rfl rfl ?_
  refine j_iload_n (pc' := 2) rfl rfl rfl ?_
  refine j_icmp_lt (tgt := 14) (pc' := 5) rfl rfl rfl (fun c2 => ?_) (fun c2 => ?_)
  · rw [if_pos c2] at hf
    refine j_iconst (v := 0) (pc' := 15) rfl rfl (by decide) ?_
    have hf := Option.some.inj hf; subst hf
    exact j_zret rfl rfl (by decide) (Nat.le_of_ble_eq_true rfl) (Nat.le_of_ble_eq_true rfl) ⟨rfl, rfl⟩
  · rw [if_neg c2] at hf
    refine j_iload_n (pc' := 6) rfl rfl rfl ?_
    refine j_iload_n (pc' := 7) rfl rfl rfl ?_
    refine j_icmp_gt (tgt := 14) (pc' := 10) rfl rfl rfl (fun c7 => ?_) (fun c7 => ?_)
    · rw [if_pos c7] at hf
      refine j_iconst (v := 0) (pc' := 15) rfl rfl (by decide) ?_
      have hf := Option.some.inj hf; subst hf
      exact j_zret rfl rfl (by decide) (Nat.le_of_ble_eq_true rfl) (Nat.le_of_ble_eq_true rfl) ⟨rfl, rfl⟩
    · rw [if_neg c7] at hf
      refine j_iconst (v := 1) (pc' := 11) rfl rfl (by decide) ?_
      refine j_goto (tgt := 15) rfl rfl ?_
      have hf := Option.some.inj hf; subst hf
      exact j_zret rfl rfl (by decide) (Nat.le_of_ble_eq_true rfl) (Nat.le_of_ble_eq_true rfl) ⟨rfl, rfl⟩
def rX6_oneIf : Room := { frames := 0, cells := 0, slots := 0, locals := 0 }
def f_X6_oneIf (x0 : Int32) : Option Int32 := if x0 = 0 then some 0 else some 1
set_option maxHeartbeats 4000000 in
set_option maxRecDepth 100000 in
theorem s_X6_oneIf (h : hH) (x0 : Int32) (r : Int32) (hf : f_X6_oneIf x0 = some r) : SpD mX6_oneIf rX6_oneIf [.int x0] h (some (.int r)) h := by
  refine sp_of miX6_oneIf (Nat.le_of_ble_eq_true rfl) ?_
  show J _ _ _ 0 0 _ 0 [(0, .int x0)] []
  unfold f_X6_oneIf at hf
  refine j_iload_n (pc' := 1) rfl rfl rfl ?_
  refine j_if_eq (tgt := 8) (pc' := 4) rfl rfl rfl (fun c1 => ?_) (fun c1 => ?_)
  · rw [if_pos c1] at hf
    refine j_iconst (v := 0) (pc' := 9) rfl rfl (by decide) ?_
    have hf := Option.some.inj hf; subst hf
    exact j_iret rfl rfl (Nat.le_of_ble_eq_true rfl) (Nat.le_of_ble_eq_true rfl) ⟨rfl, rfl⟩
  · rw [if_neg c1] at hf
    refine j_iconst (v := 1) (pc' := 5) rfl rfl (by decide) ?_
    refine j_goto (tgt := 9) rfl rfl ?_
    have hf := Option.some.inj hf; subst hf
    exact j_iret rfl rfl (Nat.le_of_ble_eq_true rfl) (Nat.le_of_ble_eq_true rfl) ⟨rfl, rfl⟩
def rX6_isTown : Room := { frames := 1, cells := 0, slots := 0, locals := 22 }
def f_X6_isTown (x0 : Int32) : Option Int32 := (f_X6_within x0 0 5).bind fun r3 => bif zb r3 then some r3 else none
set_option maxHeartbeats 4000000 in
set_option maxRecDepth 100000 in
theorem s_X6_isTown (h : hH) (x0 : Int32) (r : Int32) (hf : f_X6_isTown x0 = some r) : SpD mX6_isTown rX6_isTown [.int x0] h (some (.int r)) h := by
  refine sp_of miX6_isTown (Nat.le_of_ble_eq_true rfl) ?_
  show J _ _ _ 0 0 _ 0 [(0, .int x0)] []
  unfold f_X6_isTown at hf
  refine j_iload_n (pc' := 1) rfl rfl rfl ?_
  refine j_iconst (v := 0) (pc' := 2) rfl rfl (by decide) ?_
  refine j_iconst (v := 5) (pc' := 3) rfl rfl (by decide) ?_
  obtain ⟨r3, e3, hf⟩ := o_bind hf
  refine j_s3 (pc' := 6) rfl rfl miX6_within lnX6_74 (s_X6_within h x0 0 5 _ e3) (h_rm_of rfl) (Nat.le_of_ble_eq_true rfl) (c' := 0) (s' := 0) rfl rfl ?_
  obtain ⟨c6, hf⟩ := o_chk hf
  have hf := Option.some.inj hf; subst hf
  exact j_zret rfl rfl (zb_ok c6) (Nat.le_of_ble_eq_true rfl) (Nat.le_of_ble_eq_true rfl) ⟨rfl, rfl⟩
def rX6_isMint : Room := { frames := 1, cells := 0, slots := 0, locals := 22 }
def f_X6_isMint (x0 : Int32) : Option Int32 := (f_X6_within x0 0 2).bind fun r3 => bif zb r3 then some r3 else none
set_option maxHeartbeats 4000000 in
set_option maxRecDepth 100000 in
theorem s_X6_isMint (h : hH) (x0 : Int32) (r : Int32) (hf : f_X6_isMint x0 = some r) : SpD mX6_isMint rX6_isMint [.int x0] h (some (.int r)) h := by
  refine sp_of miX6_isMint (Nat.le_of_ble_eq_true rfl) ?_
  show J _ _ _ 0 0 _ 0 [(0, .int x0)] []
  unfold f_X6_isMint at hf
  refine j_iload_n (pc' := 1) rfl rfl rfl ?_
  refine j_iconst (v := 0) (pc' := 2) rfl rfl (by decide) ?_
  refine j_iconst (v := 2) (pc' := 3) rfl rfl (by decide) ?_
  obtain ⟨r3, e3, hf⟩ := o_bind hf
  refine j_s3 (pc' := 6) rfl rfl miX6_within lnX6_74 (s_X6_within h x0 0 2 _ e3) (h_rm_of rfl) (Nat.le_of_ble_eq_true rfl) (c' := 0) (s' := 0) rfl rfl ?_
  obtain ⟨c6, hf⟩ := o_chk hf
  have hf := Option.some.inj hf; subst hf
  exact j_zret rfl rfl (zb_ok c6) (Nat.le_of_ble_eq_true rfl) (Nat.le_of_ble_eq_true rfl) ⟨rfl, rfl⟩
def rX6_hasOwnFine : Room := { frames := 0, cells := 0, slots := 0, locals := 0 }
def f_X6_hasOwnFine (x0 : Int32) : Option Int32 := if x0 = 3 then some 1 else if x0 = 5 then some 1 else some 0
set_option maxHeartbeats 4000000 in
set_option maxRecDepth 100000 in
theorem s_X6_hasOwnFine (h : hH) (x0 : Int32) (r : Int32) (hf : f_X6_hasOwnFine x0 = some r) : SpD mX6_hasOwnFine rX6_hasOwnFine [.int x0] h (some (.int r)) h := by
  refine sp_of miX6_hasOwnFine (Nat.le_of_ble_eq_true rfl) ?_
  show J _ _ _ 0 0 _ 0 [(0, .int x0)] []
  unfold f_X6_hasOwnFine at hf
  refine j_iload_n (pc' := 1) rfl rfl rfl ?_
  refine j_iconst (v := 3) (pc' := 2) rfl rfl (by decide) ?_
  refine j_icmp_eq (tgt := 10) (pc' := 5) rfl rfl rfl (fun c2 => ?_) (fun c2 => ?_)
  · rw [if_pos c2] at hf
    refine j_iconst (v := 1) (pc' := 11) rfl rfl (by decide) ?_
    refine j_goto (tgt := 15) rfl rfl ?_
    have hf := Option.some.inj hf; subst hf
    exact j_zret rfl rfl (by decide) (Nat.le_of_ble_eq_true rfl) (Nat.le_of_ble_eq_true rfl) ⟨rfl, rfl⟩
  · rw [if_neg c2] at hf
    refine j_iload_n (pc' := 6) rfl rfl rfl ?_
    refine j_iconst (v := 5) (pc' := 7) rfl rfl (by decide) ?_
    refine j_icmp_ne (tgt := 14) (pc' := 10) rfl rfl rfl (fun c7 => ?_) (fun c7 => ?_)
    · rw [if_neg c7] at hf
      refine j_iconst (v := 0) (pc' := 15) rfl rfl (by decide) ?_
      have hf := Option.some.inj hf; subst hf
      exact j_zret rfl rfl (by decide) (Nat.le_of_ble_eq_true rfl) (Nat.le_of_ble_eq_true rfl) ⟨rfl, rfl⟩
    · rw [if_pos c7] at hf
      refine j_iconst (v := 1) (pc' := 11) rfl rfl (by decide) ?_
      refine j_goto (tgt := 15) rfl rfl ?_
      have hf := Option.some.inj hf; subst hf
      exact j_zret rfl rfl (by decide) (Nat.le_of_ble_eq_true rfl) (Nat.le_of_ble_eq_true rfl) ⟨rfl, rfl⟩
def rX6_sortAt : Room := { frames := 1, cells := 0, slots := 0, locals := 22 }
def f_X6_sortAt (σ : xS) (x1 : Int32) : Option (Option Nat) := (f_X6_within x1 0 ((σ.1 1 0) - 1)).bind fun r8 => if r8 = 0 then some none else bif vin x1 8 then some (σ.2.2.1 0 (x1).toNatClampNeg) else none
set_option maxHeartbeats 4000000 in
set_option maxRecDepth 100000 in
theorem s_X6_sortAt (g : hH) (σ : xS) (x1 : Int32) (r : (Option Nat)) (hf : f_X6_sortAt σ x1 = some r) : SpD mX6_sortAt rX6_sortAt [.ref 0, .int x1] (gx g σ) (some (va_rf r)) (gx g σ) := by
  refine sp_of miX6_sortAt (Nat.le_of_ble_eq_true rfl) ?_
  show J _ _ _ 0 0 _ 0 [(0, .ref 0), (1, .int x1)] []
  unfold f_X6_sortAt at hf
  refine j_iload_n (pc' := 1) rfl rfl rfl ?_
  refine j_iconst (v := 0) (pc' := 2) rfl rfl (by decide) ?_
  refine j_aload_n (pc' := 3) rfl rfl rfl ?_
  refine j_get (pc' := 6) rfl rfl flX6_78 (gxk_0 g σ) (nsF_1 σ) ?_
  refine j_iconst (v := 1) (pc' := 7) rfl rfl (by decide) ?_
  refine j_isub (pc' := 8) rfl rfl ?_
  obtain ⟨r8, e8, hf⟩ := o_bind hf
  refine j_s3 (pc' := 11) rfl rfl miX6_within lnX6_74 (s_X6_within (gx g σ) x1 0 ((σ.1 1 0) - 1) _ e8) (h_rm_of rfl) (Nat.le_of_ble_eq_true rfl) (c' := 0) (s' := 0) rfl rfl ?_
  refine j_if_eq (tgt := 23) (pc' := 14) rfl rfl rfl (fun c11 => ?_) (fun c11 => ?_)
  · rw [if_pos c11] at hf
    refine j_null (pc' := 24) rfl rfl ?_
    have hf := Option.some.inj hf; subst hf
    exact j_aret rfl rfl (Or.inl ⟨_, rfl⟩) (Or.inl rfl) (Nat.le_of_ble_eq_true rfl) (Nat.le_of_ble_eq_true rfl) ⟨rfl, rfl⟩
  · rw [if_neg c11] at hf
    refine j_aload_n (pc' := 15) rfl rfl rfl ?_
    refine j_get (pc' := 18) rfl rfl flX6_11 (gxk_0 g σ) (nsF_0 σ) ?_
    refine j_iload_n (pc' := 19) rfl rfl rfl ?_
    obtain ⟨c19, hf⟩ := o_chk hf
    refine j_aald (pc' := 20) rfl rfl (List.Mem.head _) (gxk_1 g σ) (vin_ok c19) ?_
    refine j_goto (tgt := 24) rfl rfl ?_
    have hf := Option.some.inj hf; subst hf
    exact j_aret rfl rfl (Or.inl ⟨_, rfl⟩) (rf_or _) (Nat.le_of_ble_eq_true rfl) (Nat.le_of_ble_eq_true rfl) ⟨rfl, rfl⟩
def rX6_lotAt : Room := { frames := 1, cells := 0, slots := 0, locals := 22 }
def f_X6_lotAt (σ : xS) (x1 : Int32) : Option (Option Nat) := (f_X6_within x1 0 ((σ.1 3 0) - 1)).bind fun r8 => if r8 = 0 then some none else bif vin x1 30 then some (σ.2.2.1 2 (x1).toNatClampNeg) else none
set_option maxHeartbeats 4000000 in
set_option maxRecDepth 100000 in
theorem s_X6_lotAt (g : hH) (σ : xS) (x1 : Int32) (r : (Option Nat)) (hf : f_X6_lotAt σ x1 = some r) : SpD mX6_lotAt rX6_lotAt [.ref 0, .int x1] (gx g σ) (some (va_rf r)) (gx g σ) := by
  refine sp_of miX6_lotAt (Nat.le_of_ble_eq_true rfl) ?_
  show J _ _ _ 0 0 _ 0 [(0, .ref 0), (1, .int x1)] []
  unfold f_X6_lotAt at hf
  refine j_iload_n (pc' := 1) rfl rfl rfl ?_
  refine j_iconst (v := 0) (pc' := 2) rfl rfl (by decide) ?_
  refine j_aload_n (pc' := 3) rfl rfl rfl ?_
  refine j_get (pc' := 6) rfl rfl flX6_97 (gxk_0 g σ) (nsF_3 σ) ?_
  refine j_iconst (v := 1) (pc' := 7) rfl rfl (by decide) ?_
  refine j_isub (pc' := 8) rfl rfl ?_
  obtain ⟨r8, e8, hf⟩ := o_bind hf
  refine j_s3 (pc' := 11) rfl rfl miX6_within lnX6_74 (s_X6_within (gx g σ) x1 0 ((σ.1 3 0) - 1) _ e8) (h_rm_of rfl) (Nat.le_of_ble_eq_true rfl) (c' := 0) (s' := 0) rfl rfl ?_
  refine j_if_eq (tgt := 23) (pc' := 14) rfl rfl rfl (fun c11 => ?_) (fun c11 => ?_)
  · rw [if_pos c11] at hf
    refine j_null (pc' := 24) rfl rfl ?_
    have hf := Option.some.inj hf; subst hf
    exact j_aret rfl rfl (Or.inl ⟨_, rfl⟩) (Or.inl rfl) (Nat.le_of_ble_eq_true rfl) (Nat.le_of_ble_eq_true rfl) ⟨rfl, rfl⟩
  · rw [if_neg c11] at hf
    refine j_aload_n (pc' := 15) rfl rfl rfl ?_
    refine j_get (pc' := 18) rfl rfl flX6_17 (gxk_0 g σ) (nsF_2 σ) ?_
    refine j_iload_n (pc' := 19) rfl rfl rfl ?_
    obtain ⟨c19, hf⟩ := o_chk hf
    refine j_aald (pc' := 20) rfl rfl (List.Mem.tail _ (List.Mem.head _)) (gxk_2 g σ) (vin_ok c19) ?_
    refine j_goto (tgt := 24) rfl rfl ?_
    have hf := Option.some.inj hf; subst hf
    exact j_aret rfl rfl (Or.inl ⟨_, rfl⟩) (rf_or _) (Nat.le_of_ble_eq_true rfl) (Nat.le_of_ble_eq_true rfl) ⟨rfl, rfl⟩
def rX6_orderAt : Room := { frames := 1, cells := 0, slots := 0, locals := 22 }
def f_X6_orderAt (σ : xS) (x1 : Int32) : Option (Option Nat) := (f_X6_within x1 0 ((σ.1 5 0) - 1)).bind fun r8 => if r8 = 0 then some none else bif vin x1 10 then some (σ.2.2.1 4 (x1).toNatClampNeg) else none
set_option maxHeartbeats 4000000 in
set_option maxRecDepth 100000 in
theorem s_X6_orderAt (g : hH) (σ : xS) (x1 : Int32) (r : (Option Nat)) (hf : f_X6_orderAt σ x1 = some r) : SpD mX6_orderAt rX6_orderAt [.ref 0, .int x1] (gx g σ) (some (va_rf r)) (gx g σ) := by
  refine sp_of miX6_orderAt (Nat.le_of_ble_eq_true rfl) ?_
  show J _ _ _ 0 0 _ 0 [(0, .ref 0), (1, .int x1)] []
  unfold f_X6_orderAt at hf
  refine j_iload_n (pc' := 1) rfl rfl rfl ?_
  refine j_iconst (v := 0) (pc' := 2) rfl rfl (by decide) ?_
  refine j_aload_n (pc' := 3) rfl rfl rfl ?_
  refine j_get (pc' := 6) rfl rfl flX6_186 (gxk_0 g σ) (nsF_5 σ) ?_
  refine j_iconst (v := 1) (pc' := 7) rfl rfl (by decide) ?_
  refine j_isub (pc' := 8) rfl rfl ?_
  obtain ⟨r8, e8, hf⟩ := o_bind hf
  refine j_s3 (pc' := 11) rfl rfl miX6_within lnX6_74 (s_X6_within (gx g σ) x1 0 ((σ.1 5 0) - 1) _ e8) (h_rm_of rfl) (Nat.le_of_ble_eq_true rfl) (c' := 0) (s' := 0) rfl rfl ?_
  refine j_if_eq (tgt := 23) (pc' := 14) rfl rfl rfl (fun c11 => ?_) (fun c11 => ?_)
  · rw [if_pos c11] at hf
    refine j_null (pc' := 24) rfl rfl ?_
    have hf := Option.some.inj hf; subst hf
    exact j_aret rfl rfl (Or.inl ⟨_, rfl⟩) (Or.inl rfl) (Nat.le_of_ble_eq_true rfl) (Nat.le_of_ble_eq_true rfl) ⟨rfl, rfl⟩
  · rw [if_neg c11] at hf
    refine j_aload_n (pc' := 15) rfl rfl rfl ?_
    refine j_get (pc' := 18) rfl rfl flX6_23 (gxk_0 g σ) (nsF_4 σ) ?_
    refine j_iload_n (pc' := 19) rfl rfl rfl ?_
    obtain ⟨c19, hf⟩ := o_chk hf
    refine j_aald (pc' := 20) rfl rfl (List.Mem.tail _ (List.Mem.tail _ (List.Mem.head _))) (gxk_3 g σ) (vin_ok c19) ?_
    refine j_goto (tgt := 24) rfl rfl ?_
    have hf := Option.some.inj hf; subst hf
    exact j_aret rfl rfl (Or.inl ⟨_, rfl⟩) (rf_or _) (Nat.le_of_ble_eq_true rfl) (Nat.le_of_ble_eq_true rfl) ⟨rfl, rfl⟩
def rX6_potAt : Room := { frames := 2, cells := 0, slots := 0, locals := 42 }
def f_X6_potAt (σ : xS) (x1 : Int32) : Option (Option Nat) := (f_X6_isMint x1).bind fun r1 => if r1 = 0 then some none else bif vin x1 3 then some (σ.2.2.1 7 (x1).toNatClampNeg) else none
set_option maxHeartbeats 4000000 in
set_option maxRecDepth 100000 in
theorem s_X6_potAt (g : hH) (σ : xS) (x1 : Int32) (r : (Option Nat)) (hf : f_X6_potAt σ x1 = some r) : SpD mX6_potAt rX6_potAt [.ref 0, .int x1] (gx g σ) (some (va_rf r)) (gx g σ) := by
  refine sp_of miX6_potAt (Nat.le_of_ble_eq_true rfl) ?_
  show J _ _ _ 0 0 _ 0 [(0, .ref 0), (1, .int x1)] []
  unfold f_X6_potAt at hf
  refine j_iload_n (pc' := 1) rfl rfl rfl ?_
  obtain ⟨r1, e1, hf⟩ := o_bind hf
  refine j_s1 (pc' := 4) rfl rfl miX6_isMint lnX6_243 (s_X6_isMint (gx g σ) x1 _ e1) (h_rm_of rfl) (Nat.le_of_ble_eq_true rfl) (c' := 0) (s' := 0) rfl rfl ?_
  refine j_if_eq (tgt := 16) (pc' := 7) rfl rfl rfl (fun c4 => ?_) (fun c4 => ?_)
  · rw [if_pos c4] at hf
    refine j_null (pc' := 17) rfl rfl ?_
    have hf := Option.some.inj hf; subst hf
    exact j_aret rfl rfl (Or.inl ⟨_, rfl⟩) (Or.inl rfl) (Nat.le_of_ble_eq_true rfl) (Nat.le_of_ble_eq_true rfl) ⟨rfl, rfl⟩
  · rw [if_neg c4] at hf
    refine j_aload_n (pc' := 8) rfl rfl rfl ?_
    refine j_get (pc' := 11) rfl rfl flX6_36 (gxk_0 g σ) (nsF_7 σ) ?_
    refine j_iload_n (pc' := 12) rfl rfl rfl ?_
    obtain ⟨c12, hf⟩ := o_chk hf
    refine j_aald (pc' := 13) rfl rfl (List.Mem.tail _ (List.Mem.tail _ (List.Mem.tail _ (List.Mem.head _)))) (gxk_4 g σ) (vin_ok c12) ?_
    refine j_goto (tgt := 17) rfl rfl ?_
    have hf := Option.some.inj hf; subst hf
    exact j_aret rfl rfl (Or.inl ⟨_, rfl⟩) (rf_or _) (Nat.le_of_ble_eq_true rfl) (Nat.le_of_ble_eq_true rfl) ⟨rfl, rfl⟩
def rX4_leastOfCoin : Room := { frames := 0, cells := 0, slots := 0, locals := 0 }
def f_X4_leastOfCoin (σ : xS) (x0 : Nat) (x1 : Int32) : Option Int32 := if x1 = 1 then some 1 else if x1 = 5 then some 1 else bif isS σ x0 then some (σ.1 120 (x0 - 2000)) else none
set_option maxHeartbeats 4000000 in
set_option maxRecDepth 100000 in
theorem s_X4_leastOfCoin (g : hH) (σ : xS) (x0 : Nat) (x1 : Int32) (r : Int32) (hf : f_X4_leastOfCoin σ x0 x1 = some r) : SpD mX4_leastOfCoin rX4_leastOfCoin [.ref x0, .int x1] (gx g σ) (some (.int r)) (gx g σ) := by
  refine sp_of miX4_leastOfCoin (Nat.le_of_ble_eq_true rfl) ?_
  show J _ _ _ 0 0 _ 0 [(0, .ref x0), (1, .int x1)] []
  unfold f_X4_leastOfCoin at hf
  refine j_iload_n (pc' := 1) rfl rfl rfl ?_
  refine j_iconst (v := 1) (pc' := 2) rfl rfl (by decide) ?_
  refine j_icmp_eq (tgt := 10) (pc' := 5) rfl rfl rfl (fun c2 => ?_) (fun c2 => ?_)
  · rw [if_pos c2] at hf
    refine j_iconst (v := 1) (pc' := 11) rfl rfl (by decide) ?_
    refine j_goto (tgt := 18) rfl rfl ?_
    have hf := Option.some.inj hf; subst hf
    exact j_iret rfl rfl (Nat.le_of_ble_eq_true rfl) (Nat.le_of_ble_eq_true rfl) ⟨rfl, rfl⟩
  · rw [if_neg c2] at hf
    refine j_iload_n (pc' := 6) rfl rfl rfl ?_
    refine j_iconst (v := 5) (pc' := 7) rfl rfl (by decide) ?_
    refine j_icmp_ne (tgt := 14) (pc' := 10) rfl rfl rfl (fun c7 => ?_) (fun c7 => ?_)
    · rw [if_neg c7] at hf
      refine j_aload_n (pc' := 15) rfl rfl rfl ?_
      obtain ⟨c15_1, hf⟩ := o_chk hf
      refine j_get (pc' := 18) (v := .int (σ.1 120 (x0 - 2000))) rfl rfl flX4_9 (gx_sort c15_1) (sortF_0 _ _) ?_
      have hf := Option.some.inj hf; subst hf
      exact j_iret rfl rfl (Nat.le_of_ble_eq_true rfl) (Nat.le_of_ble_eq_true rfl) ⟨rfl, rfl⟩
    · rw [if_pos c7] at hf
      refine j_iconst (v := 1) (pc' := 11) rfl rfl (by decide) ?_
      refine j_goto (tgt := 18) rfl rfl ?_
      have hf := Option.some.inj hf; subst hf
      exact j_iret rfl rfl (Nat.le_of_ble_eq_true rfl) (Nat.le_of_ble_eq_true rfl) ⟨rfl, rfl⟩
def rX1_silverHeld : Room := { frames := 0, cells := 0, slots := 0, locals := 0 }
def f_X1_silverHeld (σ : xS) (x0 : Nat) : Option Int64 := bif isL σ x0 then some (((σ.1 105 (x0 - 1000))).toInt64 * ((σ.1 103 (x0 - 1000))).toInt64) else none
set_option maxHeartbeats 4000000 in
set_option maxRecDepth 100000 in
theorem s_X1_silverHeld (g : hH) (σ : xS) (x0 : Nat) (r : Int64) (hf : f_X1_silverHeld σ x0 = some r) : SpD mX1_silverHeld rX1_silverHeld [.ref x0] (gx g σ) (some (.long r)) (gx g σ) := by
  refine sp_of miX1_silverHeld (Nat.le_of_ble_eq_true rfl) ?_
  show J _ _ _ 0 0 _ 0 [(0, .ref x0)] []
  unfold f_X1_silverHeld at hf
  refine j_aload_n (pc' := 1) rfl rfl rfl ?_
  obtain ⟨c1_1, hf⟩ := o_chk hf
  refine j_get (pc' := 4) (v := .int (σ.1 105 (x0 - 1000))) rfl rfl flX1_31 (gx_lot c1_1) (lotF_5 _ _) ?_
  refine j_i2l (pc' := 5) rfl rfl ?_
  refine j_aload_n (pc' := 6) rfl rfl rfl ?_
  refine j_get (pc' := 9) (v := .int (σ.1 103 (x0 - 1000))) rfl rfl flX1_34 (gx_lot c1_1) (lotF_3 _ _) ?_
  refine j_i2l (pc' := 10) rfl rfl ?_
  refine j_lmul (pc' := 11) rfl rfl ?_
  have hf := Option.some.inj hf; subst hf
  exact j_lret rfl rfl (Nat.le_of_ble_eq_true rfl) (Nat.le_of_ble_eq_true rfl) ⟨rfl, rfl⟩
def rX1_isSealedBag : Room := { frames := 0, cells := 0, slots := 0, locals := 0 }
def f_X1_isSealedBag (σ : xS) (x0 : Nat) : Option Int32 := bif isL σ x0 then if (σ.1 104 (x0 - 1000)) = 2 then if (σ.1 109 (x0 - 1000)) = 0 then some 1 else some 0 else some 0 else none
set_option maxHeartbeats 4000000 in
set_option maxRecDepth 100000 in
theorem s_X1_isSealedBag (g : hH) (σ : xS) (x0 : Nat) (r : Int32) (hf : f_X1_isSealedBag σ x0 = some r) : SpD mX1_isSealedBag rX1_isSealedBag [.ref x0] (gx g σ) (some (.int r)) (gx g σ) := by
  refine sp_of miX1_isSealedBag (Nat.le_of_ble_eq_true rfl) ?_
  show J _ _ _ 0 0 _ 0 [(0, .ref x0)] []
  unfold f_X1_isSealedBag at hf
  refine j_aload_n (pc' := 1) rfl rfl rfl ?_
  obtain ⟨c1_1, hf⟩ := o_chk hf
  refine j_get (pc' := 4) (v := .int (σ.1 104 (x0 - 1000))) rfl rfl flX1_18 (gx_lot c1_1) (lotF_4 _ _) ?_
  refine j_iconst (v := 2) (pc' := 5) rfl rfl (by decide) ?_
  refine j_icmp_ne (tgt := 19) (pc' := 8) rfl rfl rfl (fun c5 => ?_) (fun c5 => ?_)
  · rw [if_neg c5] at hf
    refine j_iconst (v := 0) (pc' := 20) rfl rfl (by decide) ?_
    have hf := Option.some.inj hf; subst hf
    exact j_zret rfl rfl (by decide) (Nat.le_of_ble_eq_true rfl) (Nat.le_of_ble_eq_true rfl) ⟨rfl, rfl⟩
  · rw [if_pos c5] at hf
    refine j_aload_n (pc' := 9) rfl rfl rfl ?_
    refine j_get (pc' := 12) (v := .int (σ.1 109 (x0 - 1000))) rfl rfl flX1_37 (gx_lot c1_1) (lotF_9 _ _) ?_
    refine j_if_ne (tgt := 19) (pc' := 15) rfl rfl rfl (fun c12 => ?_) (fun c12 => ?_)
    · rw [if_neg c12] at hf
      refine j_iconst (v := 0) (pc' := 20) rfl rfl (by decide) ?_
      have hf := Option.some.inj hf; subst hf
      exact j_zret rfl rfl (by decide) (Nat.le_of_ble_eq_true rfl) (Nat.le_of_ble_eq_true rfl) ⟨rfl, rfl⟩
    · rw [if_pos c12] at hf
      refine j_iconst (v := 1) (pc' := 16) rfl rfl (by decide) ?_
      refine j_goto (tgt := 20) rfl rfl ?_
      have hf := Option.some.inj hf; subst hf
      exact j_zret rfl rfl (by decide) (Nat.le_of_ble_eq_true rfl) (Nat.le_of_ble_eq_true rfl) ⟨rfl, rfl⟩
def rX1_isOnRoad : Room := { frames := 0, cells := 0, slots := 0, locals := 0 }
def f_X1_isOnRoad (σ : xS) (x0 : Nat) (x1 : Int32) : Option Int32 := bif isL σ x0 then if (σ.1 108 (x0 - 1000)) ≤ x1 then some 0 else some 1 else none
set_option maxHeartbeats 4000000 in
set_option maxRecDepth 100000 in
theorem s_X1_isOnRoad (g : hH) (σ : xS) (x0 : Nat) (x1 : Int32) (r : Int32) (hf : f_X1_isOnRoad σ x0 x1 = some r) : SpD mX1_isOnRoad rX1_isOnRoad [.ref x0, .int x1] (gx g σ) (some (.int r)) (gx g σ) := by
  refine sp_of miX1_isOnRoad (Nat.le_of_ble_eq_true rfl) ?_
  show J _ _ _ 0 0 _ 0 [(0, .ref x0), (1, .int x1)] []
  unfold f_X1_isOnRoad at hf
  refine j_aload_n (pc' := 1) rfl rfl rfl ?_
  obtain ⟨c1_1, hf⟩ := o_chk hf
  refine j_get (pc' := 4) (v := .int (σ.1 108 (x0 - 1000))) rfl rfl flX1_41 (gx_lot c1_1) (lotF_8 _ _) ?_
  refine j_iload_n (pc' := 5) rfl rfl rfl ?_
  refine j_icmp_le (tgt := 12) (pc' := 8) rfl rfl rfl (fun c5 => ?_) (fun c5 => ?_)
  · rw [if_pos c5] at hf
    refine j_iconst (v := 0) (pc' := 13) rfl rfl (by decide) ?_
    have hf := Option.some.inj hf; subst hf
    exact j_zret rfl rfl (by decide) (Nat.le_of_ble_eq_true rfl) (Nat.le_of_ble_eq_true rfl) ⟨rfl, rfl⟩
  · rw [if_neg c5] at hf
    refine j_iconst (v := 1) (pc' := 9) rfl rfl (by decide) ?_
    refine j_goto (tgt := 13) rfl rfl ?_
    have hf := Option.some.inj hf; subst hf
    exact j_zret rfl rfl (by decide) (Nat.le_of_ble_eq_true rfl) (Nat.le_of_ble_eq_true rfl) ⟨rfl, rfl⟩
def rX1_vanish : Room := { frames := 0, cells := 0, slots := 0, locals := 0 }
def f_X1_vanish (σ : xS) (x0 : Nat) : Option xS := bif isL σ x0 then letm (xi σ 109 (va_up (σ.1 109) (x0 - 1000) 1)) fun σ2 => bif isL σ2 x0 then letm (xi σ2 107 (va_up (σ2.1 107) (x0 - 1000) (-1))) fun σ7 => some σ7 else none else none
set_option maxHeartbeats 4000000 in
set_option maxRecDepth 100000 in
theorem s_X1_vanish (g : hH) (σ : xS) (x0 : Nat) (r : xS) (hf : f_X1_vanish σ x0 = some r) : SpD mX1_vanish rX1_vanish [.ref x0] (gx g σ) (none) (gx g r) := by
  refine sp_of miX1_vanish (Nat.le_of_ble_eq_true rfl) ?_
  show J _ _ _ 0 0 _ 0 [(0, .ref x0)] []
  unfold f_X1_vanish at hf
  refine j_aload_n (pc' := 1) rfl rfl rfl ?_
  refine j_iconst (v := 1) (pc' := 2) rfl rfl (by decide) ?_
  obtain ⟨c2_1, hf⟩ := o_chk hf
  obtain ⟨σ2, e2, hf⟩ := o_let hf
  refine j_put (pc' := 5) rfl rfl flX1_37 (gx_lot c2_1) (lt_L c2_1) (Nat.le_of_ble_eq_true rfl) rfl rfl ?_
  rw [lots_9 c2_1]; rw [e2]
  refine j_aload_n (pc' := 6) rfl rfl rfl ?_
  refine j_iconst (v := (-1)) (pc' := 7) rfl rfl (by decide) ?_
  obtain ⟨c7_2, hf⟩ := o_chk hf
  obtain ⟨σ7, e7, hf⟩ := o_let hf
  refine j_put (pc' := 10) rfl rfl flX1_15 (gx_lot c7_2) (lt_L c7_2) (Nat.le_of_ble_eq_true rfl) rfl rfl ?_
  rw [lots_7 c7_2]; rw [e7]
  have hf := Option.some.inj hf; subst hf
  exact j_vret rfl rfl (Nat.le_of_ble_eq_true rfl) (Nat.le_of_ble_eq_true rfl) ⟨rfl, rfl⟩
def rX1_canDraw : Room := { frames := 1, cells := 0, slots := 0, locals := 22 }
def f_X1_canDraw (σ : xS) (x0 : Nat) (x1 : Int32) (x2 : Int32) : Option Int32 := bif isL σ x0 then if (σ.1 102 (x0 - 1000)) ≤ 0 then some 0 else (f_X6_within x1 0 (σ.1 102 (x0 - 1000))).bind fun r13 => if r13 = 0 then some 0 else (σ.2.2.1 101 (x0 - 1000)).bind fun a22_2 => bif isS σ a22_2 then (f_X4_leastOfCoin σ a22_2 (σ.1 104 (x0 - 1000))).bind fun r29 => (σ.2.2.1 101 (x0 - 1000)).bind fun a35_4 => bif isS σ a35_4 then (f_X6_within x2 (x1 * r29) (x1 * (σ.1 121 (a35_4 - 2000)))).bind fun r42 => if r42 = 0 then some 0 else some 1 else none else none else none
set_option maxHeartbeats 4000000 in
set_option maxRecDepth 100000 in
theorem s_X1_canDraw (g : hH) (σ : xS) (x0 : Nat) (x1 : Int32) (x2 : Int32) (r : Int32) (hf : f_X1_canDraw σ x0 x1 x2 = some r) : SpD mX1_canDraw rX1_canDraw [.ref x0, .int x1, .int x2] (gx g σ) (some (.int r)) (gx g σ) := by
  refine sp_of miX1_canDraw (Nat.le_of_ble_eq_true rfl) ?_
  show J _ _ _ 0 0 _ 0 [(0, .ref x0), (1, .int x1), (2, .int x2)] []
  unfold f_X1_canDraw at hf
  refine j_aload_n (pc' := 1) rfl rfl rfl ?_
  obtain ⟨c1_1, hf⟩ := o_chk hf
  refine j_get (pc' := 4) (v := .int (σ.1 102 (x0 - 1000))) rfl rfl flX1_28 (gx_lot c1_1) (lotF_2 _ _) ?_
  refine j_if_le (tgt := 52) (pc' := 7) rfl rfl rfl (fun c4 => ?_) (fun c4 => ?_)
  · rw [if_pos c4] at hf
    refine j_iconst (v := 0) (pc' := 53) rfl rfl (by decide) ?_
    have hf := Option.some.inj hf; subst hf
    exact j_zret rfl rfl (by decide) (Nat.le_of_ble_eq_true rfl) (Nat.le_of_ble_eq_true rfl) ⟨rfl, rfl⟩
  · rw [if_neg c4] at hf
    refine j_iload_n (pc' := 8) rfl rfl rfl ?_
    refine j_iconst (v := 0) (pc' := 9) rfl rfl (by decide) ?_
    refine j_aload_n (pc' := 10) rfl rfl rfl ?_
    refine j_get (pc' := 13) (v := .int (σ.1 102 (x0 - 1000))) rfl rfl flX1_28 (gx_lot c1_1) (lotF_2 _ _) ?_
    obtain ⟨r13, e13, hf⟩ := o_bind hf
    refine j_sn3 (pc' := 16) rfl rfl miX6_within lnX1_44 (s_X6_within (gx g σ) x1 0 (σ.1 102 (x0 - 1000)) _ e13) (h_rm_of rfl) (Nat.le_of_ble_eq_true rfl) (c' := 0) (s' := 0) rfl rfl ?_
    refine j_if_eq (tgt := 52) (pc' := 19) rfl rfl rfl (fun c16 => ?_) (fun c16 => ?_)
    · rw [if_pos c16] at hf
      refine j_iconst (v := 0) (pc' := 53) rfl rfl (by decide) ?_
      have hf := Option.some.inj hf; subst hf
      exact j_zret rfl rfl (by decide) (Nat.le_of_ble_eq_true rfl) (Nat.le_of_ble_eq_true rfl) ⟨rfl, rfl⟩
    · rw [if_neg c16] at hf
      refine j_iload_n (pc' := 20) rfl rfl rfl ?_
      refine j_iload_n (pc' := 21) rfl rfl rfl ?_
      refine j_aload_n (pc' := 22) rfl rfl rfl ?_
      obtain ⟨a22_2, ea22_2, hf⟩ := o_bind hf
      refine j_get (pc' := 25) (v := .ref a22_2) rfl rfl flX1_24 (gx_lot c1_1) ((lotF_1 _ _).trans (by rw [ea22_2, va_rf_some])) ?_
      refine j_aload_n (pc' := 26) rfl rfl rfl ?_
      refine j_get (pc' := 29) (v := .int (σ.1 104 (x0 - 1000))) rfl rfl flX1_18 (gx_lot c1_1) (lotF_4 _ _) ?_
      obtain ⟨c29_3, hf⟩ := o_chk hf
      obtain ⟨r29, e29, hf⟩ := o_bind hf
      refine j_v1 (pc' := 32) rfl rfl miX4_leastOfCoin lnX1_48 (gx_sort c29_3) rfl (s_X4_leastOfCoin g σ a22_2 (σ.1 104 (x0 - 1000)) _ e29) (h_rm_of rfl) (Nat.le_of_ble_eq_true rfl) (c' := 0) (s' := 0) rfl rfl ?_
      refine j_imul (pc' := 33) rfl rfl ?_
      refine j_iload_n (pc' := 34) rfl rfl rfl ?_
      refine j_aload_n (pc' := 35) rfl rfl rfl ?_
      obtain ⟨a35_4, ea35_4, hf⟩ := o_bind hf
      refine j_get (pc' := 38) (v := .ref a35_4) rfl rfl flX1_24 (gx_lot c1_1) ((lotF_1 _ _).trans (by rw [ea35_4, va_rf_some])) ?_
      obtain ⟨c38_5, hf⟩ := o_chk hf
      refine j_get (pc' := 41) (v := .int (σ.1 121 (a35_4 - 2000))) rfl rfl flX1_54 (gx_sort c38_5) (sortF_1 _ _) ?_
      refine j_imul (pc' := 42) rfl rfl ?_
      obtain ⟨r42, e42, hf⟩ := o_bind hf
      refine j_sn3 (pc' := 45) rfl rfl miX6_within lnX1_44 (s_X6_within (gx g σ) x2 (x1 * r29) (x1 * (σ.1 121 (a35_4 - 2000))) _ e42) (h_rm_of rfl) (Nat.le_of_ble_eq_true rfl) (c' := 0) (s' := 0) rfl rfl ?_
      refine j_if_eq (tgt := 52) (pc' := 48) rfl rfl rfl (fun c45 => ?_) (fun c45 => ?_)
      · rw [if_pos c45] at hf
        refine j_iconst (v := 0) (pc' := 53) rfl rfl (by decide) ?_
        have hf := Option.some.inj hf; subst hf
        exact j_zret rfl rfl (by decide) (Nat.le_of_ble_eq_true rfl) (Nat.le_of_ble_eq_true rfl) ⟨rfl, rfl⟩
      · rw [if_neg c45] at hf
        refine j_iconst (v := 1) (pc' := 49) rfl rfl (by decide) ?_
        refine j_goto (tgt := 53) rfl rfl ?_
        have hf := Option.some.inj hf; subst hf
        exact j_zret rfl rfl (by decide) (Nat.le_of_ble_eq_true rfl) (Nat.le_of_ble_eq_true rfl) ⟨rfl, rfl⟩
def rX1_leastDrawn : Room := { frames := 1, cells := 0, slots := 0, locals := 21 }
def f_X1_leastDrawn (σ : xS) (x0 : Nat) (x1 : Int32) (x2 : Int32) : Option Int32 := bif isL σ x0 then (σ.2.2.1 101 (x0 - 1000)).bind fun a8_2 => bif isS σ a8_2 then (f_X4_leastOfCoin σ a8_2 (σ.1 104 (x0 - 1000))).bind fun r15 => some (x2 + (((σ.1 102 (x0 - 1000)) - x1) * r15)) else none else none
set_option maxHeartbeats 4000000 in
set_option maxRecDepth 100000 in
theorem s_X1_leastDrawn (g : hH) (σ : xS) (x0 : Nat) (x1 : Int32) (x2 : Int32) (r : Int32) (hf : f_X1_leastDrawn σ x0 x1 x2 = some r) : SpD mX1_leastDrawn rX1_leastDrawn [.ref x0, .int x1, .int x2] (gx g σ) (some (.int r)) (gx g σ) := by
  refine sp_of miX1_leastDrawn (Nat.le_of_ble_eq_true rfl) ?_
  show J _ _ _ 0 0 _ 0 [(0, .ref x0), (1, .int x1), (2, .int x2)] []
  unfold f_X1_leastDrawn at hf
  refine j_iload_n (pc' := 1) rfl rfl rfl ?_
  refine j_aload_n (pc' := 2) rfl rfl rfl ?_
  obtain ⟨c2_1, hf⟩ := o_chk hf
  refine j_get (pc' := 5) (v := .int (σ.1 102 (x0 - 1000))) rfl rfl flX1_28 (gx_lot c2_1) (lotF_2 _ _) ?_
  refine j_iload_n (pc' := 6) rfl rfl rfl ?_
  refine j_isub (pc' := 7) rfl rfl ?_
  refine j_aload_n (pc' := 8) rfl rfl rfl ?_
  obtain ⟨a8_2, ea8_2, hf⟩ := o_bind hf
  refine j_get (pc' := 11) (v := .ref a8_2) rfl rfl flX1_24 (gx_lot c2_1) ((lotF_1 _ _).trans (by rw [ea8_2, va_rf_some])) ?_
  refine j_aload_n (pc' := 12) rfl rfl rfl ?_
  refine j_get (pc' := 15) (v := .int (σ.1 104 (x0 - 1000))) rfl rfl flX1_18 (gx_lot c2_1) (lotF_4 _ _) ?_
  obtain ⟨c15_3, hf⟩ := o_chk hf
  obtain ⟨r15, e15, hf⟩ := o_bind hf
  refine j_v1 (pc' := 18) rfl rfl miX4_leastOfCoin lnX1_48 (gx_sort c15_3) rfl (s_X4_leastOfCoin g σ a8_2 (σ.1 104 (x0 - 1000)) _ e15) (h_rm_of rfl) (Nat.le_of_ble_eq_true rfl) (c' := 0) (s' := 0) rfl rfl ?_
  refine j_imul (pc' := 19) rfl rfl ?_
  refine j_iadd (pc' := 20) rfl rfl ?_
  have hf := Option.some.inj hf; subst hf
  exact j_iret rfl rfl (Nat.le_of_ble_eq_true rfl) (Nat.le_of_ble_eq_true rfl) ⟨rfl, rfl⟩
def rX1_mostDrawn : Room := { frames := 0, cells := 0, slots := 0, locals := 0 }
def f_X1_mostDrawn (σ : xS) (x0 : Nat) (x1 : Int32) (x2 : Int32) : Option Int32 := bif isL σ x0 then (σ.2.2.1 101 (x0 - 1000)).bind fun a8_2 => bif isS σ a8_2 then some (x2 + (((σ.1 102 (x0 - 1000)) - x1) * (σ.1 121 (a8_2 - 2000)))) else none else none
set_option maxHeartbeats 4000000 in
set_option maxRecDepth 100000 in
theorem s_X1_mostDrawn (g : hH) (σ : xS) (x0 : Nat) (x1 : Int32) (x2 : Int32) (r : Int32) (hf : f_X1_mostDrawn σ x0 x1 x2 = some r) : SpD mX1_mostDrawn rX1_mostDrawn [.ref x0, .int x1, .int x2] (gx g σ) (some (.int r)) (gx g σ) := by
  refine sp_of miX1_mostDrawn (Nat.le_of_ble_eq_true rfl) ?_
  show J _ _ _ 0 0 _ 0 [(0, .ref x0), (1, .int x1), (2, .int x2)] []
  unfold f_X1_mostDrawn at hf
  refine j_iload_n (pc' := 1) rfl rfl rfl ?_
  refine j_aload_n (pc' := 2) rfl rfl rfl ?_
  obtain ⟨c2_1, hf⟩ := o_chk hf
  refine j_get (pc' := 5) (v := .int (σ.1 102 (x0 - 1000))) rfl rfl flX1_28 (gx_lot c2_1) (lotF_2 _ _) ?_
  refine j_iload_n (pc' := 6) rfl rfl rfl ?_
  refine j_isub (pc' := 7) rfl rfl ?_
  refine j_aload_n (pc' := 8) rfl rfl rfl ?_
  obtain ⟨a8_2, ea8_2, hf⟩ := o_bind hf
  refine j_get (pc' := 11) (v := .ref a8_2) rfl rfl flX1_24 (gx_lot c2_1) ((lotF_1 _ _).trans (by rw [ea8_2, va_rf_some])) ?_
  obtain ⟨c11_3, hf⟩ := o_chk hf
  refine j_get (pc' := 14) (v := .int (σ.1 121 (a8_2 - 2000))) rfl rfl flX1_54 (gx_sort c11_3) (sortF_1 _ _) ?_
  refine j_imul (pc' := 15) rfl rfl ?_
  refine j_iadd (pc' := 16) rfl rfl ?_
  have hf := Option.some.inj hf; subst hf
  exact j_iret rfl rfl (Nat.le_of_ble_eq_true rfl) (Nat.le_of_ble_eq_true rfl) ⟨rfl, rfl⟩
def rX3_meltedOn : Room := { frames := 0, cells := 0, slots := 0, locals := 0 }
def f_X3_meltedOn (σ : xS) (x0 : Nat) (x1 : Int32) : Option Int32 := bif isP σ x0 then if x1 = (σ.1 148 (x0 - 23)) then some (σ.1 147 (x0 - 23)) else some 0 else none
set_option maxHeartbeats 4000000 in
set_option maxRecDepth 100000 in
theorem s_X3_meltedOn (g : hH) (σ : xS) (x0 : Nat) (x1 : Int32) (r : Int32) (hf : f_X3_meltedOn σ x0 x1 = some r) : SpD mX3_meltedOn rX3_meltedOn [.ref x0, .int x1] (gx g σ) (some (.int r)) (gx g σ) := by
  refine sp_of miX3_meltedOn (Nat.le_of_ble_eq_true rfl) ?_
  show J _ _ _ 0 0 _ 0 [(0, .ref x0), (1, .int x1)] []
  unfold f_X3_meltedOn at hf
  refine j_iload_n (pc' := 1) rfl rfl rfl ?_
  refine j_aload_n (pc' := 2) rfl rfl rfl ?_
  obtain ⟨c2_1, hf⟩ := o_chk hf
  refine j_get (pc' := 5) (v := .int (σ.1 148 (x0 - 23))) rfl rfl flX3_16 (gx_pot c2_1) (potF_8 _ _) ?_
  refine j_icmp_ne (tgt := 15) (pc' := 8) rfl rfl rfl (fun c5 => ?_) (fun c5 => ?_)
  · rw [if_neg c5] at hf
    refine j_iconst (v := 0) (pc' := 16) rfl rfl (by decide) ?_
    have hf := Option.some.inj hf; subst hf
    exact j_iret rfl rfl (Nat.le_of_ble_eq_true rfl) (Nat.le_of_ble_eq_true rfl) ⟨rfl, rfl⟩
  · rw [if_pos c5] at hf
    refine j_aload_n (pc' := 9) rfl rfl rfl ?_
    refine j_get (pc' := 12) (v := .int (σ.1 147 (x0 - 23))) rfl rfl flX3_19 (gx_pot c2_1) (potF_7 _ _) ?_
    refine j_goto (tgt := 16) rfl rfl ?_
    have hf := Option.some.inj hf; subst hf
    exact j_iret rfl rfl (Nat.le_of_ble_eq_true rfl) (Nat.le_of_ble_eq_true rfl) ⟨rfl, rfl⟩
def rX3_takeIn : Room := { frames := 1, cells := 0, slots := 0, locals := 21 }
def f_X3_takeIn (σ : xS) (x0 : Nat) (x1 : Int32) (x2 : Int64) (x4 : Int32) : Option xS := bif isP σ x0 then (f_X3_meltedOn σ x0 x4).bind fun r4 => letm (xi σ 147 (va_up (σ.1 147) (x0 - 23) (r4 + x1))) fun σ9 => bif isP σ9 x0 then letm (xi σ9 148 (va_up (σ9.1 148) (x0 - 23) x4)) fun σ15 => bif isP σ15 x0 then letm (xl σ15 140 (va_up (σ15.2.1 140) (x0 - 23) ((σ15.2.1 140 (x0 - 23)) + (x1).toInt64))) fun σ26 => bif isP σ26 x0 then letm (xl σ26 141 (va_up (σ26.2.1 141) (x0 - 23) ((σ26.2.1 141 (x0 - 23)) + x2))) fun σ36 => bif isP σ36 x0 then letm (xi σ36 142 (va_up (σ36.1 142) (x0 - 23) 0)) fun σ41 => some σ41 else none else none else none else none else none
set_option maxHeartbeats 4000000 in
set_option maxRecDepth 100000 in
theorem s_X3_takeIn (g : hH) (σ : xS) (x0 : Nat) (x1 : Int32) (x2 : Int64) (x4 : Int32) (r : xS) (hf : f_X3_takeIn σ x0 x1 x2 x4 = some r) : SpD mX3_takeIn rX3_takeIn [.ref x0, .int x1, .long x2, .int x4] (gx g σ) (none) (gx g r) := by
  refine sp_of miX3_takeIn (Nat.le_of_ble_eq_true rfl) ?_
  show J _ _ _ 0 0 _ 0 [(0, .ref x0), (1, .int x1), (2, .long x2), (4, .int x4)] []
  unfold f_X3_takeIn at hf
  refine j_aload_n (pc' := 1) rfl rfl rfl ?_
  refine j_aload_n (pc' := 2) rfl rfl rfl ?_
  refine j_iload (pc' := 4) rfl rfl rfl ?_
  obtain ⟨c4_1, hf⟩ := o_chk hf
  obtain ⟨r4, e4, hf⟩ := o_bind hf
  refine j_v1 (pc' := 7) rfl rfl miX3_meltedOn lnX3_22 (gx_pot c4_1) rfl (s_X3_meltedOn g σ x0 x4 _ e4) (h_rm_of rfl) (Nat.le_of_ble_eq_true rfl) (c' := 0) (s' := 0) rfl rfl ?_
  refine j_iload_n (pc' := 8) rfl rfl rfl ?_
  refine j_iadd (pc' := 9) rfl rfl ?_
  obtain ⟨σ9, e9, hf⟩ := o_let hf
  refine j_put (pc' := 12) rfl rfl flX3_19 (gx_pot c4_1) (lt_P c4_1) (Nat.le_of_ble_eq_true rfl) rfl rfl ?_
  rw [pots_7 c4_1]; rw [e9]
  refine j_aload_n (pc' := 13) rfl rfl rfl ?_
  refine j_iload (pc' := 15) rfl rfl rfl ?_
  obtain ⟨c15_2, hf⟩ := o_chk hf
  obtain ⟨σ15, e15, hf⟩ := o_let hf
  refine j_put (pc' := 18) rfl rfl flX3_16 (gx_pot c15_2) (lt_P c15_2) (Nat.le_of_ble_eq_true rfl) rfl rfl ?_
  rw [pots_8 c15_2]; rw [e15]
  refine j_aload_n (pc' := 19) rfl rfl rfl ?_
  refine j_dup (pc' := 20) rfl rfl rfl ?_
  obtain ⟨c20_3, hf⟩ := o_chk hf
  refine j_get (pc' := 23) (v := .long (σ15.2.1 140 (x0 - 23))) rfl rfl flX3_26 (gx_pot c20_3) (potF_0 _ _) ?_
  refine j_iload_n (pc' := 24) rfl rfl rfl ?_
  refine j_i2l (pc' := 25) rfl rfl ?_
  refine j_ladd (pc' := 26) rfl rfl ?_
  obtain ⟨σ26, e26, hf⟩ := o_let hf
  refine j_put (pc' := 29) rfl rfl flX3_26 (gx_pot c20_3) (lt_P c20_3) (Nat.le_of_ble_eq_true rfl) rfl rfl ?_
  rw [pots_0 c20_3]; rw [e26]
  refine j_aload_n (pc' := 30) rfl rfl rfl ?_
  refine j_dup (pc' := 31) rfl rfl rfl ?_
  obtain ⟨c31_4, hf⟩ := o_chk hf
  refine j_get (pc' := 34) (v := .long (σ26.2.1 141 (x0 - 23))) rfl rfl flX3_30 (gx_pot c31_4) (potF_1 _ _) ?_
  refine j_lload_n (pc' := 35) rfl rfl rfl ?_
  refine j_ladd (pc' := 36) rfl rfl ?_
  obtain ⟨σ36, e36, hf⟩ := o_let hf
  refine j_put (pc' := 39) rfl rfl flX3_30 (gx_pot c31_4) (lt_P c31_4) (Nat.le_of_ble_eq_true rfl) rfl rfl ?_
  rw [pots_1 c31_4]; rw [e36]
  refine j_aload_n (pc' := 40) rfl rfl rfl ?_
  refine j_iconst (v := 0) (pc' := 41) rfl rfl (by decide) ?_
  obtain ⟨c41_5, hf⟩ := o_chk hf
  obtain ⟨σ41, e41, hf⟩ := o_let hf
  refine j_put (pc' := 44) rfl rfl flX3_33 (gx_pot c41_5) (lt_P c41_5) (Nat.le_of_ble_eq_true rfl) rfl rfl ?_
  rw [pots_2 c41_5]; rw [e41]
  have hf := Option.some.inj hf; subst hf
  exact j_vret rfl rfl (Nat.le_of_ble_eq_true rfl) (Nat.le_of_ble_eq_true rfl) ⟨rfl, rfl⟩
def rX3_bringToLaw : Room := { frames := 0, cells := 0, slots := 0, locals := 0 }
def f_X3_bringToLaw (σ : xS) (x0 : Nat) : Option (Int64 × xS) := bif isP σ x0 then letm ((σ.2.1 141 (x0 - 23)) - (925 * (σ.2.1 140 (x0 - 23)))) fun y13 => if (lg_cmp y13 0) < 0 then letm (xl σ 144 (va_up (σ.2.1 144) (x0 - 23) ((σ.2.1 144 (x0 - 23)) + ((74 - y13) / 75)))) fun σ56 => bif isP σ56 x0 then letm (xl σ56 141 (va_up (σ56.2.1 141) (x0 - 23) ((σ56.2.1 141 (x0 - 23)) + (((74 - y13) / 75) * 1000)))) fun σ70 => bif isP σ70 x0 then letm (xl σ70 140 (va_up (σ70.2.1 140) (x0 - 23) ((σ70.2.1 140 (x0 - 23)) + ((74 - y13) / 75)))) fun σ80 => bif isP σ80 x0 then letm (xl σ80 145 (va_up (σ80.2.1 145) (x0 - 23) ((σ80.2.1 145 (x0 - 23)) + ((σ80.2.1 141 (x0 - 23)) - (925 * (σ80.2.1 140 (x0 - 23))))))) fun σ102 => bif isP σ102 x0 then letm (xl σ102 141 (va_up (σ102.2.1 141) (x0 - 23) (925 * (σ102.2.1 140 (x0 - 23))))) fun σ114 => bif isP σ114 x0 then letm (xi σ114 142 (va_up (σ114.1 142) (x0 - 23) 1)) fun σ119 => some (((74 - y13) / 75), σ119) else none else none else none else none else none else letm (xl σ 143 (va_up (σ.2.1 143) (x0 - 23) ((σ.2.1 143 (x0 - 23)) + (y13 / 925)))) fun σ33 => bif isP σ33 x0 then letm (xl σ33 140 (va_up (σ33.2.1 140) (x0 - 23) ((σ33.2.1 140 (x0 - 23)) + (y13 / 925)))) fun σ80 => bif isP σ80 x0 then letm (xl σ80 145 (va_up (σ80.2.1 145) (x0 - 23) ((σ80.2.1 145 (x0 - 23)) + ((σ80.2.1 141 (x0 - 23)) - (925 * (σ80.2.1 140 (x0 - 23))))))) fun σ102 => bif isP σ102 x0 then letm (xl σ102 141 (va_up (σ102.2.1 141) (x0 - 23) (925 * (σ102.2.1 140 (x0 - 23))))) fun σ114 => bif isP σ114 x0 then letm (xi σ114 142 (va_up (σ114.1 142) (x0 - 23) 1)) fun σ119 => some ((y13 / 925), σ119) else none else none else none else none else none
set_option maxHeartbeats 4000000 in
set_option maxRecDepth 100000 in
theorem s_X3_bringToLaw (g : hH) (σ : xS) (x0 : Nat) (r : (Int64 × xS)) (hf : f_X3_bringToLaw σ x0 = some r) : SpD mX3_bringToLaw rX3_bringToLaw [.ref x0] (gx g σ) (some (.long r.1)) (gx g r.2) := by
  refine sp_of miX3_bringToLaw (Nat.le_of_ble_eq_true rfl) ?_
  show J _ _ _ 0 0 _ 0 [(0, .ref x0)] []
  unfold f_X3_bringToLaw at hf
  refine j_aload_n (pc' := 1) rfl rfl rfl ?_
  obtain ⟨c1_1, hf⟩ := o_chk hf
  refine j_get (pc' := 4) (v := .long (σ.2.1 141 (x0 - 23))) rfl rfl flX3_30 (gx_pot c1_1) (potF_1 _ _) ?_
  refine j_ldc2 (pc' := 7) rfl rfl kcX3_37 ?_
  refine j_aload_n (pc' := 8) rfl rfl rfl ?_
  refine j_get (pc' := 11) (v := .long (σ.2.1 140 (x0 - 23))) rfl rfl flX3_26 (gx_pot c1_1) (potF_0 _ _) ?_
  refine j_lmul (pc' := 12) rfl rfl ?_
  refine j_lsub (pc' := 13) rfl rfl ?_
  obtain ⟨y13, e13, hf⟩ := o_let hf
  rw [e13]
  refine j_lstore_n (pc' := 14) (ls' := [(1, _), (0, _)]) rfl rfl (Nat.le_of_ble_eq_true rfl) rfl ?_
  refine j_lload_n (pc' := 15) rfl rfl rfl ?_
  refine j_lconst (v := 0) (pc' := 16) rfl rfl (by decide) ?_
  refine j_lcmp (pc' := 17) rfl rfl ?_
  refine j_if_lt (tgt := 39) (pc' := 20) rfl rfl rfl (fun c17 => ?_) (fun c17 => ?_)
  · rw [if_pos c17] at hf
    refine j_ldc2 (pc' := 42) rfl rfl kcX3_42 ?_
    refine j_lload_n (pc' := 43) rfl rfl rfl ?_
    refine j_lsub (pc' := 44) rfl rfl ?_
    refine j_ldc2 (pc' := 47) rfl rfl kcX3_44 ?_
    refine j_ldiv (pc' := 48) rfl rfl (by decide) ?_
    refine j_lstore_n (pc' := 49) (ls' := [(3, _), (1, _), (0, _)]) rfl rfl (Nat.le_of_ble_eq_true rfl) rfl ?_
    refine j_aload_n (pc' := 50) rfl rfl rfl ?_
    refine j_dup (pc' := 51) rfl rfl rfl ?_
    refine j_get (pc' := 54) (v := .long (σ.2.1 144 (x0 - 23))) rfl rfl flX3_46 (gx_pot c1_1) (potF_4 _ _) ?_
    refine j_lload_n (pc' := 55) rfl rfl rfl ?_
    refine j_ladd (pc' := 56) rfl rfl ?_
    obtain ⟨σ56, e56, hf⟩ := o_let hf
    refine j_put (pc' := 59) rfl rfl flX3_46 (gx_pot c1_1) (lt_P c1_1) (Nat.le_of_ble_eq_true rfl) rfl rfl ?_
    rw [pots_4 c1_1]; rw [e56]
    refine j_aload_n (pc' := 60) rfl rfl rfl ?_
    refine j_dup (pc' := 61) rfl rfl rfl ?_
    obtain ⟨c61_2, hf⟩ := o_chk hf
    refine j_get (pc' := 64) (v := .long (σ56.2.1 141 (x0 - 23))) rfl rfl flX3_30 (gx_pot c61_2) (potF_1 _ _) ?_
    refine j_lload_n (pc' := 65) rfl rfl rfl ?_
    refine j_ldc2 (pc' := 68) rfl rfl kcX3_49 ?_
    refine j_lmul (pc' := 69) rfl rfl ?_
    refine j_ladd (pc' := 70) rfl rfl ?_
    obtain ⟨σ70, e70, hf⟩ := o_let hf
    refine j_put (pc' := 73) rfl rfl flX3_30 (gx_pot c61_2) (lt_P c61_2) (Nat.le_of_ble_eq_true rfl) rfl rfl ?_
    rw [pots_1 c61_2]; rw [e70]
    refine j_aload_n (pc' := 74) rfl rfl rfl ?_
    refine j_dup (pc' := 75) rfl rfl rfl ?_
    obtain ⟨c75_3, hf⟩ := o_chk hf
    refine j_get (pc' := 78) (v := .long (σ70.2.1 140 (x0 - 23))) rfl rfl flX3_26 (gx_pot c75_3) (potF_0 _ _) ?_
    refine j_lload_n (pc' := 79) rfl rfl rfl ?_
    refine j_ladd (pc' := 80) rfl rfl ?_
    obtain ⟨σ80, e80, hf⟩ := o_let hf
    refine j_put (pc' := 83) rfl rfl flX3_26 (gx_pot c75_3) (lt_P c75_3) (Nat.le_of_ble_eq_true rfl) rfl rfl ?_
    rw [pots_0 c75_3]; rw [e80]
    refine j_aload_n (pc' := 84) rfl rfl rfl ?_
    refine j_dup (pc' := 85) rfl rfl rfl ?_
    obtain ⟨c85_4, hf⟩ := o_chk hf
    refine j_get (pc' := 88) (v := .long (σ80.2.1 145 (x0 - 23))) rfl rfl flX3_51 (gx_pot c85_4) (potF_5 _ _) ?_
    refine j_aload_n (pc' := 89) rfl rfl rfl ?_
    refine j_get (pc' := 92) (v := .long (σ80.2.1 141 (x0 - 23))) rfl rfl flX3_30 (gx_pot c85_4) (potF_1 _ _) ?_
    refine j_ldc2 (pc' := 95) rfl rfl kcX3_37 ?_
    refine j_aload_n (pc' := 96) rfl rfl rfl ?_
    refine j_get (pc' := 99) (v := .long (σ80.2.1 140 (x0 - 23))) rfl rfl flX3_26 (gx_pot c85_4) (potF_0 _ _) ?_
    refine j_lmul (pc' := 100) rfl rfl ?_
    refine j_lsub (pc' := 101) rfl rfl ?_
    refine j_ladd (pc' := 102) rfl rfl ?_
    obtain ⟨σ102, e102, hf⟩ := o_let hf
    refine j_put (pc' := 105) rfl rfl flX3_51 (gx_pot c85_4) (lt_P c85_4) (Nat.le_of_ble_eq_true rfl) rfl rfl ?_
    rw [pots_5 c85_4]; rw [e102]
    refine j_aload_n (pc' := 106) rfl rfl rfl ?_
    refine j_ldc2 (pc' := 109) rfl rfl kcX3_37 ?_
    refine j_aload_n (pc' := 110) rfl rfl rfl ?_
    obtain ⟨c110_5, hf⟩ := o_chk hf
    refine j_get (pc' := 113) (v := .long (σ102.2.1 140 (x0 - 23))) rfl rfl flX3_26 (gx_pot c110_5) (potF_0 _ _) ?_
    refine j_lmul (pc' := 114) rfl rfl ?_
    obtain ⟨σ114, e114, hf⟩ := o_let hf
    refine j_put (pc' := 117) rfl rfl flX3_30 (gx_pot c110_5) (lt_P c110_5) (Nat.le_of_ble_eq_true rfl) rfl rfl ?_
    rw [pots_1 c110_5]; rw [e114]
    refine j_aload_n (pc' := 118) rfl rfl rfl ?_
    refine j_iconst (v := 1) (pc' := 119) rfl rfl (by decide) ?_
    obtain ⟨c119_6, hf⟩ := o_chk hf
    obtain ⟨σ119, e119, hf⟩ := o_let hf
    refine j_put (pc' := 122) rfl rfl flX3_33 (gx_pot c119_6) (lt_P c119_6) (Nat.le_of_ble_eq_true rfl) rfl rfl ?_
    rw [pots_2 c119_6]; rw [e119]
    refine j_lload_n (pc' := 123) rfl rfl rfl ?_
    have hf := Option.some.inj hf; subst hf
    exact j_lret rfl rfl (Nat.le_of_ble_eq_true rfl) (Nat.le_of_ble_eq_true rfl) ⟨rfl, rfl⟩
  · rw [if_neg c17] at hf
    refine j_lload_n (pc' := 21) rfl rfl rfl ?_
    refine j_ldc2 (pc' := 24) rfl rfl kcX3_37 ?_
    refine j_ldiv (pc' := 25) rfl rfl (by decide) ?_
    refine j_lstore_n (pc' := 26) (ls' := [(3, _), (1, _), (0, _)]) rfl rfl (Nat.le_of_ble_eq_true rfl) rfl ?_
    refine j_aload_n (pc' := 27) rfl rfl rfl ?_
    refine j_dup (pc' := 28) rfl rfl rfl ?_
    refine j_get (pc' := 31) (v := .long (σ.2.1 143 (x0 - 23))) rfl rfl flX3_39 (gx_pot c1_1) (potF_3 _ _) ?_
    refine j_lload_n (pc' := 32) rfl rfl rfl ?_
    refine j_ladd (pc' := 33) rfl rfl ?_
    obtain ⟨σ33, e33, hf⟩ := o_let hf
    refine j_put (pc' := 36) rfl rfl flX3_39 (gx_pot c1_1) (lt_P c1_1) (Nat.le_of_ble_eq_true rfl) rfl rfl ?_
    rw [pots_3 c1_1]; rw [e33]
    refine j_goto (tgt := 73) rfl rfl ?_
    refine j_aload_n (pc' := 74) rfl rfl rfl ?_
    refine j_dup (pc' := 75) rfl rfl rfl ?_
    obtain ⟨c75_7, hf⟩ := o_chk hf
    refine j_get (pc' := 78) (v := .long (σ33.2.1 140 (x0 - 23))) rfl rfl flX3_26 (gx_pot c75_7) (potF_0 _ _) ?_
    refine j_lload_n (pc' := 79) rfl rfl rfl ?_
    refine j_ladd (pc' := 80) rfl rfl ?_
    obtain ⟨σ80, e80, hf⟩ := o_let hf
    refine j_put (pc' := 83) rfl rfl flX3_26 (gx_pot c75_7) (lt_P c75_7) (Nat.le_of_ble_eq_true rfl) rfl rfl ?_
    rw [pots_0 c75_7]; rw [e80]
    refine j_aload_n (pc' := 84) rfl rfl rfl ?_
    refine j_dup (pc' := 85) rfl rfl rfl ?_
    obtain ⟨c85_8, hf⟩ := o_chk hf
    refine j_get (pc' := 88) (v := .long (σ80.2.1 145 (x0 - 23))) rfl rfl flX3_51 (gx_pot c85_8) (potF_5 _ _) ?_
    refine j_aload_n (pc' := 89) rfl rfl rfl ?_
    refine j_get (pc' := 92) (v := .long (σ80.2.1 141 (x0 - 23))) rfl rfl flX3_30 (gx_pot c85_8) (potF_1 _ _) ?_
    refine j_ldc2 (pc' := 95) rfl rfl kcX3_37 ?_
    refine j_aload_n (pc' := 96) rfl rfl rfl ?_
    refine j_get (pc' := 99) (v := .long (σ80.2.1 140 (x0 - 23))) rfl rfl flX3_26 (gx_pot c85_8) (potF_0 _ _) ?_
    refine j_lmul (pc' := 100) rfl rfl ?_
    refine j_lsub (pc' := 101) rfl rfl ?_
    refine j_ladd (pc' := 102) rfl rfl ?_
    obtain ⟨σ102, e102, hf⟩ := o_let hf
    refine j_put (pc' := 105) rfl rfl flX3_51 (gx_pot c85_8) (lt_P c85_8) (Nat.le_of_ble_eq_true rfl) rfl rfl ?_
    rw [pots_5 c85_8]; rw [e102]
    refine j_aload_n (pc' := 106) rfl rfl rfl ?_
    refine j_ldc2 (pc' := 109) rfl rfl kcX3_37 ?_
    refine j_aload_n (pc' := 110) rfl rfl rfl ?_
    obtain ⟨c110_9, hf⟩ := o_chk hf
    refine j_get (pc' := 113) (v := .long (σ102.2.1 140 (x0 - 23))) rfl rfl flX3_26 (gx_pot c110_9) (potF_0 _ _) ?_
    refine j_lmul (pc' := 114) rfl rfl ?_
    obtain ⟨σ114, e114, hf⟩ := o_let hf
    refine j_put (pc' := 117) rfl rfl flX3_30 (gx_pot c110_9) (lt_P c110_9) (Nat.le_of_ble_eq_true rfl) rfl rfl ?_
    rw [pots_1 c110_9]; rw [e114]
    refine j_aload_n (pc' := 118) rfl rfl rfl ?_
    refine j_iconst (v := 1) (pc' := 119) rfl rfl (by decide) ?_
    obtain ⟨c119_10, hf⟩ := o_chk hf
    obtain ⟨σ119, e119, hf⟩ := o_let hf
    refine j_put (pc' := 122) rfl rfl flX3_33 (gx_pot c119_10) (lt_P c119_10) (Nat.le_of_ble_eq_true rfl) rfl rfl ?_
    rw [pots_2 c119_10]; rw [e119]
    refine j_lload_n (pc' := 123) rfl rfl rfl ?_
    have hf := Option.some.inj hf; subst hf
    exact j_lret rfl rfl (Nat.le_of_ble_eq_true rfl) (Nat.le_of_ble_eq_true rfl) ⟨rfl, rfl⟩
def rX3_pourOut : Room := { frames := 0, cells := 0, slots := 0, locals := 0 }
def f_X3_pourOut (σ : xS) (x0 : Nat) (x1 : Int32) : Option xS := bif isP σ x0 then letm (xl σ 140 (va_up (σ.2.1 140) (x0 - 23) ((σ.2.1 140 (x0 - 23)) - (x1).toInt64))) fun σ8 => bif isP σ8 x0 then letm (xl σ8 141 (va_up (σ8.2.1 141) (x0 - 23) ((σ8.2.1 141 (x0 - 23)) - (925 * (x1).toInt64)))) fun σ23 => some σ23 else none else none
set_option maxHeartbeats 4000000 in
set_option maxRecDepth 100000 in
theorem s_X3_pourOut (g : hH) (σ : xS) (x0 : Nat) (x1 : Int32) (r : xS) (hf : f_X3_pourOut σ x0 x1 = some r) : SpD mX3_pourOut rX3_pourOut [.ref x0, .int x1] (gx g σ) (none) (gx g r) := by
  refine sp_of miX3_pourOut (Nat.le_of_ble_eq_true rfl) ?_
  show J _ _ _ 0 0 _ 0 [(0, .ref x0), (1, .int x1)] []
  unfold f_X3_pourOut at hf
  refine j_aload_n (pc' := 1) rfl rfl rfl ?_
  refine j_dup (pc' := 2) rfl rfl rfl ?_
  obtain ⟨c2_1, hf⟩ := o_chk hf
  refine j_get (pc' := 5) (v := .long (σ.2.1 140 (x0 - 23))) rfl rfl flX3_26 (gx_pot c2_1) (potF_0 _ _) ?_
  refine j_iload_n (pc' := 6) rfl rfl rfl ?_
  refine j_i2l (pc' := 7) rfl rfl ?_
  refine j_lsub (pc' := 8) rfl rfl ?_
  obtain ⟨σ8, e8, hf⟩ := o_let hf
  refine j_put (pc' := 11) rfl rfl flX3_26 (gx_pot c2_1) (lt_P c2_1) (Nat.le_of_ble_eq_true rfl) rfl rfl ?_
  rw [pots_0 c2_1]; rw [e8]
  refine j_aload_n (pc' := 12) rfl rfl rfl ?_
  refine j_dup (pc' := 13) rfl rfl rfl ?_
  obtain ⟨c13_2, hf⟩ := o_chk hf
  refine j_get (pc' := 16) (v := .long (σ8.2.1 141 (x0 - 23))) rfl rfl flX3_30 (gx_pot c13_2) (potF_1 _ _) ?_
  refine j_ldc2 (pc' := 19) rfl rfl kcX3_37 ?_
  refine j_iload_n (pc' := 20) rfl rfl rfl ?_
  refine j_i2l (pc' := 21) rfl rfl ?_
  refine j_lmul (pc' := 22) rfl rfl ?_
  refine j_lsub (pc' := 23) rfl rfl ?_
  obtain ⟨σ23, e23, hf⟩ := o_let hf
  refine j_put (pc' := 26) rfl rfl flX3_30 (gx_pot c13_2) (lt_P c13_2) (Nat.le_of_ble_eq_true rfl) rfl rfl ?_
  rw [pots_1 c13_2]; rw [e23]
  have hf := Option.some.inj hf; subst hf
  exact j_vret rfl rfl (Nat.le_of_ble_eq_true rfl) (Nat.le_of_ble_eq_true rfl) ⟨rfl, rfl⟩
def rX6_isLotAsTold : Room := { frames := 1, cells := 0, slots := 0, locals := 22 }
def f_X6_isLotAsTold (σ : xS) (x0 : Int32) (x1 : Nat) (x2 : Int32) (x3 : Int32) (x4 : Int32) : Option Int32 := (f_X6_within x0 0 5).bind fun r3 => if r3 = 0 then some 0 else (f_X6_hasOwnFine x0).bind fun r13 => if r13 = 0 then (f_X6_within x4 0 0).bind fun r26 => if r26 = 0 then some 0 else if x0 = 3 then if x2 = 0 then (f_X6_within x3 1 100000).bind fun r47 => if r47 = 0 then some 0 else some 1 else some 0 else if x0 = 4 then bif isS σ x1 then (f_X6_within x2 1 1000).bind fun r83 => if r83 = 0 then some 0 else (f_X6_within x3 (x2 * (σ.1 121 (x1 - 2000))) (x2 * (σ.1 121 (x1 - 2000)))).bind fun r100 => if r100 = 0 then some 0 else some 1 else none else bif isS σ x1 then (f_X4_leastOfCoin σ x1 x0).bind fun r73 => (f_X6_within x2 1 1000).bind fun r83 => if r83 = 0 then some 0 else (f_X6_within x3 (x2 * r73) (x2 * (σ.1 121 (x1 - 2000)))).bind fun r100 => if r100 = 0 then some 0 else some 1 else none else (f_X6_within x4 0 1000).bind fun r26 => if r26 = 0 then some 0 else if x0 = 3 then if x2 = 0 then (f_X6_within x3 1 100000).bind fun r47 => if r47 = 0 then some 0 else some 1 else some 0 else if x0 = 4 then bif isS σ x1 then (f_X6_within x2 1 1000).bind fun r83 => if r83 = 0 then some 0 else (f_X6_within x3 (x2 * (σ.1 121 (x1 - 2000))) (x2 * (σ.1 121 (x1 - 2000)))).bind fun r100 => if r100 = 0 then some 0 else some 1 else none else bif isS σ x1 then (f_X4_leastOfCoin σ x1 x0).bind fun r73 => (f_X6_within x2 1 1000).bind fun r83 => if r83 = 0 then some 0 else (f_X6_within x3 (x2 * r73) (x2 * (σ.1 121 (x1 - 2000)))).bind fun r100 => if r100 = 0 then some 0 else some 1 else none
set_option maxHeartbeats 4000000 in
set_option maxRecDepth 100000 in
theorem s_X6_isLotAsTold (g : hH) (σ : xS) (x0 : Int32) (x1 : Nat) (x2 : Int32) (x3 : Int32) (x4 : Int32) (r : Int32) (hf : f_X6_isLotAsTold σ x0 x1 x2 x3 x4 = some r) : SpD mX6_isLotAsTold rX6_isLotAsTold [.int x0, .ref x1, .int x2, .int x3, .int x4] (gx g σ) (some (.int r)) (gx g σ) := by
  refine sp_of miX6_isLotAsTold (Nat.le_of_ble_eq_true rfl) ?_
  show J _ _ _ 0 0 _ 0 [(0, .int x0), (1, .ref x1), (2, .int x2), (3, .int x3), (4, .int x4)] []
  unfold f_X6_isLotAsTold at hf
  refine j_iload_n (pc' := 1) rfl rfl rfl ?_
  refine j_iconst (v := 0) (pc' := 2) rfl rfl (by decide) ?_
  refine j_iconst (v := 5) (pc' := 3) rfl rfl (by decide) ?_
  obtain ⟨r3, e3, hf⟩ := o_bind hf
  refine j_s3 (pc' := 6) rfl rfl miX6_within lnX6_74 (s_X6_within (gx g σ) x0 0 5 _ e3) (h_rm_of rfl) (Nat.le_of_ble_eq_true rfl) (c' := 0) (s' := 0) rfl rfl ?_
  refine j_if_eq (tgt := 32) (pc' := 9) rfl rfl rfl (fun c6 => ?_) (fun c6 => ?_)
  · rw [if_pos c6] at hf
    refine j_iconst (v := 0) (pc' := 33) rfl rfl (by decide) ?_
    have hf := Option.some.inj hf; subst hf
    exact j_zret rfl rfl (by decide) (Nat.le_of_ble_eq_true rfl) (Nat.le_of_ble_eq_true rfl) ⟨rfl, rfl⟩
  · rw [if_neg c6] at hf
    refine j_iload (pc' := 11) rfl rfl rfl ?_
    refine j_iconst (v := 0) (pc' := 12) rfl rfl (by decide) ?_
    refine j_iload_n (pc' := 13) rfl rfl rfl ?_
    obtain ⟨r13, e13, hf⟩ := o_bind hf
    refine j_s1 (pc' := 16) rfl rfl miX6_hasOwnFine lnX6_100 (s_X6_hasOwnFine (gx g σ) x0 _ e13) (h_rm_of rfl) (Nat.le_of_ble_eq_true rfl) (c' := 0) (s' := 0) rfl rfl ?_
    refine j_if_eq (tgt := 25) (pc' := 19) rfl rfl rfl (fun c16 => ?_) (fun c16 => ?_)
    · rw [if_pos c16] at hf
      refine j_iconst (v := 0) (pc' := 26) rfl rfl (by decide) ?_
      obtain ⟨r26, e26, hf⟩ := o_bind hf
      refine j_s3 (pc' := 29) rfl rfl miX6_within lnX6_74 (s_X6_within (gx g σ) x4 0 0 _ e26) (h_rm_of rfl) (Nat.le_of_ble_eq_true rfl) (c' := 0) (s' := 0) rfl rfl ?_
      refine j_if_ne (tgt := 34) (pc' := 32) rfl rfl rfl (fun c29 => ?_) (fun c29 => ?_)
      · rw [if_neg c29] at hf
        refine j_iload_n (pc' := 35) rfl rfl rfl ?_
        refine j_iconst (v := 3) (pc' := 36) rfl rfl (by decide) ?_
        refine j_icmp_ne (tgt := 59) (pc' := 39) rfl rfl rfl (fun c36 => ?_) (fun c36 => ?_)
        · rw [if_neg c36] at hf
          refine j_iload_n (pc' := 60) rfl rfl rfl ?_
          refine j_iconst (v := 4) (pc' := 61) rfl rfl (by decide) ?_
          refine j_icmp_ne (tgt := 71) (pc' := 64) rfl rfl rfl (fun c61 => ?_) (fun c61 => ?_)
          · rw [if_neg c61] at hf
            refine j_aload_n (pc' := 72) rfl rfl rfl ?_
            refine j_iload_n (pc' := 73) rfl rfl rfl ?_
            obtain ⟨c73_1, hf⟩ := o_chk hf
            obtain ⟨r73, e73, hf⟩ := o_bind hf
            refine j_v1 (pc' := 76) rfl rfl miX4_leastOfCoin lnX6_317 (gx_sort c73_1) rfl (s_X4_leastOfCoin g σ x1 x0 _ e73) (h_rm_of rfl) (Nat.le_of_ble_eq_true rfl) (c' := 0) (s' := 0) rfl rfl ?_
            refine j_istore (pc' := 78) (ls' := [(5, _), (0, _), (1, _), (2, _), (3, _), (4, _)]) rfl rfl (Nat.le_of_ble_eq_true rfl) rfl ?_
            refine j_iload_n (pc' := 79) rfl rfl rfl ?_
            refine j_iconst (v := 1) (pc' := 80) rfl rfl (by decide) ?_
            refine j_sipush (v := 1000) (pc' := 83) rfl rfl (by decide) ?_
            obtain ⟨r83, e83, hf⟩ := o_bind hf
            refine j_s3 (pc' := 86) rfl rfl miX6_within lnX6_74 (s_X6_within (gx g σ) x2 1 1000 _ e83) (h_rm_of rfl) (Nat.le_of_ble_eq_true rfl) (c' := 0) (s' := 0) rfl rfl ?_
            refine j_if_eq (tgt := 110) (pc' := 89) rfl rfl rfl (fun c86 => ?_) (fun c86 => ?_)
            · rw [if_pos c86] at hf
              refine j_iconst (v := 0) (pc' := 111) rfl rfl (by decide) ?_
              have hf := Option.some.inj hf; subst hf
              exact j_zret rfl rfl (by decide) (Nat.le_of_ble_eq_true rfl) (Nat.le_of_ble_eq_true rfl) ⟨rfl, rfl⟩
            · rw [if_neg c86] at hf
              refine j_iload_n (pc' := 90) rfl rfl rfl ?_
              refine j_iload_n (pc' := 91) rfl rfl rfl ?_
              refine j_iload (pc' := 93) rfl rfl rfl ?_
              refine j_imul (pc' := 94) rfl rfl ?_
              refine j_iload_n (pc' := 95) rfl rfl rfl ?_
              refine j_aload_n (pc' := 96) rfl rfl rfl ?_
              refine j_get (pc' := 99) (v := .int (σ.1 121 (x1 - 2000))) rfl rfl flX6_127 (gx_sort c73_1) (sortF_1 _ _) ?_
              refine j_imul (pc' := 100) rfl rfl ?_
              obtain ⟨r100, e100, hf⟩ := o_bind hf
              refine j_s3 (pc' := 103) rfl rfl miX6_within lnX6_74 (s_X6_within (gx g σ) x3 (x2 * r73) (x2 * (σ.1 121 (x1 - 2000))) _ e100) (h_rm_of rfl) (Nat.le_of_ble_eq_true rfl) (c' := 0) (s' := 0) rfl rfl ?_
              refine j_if_eq (tgt := 110) (pc' := 106) rfl rfl rfl (fun c103 => ?_) (fun c103 => ?_)
              · rw [if_pos c103] at hf
                refine j_iconst (v := 0) (pc' := 111) rfl rfl (by decide) ?_
                have hf := Option.some.inj hf; subst hf
                exact j_zret rfl rfl (by decide) (Nat.le_of_ble_eq_true rfl) (Nat.le_of_ble_eq_true rfl) ⟨rfl, rfl⟩
              · rw [if_neg c103] at hf
                refine j_iconst (v := 1) (pc' := 107) rfl rfl (by decide) ?_
                refine j_goto (tgt := 111) rfl rfl ?_
                have hf := Option.some.inj hf; subst hf
                exact j_zret rfl rfl (by decide) (Nat.le_of_ble_eq_true rfl) (Nat.le_of_ble_eq_true rfl) ⟨rfl, rfl⟩
          · rw [if_pos c61] at hf
            refine j_aload_n (pc' := 65) rfl rfl rfl ?_
            obtain ⟨c65_2, hf⟩ := o_chk hf
            refine j_get (pc' := 68) (v := .int (σ.1 121 (x1 - 2000))) rfl rfl flX6_127 (gx_sort c65_2) (sortF_1 _ _) ?_
            refine j_goto (tgt := 76) rfl rfl ?_
            refine j_istore (pc' := 78) (ls' := [(5, _), (0, _), (1, _), (2, _), (3, _), (4, _)]) rfl rfl (Nat.le_of_ble_eq_true rfl) rfl ?_
            refine j_iload_n (pc' := 79) rfl rfl rfl ?_
            refine j_iconst (v := 1) (pc' := 80) rfl rfl (by decide) ?_
            refine j_sipush (v := 1000) (pc' := 83) rfl rfl (by decide) ?_
            obtain ⟨r83, e83, hf⟩ := o_bind hf
            refine j_s3 (pc' := 86) rfl rfl miX6_within lnX6_74 (s_X6_within (gx g σ) x2 1 1000 _ e83) (h_rm_of rfl) (Nat.le_of_ble_eq_true rfl) (c' := 0) (s' := 0) rfl rfl ?_
            refine j_if_eq (tgt := 110) (pc' := 89) rfl rfl rfl (fun c86 => ?_) (fun c86 => ?_)
            · rw [if_pos c86] at hf
              refine j_iconst (v := 0) (pc' := 111) rfl rfl (by decide) ?_
              have hf := Option.some.inj hf; subst hf
              exact j_zret rfl rfl (by decide) (Nat.le_of_ble_eq_true rfl) (Nat.le_of_ble_eq_true rfl) ⟨rfl, rfl⟩
            · rw [if_neg c86] at hf
              refine j_iload_n (pc' := 90) rfl rfl rfl ?_
              refine j_iload_n (pc' := 91) rfl rfl rfl ?_
              refine j_iload (pc' := 93) rfl rfl rfl ?_
              refine j_imul (pc' := 94) rfl rfl ?_
              refine j_iload_n (pc' := 95) rfl rfl rfl ?_
              refine j_aload_n (pc' := 96) rfl rfl rfl ?_
              refine j_get (pc' := 99) (v := .int (σ.1 121 (x1 - 2000))) rfl rfl flX6_127 (gx_sort c65_2) (sortF_1 _ _) ?_
              refine j_imul (pc' := 100) rfl rfl ?_
              obtain ⟨r100, e100, hf⟩ := o_bind hf
              refine j_s3 (pc' := 103) rfl rfl miX6_within lnX6_74 (s_X6_within (gx g σ) x3 (x2 * (σ.1 121 (x1 - 2000))) (x2 * (σ.1 121 (x1 - 2000))) _ e100) (h_rm_of rfl) (Nat.le_of_ble_eq_true rfl) (c' := 0) (s' := 0) rfl rfl ?_
              refine j_if_eq (tgt := 110) (pc' := 106) rfl rfl rfl (fun c103 => ?_) (fun c103 => ?_)
              · rw [if_pos c103] at hf
                refine j_iconst (v := 0) (pc' := 111) rfl rfl (by decide) ?_
                have hf := Option.some.inj hf; subst hf
                exact j_zret rfl rfl (by decide) (Nat.le_of_ble_eq_true rfl) (Nat.le_of_ble_eq_true rfl) ⟨rfl, rfl⟩
              · rw [if_neg c103] at hf
                refine j_iconst (v := 1) (pc' := 107) rfl rfl (by decide) ?_
                refine j_goto (tgt := 111) rfl rfl ?_
                have hf := Option.some.inj hf; subst hf
                exact j_zret rfl rfl (by decide) (Nat.le_of_ble_eq_true rfl) (Nat.le_of_ble_eq_true rfl) ⟨rfl, rfl⟩
        · rw [if_pos c36] at hf
          refine j_iload_n (pc' := 40) rfl rfl rfl ?_
          refine j_if_ne (tgt := 57) (pc' := 43) rfl rfl rfl (fun c40 => ?_) (fun c40 => ?_)
          · rw [if_neg c40] at hf
            refine j_iconst (v := 0) (pc' := 58) rfl rfl (by decide) ?_
            have hf := Option.some.inj hf; subst hf
            exact j_zret rfl rfl (by decide) (Nat.le_of_ble_eq_true rfl) (Nat.le_of_ble_eq_true rfl) ⟨rfl, rfl⟩
          · rw [if_pos c40] at hf
            refine j_iload_n (pc' := 44) rfl rfl rfl ?_
            refine j_iconst (v := 1) (pc' := 45) rfl rfl (by decide) ?_
            refine j_ldc (pc' := 47) rfl rfl kcX6_236 ?_
            obtain ⟨r47, e47, hf⟩ := o_bind hf
            refine j_s3 (pc' := 50) rfl rfl miX6_within lnX6_74 (s_X6_within (gx g σ) x3 1 100000 _ e47) (h_rm_of rfl) (Nat.le_of_ble_eq_true rfl) (c' := 0) (s' := 0) rfl rfl ?_
            refine j_if_eq (tgt := 57) (pc' := 53) rfl rfl rfl (fun c50 => ?_) (fun c50 => ?_)
            · rw [if_pos c50] at hf
              refine j_iconst (v := 0) (pc' := 58) rfl rfl (by decide) ?_
              have hf := Option.some.inj hf; subst hf
              exact j_zret rfl rfl (by decide) (Nat.le_of_ble_eq_true rfl) (Nat.le_of_ble_eq_true rfl) ⟨rfl, rfl⟩
            · rw [if_neg c50] at hf
              refine j_iconst (v := 1) (pc' := 54) rfl rfl (by decide) ?_
              refine j_goto (tgt := 58) rfl rfl ?_
              have hf := Option.some.inj hf; subst hf
              exact j_zret rfl rfl (by decide) (Nat.le_of_ble_eq_true rfl) (Nat.le_of_ble_eq_true rfl) ⟨rfl, rfl⟩
      · rw [if_pos c29] at hf
        refine j_iconst (v := 0) (pc' := 33) rfl rfl (by decide) ?_
        have hf := Option.some.inj hf; subst hf
        exact j_zret rfl rfl (by decide) (Nat.le_of_ble_eq_true rfl) (Nat.le_of_ble_eq_true rfl) ⟨rfl, rfl⟩
    · rw [if_neg c16] at hf
      refine j_sipush (v := 1000) (pc' := 22) rfl rfl (by decide) ?_
      refine j_goto (tgt := 26) rfl rfl ?_
      obtain ⟨r26, e26, hf⟩ := o_bind hf
      refine j_s3 (pc' := 29) rfl rfl miX6_within lnX6_74 (s_X6_within (gx g σ) x4 0 1000 _ e26) (h_rm_of rfl) (Nat.le_of_ble_eq_true rfl) (c' := 0) (s' := 0) rfl rfl ?_
      refine j_if_ne (tgt := 34) (pc' := 32) rfl rfl rfl (fun c29 => ?_) (fun c29 => ?_)
      · rw [if_neg c29] at hf
        refine j_iload_n (pc' := 35) rfl rfl rfl ?_
        refine j_iconst (v := 3) (pc' := 36) rfl rfl (by decide) ?_
        refine j_icmp_ne (tgt := 59) (pc' := 39) rfl rfl rfl (fun c36 => ?_) (fun c36 => ?_)
        · rw [if_neg c36] at hf
          refine j_iload_n (pc' := 60) rfl rfl rfl ?_
          refine j_iconst (v := 4) (pc' := 61) rfl rfl (by decide) ?_
          refine j_icmp_ne (tgt := 71) (pc' := 64) rfl rfl rfl (fun c61 => ?_) (fun c61 => ?_)
          · rw [if_neg c61] at hf
            refine j_aload_n (pc' := 72) rfl rfl rfl ?_
            refine j_iload_n (pc' := 73) rfl rfl rfl ?_
            obtain ⟨c73_3, hf⟩ := o_chk hf
            obtain ⟨r73, e73, hf⟩ := o_bind hf
            refine j_v1 (pc' := 76) rfl rfl miX4_leastOfCoin lnX6_317 (gx_sort c73_3) rfl (s_X4_leastOfCoin g σ x1 x0 _ e73) (h_rm_of rfl) (Nat.le_of_ble_eq_true rfl) (c' := 0) (s' := 0) rfl rfl ?_
            refine j_istore (pc' := 78) (ls' := [(5, _), (0, _), (1, _), (2, _), (3, _), (4, _)]) rfl rfl (Nat.le_of_ble_eq_true rfl) rfl ?_
            refine j_iload_n (pc' := 79) rfl rfl rfl ?_
            refine j_iconst (v := 1) (pc' := 80) rfl rfl (by decide) ?_
            refine j_sipush (v := 1000) (pc' := 83) rfl rfl (by decide) ?_
            obtain ⟨r83, e83, hf⟩ := o_bind hf
            refine j_s3 (pc' := 86) rfl rfl miX6_within lnX6_74 (s_X6_within (gx g σ) x2 1 1000 _ e83) (h_rm_of rfl) (Nat.le_of_ble_eq_true rfl) (c' := 0) (s' := 0) rfl rfl ?_
            refine j_if_eq (tgt := 110) (pc' := 89) rfl rfl rfl (fun c86 => ?_) (fun c86 => ?_)
            · rw [if_pos c86] at hf
              refine j_iconst (v := 0) (pc' := 111) rfl rfl (by decide) ?_
              have hf := Option.some.inj hf; subst hf
              exact j_zret rfl rfl (by decide) (Nat.le_of_ble_eq_true rfl) (Nat.le_of_ble_eq_true rfl) ⟨rfl, rfl⟩
            · rw [if_neg c86] at hf
              refine j_iload_n (pc' := 90) rfl rfl rfl ?_
              refine j_iload_n (pc' := 91) rfl rfl rfl ?_
              refine j_iload (pc' := 93) rfl rfl rfl ?_
              refine j_imul (pc' := 94) rfl rfl ?_
              refine j_iload_n (pc' := 95) rfl rfl rfl ?_
              refine j_aload_n (pc' := 96) rfl rfl rfl ?_
              refine j_get (pc' := 99) (v := .int (σ.1 121 (x1 - 2000))) rfl rfl flX6_127 (gx_sort c73_3) (sortF_1 _ _) ?_
              refine j_imul (pc' := 100) rfl rfl ?_
              obtain ⟨r100, e100, hf⟩ := o_bind hf
              refine j_s3 (pc' := 103) rfl rfl miX6_within lnX6_74 (s_X6_within (gx g σ) x3 (x2 * r73) (x2 * (σ.1 121 (x1 - 2000))) _ e100) (h_rm_of rfl) (Nat.le_of_ble_eq_true rfl) (c' := 0) (s' := 0) rfl rfl ?_
              refine j_if_eq (tgt := 110) (pc' := 106) rfl rfl rfl (fun c103 => ?_) (fun c103 => ?_)
              · rw [if_pos c103] at hf
                refine j_iconst (v := 0) (pc' := 111) rfl rfl (by decide) ?_
                have hf := Option.some.inj hf; subst hf
                exact j_zret rfl rfl (by decide) (Nat.le_of_ble_eq_true rfl) (Nat.le_of_ble_eq_true rfl) ⟨rfl, rfl⟩
              · rw [if_neg c103] at hf
                refine j_iconst (v := 1) (pc' := 107) rfl rfl (by decide) ?_
                refine j_goto (tgt := 111) rfl rfl ?_
                have hf := Option.some.inj hf; subst hf
                exact j_zret rfl rfl (by decide) (Nat.le_of_ble_eq_true rfl) (Nat.le_of_ble_eq_true rfl) ⟨rfl, rfl⟩
          · rw [if_pos c61] at hf
            refine j_aload_n (pc' := 65) rfl rfl rfl ?_
            obtain ⟨c65_4, hf⟩ := o_chk hf
            refine j_get (pc' := 68) (v := .int (σ.1 121 (x1 - 2000))) rfl rfl flX6_127 (gx_sort c65_4) (sortF_1 _ _) ?_
            refine j_goto (tgt := 76) rfl rfl ?_
            refine j_istore (pc' := 78) (ls' := [(5, _), (0, _), (1, _), (2, _), (3, _), (4, _)]) rfl rfl (Nat.le_of_ble_eq_true rfl) rfl ?_
            refine j_iload_n (pc' := 79) rfl rfl rfl ?_
            refine j_iconst (v := 1) (pc' := 80) rfl rfl (by decide) ?_
            refine j_sipush (v := 1000) (pc' := 83) rfl rfl (by decide) ?_
            obtain ⟨r83, e83, hf⟩ := o_bind hf
            refine j_s3 (pc' := 86) rfl rfl miX6_within lnX6_74 (s_X6_within (gx g σ) x2 1 1000 _ e83) (h_rm_of rfl) (Nat.le_of_ble_eq_true rfl) (c' := 0) (s' := 0) rfl rfl ?_
            refine j_if_eq (tgt := 110) (pc' := 89) rfl rfl rfl (fun c86 => ?_) (fun c86 => ?_)
            · rw [if_pos c86] at hf
              refine j_iconst (v := 0) (pc' := 111) rfl rfl (by decide) ?_
              have hf := Option.some.inj hf; subst hf
              exact j_zret rfl rfl (by decide) (Nat.le_of_ble_eq_true rfl) (Nat.le_of_ble_eq_true rfl) ⟨rfl, rfl⟩
            · rw [if_neg c86] at hf
              refine j_iload_n (pc' := 90) rfl rfl rfl ?_
              refine j_iload_n (pc' := 91) rfl rfl rfl ?_
              refine j_iload (pc' := 93) rfl rfl rfl ?_
              refine j_imul (pc' := 94) rfl rfl ?_
              refine j_iload_n (pc' := 95) rfl rfl rfl ?_
              refine j_aload_n (pc' := 96) rfl rfl rfl ?_
              refine j_get (pc' := 99) (v := .int (σ.1 121 (x1 - 2000))) rfl rfl flX6_127 (gx_sort c65_4) (sortF_1 _ _) ?_
              refine j_imul (pc' := 100) rfl rfl ?_
              obtain ⟨r100, e100, hf⟩ := o_bind hf
              refine j_s3 (pc' := 103) rfl rfl miX6_within lnX6_74 (s_X6_within (gx g σ) x3 (x2 * (σ.1 121 (x1 - 2000))) (x2 * (σ.1 121 (x1 - 2000))) _ e100) (h_rm_of rfl) (Nat.le_of_ble_eq_true rfl) (c' := 0) (s' := 0) rfl rfl ?_
              refine j_if_eq (tgt := 110) (pc' := 106) rfl rfl rfl (fun c103 => ?_) (fun c103 => ?_)
              · rw [if_pos c103] at hf
                refine j_iconst (v := 0) (pc' := 111) rfl rfl (by decide) ?_
                have hf := Option.some.inj hf; subst hf
                exact j_zret rfl rfl (by decide) (Nat.le_of_ble_eq_true rfl) (Nat.le_of_ble_eq_true rfl) ⟨rfl, rfl⟩
              · rw [if_neg c103] at hf
                refine j_iconst (v := 1) (pc' := 107) rfl rfl (by decide) ?_
                refine j_goto (tgt := 111) rfl rfl ?_
                have hf := Option.some.inj hf; subst hf
                exact j_zret rfl rfl (by decide) (Nat.le_of_ble_eq_true rfl) (Nat.le_of_ble_eq_true rfl) ⟨rfl, rfl⟩
        · rw [if_pos c36] at hf
          refine j_iload_n (pc' := 40) rfl rfl rfl ?_
          refine j_if_ne (tgt := 57) (pc' := 43) rfl rfl rfl (fun c40 => ?_) (fun c40 => ?_)
          · rw [if_neg c40] at hf
            refine j_iconst (v := 0) (pc' := 58) rfl rfl (by decide) ?_
            have hf := Option.some.inj hf; subst hf
            exact j_zret rfl rfl (by decide) (Nat.le_of_ble_eq_true rfl) (Nat.le_of_ble_eq_true rfl) ⟨rfl, rfl⟩
          · rw [if_pos c40] at hf
            refine j_iload_n (pc' := 44) rfl rfl rfl ?_
            refine j_iconst (v := 1) (pc' := 45) rfl rfl (by decide) ?_
            refine j_ldc (pc' := 47) rfl rfl kcX6_236 ?_
            obtain ⟨r47, e47, hf⟩ := o_bind hf
            refine j_s3 (pc' := 50) rfl rfl miX6_within lnX6_74 (s_X6_within (gx g σ) x3 1 100000 _ e47) (h_rm_of rfl) (Nat.le_of_ble_eq_true rfl) (c' := 0) (s' := 0) rfl rfl ?_
            refine j_if_eq (tgt := 57) (pc' := 53) rfl rfl rfl (fun c50 => ?_) (fun c50 => ?_)
            · rw [if_pos c50] at hf
              refine j_iconst (v := 0) (pc' := 58) rfl rfl (by decide) ?_
              have hf := Option.some.inj hf; subst hf
              exact j_zret rfl rfl (by decide) (Nat.le_of_ble_eq_true rfl) (Nat.le_of_ble_eq_true rfl) ⟨rfl, rfl⟩
            · rw [if_neg c50] at hf
              refine j_iconst (v := 1) (pc' := 54) rfl rfl (by decide) ?_
              refine j_goto (tgt := 58) rfl rfl ?_
              have hf := Option.some.inj hf; subst hf
              exact j_zret rfl rfl (by decide) (Nat.le_of_ble_eq_true rfl) (Nat.le_of_ble_eq_true rfl) ⟨rfl, rfl⟩
      · rw [if_pos c29] at hf
        refine j_iconst (v := 0) (pc' := 33) rfl rfl (by decide) ?_
        have hf := Option.some.inj hf; subst hf
        exact j_zret rfl rfl (by decide) (Nat.le_of_ble_eq_true rfl) (Nat.le_of_ble_eq_true rfl) ⟨rfl, rfl⟩
end CLASS0
