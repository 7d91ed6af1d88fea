/-! new arrays of an order -/
section XOARR
def newoa (b cnt : Nat) (f : Nat → Int32) (σ : xS) : xS := (va_up σ.1 (b + σ.2.2.2 cnt) f, σ.2.1, σ.2.2.1, va_up σ.2.2.2 cnt (σ.2.2.2 cnt + 1))
theorem newoa_c (b cnt : Nat) (f : Nat → Int32) (σ : xS) (j : Nat) : (newoa b cnt f σ).2.2.2 j = if j = cnt then σ.2.2.2 cnt + 1 else σ.2.2.2 j := rfl
theorem newoa_i (b cnt : Nat) (f : Nat → Int32) (σ : xS) (j : Nat) : (newoa b cnt f σ).1 j = if j = b + σ.2.2.2 cnt then f else σ.1 j := rfl
theorem gx_newtold {g : hH} {σ : xS} (c : σ.2.2.2 6 < 200) (f : Nat → Int32) : gx g σ (3200 + σ.2.2.2 6) = none ∧ hup (gx g σ) (3200 + σ.2.2.2 6) (.inl (.int, 6, .inl f)) = gx g (newoa 1000 6 f σ) := by
  have e : (newoa 1000 6 f σ).2.2.2 6 = σ.2.2.2 6 + 1 := by rw [newoa_c, if_pos rfl]
  obtain ⟨a1, a2, a3, a4⟩ := x_low (σ := σ) (τ := newoa 1000 6 f σ) (fun j hj => by rw [newoa_i, if_neg (by omega)]) rfl rfl
  refine ⟨by rw [gx_4 (by omega) (by omega), if_neg (by omega)], h_up_eq ?_ (fun i hi => gx_eq2 (fun _ => by rw [a1]) (fun z1 z2 => by rw [(show (newoa 1000 6 f σ).2.2.2 1 = σ.2.2.2 1 from by rw [newoa_c, if_neg (by decide)]), a2]) (fun z1 z2 => by rw [(show (newoa 1000 6 f σ).2.2.2 0 = σ.2.2.2 0 from by rw [newoa_c, if_neg (by decide)]), a3]) (fun z1 z2 => by rw [(show (newoa 1000 6 f σ).2.2.2 2 = σ.2.2.2 2 from by rw [newoa_c, if_neg (by decide)]), a4]) (fun z1 z2 => ?_) (fun z1 z2 => by rw [(show (newoa 1000 6 f σ).2.2.2 7 = σ.2.2.2 7 from by rw [newoa_c, if_neg (by decide)]), show (newoa 1000 6 f σ).1 (2000 + (i - 3400)) = σ.1 (2000 + (i - 3400)) from by rw [newoa_i, if_neg (by omega)]]) (fun z1 z2 => by rw [(show (newoa 1000 6 f σ).2.2.2 8 = σ.2.2.2 8 from by rw [newoa_c, if_neg (by decide)]), show (newoa 1000 6 f σ).1 (3000 + (i - 3600)) = σ.1 (3000 + (i - 3600)) from by rw [newoa_i, if_neg (by omega)]]))⟩
  · rw [gx_4 (by omega) (by omega), e, if_pos (by omega), Nat.add_sub_cancel_left]
    rw [show (newoa 1000 6 f σ).1 (1000 + σ.2.2.2 6) = f from by rw [newoa_i, if_pos rfl]]
  · rw [e]
    by_cases z : i - 3200 < σ.2.2.2 6
    · rw [if_pos z, if_pos (by omega), show (newoa 1000 6 f σ).1 (1000 + (i - 3200)) = σ.1 (1000 + (i - 3200)) from by rw [newoa_i, if_neg (by omega)]]
    · rw [if_neg z, if_neg (by omega)]
theorem gx_newpence {g : hH} {σ : xS} (c : σ.2.2.2 7 < 200) (f : Nat → Int32) : gx g σ (3400 + σ.2.2.2 7) = none ∧ hup (gx g σ) (3400 + σ.2.2.2 7) (.inl (.int, 8, .inl f)) = gx g (newoa 2000 7 f σ) := by
  have e : (newoa 2000 7 f σ).2.2.2 7 = σ.2.2.2 7 + 1 := by rw [newoa_c, if_pos rfl]
  obtain ⟨a1, a2, a3, a4⟩ := x_low (σ := σ) (τ := newoa 2000 7 f σ) (fun j hj => by rw [newoa_i, if_neg (by omega)]) rfl rfl
  refine ⟨by rw [gx_5 (by omega) (by omega), if_neg (by omega)], h_up_eq ?_ (fun i hi => gx_eq2 (fun _ => by rw [a1]) (fun z1 z2 => by rw [(show (newoa 2000 7 f σ).2.2.2 1 = σ.2.2.2 1 from by rw [newoa_c, if_neg (by decide)]), a2]) (fun z1 z2 => by rw [(show (newoa 2000 7 f σ).2.2.2 0 = σ.2.2.2 0 from by rw [newoa_c, if_neg (by decide)]), a3]) (fun z1 z2 => by rw [(show (newoa 2000 7 f σ).2.2.2 2 = σ.2.2.2 2 from by rw [newoa_c, if_neg (by decide)]), a4]) (fun z1 z2 => by rw [(show (newoa 2000 7 f σ).2.2.2 6 = σ.2.2.2 6 from by rw [newoa_c, if_neg (by decide)]), show (newoa 2000 7 f σ).1 (1000 + (i - 3200)) = σ.1 (1000 + (i - 3200)) from by rw [newoa_i, if_neg (by omega)]]) (fun z1 z2 => ?_) (fun z1 z2 => by rw [(show (newoa 2000 7 f σ).2.2.2 8 = σ.2.2.2 8 from by rw [newoa_c, if_neg (by decide)]), show (newoa 2000 7 f σ).1 (3000 + (i - 3600)) = σ.1 (3000 + (i - 3600)) from by rw [newoa_i, if_neg (by omega)]]))⟩
  · rw [gx_5 (by omega) (by omega), e, if_pos (by omega), Nat.add_sub_cancel_left]
    rw [show (newoa 2000 7 f σ).1 (2000 + σ.2.2.2 7) = f from by rw [newoa_i, if_pos rfl]]
  · rw [e]
    by_cases z : i - 3400 < σ.2.2.2 7
    · rw [if_pos z, if_pos (by omega), show (newoa 2000 7 f σ).1 (2000 + (i - 3400)) = σ.1 (2000 + (i - 3400)) from by rw [newoa_i, if_neg (by omega)]]
    · rw [if_neg z, if_neg (by omega)]
theorem gx_newgrains {g : hH} {σ : xS} (c : σ.2.2.2 8 < 200) (f : Nat → Int32) : gx g σ (3600 + σ.2.2.2 8) = none ∧ hup (gx g σ) (3600 + σ.2.2.2 8) (.inl (.int, 8, .inl f)) = gx g (newoa 3000 8 f σ) := by
  have e : (newoa 3000 8 f σ).2.2.2 8 = σ.2.2.2 8 + 1 := by rw [newoa_c, if_pos rfl]
  obtain ⟨a1, a2, a3, a4⟩ := x_low (σ := σ) (τ := newoa 3000 8 f σ) (fun j hj => by rw [newoa_i, if_neg (by omega)]) rfl rfl
  refine ⟨by rw [gx_6 (by omega) (by omega), if_neg (by omega)], h_up_eq ?_ (fun i hi => gx_eq2 (fun _ => by rw [a1]) (fun z1 z2 => by rw [(show (newoa 3000 8 f σ).2.2.2 1 = σ.2.2.2 1 from by rw [newoa_c, if_neg (by decide)]), a2]) (fun z1 z2 => by rw [(show (newoa 3000 8 f σ).2.2.2 0 = σ.2.2.2 0 from by rw [newoa_c, if_neg (by decide)]), a3]) (fun z1 z2 => by rw [(show (newoa 3000 8 f σ).2.2.2 2 = σ.2.2.2 2 from by rw [newoa_c, if_neg (by decide)]), a4]) (fun z1 z2 => by rw [(show (newoa 3000 8 f σ).2.2.2 6 = σ.2.2.2 6 from by rw [newoa_c, if_neg (by decide)]), show (newoa 3000 8 f σ).1 (1000 + (i - 3200)) = σ.1 (1000 + (i - 3200)) from by rw [newoa_i, if_neg (by omega)]]) (fun z1 z2 => by rw [(show (newoa 3000 8 f σ).2.2.2 7 = σ.2.2.2 7 from by rw [newoa_c, if_neg (by decide)]), show (newoa 3000 8 f σ).1 (2000 + (i - 3400)) = σ.1 (2000 + (i - 3400)) from by rw [newoa_i, if_neg (by omega)]]) (fun z1 z2 => ?_))⟩
  · rw [gx_6 (by omega) (by omega), e, if_pos (by omega), Nat.add_sub_cancel_left]
    rw [show (newoa 3000 8 f σ).1 (3000 + σ.2.2.2 8) = f from by rw [newoa_i, if_pos rfl]]
  · rw [e]
    by_cases z : i - 3600 < σ.2.2.2 8
    · rw [if_pos z, if_pos (by omega), show (newoa 3000 8 f σ).1 (3000 + (i - 3600)) = σ.1 (3000 + (i - 3600)) from by rw [newoa_i, if_neg (by omega)]]
    · rw [if_neg z, if_neg (by omega)]
end XOARR
