/-! THE REFERENCE'S STATE: columns of ints and longs; key 5000 the object, 5001 + k the array of field k -/
section MSTATE
abbrev mS : Type := (Nat → Nat → Int32) × (Nat → Nat → Int64)
def seti (μ : mS) (k : Nat) (f : Nat → Int32) : mS := (va_up μ.1 k f, μ.2)
def setl (μ : mS) (k : Nat) (f : Nat → Int64) : mS := (μ.1, va_up μ.2 k f)
def nth {β : Type} : List (Option β) → Nat → Option β
  | [], _ => none
  | a :: _, 0 => a
  | _ :: l, n + 1 => nth l n
theorem nth_set {β : Type} : ∀ (l : List (Option β)) (j : Nat) (e : Option β) (i : Nat), j < l.length → nth (l.set j e) i = if i = j then e else nth l i
  | [], j, e, i, h => absurd h (Nat.not_lt_zero _)
  | a :: l, 0, e, 0, _ => rfl
  | a :: l, 0, e, i + 1, _ => rfl
  | a :: l, j + 1, e, 0, _ => rfl
  | a :: l, j + 1, e, i + 1, h => by
    show nth (l.set j e) i = if i + 1 = j + 1 then e else nth l i
    rw [nth_set l j e i (Nat.lt_of_succ_lt_succ h)]
    by_cases q : i = j
    · rw [if_pos q, if_pos (by omega)]
    · rw [if_neg q, if_neg (by omega)]
def mF (μ : mS) : List Value := [.int (μ.1 0 0), .int (μ.1 1 0), .ref 5003, .ref 5004, .ref 5005, .ref 5006, .int (μ.1 6 0), .int (μ.1 7 0), .ref 5009, .ref 5010, .ref 5011, .ref 5012, .ref 5013, .ref 5014, .ref 5015, .ref 5016, .ref 5017, .ref 5018, .ref 5019, .ref 5020, .int (μ.1 20 0), .int (μ.1 21 0), .ref 5023, .ref 5024, .ref 5025, .ref 5026, .int (μ.1 26 0), .int (μ.1 27 0), .ref 5029, .int (μ.1 29 0), .ref 5031, .ref 5032, .ref 5033, .ref 5034, .ref 5035, .ref 5036, .ref 5037, .ref 5038, .ref 5039, .ref 5040, .ref 5041, .long (μ.2 41 0), .ref 5043, .ref 5044, .ref 5045, .ref 5046, .ref 5047, .ref 5048, .ref 5049]
def mL (μ : mS) : List (Option hE) := [some (.inr (7, mF μ)), none, none, some (.inl (.int, 8, .inl (μ.1 2))), some (.inl (.int, 8, .inl (μ.1 3))), some (.inl (.int, 8, .inl (μ.1 4))), some (.inl (.int, 8, .inl (μ.1 5))), none, none, some (.inl (.int, 30, .inl (μ.1 8))), some (.inl (.int, 30, .inl (μ.1 9))), some (.inl (.int, 30, .inl (μ.1 10))), some (.inl (.int, 30, .inl (μ.1 11))), some (.inl (.int, 30, .inl (μ.1 12))), some (.inl (.int, 30, .inl (μ.1 13))), some (.inl (.int, 30, .inl (μ.1 14))), some (.inl (.int, 30, .inl (μ.1 15))), some (.inl (.boolean, 30, .inl (μ.1 16))), some (.inl (.boolean, 30, .inl (μ.1 17))), some (.inl (.boolean, 30, .inl (μ.1 18))), some (.inl (.byte, 160, .inl (μ.1 19))), none, none, some (.inl (.int, 80, .inl (μ.1 22))), some (.inl (.int, 80, .inl (μ.1 23))), some (.inl (.int, 80, .inl (μ.1 24))), some (.inl (.int, 60, .inl (μ.1 25))), none, none, some (.inl (.long, 6, .inr (.inl (μ.2 28)))), none, some (.inl (.int, 30, .inl (μ.1 30))), some (.inl (.int, 30, .inl (μ.1 31))), some (.inl (.int, 18, .inl (μ.1 32))), some (.inl (.long, 3, .inr (.inl (μ.2 33)))), some (.inl (.long, 3, .inr (.inl (μ.2 34)))), some (.inl (.boolean, 3, .inl (μ.1 35))), some (.inl (.long, 3, .inr (.inl (μ.2 36)))), some (.inl (.long, 3, .inr (.inl (μ.2 37)))), some (.inl (.int, 3, .inl (μ.1 38))), some (.inl (.int, 3, .inl (μ.1 39))), some (.inl (.int, 3, .inl (μ.1 40))), none, some (.inl (.int, 3, .inl (μ.1 42))), some (.inl (.int, 6, .inl (μ.1 43))), some (.inl (.int, 18, .inl (μ.1 44))), some (.inl (.int, 3, .inl (μ.1 45))), some (.inl (.int, 6, .inl (μ.1 46))), some (.inl (.int, 9, .inl (μ.1 47))), some (.inl (.int, 9, .inl (μ.1 48)))]
def gm (g : hH) (μ : mS) : hH := fun key => if 5000 ≤ key ∧ key ≤ 5049 then nth (mL μ) (key - 5000) else g key
theorem mL_len (μ : mS) : (mL μ).length = 50 := rfl
theorem gm_up (g : hH) (μ μ' : mS) (j : Nat) (e : hE) (hj : j < 50) (hL : mL μ' = (mL μ).set j (some e)) : hup (gm g μ) (5000 + j) e = gm g μ' := by
  funext i
  unfold hup gm
  rw [hL]
  by_cases hi : i = 5000 + j
  · rw [if_pos hi, if_pos (by omega), nth_set _ _ _ _ (by rw [mL_len]; exact hj), if_pos (by omega)]
  · rw [if_neg hi]
    by_cases hb : 5000 ≤ i ∧ i ≤ 5049
    · rw [if_pos hb, if_pos hb, nth_set _ _ _ _ (by rw [mL_len]; exact hj), if_neg (by omega)]
    · rw [if_neg hb, if_neg hb]
theorem gm_o (g : hH) (μ : mS) : gm g μ 5000 = some (.inr (7, mF μ)) := (if_pos ⟨Nat.le_of_ble_eq_true rfl, Nat.le_of_ble_eq_true rfl⟩).trans rfl
theorem gm_g {g : hH} {μ : mS} {k : Nat} (h : k < 5000 ∨ 5049 < k) : gm g μ k = g k := by
  unfold gm
  rw [if_neg (by omega)]
theorem mF_0 (μ : mS) : (mF μ)[0]? = some (.int (μ.1 0 0)) := rfl
theorem gs_0 (g : hH) (μ : mS) (x : Int32) : hup (gm g μ) 5000 (.inr (7, (mF μ).set 0 (.int x))) = gm g (seti μ 0 (fun _ => x)) := gm_up g μ (seti μ 0 (fun _ => x)) 0 _ (by decide) rfl
theorem mF_1 (μ : mS) : (mF μ)[1]? = some (.int (μ.1 1 0)) := rfl
theorem gs_1 (g : hH) (μ : mS) (x : Int32) : hup (gm g μ) 5000 (.inr (7, (mF μ).set 1 (.int x))) = gm g (seti μ 1 (fun _ => x)) := gm_up g μ (seti μ 1 (fun _ => x)) 0 _ (by decide) rfl
theorem mF_2 (μ : mS) : (mF μ)[2]? = some (.ref 5003) := rfl
theorem gm_2 (g : hH) (μ : mS) : gm g μ 5003 = some (.inl (.int, 8, .inl (μ.1 2))) := (if_pos ⟨Nat.le_of_ble_eq_true rfl, Nat.le_of_ble_eq_true rfl⟩).trans rfl
theorem gs_2 (g : hH) (μ : mS) (f : Nat → Int32) : hup (gm g μ) 5003 (.inl (.int, 8, .inl f)) = gm g (seti μ 2 f) := gm_up g μ (seti μ 2 f) 3 _ (by decide) rfl
theorem mF_3 (μ : mS) : (mF μ)[3]? = some (.ref 5004) := rfl
theorem gm_3 (g : hH) (μ : mS) : gm g μ 5004 = some (.inl (.int, 8, .inl (μ.1 3))) := (if_pos ⟨Nat.le_of_ble_eq_true rfl, Nat.le_of_ble_eq_true rfl⟩).trans rfl
theorem gs_3 (g : hH) (μ : mS) (f : Nat → Int32) : hup (gm g μ) 5004 (.inl (.int, 8, .inl f)) = gm g (seti μ 3 f) := gm_up g μ (seti μ 3 f) 4 _ (by decide) rfl
theorem mF_4 (μ : mS) : (mF μ)[4]? = some (.ref 5005) := rfl
theorem gm_4 (g : hH) (μ : mS) : gm g μ 5005 = some (.inl (.int, 8, .inl (μ.1 4))) := (if_pos ⟨Nat.le_of_ble_eq_true rfl, Nat.le_of_ble_eq_true rfl⟩).trans rfl
theorem gs_4 (g : hH) (μ : mS) (f : Nat → Int32) : hup (gm g μ) 5005 (.inl (.int, 8, .inl f)) = gm g (seti μ 4 f) := gm_up g μ (seti μ 4 f) 5 _ (by decide) rfl
theorem mF_5 (μ : mS) : (mF μ)[5]? = some (.ref 5006) := rfl
theorem gm_5 (g : hH) (μ : mS) : gm g μ 5006 = some (.inl (.int, 8, .inl (μ.1 5))) := (if_pos ⟨Nat.le_of_ble_eq_true rfl, Nat.le_of_ble_eq_true rfl⟩).trans rfl
theorem gs_5 (g : hH) (μ : mS) (f : Nat → Int32) : hup (gm g μ) 5006 (.inl (.int, 8, .inl f)) = gm g (seti μ 5 f) := gm_up g μ (seti μ 5 f) 6 _ (by decide) rfl
theorem mF_6 (μ : mS) : (mF μ)[6]? = some (.int (μ.1 6 0)) := rfl
theorem gs_6 (g : hH) (μ : mS) (x : Int32) : hup (gm g μ) 5000 (.inr (7, (mF μ).set 6 (.int x))) = gm g (seti μ 6 (fun _ => x)) := gm_up g μ (seti μ 6 (fun _ => x)) 0 _ (by decide) rfl
theorem mF_7 (μ : mS) : (mF μ)[7]? = some (.int (μ.1 7 0)) := rfl
theorem gs_7 (g : hH) (μ : mS) (x : Int32) : hup (gm g μ) 5000 (.inr (7, (mF μ).set 7 (.int x))) = gm g (seti μ 7 (fun _ => x)) := gm_up g μ (seti μ 7 (fun _ => x)) 0 _ (by decide) rfl
theorem mF_8 (μ : mS) : (mF μ)[8]? = some (.ref 5009) := rfl
theorem gm_8 (g : hH) (μ : mS) : gm g μ 5009 = some (.inl (.int, 30, .inl (μ.1 8))) := (if_pos ⟨Nat.le_of_ble_eq_true rfl, Nat.le_of_ble_eq_true rfl⟩).trans rfl
theorem gs_8 (g : hH) (μ : mS) (f : Nat → Int32) : hup (gm g μ) 5009 (.inl (.int, 30, .inl f)) = gm g (seti μ 8 f) := gm_up g μ (seti μ 8 f) 9 _ (by decide) rfl
theorem mF_9 (μ : mS) : (mF μ)[9]? = some (.ref 5010) := rfl
theorem gm_9 (g : hH) (μ : mS) : gm g μ 5010 = some (.inl (.int, 30, .inl (μ.1 9))) := (if_pos ⟨Nat.le_of_ble_eq_true rfl, Nat.le_of_ble_eq_true rfl⟩).trans rfl
theorem gs_9 (g : hH) (μ : mS) (f : Nat → Int32) : hup (gm g μ) 5010 (.inl (.int, 30, .inl f)) = gm g (seti μ 9 f) := gm_up g μ (seti μ 9 f) 10 _ (by decide) rfl
theorem mF_10 (μ : mS) : (mF μ)[10]? = some (.ref 5011) := rfl
theorem gm_10 (g : hH) (μ : mS) : gm g μ 5011 = some (.inl (.int, 30, .inl (μ.1 10))) := (if_pos ⟨Nat.le_of_ble_eq_true rfl, Nat.le_of_ble_eq_true rfl⟩).trans rfl
theorem gs_10 (g : hH) (μ : mS) (f : Nat → Int32) : hup (gm g μ) 5011 (.inl (.int, 30, .inl f)) = gm g (seti μ 10 f) := gm_up g μ (seti μ 10 f) 11 _ (by decide) rfl
theorem mF_11 (μ : mS) : (mF μ)[11]? = some (.ref 5012) := rfl
theorem gm_11 (g : hH) (μ : mS) : gm g μ 5012 = some (.inl (.int, 30, .inl (μ.1 11))) := (if_pos ⟨Nat.le_of_ble_eq_true rfl, Nat.le_of_ble_eq_true rfl⟩).trans rfl
theorem gs_11 (g : hH) (μ : mS) (f : Nat → Int32) : hup (gm g μ) 5012 (.inl (.int, 30, .inl f)) = gm g (seti μ 11 f) := gm_up g μ (seti μ 11 f) 12 _ (by decide) rfl
theorem mF_12 (μ : mS) : (mF μ)[12]? = some (.ref 5013) := rfl
theorem gm_12 (g : hH) (μ : mS) : gm g μ 5013 = some (.inl (.int, 30, .inl (μ.1 12))) := (if_pos ⟨Nat.le_of_ble_eq_true rfl, Nat.le_of_ble_eq_true rfl⟩).trans rfl
theorem gs_12 (g : hH) (μ : mS) (f : Nat → Int32) : hup (gm g μ) 5013 (.inl (.int, 30, .inl f)) = gm g (seti μ 12 f) := gm_up g μ (seti μ 12 f) 13 _ (by decide) rfl
theorem mF_13 (μ : mS) : (mF μ)[13]? = some (.ref 5014) := rfl
theorem gm_13 (g : hH) (μ : mS) : gm g μ 5014 = some (.inl (.int, 30, .inl (μ.1 13))) := (if_pos ⟨Nat.le_of_ble_eq_true rfl, Nat.le_of_ble_eq_true rfl⟩).trans rfl
theorem gs_13 (g : hH) (μ : mS) (f : Nat → Int32) : hup (gm g μ) 5014 (.inl (.int, 30, .inl f)) = gm g (seti μ 13 f) := gm_up g μ (seti μ 13 f) 14 _ (by decide) rfl
theorem mF_14 (μ : mS) : (mF μ)[14]? = some (.ref 5015) := rfl
theorem gm_14 (g : hH) (μ : mS) : gm g μ 5015 = some (.inl (.int, 30, .inl (μ.1 14))) := (if_pos ⟨Nat.le_of_ble_eq_true rfl, Nat.le_of_ble_eq_true rfl⟩).trans rfl
theorem gs_14 (g : hH) (μ : mS) (f : Nat → Int32) : hup (gm g μ) 5015 (.inl (.int, 30, .inl f)) = gm g (seti μ 14 f) := gm_up g μ (seti μ 14 f) 15 _ (by decide) rfl
theorem mF_15 (μ : mS) : (mF μ)[15]? = some (.ref 5016) := rfl
theorem gm_15 (g : hH) (μ : mS) : gm g μ 5016 = some (.inl (.int, 30, .inl (μ.1 15))) := (if_pos ⟨Nat.le_of_ble_eq_true rfl, Nat.le_of_ble_eq_true rfl⟩).trans rfl
theorem gs_15 (g : hH) (μ : mS) (f : Nat → Int32) : hup (gm g μ) 5016 (.inl (.int, 30, .inl f)) = gm g (seti μ 15 f) := gm_up g μ (seti μ 15 f) 16 _ (by decide) rfl
theorem mF_16 (μ : mS) : (mF μ)[16]? = some (.ref 5017) := rfl
theorem gm_16 (g : hH) (μ : mS) : gm g μ 5017 = some (.inl (.boolean, 30, .inl (μ.1 16))) := (if_pos ⟨Nat.le_of_ble_eq_true rfl, Nat.le_of_ble_eq_true rfl⟩).trans rfl
theorem gs_16 (g : hH) (μ : mS) (f : Nat → Int32) : hup (gm g μ) 5017 (.inl (.boolean, 30, .inl f)) = gm g (seti μ 16 f) := gm_up g μ (seti μ 16 f) 17 _ (by decide) rfl
theorem mF_17 (μ : mS) : (mF μ)[17]? = some (.ref 5018) := rfl
theorem gm_17 (g : hH) (μ : mS) : gm g μ 5018 = some (.inl (.boolean, 30, .inl (μ.1 17))) := (if_pos ⟨Nat.le_of_ble_eq_true rfl, Nat.le_of_ble_eq_true rfl⟩).trans rfl
theorem gs_17 (g : hH) (μ : mS) (f : Nat → Int32) : hup (gm g μ) 5018 (.inl (.boolean, 30, .inl f)) = gm g (seti μ 17 f) := gm_up g μ (seti μ 17 f) 18 _ (by decide) rfl
theorem mF_18 (μ : mS) : (mF μ)[18]? = some (.ref 5019) := rfl
theorem gm_18 (g : hH) (μ : mS) : gm g μ 5019 = some (.inl (.boolean, 30, .inl (μ.1 18))) := (if_pos ⟨Nat.le_of_ble_eq_true rfl, Nat.le_of_ble_eq_true rfl⟩).trans rfl
theorem gs_18 (g : hH) (μ : mS) (f : Nat → Int32) : hup (gm g μ) 5019 (.inl (.boolean, 30, .inl f)) = gm g (seti μ 18 f) := gm_up g μ (seti μ 18 f) 19 _ (by decide) rfl
theorem mF_19 (μ : mS) : (mF μ)[19]? = some (.ref 5020) := rfl
theorem gm_19 (g : hH) (μ : mS) : gm g μ 5020 = some (.inl (.byte, 160, .inl (μ.1 19))) := (if_pos ⟨Nat.le_of_ble_eq_true rfl, Nat.le_of_ble_eq_true rfl⟩).trans rfl
theorem gs_19 (g : hH) (μ : mS) (f : Nat → Int32) : hup (gm g μ) 5020 (.inl (.byte, 160, .inl f)) = gm g (seti μ 19 f) := gm_up g μ (seti μ 19 f) 20 _ (by decide) rfl
theorem mF_20 (μ : mS) : (mF μ)[20]? = some (.int (μ.1 20 0)) := rfl
theorem gs_20 (g : hH) (μ : mS) (x : Int32) : hup (gm g μ) 5000 (.inr (7, (mF μ).set 20 (.int x))) = gm g (seti μ 20 (fun _ => x)) := gm_up g μ (seti μ 20 (fun _ => x)) 0 _ (by decide) rfl
theorem mF_21 (μ : mS) : (mF μ)[21]? = some (.int (μ.1 21 0)) := rfl
theorem gs_21 (g : hH) (μ : mS) (x : Int32) : hup (gm g μ) 5000 (.inr (7, (mF μ).set 21 (.int x))) = gm g (seti μ 21 (fun _ => x)) := gm_up g μ (seti μ 21 (fun _ => x)) 0 _ (by decide) rfl
theorem mF_22 (μ : mS) : (mF μ)[22]? = some (.ref 5023) := rfl
theorem gm_22 (g : hH) (μ : mS) : gm g μ 5023 = some (.inl (.int, 80, .inl (μ.1 22))) := (if_pos ⟨Nat.le_of_ble_eq_true rfl, Nat.le_of_ble_eq_true rfl⟩).trans rfl
theorem gs_22 (g : hH) (μ : mS) (f : Nat → Int32) : hup (gm g μ) 5023 (.inl (.int, 80, .inl f)) = gm g (seti μ 22 f) := gm_up g μ (seti μ 22 f) 23 _ (by decide) rfl
theorem mF_23 (μ : mS) : (mF μ)[23]? = some (.ref 5024) := rfl
theorem gm_23 (g : hH) (μ : mS) : gm g μ 5024 = some (.inl (.int, 80, .inl (μ.1 23))) := (if_pos ⟨Nat.le_of_ble_eq_true rfl, Nat.le_of_ble_eq_true rfl⟩).trans rfl
theorem gs_23 (g : hH) (μ : mS) (f : Nat → Int32) : hup (gm g μ) 5024 (.inl (.int, 80, .inl f)) = gm g (seti μ 23 f) := gm_up g μ (seti μ 23 f) 24 _ (by decide) rfl
theorem mF_24 (μ : mS) : (mF μ)[24]? = some (.ref 5025) := rfl
theorem gm_24 (g : hH) (μ : mS) : gm g μ 5025 = some (.inl (.int, 80, .inl (μ.1 24))) := (if_pos ⟨Nat.le_of_ble_eq_true rfl, Nat.le_of_ble_eq_true rfl⟩).trans rfl
theorem gs_24 (g : hH) (μ : mS) (f : Nat → Int32) : hup (gm g μ) 5025 (.inl (.int, 80, .inl f)) = gm g (seti μ 24 f) := gm_up g μ (seti μ 24 f) 25 _ (by decide) rfl
theorem mF_25 (μ : mS) : (mF μ)[25]? = some (.ref 5026) := rfl
theorem gm_25 (g : hH) (μ : mS) : gm g μ 5026 = some (.inl (.int, 60, .inl (μ.1 25))) := (if_pos ⟨Nat.le_of_ble_eq_true rfl, Nat.le_of_ble_eq_true rfl⟩).trans rfl
theorem gs_25 (g : hH) (μ : mS) (f : Nat → Int32) : hup (gm g μ) 5026 (.inl (.int, 60, .inl f)) = gm g (seti μ 25 f) := gm_up g μ (seti μ 25 f) 26 _ (by decide) rfl
theorem mF_26 (μ : mS) : (mF μ)[26]? = some (.int (μ.1 26 0)) := rfl
theorem gs_26 (g : hH) (μ : mS) (x : Int32) : hup (gm g μ) 5000 (.inr (7, (mF μ).set 26 (.int x))) = gm g (seti μ 26 (fun _ => x)) := gm_up g μ (seti μ 26 (fun _ => x)) 0 _ (by decide) rfl
theorem mF_27 (μ : mS) : (mF μ)[27]? = some (.int (μ.1 27 0)) := rfl
theorem gs_27 (g : hH) (μ : mS) (x : Int32) : hup (gm g μ) 5000 (.inr (7, (mF μ).set 27 (.int x))) = gm g (seti μ 27 (fun _ => x)) := gm_up g μ (seti μ 27 (fun _ => x)) 0 _ (by decide) rfl
theorem mF_28 (μ : mS) : (mF μ)[28]? = some (.ref 5029) := rfl
theorem gm_28 (g : hH) (μ : mS) : gm g μ 5029 = some (.inl (.long, 6, .inr (.inl (μ.2 28)))) := (if_pos ⟨Nat.le_of_ble_eq_true rfl, Nat.le_of_ble_eq_true rfl⟩).trans rfl
theorem gs_28 (g : hH) (μ : mS) (f : Nat → Int64) : hup (gm g μ) 5029 (.inl (.long, 6, .inr (.inl f))) = gm g (setl μ 28 f) := gm_up g μ (setl μ 28 f) 29 _ (by decide) rfl
theorem mF_29 (μ : mS) : (mF μ)[29]? = some (.int (μ.1 29 0)) := rfl
theorem gs_29 (g : hH) (μ : mS) (x : Int32) : hup (gm g μ) 5000 (.inr (7, (mF μ).set 29 (.int x))) = gm g (seti μ 29 (fun _ => x)) := gm_up g μ (seti μ 29 (fun _ => x)) 0 _ (by decide) rfl
theorem mF_30 (μ : mS) : (mF μ)[30]? = some (.ref 5031) := rfl
theorem gm_30 (g : hH) (μ : mS) : gm g μ 5031 = some (.inl (.int, 30, .inl (μ.1 30))) := (if_pos ⟨Nat.le_of_ble_eq_true rfl, Nat.le_of_ble_eq_true rfl⟩).trans rfl
theorem gs_30 (g : hH) (μ : mS) (f : Nat → Int32) : hup (gm g μ) 5031 (.inl (.int, 30, .inl f)) = gm g (seti μ 30 f) := gm_up g μ (seti μ 30 f) 31 _ (by decide) rfl
theorem mF_31 (μ : mS) : (mF μ)[31]? = some (.ref 5032) := rfl
theorem gm_31 (g : hH) (μ : mS) : gm g μ 5032 = some (.inl (.int, 30, .inl (μ.1 31))) := (if_pos ⟨Nat.le_of_ble_eq_true rfl, Nat.le_of_ble_eq_true rfl⟩).trans rfl
theorem gs_31 (g : hH) (μ : mS) (f : Nat → Int32) : hup (gm g μ) 5032 (.inl (.int, 30, .inl f)) = gm g (seti μ 31 f) := gm_up g μ (seti μ 31 f) 32 _ (by decide) rfl
theorem mF_32 (μ : mS) : (mF μ)[32]? = some (.ref 5033) := rfl
theorem gm_32 (g : hH) (μ : mS) : gm g μ 5033 = some (.inl (.int, 18, .inl (μ.1 32))) := (if_pos ⟨Nat.le_of_ble_eq_true rfl, Nat.le_of_ble_eq_true rfl⟩).trans rfl
theorem gs_32 (g : hH) (μ : mS) (f : Nat → Int32) : hup (gm g μ) 5033 (.inl (.int, 18, .inl f)) = gm g (seti μ 32 f) := gm_up g μ (seti μ 32 f) 33 _ (by decide) rfl
theorem mF_33 (μ : mS) : (mF μ)[33]? = some (.ref 5034) := rfl
theorem gm_33 (g : hH) (μ : mS) : gm g μ 5034 = some (.inl (.long, 3, .inr (.inl (μ.2 33)))) := (if_pos ⟨Nat.le_of_ble_eq_true rfl, Nat.le_of_ble_eq_true rfl⟩).trans rfl
theorem gs_33 (g : hH) (μ : mS) (f : Nat → Int64) : hup (gm g μ) 5034 (.inl (.long, 3, .inr (.inl f))) = gm g (setl μ 33 f) := gm_up g μ (setl μ 33 f) 34 _ (by decide) rfl
theorem mF_34 (μ : mS) : (mF μ)[34]? = some (.ref 5035) := rfl
theorem gm_34 (g : hH) (μ : mS) : gm g μ 5035 = some (.inl (.long, 3, .inr (.inl (μ.2 34)))) := (if_pos ⟨Nat.le_of_ble_eq_true rfl, Nat.le_of_ble_eq_true rfl⟩).trans rfl
theorem gs_34 (g : hH) (μ : mS) (f : Nat → Int64) : hup (gm g μ) 5035 (.inl (.long, 3, .inr (.inl f))) = gm g (setl μ 34 f) := gm_up g μ (setl μ 34 f) 35 _ (by decide) rfl
theorem mF_35 (μ : mS) : (mF μ)[35]? = some (.ref 5036) := rfl
theorem gm_35 (g : hH) (μ : mS) : gm g μ 5036 = some (.inl (.boolean, 3, .inl (μ.1 35))) := (if_pos ⟨Nat.le_of_ble_eq_true rfl, Nat.le_of_ble_eq_true rfl⟩).trans rfl
theorem gs_35 (g : hH) (μ : mS) (f : Nat → Int32) : hup (gm g μ) 5036 (.inl (.boolean, 3, .inl f)) = gm g (seti μ 35 f) := gm_up g μ (seti μ 35 f) 36 _ (by decide) rfl
theorem mF_36 (μ : mS) : (mF μ)[36]? = some (.ref 5037) := rfl
theorem gm_36 (g : hH) (μ : mS) : gm g μ 5037 = some (.inl (.long, 3, .inr (.inl (μ.2 36)))) := (if_pos ⟨Nat.le_of_ble_eq_true rfl, Nat.le_of_ble_eq_true rfl⟩).trans rfl
theorem gs_36 (g : hH) (μ : mS) (f : Nat → Int64) : hup (gm g μ) 5037 (.inl (.long, 3, .inr (.inl f))) = gm g (setl μ 36 f) := gm_up g μ (setl μ 36 f) 37 _ (by decide) rfl
theorem mF_37 (μ : mS) : (mF μ)[37]? = some (.ref 5038) := rfl
theorem gm_37 (g : hH) (μ : mS) : gm g μ 5038 = some (.inl (.long, 3, .inr (.inl (μ.2 37)))) := (if_pos ⟨Nat.le_of_ble_eq_true rfl, Nat.le_of_ble_eq_true rfl⟩).trans rfl
theorem gs_37 (g : hH) (μ : mS) (f : Nat → Int64) : hup (gm g μ) 5038 (.inl (.long, 3, .inr (.inl f))) = gm g (setl μ 37 f) := gm_up g μ (setl μ 37 f) 38 _ (by decide) rfl
theorem mF_38 (μ : mS) : (mF μ)[38]? = some (.ref 5039) := rfl
theorem gm_38 (g : hH) (μ : mS) : gm g μ 5039 = some (.inl (.int, 3, .inl (μ.1 38))) := (if_pos ⟨Nat.le_of_ble_eq_true rfl, Nat.le_of_ble_eq_true rfl⟩).trans rfl
theorem gs_38 (g : hH) (μ : mS) (f : Nat → Int32) : hup (gm g μ) 5039 (.inl (.int, 3, .inl f)) = gm g (seti μ 38 f) := gm_up g μ (seti μ 38 f) 39 _ (by decide) rfl
theorem mF_39 (μ : mS) : (mF μ)[39]? = some (.ref 5040) := rfl
theorem gm_39 (g : hH) (μ : mS) : gm g μ 5040 = some (.inl (.int, 3, .inl (μ.1 39))) := (if_pos ⟨Nat.le_of_ble_eq_true rfl, Nat.le_of_ble_eq_true rfl⟩).trans rfl
theorem gs_39 (g : hH) (μ : mS) (f : Nat → Int32) : hup (gm g μ) 5040 (.inl (.int, 3, .inl f)) = gm g (seti μ 39 f) := gm_up g μ (seti μ 39 f) 40 _ (by decide) rfl
theorem mF_40 (μ : mS) : (mF μ)[40]? = some (.ref 5041) := rfl
theorem gm_40 (g : hH) (μ : mS) : gm g μ 5041 = some (.inl (.int, 3, .inl (μ.1 40))) := (if_pos ⟨Nat.le_of_ble_eq_true rfl, Nat.le_of_ble_eq_true rfl⟩).trans rfl
theorem gs_40 (g : hH) (μ : mS) (f : Nat → Int32) : hup (gm g μ) 5041 (.inl (.int, 3, .inl f)) = gm g (seti μ 40 f) := gm_up g μ (seti μ 40 f) 41 _ (by decide) rfl
theorem mF_41 (μ : mS) : (mF μ)[41]? = some (.long (μ.2 41 0)) := rfl
theorem gs_41 (g : hH) (μ : mS) (x : Int64) : hup (gm g μ) 5000 (.inr (7, (mF μ).set 41 (.long x))) = gm g (setl μ 41 (fun _ => x)) := gm_up g μ (setl μ 41 (fun _ => x)) 0 _ (by decide) rfl
theorem mF_42 (μ : mS) : (mF μ)[42]? = some (.ref 5043) := rfl
theorem gm_42 (g : hH) (μ : mS) : gm g μ 5043 = some (.inl (.int, 3, .inl (μ.1 42))) := (if_pos ⟨Nat.le_of_ble_eq_true rfl, Nat.le_of_ble_eq_true rfl⟩).trans rfl
theorem gs_42 (g : hH) (μ : mS) (f : Nat → Int32) : hup (gm g μ) 5043 (.inl (.int, 3, .inl f)) = gm g (seti μ 42 f) := gm_up g μ (seti μ 42 f) 43 _ (by decide) rfl
theorem mF_43 (μ : mS) : (mF μ)[43]? = some (.ref 5044) := rfl
theorem gm_43 (g : hH) (μ : mS) : gm g μ 5044 = some (.inl (.int, 6, .inl (μ.1 43))) := (if_pos ⟨Nat.le_of_ble_eq_true rfl, Nat.le_of_ble_eq_true rfl⟩).trans rfl
theorem gs_43 (g : hH) (μ : mS) (f : Nat → Int32) : hup (gm g μ) 5044 (.inl (.int, 6, .inl f)) = gm g (seti μ 43 f) := gm_up g μ (seti μ 43 f) 44 _ (by decide) rfl
theorem mF_44 (μ : mS) : (mF μ)[44]? = some (.ref 5045) := rfl
theorem gm_44 (g : hH) (μ : mS) : gm g μ 5045 = some (.inl (.int, 18, .inl (μ.1 44))) := (if_pos ⟨Nat.le_of_ble_eq_true rfl, Nat.le_of_ble_eq_true rfl⟩).trans rfl
theorem gs_44 (g : hH) (μ : mS) (f : Nat → Int32) : hup (gm g μ) 5045 (.inl (.int, 18, .inl f)) = gm g (seti μ 44 f) := gm_up g μ (seti μ 44 f) 45 _ (by decide) rfl
theorem mF_45 (μ : mS) : (mF μ)[45]? = some (.ref 5046) := rfl
theorem gm_45 (g : hH) (μ : mS) : gm g μ 5046 = some (.inl (.int, 3, .inl (μ.1 45))) := (if_pos ⟨Nat.le_of_ble_eq_true rfl, Nat.le_of_ble_eq_true rfl⟩).trans rfl
theorem gs_45 (g : hH) (μ : mS) (f : Nat → Int32) : hup (gm g μ) 5046 (.inl (.int, 3, .inl f)) = gm g (seti μ 45 f) := gm_up g μ (seti μ 45 f) 46 _ (by decide) rfl
theorem mF_46 (μ : mS) : (mF μ)[46]? = some (.ref 5047) := rfl
theorem gm_46 (g : hH) (μ : mS) : gm g μ 5047 = some (.inl (.int, 6, .inl (μ.1 46))) := (if_pos ⟨Nat.le_of_ble_eq_true rfl, Nat.le_of_ble_eq_true rfl⟩).trans rfl
theorem gs_46 (g : hH) (μ : mS) (f : Nat → Int32) : hup (gm g μ) 5047 (.inl (.int, 6, .inl f)) = gm g (seti μ 46 f) := gm_up g μ (seti μ 46 f) 47 _ (by decide) rfl
theorem mF_47 (μ : mS) : (mF μ)[47]? = some (.ref 5048) := rfl
theorem gm_47 (g : hH) (μ : mS) : gm g μ 5048 = some (.inl (.int, 9, .inl (μ.1 47))) := (if_pos ⟨Nat.le_of_ble_eq_true rfl, Nat.le_of_ble_eq_true rfl⟩).trans rfl
theorem gs_47 (g : hH) (μ : mS) (f : Nat → Int32) : hup (gm g μ) 5048 (.inl (.int, 9, .inl f)) = gm g (seti μ 47 f) := gm_up g μ (seti μ 47 f) 48 _ (by decide) rfl
theorem mF_48 (μ : mS) : (mF μ)[48]? = some (.ref 5049) := rfl
theorem gm_48 (g : hH) (μ : mS) : gm g μ 5049 = some (.inl (.int, 9, .inl (μ.1 48))) := (if_pos ⟨Nat.le_of_ble_eq_true rfl, Nat.le_of_ble_eq_true rfl⟩).trans rfl
theorem gs_48 (g : hH) (μ : mS) (f : Nat → Int32) : hup (gm g μ) 5049 (.inl (.int, 9, .inl f)) = gm g (seti μ 48 f) := gm_up g μ (seti μ 48 f) 49 _ (by decide) rfl
end MSTATE
