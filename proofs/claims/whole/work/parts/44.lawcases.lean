/-! THE LAW'S LOOP, over a relation of the two states that every call keeps (hypotheses until the relation is proved) -/
section LAWLOOP
def roN : hH := fun _ => none
theorem gxgm (g : hH) (σ : xS) (μ : mS) : gx (gm g μ) σ = gm (gx g σ) μ := by
  funext k
  by_cases h : k < 3800
  · rw [gm_g (Or.inl (by omega))]
    by_cases q1 : k < 1000
    · rw [gx_lo q1, gx_lo q1]
    by_cases q2 : k < 2000
    · rw [gx_1 (by omega) q2, gx_1 (by omega) q2]
    by_cases q3 : k < 3000
    · rw [gx_2 (by omega) q3, gx_2 (by omega) q3]
    by_cases q4 : k < 3200
    · rw [gx_3 (by omega) q4, gx_3 (by omega) q4]
    by_cases q5 : k < 3400
    · rw [gx_4 (by omega) q5, gx_4 (by omega) q5]
    by_cases q6 : k < 3600
    · rw [gx_5 (by omega) q6, gx_5 (by omega) q6]
    · rw [gx_6 (by omega) h, gx_6 (by omega) h]
  · rw [gx_g (by omega)]
    by_cases q : 5000 ≤ k ∧ k ≤ 5049
    · unfold gm
      rw [if_pos q, if_pos q]
    · rw [gm_g (by omega), gm_g (by omega), gx_g (by omega)]
theorem l_rm {R' : Room} {n cells slots : Nat} (q : (Nat.ble (R'.frames + 1) 13 && Nat.ble (8 + (n + 11) + R'.locals) 468 && Nat.ble R'.cells 4 && Nat.ble R'.slots 30) = true) (h1 : cells ≤ 500000) (h2 : slots ≤ 7000000) : h_rm room_1 R' n cells slots := by
  simp only [Bool.and_eq_true] at q
  have q1 := Nat.le_of_ble_eq_true q.1.2
  have q2 := Nat.le_of_ble_eq_true q.2
  exact ⟨⟨Nat.le_of_ble_eq_true q.1.1.1, Nat.le_of_ble_eq_true q.1.1.2⟩, by show cells + R'.cells ≤ 600000; omega, by show slots + R'.slots ≤ 7302250; omega⟩
theorem lg_self (x : Int64) : lg_cmp x x = 0 := by
  unfold lg_cmp
  simp
theorem l_ix {L k : Nat} (h : 7 * k + 7 ≤ L) (hL : L ≤ 3584) (j : Nat) (hj : j < 7) : vp_in (Int32.ofNat (7 * k) + Int32.ofNat j) L ∧ (Int32.ofNat (7 * k) + Int32.ofNat j).toNatClampNeg = 7 * k + j := by
  rw [← Int32.ofNat_add]
  have h1 : (Int32.ofNat (7 * k + j)).toNatClampNeg = 7 * k + j := Int32.toNatClampNeg_ofNat_of_lt (by omega)
  refine ⟨fun z => ?_, h1⟩
  rcases z with z | z
  · have := Int32.lt_iff_toInt_lt.mp z
    rw [Int32.toInt_ofNat_of_lt (by omega)] at this
    have h0 : (0 : Int32).toInt = 0 := by decide
    omega
  · rw [h1] at z; omega
set_option maxHeartbeats 4000000 in
set_option maxRecDepth 100000 in
theorem law_case_0 {p : Program} {l : Launch} {e : Env} {s : State} {m : MethodId} {below : List Frame} {meth : Method} {c : Code} {b L : Nat} {xs : Nat → Int32} {D : hG} {αc : Nat → Nat} (C : h_LC p s m meth c b L xs D) {Rel : xS → mS → Prop} (H0 : ∀ (σ : xS) (μ : mS), Rel σ μ → ∀ (a0 : Int32) (a1 : Int32) (a2 : Int32) (a3 : Int32), ∃ (r : Int32) (σ1 : xS) (μ1 : mS), f_X6_sort σ a0 a1 a2 a3 = some (r, σ1) ∧ f_X7_sort μ a0 a1 a2 a3 = some (r, μ1) ∧ Rel σ1 μ1) {k : Nat} {σ : xS} {μ : mS} (hR : Rel σ μ) (v1 : vp_in (Int32.ofNat (7 * k) + 1) L) (v2 : vp_in (Int32.ofNat (7 * k) + 2) L) (v3 : vp_in (Int32.ofNat (7 * k) + 3) L) (v4 : vp_in (Int32.ofNat (7 * k) + 4) L) (v5 : vp_in (Int32.ofNat (7 * k) + 5) L) (v6 : vp_in (Int32.ofNat (7 * k) + 6) L) (hk : k ≤ 512) (tail : ∀ (σ1 : xS) (μ1 : mS), Rel σ1 μ1 → JL p l e s m below meth c b D αc (70 + 4 * k + 4) (2000 + 30 * k + 30) (gx (gm roN μ1) σ1) 1211 [(3, .int (Int32.ofNat (7 * k))), (2, .ref 5000), (1, .ref 0), (0, .ref (9001 + 30))] []) : JL p l e s m below meth c b D αc (70 + 4 * k) (2000 + 30 * k) (gx (gm roN μ) σ) 172 [(3, .int (Int32.ofNat (7 * k))), (2, .ref 5000), (1, .ref 0), (0, .ref (9001 + 30))] [] := by
  have hc : 70 + 4 * k ≤ 500000 := by omega
  have hs : 2000 + 30 * k ≤ 7000000 := by omega
  have hc0 : 70 + 4 * k ≤ 400000 := by omega
  have hs0 : 2000 + 30 * k ≤ 6000000 := by omega
  have hc4 : 400000 + 4 ≤ 500000 := by decide
  have hs4 : 6000000 + 30 ≤ 7000000 := by decide
  obtain ⟨r, σ1, μ1, e1, e2, hR1⟩ := H0 σ μ hR (xs (Int32.ofNat (7 * k) + 1).toNatClampNeg) (xs (Int32.ofNat (7 * k) + 2).toNatClampNeg) (xs (Int32.ofNat (7 * k) + 3).toNatClampNeg) (xs (Int32.ofNat (7 * k) + 4).toNatClampNeg)
  refine l_aload_n (pc' := 173) C tokL_0 rfl rfl rfl ?_
  refine l_aload_n (pc' := 174) C tokL_0 rfl rfl rfl ?_
  refine l_iload_n (pc' := 175) C tokL_0 rfl rfl rfl ?_
  refine l_iconst (v := 1) (pc' := 176) C tokL_0 rfl rfl (by decide) ?_
  refine l_iadd (pc' := 177) C tokL_0 rfl rfl ?_
  refine l_sld (pc' := 178) C tokL_0 rfl rfl v1 ?_
  refine l_aload_n (pc' := 179) C tokL_0 rfl rfl rfl ?_
  refine l_iload_n (pc' := 180) C tokL_0 rfl rfl rfl ?_
  refine l_iconst (v := 2) (pc' := 181) C tokL_0 rfl rfl (by decide) ?_
  refine l_iadd (pc' := 182) C tokL_0 rfl rfl ?_
  refine l_sld (pc' := 183) C tokL_0 rfl rfl v2 ?_
  refine l_aload_n (pc' := 184) C tokL_0 rfl rfl rfl ?_
  refine l_iload_n (pc' := 185) C tokL_0 rfl rfl rfl ?_
  refine l_iconst (v := 3) (pc' := 186) C tokL_0 rfl rfl (by decide) ?_
  refine l_iadd (pc' := 187) C tokL_0 rfl rfl ?_
  refine l_sld (pc' := 188) C tokL_0 rfl rfl v3 ?_
  refine l_aload_n (pc' := 189) C tokL_0 rfl rfl rfl ?_
  refine l_iload_n (pc' := 190) C tokL_0 rfl rfl rfl ?_
  refine l_iconst (v := 4) (pc' := 191) C tokL_0 rfl rfl (by decide) ?_
  refine l_iadd (pc' := 192) C tokL_0 rfl rfl ?_
  refine l_sld (pc' := 193) C tokL_0 rfl rfl v4 ?_
  refine l_v4 (pc' := 196) C tokL_0 rfl rfl miX6_sort lnL_13 (gxk_0 _ _) rfl (s_X6_sort _ σ _ _ _ _ _ e1) (l_rm rfl hc hs) (Nat.le_of_ble_eq_true rfl) ?_
  refine l_heap (gxgm roN σ1 μ) ?_
  refine l_aload_n (pc' := 197) C tokL_0 rfl rfl rfl ?_
  refine l_aload_n (pc' := 198) C tokL_0 rfl rfl rfl ?_
  refine l_iload_n (pc' := 199) C tokL_0 rfl rfl rfl ?_
  refine l_iconst (v := 1) (pc' := 200) C tokL_0 rfl rfl (by decide) ?_
  refine l_iadd (pc' := 201) C tokL_0 rfl rfl ?_
  refine l_sld (pc' := 202) C tokL_0 rfl rfl v1 ?_
  refine l_aload_n (pc' := 203) C tokL_0 rfl rfl rfl ?_
  refine l_iload_n (pc' := 204) C tokL_0 rfl rfl rfl ?_
  refine l_iconst (v := 2) (pc' := 205) C tokL_0 rfl rfl (by decide) ?_
  refine l_iadd (pc' := 206) C tokL_0 rfl rfl ?_
  refine l_sld (pc' := 207) C tokL_0 rfl rfl v2 ?_
  refine l_aload_n (pc' := 208) C tokL_0 rfl rfl rfl ?_
  refine l_iload_n (pc' := 209) C tokL_0 rfl rfl rfl ?_
  refine l_iconst (v := 3) (pc' := 210) C tokL_0 rfl rfl (by decide) ?_
  refine l_iadd (pc' := 211) C tokL_0 rfl rfl ?_
  refine l_sld (pc' := 212) C tokL_0 rfl rfl v3 ?_
  refine l_aload_n (pc' := 213) C tokL_0 rfl rfl rfl ?_
  refine l_iload_n (pc' := 214) C tokL_0 rfl rfl rfl ?_
  refine l_iconst (v := 4) (pc' := 215) C tokL_0 rfl rfl (by decide) ?_
  refine l_iadd (pc' := 216) C tokL_0 rfl rfl ?_
  refine l_sld (pc' := 217) C tokL_0 rfl rfl v4 ?_
  refine l_v4 (pc' := 220) C tokL_0 rfl rfl miX7_sort lnL_17 (gm_o _ _) rfl (s_X7_sort _ μ _ _ _ _ _ e2) (l_rm rfl (Nat.le_trans (Nat.add_le_add hc0 (show rX6_sort.cells ≤ 4 from Nat.le_of_ble_eq_true rfl)) hc4) (Nat.le_trans (Nat.add_le_add hs0 (show rX6_sort.slots ≤ 30 from Nat.le_of_ble_eq_true rfl)) hs4)) (Nat.le_of_ble_eq_true rfl) ?_
  refine l_heap (gxgm roN σ1 μ1).symm ?_
  refine l_icmp_eq (tgt := 1211) C tokL_0 rfl rfl ?_
  refine l_widen (a := 70 + 4 * k + 4) (d := 2000 + 30 * k + 30) (show 70 + 4 * k + rX6_sort.cells + rX7_sort.cells ≤ 70 + 4 * k + 4 from Nat.add_le_add_left (Nat.le_of_ble_eq_true rfl) (70 + 4 * k)) (show 2000 + 30 * k + rX6_sort.slots + rX7_sort.slots ≤ 2000 + 30 * k + 30 from Nat.add_le_add_left (Nat.le_of_ble_eq_true rfl) (2000 + 30 * k)) ?_
  exact tail σ1 μ1 hR1
set_option maxHeartbeats 4000000 in
set_option maxRecDepth 100000 in
theorem law_case_1 {p : Program} {l : Launch} {e : Env} {s : State} {m : MethodId} {below : List Frame} {meth : Method} {c : Code} {b L : Nat} {xs : Nat → Int32} {D : hG} {αc : Nat → Nat} (C : h_LC p s m meth c b L xs D) {Rel : xS → mS → Prop} (H1 : ∀ (σ : xS) (μ : mS), Rel σ μ → ∀ (a0 : Int32) (a1 : Int32) (a2 : Int32) (a3 : Int32) (a4 : Int32) (a5 : Int32), ∃ (r : Int32) (σ1 : xS) (μ1 : mS), f_X6_lot σ a0 a1 a2 a3 a4 a5 = some (r, σ1) ∧ f_X7_lot μ a0 a1 a2 a3 a4 a5 = some (r, μ1) ∧ Rel σ1 μ1) {k : Nat} {σ : xS} {μ : mS} (hR : Rel σ μ) (v1 : vp_in (Int32.ofNat (7 * k) + 1) L) (v2 : vp_in (Int32.ofNat (7 * k) + 2) L) (v3 : vp_in (Int32.ofNat (7 * k) + 3) L) (v4 : vp_in (Int32.ofNat (7 * k) + 4) L) (v5 : vp_in (Int32.ofNat (7 * k) + 5) L) (v6 : vp_in (Int32.ofNat (7 * k) + 6) L) (hk : k ≤ 512) (tail : ∀ (σ1 : xS) (μ1 : mS), Rel σ1 μ1 → JL p l e s m below meth c b D αc (70 + 4 * k + 4) (2000 + 30 * k + 30) (gx (gm roN μ1) σ1) 1211 [(3, .int (Int32.ofNat (7 * k))), (2, .ref 5000), (1, .ref 0), (0, .ref (9001 + 30))] []) : JL p l e s m below meth c b D αc (70 + 4 * k) (2000 + 30 * k) (gx (gm roN μ) σ) 225 [(3, .int (Int32.ofNat (7 * k))), (2, .ref 5000), (1, .ref 0), (0, .ref (9001 + 30))] [] := by
  have hc : 70 + 4 * k ≤ 500000 := by omega
  have hs : 2000 + 30 * k ≤ 7000000 := by omega
  have hc0 : 70 + 4 * k ≤ 400000 := by omega
  have hs0 : 2000 + 30 * k ≤ 6000000 := by omega
  have hc4 : 400000 + 4 ≤ 500000 := by decide
  have hs4 : 6000000 + 30 ≤ 7000000 := by decide
  obtain ⟨r, σ1, μ1, e1, e2, hR1⟩ := H1 σ μ hR (xs (Int32.ofNat (7 * k) + 1).toNatClampNeg) (xs (Int32.ofNat (7 * k) + 2).toNatClampNeg) (xs (Int32.ofNat (7 * k) + 3).toNatClampNeg) (xs (Int32.ofNat (7 * k) + 4).toNatClampNeg) (xs (Int32.ofNat (7 * k) + 5).toNatClampNeg) (xs (Int32.ofNat (7 * k) + 6).toNatClampNeg)
  refine l_aload_n (pc' := 226) C tokL_1 rfl rfl rfl ?_
  refine l_aload_n (pc' := 227) C tokL_1 rfl rfl rfl ?_
  refine l_iload_n (pc' := 228) C tokL_1 rfl rfl rfl ?_
  refine l_iconst (v := 1) (pc' := 229) C tokL_1 rfl rfl (by decide) ?_
  refine l_iadd (pc' := 230) C tokL_1 rfl rfl ?_
  refine l_sld (pc' := 231) C tokL_1 rfl rfl v1 ?_
  refine l_aload_n (pc' := 232) C tokL_1 rfl rfl rfl ?_
  refine l_iload_n (pc' := 233) C tokL_1 rfl rfl rfl ?_
  refine l_iconst (v := 2) (pc' := 234) C tokL_1 rfl rfl (by decide) ?_
  refine l_iadd (pc' := 235) C tokL_1 rfl rfl ?_
  refine l_sld (pc' := 236) C tokL_1 rfl rfl v2 ?_
  refine l_aload_n (pc' := 237) C tokL_1 rfl rfl rfl ?_
  refine l_iload_n (pc' := 238) C tokL_1 rfl rfl rfl ?_
  refine l_iconst (v := 3) (pc' := 239) C tokL_1 rfl rfl (by decide) ?_
  refine l_iadd (pc' := 240) C tokL_1 rfl rfl ?_
  refine l_sld (pc' := 241) C tokL_1 rfl rfl v3 ?_
  refine l_aload_n (pc' := 242) C tokL_1 rfl rfl rfl ?_
  refine l_iload_n (pc' := 243) C tokL_1 rfl rfl rfl ?_
  refine l_iconst (v := 4) (pc' := 244) C tokL_1 rfl rfl (by decide) ?_
  refine l_iadd (pc' := 245) C tokL_1 rfl rfl ?_
  refine l_sld (pc' := 246) C tokL_1 rfl rfl v4 ?_
  refine l_aload_n (pc' := 247) C tokL_1 rfl rfl rfl ?_
  refine l_iload_n (pc' := 248) C tokL_1 rfl rfl rfl ?_
  refine l_iconst (v := 5) (pc' := 249) C tokL_1 rfl rfl (by decide) ?_
  refine l_iadd (pc' := 250) C tokL_1 rfl rfl ?_
  refine l_sld (pc' := 251) C tokL_1 rfl rfl v5 ?_
  refine l_aload_n (pc' := 252) C tokL_1 rfl rfl rfl ?_
  refine l_iload_n (pc' := 253) C tokL_1 rfl rfl rfl ?_
  refine l_bipush (v := 6) (pc' := 255) C tokL_1 rfl rfl (by decide) ?_
  refine l_iadd (pc' := 256) C tokL_1 rfl rfl ?_
  refine l_sld (pc' := 257) C tokL_1 rfl rfl v6 ?_
  refine l_v6 (pc' := 260) C tokL_1 rfl rfl miX6_lot lnL_18 (gxk_0 _ _) rfl (s_X6_lot _ σ _ _ _ _ _ _ _ e1) (l_rm rfl hc hs) (Nat.le_of_ble_eq_true rfl) ?_
  refine l_heap (gxgm roN σ1 μ) ?_
  refine l_aload_n (pc' := 261) C tokL_1 rfl rfl rfl ?_
  refine l_aload_n (pc' := 262) C tokL_1 rfl rfl rfl ?_
  refine l_iload_n (pc' := 263) C tokL_1 rfl rfl rfl ?_
  refine l_iconst (v := 1) (pc' := 264) C tokL_1 rfl rfl (by decide) ?_
  refine l_iadd (pc' := 265) C tokL_1 rfl rfl ?_
  refine l_sld (pc' := 266) C tokL_1 rfl rfl v1 ?_
  refine l_aload_n (pc' := 267) C tokL_1 rfl rfl rfl ?_
  refine l_iload_n (pc' := 268) C tokL_1 rfl rfl rfl ?_
  refine l_iconst (v := 2) (pc' := 269) C tokL_1 rfl rfl (by decide) ?_
  refine l_iadd (pc' := 270) C tokL_1 rfl rfl ?_
  refine l_sld (pc' := 271) C tokL_1 rfl rfl v2 ?_
  refine l_aload_n (pc' := 272) C tokL_1 rfl rfl rfl ?_
  refine l_iload_n (pc' := 273) C tokL_1 rfl rfl rfl ?_
  refine l_iconst (v := 3) (pc' := 274) C tokL_1 rfl rfl (by decide) ?_
  refine l_iadd (pc' := 275) C tokL_1 rfl rfl ?_
  refine l_sld (pc' := 276) C tokL_1 rfl rfl v3 ?_
  refine l_aload_n (pc' := 277) C tokL_1 rfl rfl rfl ?_
  refine l_iload_n (pc' := 278) C tokL_1 rfl rfl rfl ?_
  refine l_iconst (v := 4) (pc' := 279) C tokL_1 rfl rfl (by decide) ?_
  refine l_iadd (pc' := 280) C tokL_1 rfl rfl ?_
  refine l_sld (pc' := 281) C tokL_1 rfl rfl v4 ?_
  refine l_aload_n (pc' := 282) C tokL_1 rfl rfl rfl ?_
  refine l_iload_n (pc' := 283) C tokL_1 rfl rfl rfl ?_
  refine l_iconst (v := 5) (pc' := 284) C tokL_1 rfl rfl (by decide) ?_
  refine l_iadd (pc' := 285) C tokL_1 rfl rfl ?_
  refine l_sld (pc' := 286) C tokL_1 rfl rfl v5 ?_
  refine l_aload_n (pc' := 287) C tokL_1 rfl rfl rfl ?_
  refine l_iload_n (pc' := 288) C tokL_1 rfl rfl rfl ?_
  refine l_bipush (v := 6) (pc' := 290) C tokL_1 rfl rfl (by decide) ?_
  refine l_iadd (pc' := 291) C tokL_1 rfl rfl ?_
  refine l_sld (pc' := 292) C tokL_1 rfl rfl v6 ?_
  refine l_v6 (pc' := 295) C tokL_1 rfl rfl miX7_lot lnL_22 (gm_o _ _) rfl (s_X7_lot _ μ _ _ _ _ _ _ _ e2) (l_rm rfl (Nat.le_trans (Nat.add_le_add hc0 (show rX6_lot.cells ≤ 4 from Nat.le_of_ble_eq_true rfl)) hc4) (Nat.le_trans (Nat.add_le_add hs0 (show rX6_lot.slots ≤ 30 from Nat.le_of_ble_eq_true rfl)) hs4)) (Nat.le_of_ble_eq_true rfl) ?_
  refine l_heap (gxgm roN σ1 μ1).symm ?_
  refine l_icmp_eq (tgt := 1211) C tokL_1 rfl rfl ?_
  refine l_widen (a := 70 + 4 * k + 4) (d := 2000 + 30 * k + 30) (show 70 + 4 * k + rX6_lot.cells + rX7_lot.cells ≤ 70 + 4 * k + 4 from Nat.add_le_add_left (Nat.le_of_ble_eq_true rfl) (70 + 4 * k)) (show 2000 + 30 * k + rX6_lot.slots + rX7_lot.slots ≤ 2000 + 30 * k + 30 from Nat.add_le_add_left (Nat.le_of_ble_eq_true rfl) (2000 + 30 * k)) ?_
  exact tail σ1 μ1 hR1
set_option maxHeartbeats 4000000 in
set_option maxRecDepth 100000 in
theorem law_case_2 {p : Program} {l : Launch} {e : Env} {s : State} {m : MethodId} {below : List Frame} {meth : Method} {c : Code} {b L : Nat} {xs : Nat → Int32} {D : hG} {αc : Nat → Nat} (C : h_LC p s m meth c b L xs D) {Rel : xS → mS → Prop} (H2 : ∀ (σ : xS) (μ : mS), Rel σ μ → ∀ (a0 : Int32) (a1 : Int32), ∃ (r : Int32) (σ1 : xS) (μ1 : mS), f_X6_open σ a0 a1 = some (r, σ1) ∧ f_X7_open μ a0 a1 = some (r, μ1) ∧ Rel σ1 μ1) {k : Nat} {σ : xS} {μ : mS} (hR : Rel σ μ) (v1 : vp_in (Int32.ofNat (7 * k) + 1) L) (v2 : vp_in (Int32.ofNat (7 * k) + 2) L) (v3 : vp_in (Int32.ofNat (7 * k) + 3) L) (v4 : vp_in (Int32.ofNat (7 * k) + 4) L) (v5 : vp_in (Int32.ofNat (7 * k) + 5) L) (v6 : vp_in (Int32.ofNat (7 * k) + 6) L) (hk : k ≤ 512) (tail : ∀ (σ1 : xS) (μ1 : mS), Rel σ1 μ1 → JL p l e s m below meth c b D αc (70 + 4 * k + 4) (2000 + 30 * k + 30) (gx (gm roN μ1) σ1) 1211 [(3, .int (Int32.ofNat (7 * k))), (2, .ref 5000), (1, .ref 0), (0, .ref (9001 + 30))] []) : JL p l e s m below meth c b D αc (70 + 4 * k) (2000 + 30 * k) (gx (gm roN μ) σ) 300 [(3, .int (Int32.ofNat (7 * k))), (2, .ref 5000), (1, .ref 0), (0, .ref (9001 + 30))] [] := by
  have hc : 70 + 4 * k ≤ 500000 := by omega
  have hs : 2000 + 30 * k ≤ 7000000 := by omega
  have hc0 : 70 + 4 * k ≤ 400000 := by omega
  have hs0 : 2000 + 30 * k ≤ 6000000 := by omega
  have hc4 : 400000 + 4 ≤ 500000 := by decide
  have hs4 : 6000000 + 30 ≤ 7000000 := by decide
  obtain ⟨r, σ1, μ1, e1, e2, hR1⟩ := H2 σ μ hR (xs (Int32.ofNat (7 * k) + 1).toNatClampNeg) (xs (Int32.ofNat (7 * k) + 2).toNatClampNeg)
  refine l_aload_n (pc' := 301) C tokL_2 rfl rfl rfl ?_
  refine l_aload_n (pc' := 302) C tokL_2 rfl rfl rfl ?_
  refine l_iload_n (pc' := 303) C tokL_2 rfl rfl rfl ?_
  refine l_iconst (v := 1) (pc' := 304) C tokL_2 rfl rfl (by decide) ?_
  refine l_iadd (pc' := 305) C tokL_2 rfl rfl ?_
  refine l_sld (pc' := 306) C tokL_2 rfl rfl v1 ?_
  refine l_aload_n (pc' := 307) C tokL_2 rfl rfl rfl ?_
  refine l_iload_n (pc' := 308) C tokL_2 rfl rfl rfl ?_
  refine l_iconst (v := 2) (pc' := 309) C tokL_2 rfl rfl (by decide) ?_
  refine l_iadd (pc' := 310) C tokL_2 rfl rfl ?_
  refine l_sld (pc' := 311) C tokL_2 rfl rfl v2 ?_
  refine l_v2 (pc' := 314) C tokL_2 rfl rfl miX6_open lnL_23 (gxk_0 _ _) rfl (s_X6_open _ σ _ _ _ e1) (l_rm rfl hc hs) (Nat.le_of_ble_eq_true rfl) ?_
  refine l_heap (gxgm roN σ1 μ) ?_
  refine l_aload_n (pc' := 315) C tokL_2 rfl rfl rfl ?_
  refine l_aload_n (pc' := 316) C tokL_2 rfl rfl rfl ?_
  refine l_iload_n (pc' := 317) C tokL_2 rfl rfl rfl ?_
  refine l_iconst (v := 1) (pc' := 318) C tokL_2 rfl rfl (by decide) ?_
  refine l_iadd (pc' := 319) C tokL_2 rfl rfl ?_
  refine l_sld (pc' := 320) C tokL_2 rfl rfl v1 ?_
  refine l_aload_n (pc' := 321) C tokL_2 rfl rfl rfl ?_
  refine l_iload_n (pc' := 322) C tokL_2 rfl rfl rfl ?_
  refine l_iconst (v := 2) (pc' := 323) C tokL_2 rfl rfl (by decide) ?_
  refine l_iadd (pc' := 324) C tokL_2 rfl rfl ?_
  refine l_sld (pc' := 325) C tokL_2 rfl rfl v2 ?_
  refine l_v2 (pc' := 328) C tokL_2 rfl rfl miX7_open lnL_27 (gm_o _ _) rfl (s_X7_open _ μ _ _ _ e2) (l_rm rfl (Nat.le_trans (Nat.add_le_add hc0 (show rX6_open.cells ≤ 4 from Nat.le_of_ble_eq_true rfl)) hc4) (Nat.le_trans (Nat.add_le_add hs0 (show rX6_open.slots ≤ 30 from Nat.le_of_ble_eq_true rfl)) hs4)) (Nat.le_of_ble_eq_true rfl) ?_
  refine l_heap (gxgm roN σ1 μ1).symm ?_
  refine l_icmp_eq (tgt := 1211) C tokL_2 rfl rfl ?_
  refine l_widen (a := 70 + 4 * k + 4) (d := 2000 + 30 * k + 30) (show 70 + 4 * k + rX6_open.cells + rX7_open.cells ≤ 70 + 4 * k + 4 from Nat.add_le_add_left (Nat.le_of_ble_eq_true rfl) (70 + 4 * k)) (show 2000 + 30 * k + rX6_open.slots + rX7_open.slots ≤ 2000 + 30 * k + 30 from Nat.add_le_add_left (Nat.le_of_ble_eq_true rfl) (2000 + 30 * k)) ?_
  exact tail σ1 μ1 hR1
set_option maxHeartbeats 4000000 in
set_option maxRecDepth 100000 in
theorem law_case_3 {p : Program} {l : Launch} {e : Env} {s : State} {m : MethodId} {below : List Frame} {meth : Method} {c : Code} {b L : Nat} {xs : Nat → Int32} {D : hG} {αc : Nat → Nat} (C : h_LC p s m meth c b L xs D) {Rel : xS → mS → Prop} (H3 : ∀ (σ : xS) (μ : mS), Rel σ μ → ∀ (a0 : Int32) (a1 : Int32), ∃ (r : Int32), f_X6_about σ a0 a1 = some r ∧ f_X7_about μ a0 a1 = some r ∧ Rel σ μ) {k : Nat} {σ : xS} {μ : mS} (hR : Rel σ μ) (v1 : vp_in (Int32.ofNat (7 * k) + 1) L) (v2 : vp_in (Int32.ofNat (7 * k) + 2) L) (v3 : vp_in (Int32.ofNat (7 * k) + 3) L) (v4 : vp_in (Int32.ofNat (7 * k) + 4) L) (v5 : vp_in (Int32.ofNat (7 * k) + 5) L) (v6 : vp_in (Int32.ofNat (7 * k) + 6) L) (hk : k ≤ 512) (tail : ∀ (σ1 : xS) (μ1 : mS), Rel σ1 μ1 → JL p l e s m below meth c b D αc (70 + 4 * k + 4) (2000 + 30 * k + 30) (gx (gm roN μ1) σ1) 1211 [(3, .int (Int32.ofNat (7 * k))), (2, .ref 5000), (1, .ref 0), (0, .ref (9001 + 30))] []) : JL p l e s m below meth c b D αc (70 + 4 * k) (2000 + 30 * k) (gx (gm roN μ) σ) 333 [(3, .int (Int32.ofNat (7 * k))), (2, .ref 5000), (1, .ref 0), (0, .ref (9001 + 30))] [] := by
  have hc : 70 + 4 * k ≤ 500000 := by omega
  have hs : 2000 + 30 * k ≤ 7000000 := by omega
  have hc0 : 70 + 4 * k ≤ 400000 := by omega
  have hs0 : 2000 + 30 * k ≤ 6000000 := by omega
  have hc4 : 400000 + 4 ≤ 500000 := by decide
  have hs4 : 6000000 + 30 ≤ 7000000 := by decide
  obtain ⟨r, e1, e2, hR1⟩ := H3 σ μ hR (xs (Int32.ofNat (7 * k) + 1).toNatClampNeg) (xs (Int32.ofNat (7 * k) + 2).toNatClampNeg)
  refine l_aload_n (pc' := 334) C tokL_3 rfl rfl rfl ?_
  refine l_aload_n (pc' := 335) C tokL_3 rfl rfl rfl ?_
  refine l_iload_n (pc' := 336) C tokL_3 rfl rfl rfl ?_
  refine l_iconst (v := 1) (pc' := 337) C tokL_3 rfl rfl (by decide) ?_
  refine l_iadd (pc' := 338) C tokL_3 rfl rfl ?_
  refine l_sld (pc' := 339) C tokL_3 rfl rfl v1 ?_
  refine l_aload_n (pc' := 340) C tokL_3 rfl rfl rfl ?_
  refine l_iload_n (pc' := 341) C tokL_3 rfl rfl rfl ?_
  refine l_iconst (v := 2) (pc' := 342) C tokL_3 rfl rfl (by decide) ?_
  refine l_iadd (pc' := 343) C tokL_3 rfl rfl ?_
  refine l_sld (pc' := 344) C tokL_3 rfl rfl v2 ?_
  refine l_v2 (pc' := 347) C tokL_3 rfl rfl miX6_about lnL_28 (gxk_0 _ _) rfl (s_X6_about _ σ _ _ _ e1) (l_rm rfl hc hs) (Nat.le_of_ble_eq_true rfl) ?_
  refine l_heap (gxgm roN σ μ) ?_
  refine l_aload_n (pc' := 348) C tokL_3 rfl rfl rfl ?_
  refine l_aload_n (pc' := 349) C tokL_3 rfl rfl rfl ?_
  refine l_iload_n (pc' := 350) C tokL_3 rfl rfl rfl ?_
  refine l_iconst (v := 1) (pc' := 351) C tokL_3 rfl rfl (by decide) ?_
  refine l_iadd (pc' := 352) C tokL_3 rfl rfl ?_
  refine l_sld (pc' := 353) C tokL_3 rfl rfl v1 ?_
  refine l_aload_n (pc' := 354) C tokL_3 rfl rfl rfl ?_
  refine l_iload_n (pc' := 355) C tokL_3 rfl rfl rfl ?_
  refine l_iconst (v := 2) (pc' := 356) C tokL_3 rfl rfl (by decide) ?_
  refine l_iadd (pc' := 357) C tokL_3 rfl rfl ?_
  refine l_sld (pc' := 358) C tokL_3 rfl rfl v2 ?_
  refine l_v2 (pc' := 361) C tokL_3 rfl rfl miX7_about lnL_31 (gm_o _ _) rfl (s_X7_about _ μ _ _ _ e2) (l_rm rfl (Nat.le_trans (Nat.add_le_add hc0 (show rX6_about.cells ≤ 4 from Nat.le_of_ble_eq_true rfl)) hc4) (Nat.le_trans (Nat.add_le_add hs0 (show rX6_about.slots ≤ 30 from Nat.le_of_ble_eq_true rfl)) hs4)) (Nat.le_of_ble_eq_true rfl) ?_
  refine l_heap (gxgm roN σ μ).symm ?_
  refine l_icmp_eq (tgt := 1211) C tokL_3 rfl rfl ?_
  refine l_widen (a := 70 + 4 * k + 4) (d := 2000 + 30 * k + 30) (show 70 + 4 * k + rX6_about.cells + rX7_about.cells ≤ 70 + 4 * k + 4 from Nat.add_le_add_left (Nat.le_of_ble_eq_true rfl) (70 + 4 * k)) (show 2000 + 30 * k + rX6_about.slots + rX7_about.slots ≤ 2000 + 30 * k + 30 from Nat.add_le_add_left (Nat.le_of_ble_eq_true rfl) (2000 + 30 * k)) ?_
  exact tail σ μ hR1
set_option maxHeartbeats 4000000 in
set_option maxRecDepth 100000 in
theorem law_case_4 {p : Program} {l : Launch} {e : Env} {s : State} {m : MethodId} {below : List Frame} {meth : Method} {c : Code} {b L : Nat} {xs : Nat → Int32} {D : hG} {αc : Nat → Nat} (C : h_LC p s m meth c b L xs D) {Rel : xS → mS → Prop} (H4 : ∀ (σ : xS) (μ : mS), Rel σ μ → ∀ (a0 : Int32), ∃ (r : Int64), f_X6_silver σ a0 = some r ∧ f_X7_silver μ a0 = some r ∧ Rel σ μ) {k : Nat} {σ : xS} {μ : mS} (hR : Rel σ μ) (v1 : vp_in (Int32.ofNat (7 * k) + 1) L) (v2 : vp_in (Int32.ofNat (7 * k) + 2) L) (v3 : vp_in (Int32.ofNat (7 * k) + 3) L) (v4 : vp_in (Int32.ofNat (7 * k) + 4) L) (v5 : vp_in (Int32.ofNat (7 * k) + 5) L) (v6 : vp_in (Int32.ofNat (7 * k) + 6) L) (hk : k ≤ 512) (tail : ∀ (σ1 : xS) (μ1 : mS), Rel σ1 μ1 → JL p l e s m below meth c b D αc (70 + 4 * k + 4) (2000 + 30 * k + 30) (gx (gm roN μ1) σ1) 1211 [(3, .int (Int32.ofNat (7 * k))), (2, .ref 5000), (1, .ref 0), (0, .ref (9001 + 30))] []) : JL p l e s m below meth c b D αc (70 + 4 * k) (2000 + 30 * k) (gx (gm roN μ) σ) 366 [(3, .int (Int32.ofNat (7 * k))), (2, .ref 5000), (1, .ref 0), (0, .ref (9001 + 30))] [] := by
  have hc : 70 + 4 * k ≤ 500000 := by omega
  have hs : 2000 + 30 * k ≤ 7000000 := by omega
  have hc0 : 70 + 4 * k ≤ 400000 := by omega
  have hs0 : 2000 + 30 * k ≤ 6000000 := by omega
  have hc4 : 400000 + 4 ≤ 500000 := by decide
  have hs4 : 6000000 + 30 ≤ 7000000 := by decide
  obtain ⟨r, e1, e2, hR1⟩ := H4 σ μ hR (xs (Int32.ofNat (7 * k) + 1).toNatClampNeg)
  refine l_aload_n (pc' := 367) C tokL_4 rfl rfl rfl ?_
  refine l_aload_n (pc' := 368) C tokL_4 rfl rfl rfl ?_
  refine l_iload_n (pc' := 369) C tokL_4 rfl rfl rfl ?_
  refine l_iconst (v := 1) (pc' := 370) C tokL_4 rfl rfl (by decide) ?_
  refine l_iadd (pc' := 371) C tokL_4 rfl rfl ?_
  refine l_sld (pc' := 372) C tokL_4 rfl rfl v1 ?_
  refine l_v1 (pc' := 375) C tokL_4 rfl rfl miX6_silver lnL_32 (gxk_0 _ _) rfl (s_X6_silver _ σ _ _ e1) (l_rm rfl hc hs) (Nat.le_of_ble_eq_true rfl) ?_
  refine l_heap (gxgm roN σ μ) ?_
  refine l_aload_n (pc' := 376) C tokL_4 rfl rfl rfl ?_
  refine l_aload_n (pc' := 377) C tokL_4 rfl rfl rfl ?_
  refine l_iload_n (pc' := 378) C tokL_4 rfl rfl rfl ?_
  refine l_iconst (v := 1) (pc' := 379) C tokL_4 rfl rfl (by decide) ?_
  refine l_iadd (pc' := 380) C tokL_4 rfl rfl ?_
  refine l_sld (pc' := 381) C tokL_4 rfl rfl v1 ?_
  refine l_v1 (pc' := 384) C tokL_4 rfl rfl miX7_silver lnL_36 (gm_o _ _) rfl (s_X7_silver _ μ _ _ e2) (l_rm rfl (Nat.le_trans (Nat.add_le_add hc0 (show rX6_silver.cells ≤ 4 from Nat.le_of_ble_eq_true rfl)) hc4) (Nat.le_trans (Nat.add_le_add hs0 (show rX6_silver.slots ≤ 30 from Nat.le_of_ble_eq_true rfl)) hs4)) (Nat.le_of_ble_eq_true rfl) ?_
  refine l_heap (gxgm roN σ μ).symm ?_
  refine l_lcmp (pc' := 385) C tokL_4 rfl rfl ?_
  refine l_if_eq (tgt := 1211) (lg_self _) C tokL_4 rfl rfl ?_
  refine l_widen (a := 70 + 4 * k + 4) (d := 2000 + 30 * k + 30) (show 70 + 4 * k + rX6_silver.cells + rX7_silver.cells ≤ 70 + 4 * k + 4 from Nat.add_le_add_left (Nat.le_of_ble_eq_true rfl) (70 + 4 * k)) (show 2000 + 30 * k + rX6_silver.slots + rX7_silver.slots ≤ 2000 + 30 * k + 30 from Nat.add_le_add_left (Nat.le_of_ble_eq_true rfl) (2000 + 30 * k)) ?_
  exact tail σ μ hR1
set_option maxHeartbeats 4000000 in
set_option maxRecDepth 100000 in
theorem law_case_5 {p : Program} {l : Launch} {e : Env} {s : State} {m : MethodId} {below : List Frame} {meth : Method} {c : Code} {b L : Nat} {xs : Nat → Int32} {D : hG} {αc : Nat → Nat} (C : h_LC p s m meth c b L xs D) {Rel : xS → mS → Prop} (H5 : ∀ (σ : xS) (μ : mS), Rel σ μ → ∀ (a0 : Int32), ∃ (r : Int32) (σ1 : xS) (μ1 : mS), f_X6_today σ a0 = some (r, σ1) ∧ f_X7_today μ a0 = some (r, μ1) ∧ Rel σ1 μ1) {k : Nat} {σ : xS} {μ : mS} (hR : Rel σ μ) (v1 : vp_in (Int32.ofNat (7 * k) + 1) L) (v2 : vp_in (Int32.ofNat (7 * k) + 2) L) (v3 : vp_in (Int32.ofNat (7 * k) + 3) L) (v4 : vp_in (Int32.ofNat (7 * k) + 4) L) (v5 : vp_in (Int32.ofNat (7 * k) + 5) L) (v6 : vp_in (Int32.ofNat (7 * k) + 6) L) (hk : k ≤ 512) (tail : ∀ (σ1 : xS) (μ1 : mS), Rel σ1 μ1 → JL p l e s m below meth c b D αc (70 + 4 * k + 4) (2000 + 30 * k + 30) (gx (gm roN μ1) σ1) 1211 [(3, .int (Int32.ofNat (7 * k))), (2, .ref 5000), (1, .ref 0), (0, .ref (9001 + 30))] []) : JL p l e s m below meth c b D αc (70 + 4 * k) (2000 + 30 * k) (gx (gm roN μ) σ) 390 [(3, .int (Int32.ofNat (7 * k))), (2, .ref 5000), (1, .ref 0), (0, .ref (9001 + 30))] [] := by
  have hc : 70 + 4 * k ≤ 500000 := by omega
  have hs : 2000 + 30 * k ≤ 7000000 := by omega
  have hc0 : 70 + 4 * k ≤ 400000 := by omega
  have hs0 : 2000 + 30 * k ≤ 6000000 := by omega
  have hc4 : 400000 + 4 ≤ 500000 := by decide
  have hs4 : 6000000 + 30 ≤ 7000000 := by decide
  obtain ⟨r, σ1, μ1, e1, e2, hR1⟩ := H5 σ μ hR (xs (Int32.ofNat (7 * k) + 1).toNatClampNeg)
  refine l_aload_n (pc' := 391) C tokL_5 rfl rfl rfl ?_
  refine l_aload_n (pc' := 392) C tokL_5 rfl rfl rfl ?_
  refine l_iload_n (pc' := 393) C tokL_5 rfl rfl rfl ?_
  refine l_iconst (v := 1) (pc' := 394) C tokL_5 rfl rfl (by decide) ?_
  refine l_iadd (pc' := 395) C tokL_5 rfl rfl ?_
  refine l_sld (pc' := 396) C tokL_5 rfl rfl v1 ?_
  refine l_v1 (pc' := 399) C tokL_5 rfl rfl miX6_today lnL_37 (gxk_0 _ _) rfl (s_X6_today _ σ _ _ e1) (l_rm rfl hc hs) (Nat.le_of_ble_eq_true rfl) ?_
  refine l_heap (gxgm roN σ1 μ) ?_
  refine l_aload_n (pc' := 400) C tokL_5 rfl rfl rfl ?_
  refine l_aload_n (pc' := 401) C tokL_5 rfl rfl rfl ?_
  refine l_iload_n (pc' := 402) C tokL_5 rfl rfl rfl ?_
  refine l_iconst (v := 1) (pc' := 403) C tokL_5 rfl rfl (by decide) ?_
  refine l_iadd (pc' := 404) C tokL_5 rfl rfl ?_
  refine l_sld (pc' := 405) C tokL_5 rfl rfl v1 ?_
  refine l_v1 (pc' := 408) C tokL_5 rfl rfl miX7_today lnL_41 (gm_o _ _) rfl (s_X7_today _ μ _ _ e2) (l_rm rfl (Nat.le_trans (Nat.add_le_add hc0 (show rX6_today.cells ≤ 4 from Nat.le_of_ble_eq_true rfl)) hc4) (Nat.le_trans (Nat.add_le_add hs0 (show rX6_today.slots ≤ 30 from Nat.le_of_ble_eq_true rfl)) hs4)) (Nat.le_of_ble_eq_true rfl) ?_
  refine l_heap (gxgm roN σ1 μ1).symm ?_
  refine l_icmp_eq (tgt := 1211) C tokL_5 rfl rfl ?_
  refine l_widen (a := 70 + 4 * k + 4) (d := 2000 + 30 * k + 30) (show 70 + 4 * k + rX6_today.cells + rX7_today.cells ≤ 70 + 4 * k + 4 from Nat.add_le_add_left (Nat.le_of_ble_eq_true rfl) (70 + 4 * k)) (show 2000 + 30 * k + rX6_today.slots + rX7_today.slots ≤ 2000 + 30 * k + 30 from Nat.add_le_add_left (Nat.le_of_ble_eq_true rfl) (2000 + 30 * k)) ?_
  exact tail σ1 μ1 hR1
set_option maxHeartbeats 4000000 in
set_option maxRecDepth 100000 in
theorem law_case_6 {p : Program} {l : Launch} {e : Env} {s : State} {m : MethodId} {below : List Frame} {meth : Method} {c : Code} {b L : Nat} {xs : Nat → Int32} {D : hG} {αc : Nat → Nat} (C : h_LC p s m meth c b L xs D) {Rel : xS → mS → Prop} (H6 : ∀ (σ : xS) (μ : mS), Rel σ μ → ∀ (a0 : Int64) (a1 : Int32), ∃ (r : Int32) (σ1 : xS) (μ1 : mS), f_X6_feed σ a0 a1 = some (r, σ1) ∧ f_X7_feed μ a0 a1 = some (r, μ1) ∧ Rel σ1 μ1) {k : Nat} {σ : xS} {μ : mS} (hR : Rel σ μ) (v1 : vp_in (Int32.ofNat (7 * k) + 1) L) (v2 : vp_in (Int32.ofNat (7 * k) + 2) L) (v3 : vp_in (Int32.ofNat (7 * k) + 3) L) (v4 : vp_in (Int32.ofNat (7 * k) + 4) L) (v5 : vp_in (Int32.ofNat (7 * k) + 5) L) (v6 : vp_in (Int32.ofNat (7 * k) + 6) L) (hk : k ≤ 512) (tail : ∀ (σ1 : xS) (μ1 : mS), Rel σ1 μ1 → JL p l e s m below meth c b D αc (70 + 4 * k + 4) (2000 + 30 * k + 30) (gx (gm roN μ1) σ1) 1211 [(3, .int (Int32.ofNat (7 * k))), (2, .ref 5000), (1, .ref 0), (0, .ref (9001 + 30))] []) : JL p l e s m below meth c b D αc (70 + 4 * k) (2000 + 30 * k) (gx (gm roN μ) σ) 413 [(3, .int (Int32.ofNat (7 * k))), (2, .ref 5000), (1, .ref 0), (0, .ref (9001 + 30))] [] := by
  have hc : 70 + 4 * k ≤ 500000 := by omega
  have hs : 2000 + 30 * k ≤ 7000000 := by omega
  have hc0 : 70 + 4 * k ≤ 400000 := by omega
  have hs0 : 2000 + 30 * k ≤ 6000000 := by omega
  have hc4 : 400000 + 4 ≤ 500000 := by decide
  have hs4 : 6000000 + 30 ≤ 7000000 := by decide
  obtain ⟨r, σ1, μ1, e1, e2, hR1⟩ := H6 σ μ hR (((xs (Int32.ofNat (7 * k) + 1).toNatClampNeg).toInt64 <<< ((32 : Int32).toInt64 &&& 63)) ||| ((xs (Int32.ofNat (7 * k) + 2).toNatClampNeg).toInt64 &&& 4294967295)) (xs (Int32.ofNat (7 * k) + 3).toNatClampNeg)
  refine l_aload_n (pc' := 414) C tokL_6 rfl rfl rfl ?_
  refine l_aload_n (pc' := 415) C tokL_6 rfl rfl rfl ?_
  refine l_iload_n (pc' := 416) C tokL_6 rfl rfl rfl ?_
  refine l_iconst (v := 1) (pc' := 417) C tokL_6 rfl rfl (by decide) ?_
  refine l_iadd (pc' := 418) C tokL_6 rfl rfl ?_
  refine l_sld (pc' := 419) C tokL_6 rfl rfl v1 ?_
  refine l_i2l (pc' := 420) C tokL_6 rfl rfl ?_
  refine l_bipush (v := 32) (pc' := 422) C tokL_6 rfl rfl (by decide) ?_
  refine l_lshl (pc' := 423) C tokL_6 rfl rfl ?_
  refine l_aload_n (pc' := 424) C tokL_6 rfl rfl rfl ?_
  refine l_iload_n (pc' := 425) C tokL_6 rfl rfl rfl ?_
  refine l_iconst (v := 2) (pc' := 426) C tokL_6 rfl rfl (by decide) ?_
  refine l_iadd (pc' := 427) C tokL_6 rfl rfl ?_
  refine l_sld (pc' := 428) C tokL_6 rfl rfl v2 ?_
  refine l_i2l (pc' := 429) C tokL_6 rfl rfl ?_
  refine l_ldc2 (pc' := 432) C tokL_6 rfl rfl kcL_42 ?_
  refine l_land (pc' := 433) C tokL_6 rfl rfl ?_
  refine l_lor (pc' := 434) C tokL_6 rfl rfl ?_
  refine l_aload_n (pc' := 435) C tokL_6 rfl rfl rfl ?_
  refine l_iload_n (pc' := 436) C tokL_6 rfl rfl rfl ?_
  refine l_iconst (v := 3) (pc' := 437) C tokL_6 rfl rfl (by decide) ?_
  refine l_iadd (pc' := 438) C tokL_6 rfl rfl ?_
  refine l_sld (pc' := 439) C tokL_6 rfl rfl v3 ?_
  refine l_v2 (pc' := 442) C tokL_6 rfl rfl miX6_feed lnL_44 (gxk_0 _ _) rfl (s_X6_feed _ σ _ _ _ e1) (l_rm rfl hc hs) (Nat.le_of_ble_eq_true rfl) ?_
  refine l_heap (gxgm roN σ1 μ) ?_
  refine l_aload_n (pc' := 443) C tokL_6 rfl rfl rfl ?_
  refine l_aload_n (pc' := 444) C tokL_6 rfl rfl rfl ?_
  refine l_iload_n (pc' := 445) C tokL_6 rfl rfl rfl ?_
  refine l_iconst (v := 1) (pc' := 446) C tokL_6 rfl rfl (by decide) ?_
  refine l_iadd (pc' := 447) C tokL_6 rfl rfl ?_
  refine l_sld (pc' := 448) C tokL_6 rfl rfl v1 ?_
  refine l_i2l (pc' := 449) C tokL_6 rfl rfl ?_
  refine l_bipush (v := 32) (pc' := 451) C tokL_6 rfl rfl (by decide) ?_
  refine l_lshl (pc' := 452) C tokL_6 rfl rfl ?_
  refine l_aload_n (pc' := 453) C tokL_6 rfl rfl rfl ?_
  refine l_iload_n (pc' := 454) C tokL_6 rfl rfl rfl ?_
  refine l_iconst (v := 2) (pc' := 455) C tokL_6 rfl rfl (by decide) ?_
  refine l_iadd (pc' := 456) C tokL_6 rfl rfl ?_
  refine l_sld (pc' := 457) C tokL_6 rfl rfl v2 ?_
  refine l_i2l (pc' := 458) C tokL_6 rfl rfl ?_
  refine l_ldc2 (pc' := 461) C tokL_6 rfl rfl kcL_42 ?_
  refine l_land (pc' := 462) C tokL_6 rfl rfl ?_
  refine l_lor (pc' := 463) C tokL_6 rfl rfl ?_
  refine l_aload_n (pc' := 464) C tokL_6 rfl rfl rfl ?_
  refine l_iload_n (pc' := 465) C tokL_6 rfl rfl rfl ?_
  refine l_iconst (v := 3) (pc' := 466) C tokL_6 rfl rfl (by decide) ?_
  refine l_iadd (pc' := 467) C tokL_6 rfl rfl ?_
  refine l_sld (pc' := 468) C tokL_6 rfl rfl v3 ?_
  refine l_v2 (pc' := 471) C tokL_6 rfl rfl miX7_feed lnL_48 (gm_o _ _) rfl (s_X7_feed _ μ _ _ _ e2) (l_rm rfl (Nat.le_trans (Nat.add_le_add hc0 (show rX6_feed.cells ≤ 4 from Nat.le_of_ble_eq_true rfl)) hc4) (Nat.le_trans (Nat.add_le_add hs0 (show rX6_feed.slots ≤ 30 from Nat.le_of_ble_eq_true rfl)) hs4)) (Nat.le_of_ble_eq_true rfl) ?_
  refine l_heap (gxgm roN σ1 μ1).symm ?_
  refine l_icmp_eq (tgt := 1211) C tokL_6 rfl rfl ?_
  refine l_widen (a := 70 + 4 * k + 4) (d := 2000 + 30 * k + 30) (show 70 + 4 * k + rX6_feed.cells + rX7_feed.cells ≤ 70 + 4 * k + 4 from Nat.add_le_add_left (Nat.le_of_ble_eq_true rfl) (70 + 4 * k)) (show 2000 + 30 * k + rX6_feed.slots + rX7_feed.slots ≤ 2000 + 30 * k + 30 from Nat.add_le_add_left (Nat.le_of_ble_eq_true rfl) (2000 + 30 * k)) ?_
  exact tail σ1 μ1 hR1
set_option maxHeartbeats 4000000 in
set_option maxRecDepth 100000 in
theorem law_case_7 {p : Program} {l : Launch} {e : Env} {s : State} {m : MethodId} {below : List Frame} {meth : Method} {c : Code} {b L : Nat} {xs : Nat → Int32} {D : hG} {αc : Nat → Nat} (C : h_LC p s m meth c b L xs D) {Rel : xS → mS → Prop} (H7 : ∀ (σ : xS) (μ : mS), Rel σ μ → ∃ (r : Int32) (σ1 : xS) (μ1 : mS), f_X6_order σ = some (r, σ1) ∧ f_X7_order μ = some (r, μ1) ∧ Rel σ1 μ1) {k : Nat} {σ : xS} {μ : mS} (hR : Rel σ μ) (v1 : vp_in (Int32.ofNat (7 * k) + 1) L) (v2 : vp_in (Int32.ofNat (7 * k) + 2) L) (v3 : vp_in (Int32.ofNat (7 * k) + 3) L) (v4 : vp_in (Int32.ofNat (7 * k) + 4) L) (v5 : vp_in (Int32.ofNat (7 * k) + 5) L) (v6 : vp_in (Int32.ofNat (7 * k) + 6) L) (hk : k ≤ 512) (tail : ∀ (σ1 : xS) (μ1 : mS), Rel σ1 μ1 → JL p l e s m below meth c b D αc (70 + 4 * k + 4) (2000 + 30 * k + 30) (gx (gm roN μ1) σ1) 1211 [(3, .int (Int32.ofNat (7 * k))), (2, .ref 5000), (1, .ref 0), (0, .ref (9001 + 30))] []) : JL p l e s m below meth c b D αc (70 + 4 * k) (2000 + 30 * k) (gx (gm roN μ) σ) 476 [(3, .int (Int32.ofNat (7 * k))), (2, .ref 5000), (1, .ref 0), (0, .ref (9001 + 30))] [] := by
  have hc : 70 + 4 * k ≤ 500000 := by omega
  have hs : 2000 + 30 * k ≤ 7000000 := by omega
  have hc0 : 70 + 4 * k ≤ 400000 := by omega
  have hs0 : 2000 + 30 * k ≤ 6000000 := by omega
  have hc4 : 400000 + 4 ≤ 500000 := by decide
  have hs4 : 6000000 + 30 ≤ 7000000 := by decide
  obtain ⟨r, σ1, μ1, e1, e2, hR1⟩ := H7 σ μ hR
  refine l_aload_n (pc' := 477) C tokL_7 rfl rfl rfl ?_
  refine l_v0 (pc' := 480) C tokL_7 rfl rfl miX6_order lnL_49 (gxk_0 _ _) rfl (s_X6_order _ σ _ e1) (l_rm rfl hc hs) (Nat.le_of_ble_eq_true rfl) ?_
  refine l_heap (gxgm roN σ1 μ) ?_
  refine l_aload_n (pc' := 481) C tokL_7 rfl rfl rfl ?_
  refine l_v0 (pc' := 484) C tokL_7 rfl rfl miX7_order lnL_53 (gm_o _ _) rfl (s_X7_order _ μ _ e2) (l_rm rfl (Nat.le_trans (Nat.add_le_add hc0 (show rX6_order.cells ≤ 4 from Nat.le_of_ble_eq_true rfl)) hc4) (Nat.le_trans (Nat.add_le_add hs0 (show rX6_order.slots ≤ 30 from Nat.le_of_ble_eq_true rfl)) hs4)) (Nat.le_of_ble_eq_true rfl) ?_
  refine l_heap (gxgm roN σ1 μ1).symm ?_
  refine l_icmp_eq (tgt := 1211) C tokL_7 rfl rfl ?_
  refine l_widen (a := 70 + 4 * k + 4) (d := 2000 + 30 * k + 30) (show 70 + 4 * k + rX6_order.cells + rX7_order.cells ≤ 70 + 4 * k + 4 from Nat.add_le_add_left (Nat.le_of_ble_eq_true rfl) (70 + 4 * k)) (show 2000 + 30 * k + rX6_order.slots + rX7_order.slots ≤ 2000 + 30 * k + 30 from Nat.add_le_add_left (Nat.le_of_ble_eq_true rfl) (2000 + 30 * k)) ?_
  exact tail σ1 μ1 hR1
set_option maxHeartbeats 4000000 in
set_option maxRecDepth 100000 in
theorem law_case_8 {p : Program} {l : Launch} {e : Env} {s : State} {m : MethodId} {below : List Frame} {meth : Method} {c : Code} {b L : Nat} {xs : Nat → Int32} {D : hG} {αc : Nat → Nat} (C : h_LC p s m meth c b L xs D) {Rel : xS → mS → Prop} (H8 : ∀ (σ : xS) (μ : mS), Rel σ μ → ∀ (a0 : Int32) (a1 : Int32), ∃ (r : Int32) (σ1 : xS) (μ1 : mS), f_X6_tell σ a0 a1 = some (r, σ1) ∧ f_X7_tell μ a0 a1 = some (r, μ1) ∧ Rel σ1 μ1) {k : Nat} {σ : xS} {μ : mS} (hR : Rel σ μ) (v1 : vp_in (Int32.ofNat (7 * k) + 1) L) (v2 : vp_in (Int32.ofNat (7 * k) + 2) L) (v3 : vp_in (Int32.ofNat (7 * k) + 3) L) (v4 : vp_in (Int32.ofNat (7 * k) + 4) L) (v5 : vp_in (Int32.ofNat (7 * k) + 5) L) (v6 : vp_in (Int32.ofNat (7 * k) + 6) L) (hk : k ≤ 512) (tail : ∀ (σ1 : xS) (μ1 : mS), Rel σ1 μ1 → JL p l e s m below meth c b D αc (70 + 4 * k + 4) (2000 + 30 * k + 30) (gx (gm roN μ1) σ1) 1211 [(3, .int (Int32.ofNat (7 * k))), (2, .ref 5000), (1, .ref 0), (0, .ref (9001 + 30))] []) : JL p l e s m below meth c b D αc (70 + 4 * k) (2000 + 30 * k) (gx (gm roN μ) σ) 489 [(3, .int (Int32.ofNat (7 * k))), (2, .ref 5000), (1, .ref 0), (0, .ref (9001 + 30))] [] := by
  have hc : 70 + 4 * k ≤ 500000 := by omega
  have hs : 2000 + 30 * k ≤ 7000000 := by omega
  have hc0 : 70 + 4 * k ≤ 400000 := by omega
  have hs0 : 2000 + 30 * k ≤ 6000000 := by omega
  have hc4 : 400000 + 4 ≤ 500000 := by decide
  have hs4 : 6000000 + 30 ≤ 7000000 := by decide
  obtain ⟨r, σ1, μ1, e1, e2, hR1⟩ := H8 σ μ hR (xs (Int32.ofNat (7 * k) + 1).toNatClampNeg) (xs (Int32.ofNat (7 * k) + 2).toNatClampNeg)
  refine l_aload_n (pc' := 490) C tokL_8 rfl rfl rfl ?_
  refine l_aload_n (pc' := 491) C tokL_8 rfl rfl rfl ?_
  refine l_iload_n (pc' := 492) C tokL_8 rfl rfl rfl ?_
  refine l_iconst (v := 1) (pc' := 493) C tokL_8 rfl rfl (by decide) ?_
  refine l_iadd (pc' := 494) C tokL_8 rfl rfl ?_
  refine l_sld (pc' := 495) C tokL_8 rfl rfl v1 ?_
  refine l_aload_n (pc' := 496) C tokL_8 rfl rfl rfl ?_
  refine l_iload_n (pc' := 497) C tokL_8 rfl rfl rfl ?_
  refine l_iconst (v := 2) (pc' := 498) C tokL_8 rfl rfl (by decide) ?_
  refine l_iadd (pc' := 499) C tokL_8 rfl rfl ?_
  refine l_sld (pc' := 500) C tokL_8 rfl rfl v2 ?_
  refine l_v2 (pc' := 503) C tokL_8 rfl rfl miX6_tell lnL_54 (gxk_0 _ _) rfl (s_X6_tell _ σ _ _ _ e1) (l_rm rfl hc hs) (Nat.le_of_ble_eq_true rfl) ?_
  refine l_heap (gxgm roN σ1 μ) ?_
  refine l_aload_n (pc' := 504) C tokL_8 rfl rfl rfl ?_
  refine l_aload_n (pc' := 505) C tokL_8 rfl rfl rfl ?_
  refine l_iload_n (pc' := 506) C tokL_8 rfl rfl rfl ?_
  refine l_iconst (v := 1) (pc' := 507) C tokL_8 rfl rfl (by decide) ?_
  refine l_iadd (pc' := 508) C tokL_8 rfl rfl ?_
  refine l_sld (pc' := 509) C tokL_8 rfl rfl v1 ?_
  refine l_aload_n (pc' := 510) C tokL_8 rfl rfl rfl ?_
  refine l_iload_n (pc' := 511) C tokL_8 rfl rfl rfl ?_
  refine l_iconst (v := 2) (pc' := 512) C tokL_8 rfl rfl (by decide) ?_
  refine l_iadd (pc' := 513) C tokL_8 rfl rfl ?_
  refine l_sld (pc' := 514) C tokL_8 rfl rfl v2 ?_
  refine l_v2 (pc' := 517) C tokL_8 rfl rfl miX7_tell lnL_57 (gm_o _ _) rfl (s_X7_tell _ μ _ _ _ e2) (l_rm rfl (Nat.le_trans (Nat.add_le_add hc0 (show rX6_tell.cells ≤ 4 from Nat.le_of_ble_eq_true rfl)) hc4) (Nat.le_trans (Nat.add_le_add hs0 (show rX6_tell.slots ≤ 30 from Nat.le_of_ble_eq_true rfl)) hs4)) (Nat.le_of_ble_eq_true rfl) ?_
  refine l_heap (gxgm roN σ1 μ1).symm ?_
  refine l_icmp_eq (tgt := 1211) C tokL_8 rfl rfl ?_
  refine l_widen (a := 70 + 4 * k + 4) (d := 2000 + 30 * k + 30) (show 70 + 4 * k + rX6_tell.cells + rX7_tell.cells ≤ 70 + 4 * k + 4 from Nat.add_le_add_left (Nat.le_of_ble_eq_true rfl) (70 + 4 * k)) (show 2000 + 30 * k + rX6_tell.slots + rX7_tell.slots ≤ 2000 + 30 * k + 30 from Nat.add_le_add_left (Nat.le_of_ble_eq_true rfl) (2000 + 30 * k)) ?_
  exact tail σ1 μ1 hR1
set_option maxHeartbeats 4000000 in
set_option maxRecDepth 100000 in
theorem law_case_9 {p : Program} {l : Launch} {e : Env} {s : State} {m : MethodId} {below : List Frame} {meth : Method} {c : Code} {b L : Nat} {xs : Nat → Int32} {D : hG} {αc : Nat → Nat} (C : h_LC p s m meth c b L xs D) {Rel : xS → mS → Prop} (H9 : ∀ (σ : xS) (μ : mS), Rel σ μ → ∀ (a0 : Int32) (a1 : Int32), ∃ (r : Int32), f_X6_force σ a0 a1 = some r ∧ f_X7_force μ a0 a1 = some r ∧ Rel σ μ) {k : Nat} {σ : xS} {μ : mS} (hR : Rel σ μ) (v1 : vp_in (Int32.ofNat (7 * k) + 1) L) (v2 : vp_in (Int32.ofNat (7 * k) + 2) L) (v3 : vp_in (Int32.ofNat (7 * k) + 3) L) (v4 : vp_in (Int32.ofNat (7 * k) + 4) L) (v5 : vp_in (Int32.ofNat (7 * k) + 5) L) (v6 : vp_in (Int32.ofNat (7 * k) + 6) L) (hk : k ≤ 512) (tail : ∀ (σ1 : xS) (μ1 : mS), Rel σ1 μ1 → JL p l e s m below meth c b D αc (70 + 4 * k + 4) (2000 + 30 * k + 30) (gx (gm roN μ1) σ1) 1211 [(3, .int (Int32.ofNat (7 * k))), (2, .ref 5000), (1, .ref 0), (0, .ref (9001 + 30))] []) : JL p l e s m below meth c b D αc (70 + 4 * k) (2000 + 30 * k) (gx (gm roN μ) σ) 522 [(3, .int (Int32.ofNat (7 * k))), (2, .ref 5000), (1, .ref 0), (0, .ref (9001 + 30))] [] := by
  have hc : 70 + 4 * k ≤ 500000 := by omega
  have hs : 2000 + 30 * k ≤ 7000000 := by omega
  have hc0 : 70 + 4 * k ≤ 400000 := by omega
  have hs0 : 2000 + 30 * k ≤ 6000000 := by omega
  have hc4 : 400000 + 4 ≤ 500000 := by decide
  have hs4 : 6000000 + 30 ≤ 7000000 := by decide
  obtain ⟨r, e1, e2, hR1⟩ := H9 σ μ hR (xs (Int32.ofNat (7 * k) + 1).toNatClampNeg) (xs (Int32.ofNat (7 * k) + 2).toNatClampNeg)
  refine l_aload_n (pc' := 523) C tokL_9 rfl rfl rfl ?_
  refine l_aload_n (pc' := 524) C tokL_9 rfl rfl rfl ?_
  refine l_iload_n (pc' := 525) C tokL_9 rfl rfl rfl ?_
  refine l_iconst (v := 1) (pc' := 526) C tokL_9 rfl rfl (by decide) ?_
  refine l_iadd (pc' := 527) C tokL_9 rfl rfl ?_
  refine l_sld (pc' := 528) C tokL_9 rfl rfl v1 ?_
  refine l_aload_n (pc' := 529) C tokL_9 rfl rfl rfl ?_
  refine l_iload_n (pc' := 530) C tokL_9 rfl rfl rfl ?_
  refine l_iconst (v := 2) (pc' := 531) C tokL_9 rfl rfl (by decide) ?_
  refine l_iadd (pc' := 532) C tokL_9 rfl rfl ?_
  refine l_sld (pc' := 533) C tokL_9 rfl rfl v2 ?_
  refine l_v2 (pc' := 536) C tokL_9 rfl rfl miX6_force lnL_58 (gxk_0 _ _) rfl (s_X6_force _ σ _ _ _ e1) (l_rm rfl hc hs) (Nat.le_of_ble_eq_true rfl) ?_
  refine l_heap (gxgm roN σ μ) ?_
  refine l_aload_n (pc' := 537) C tokL_9 rfl rfl rfl ?_
  refine l_aload_n (pc' := 538) C tokL_9 rfl rfl rfl ?_
  refine l_iload_n (pc' := 539) C tokL_9 rfl rfl rfl ?_
  refine l_iconst (v := 1) (pc' := 540) C tokL_9 rfl rfl (by decide) ?_
  refine l_iadd (pc' := 541) C tokL_9 rfl rfl ?_
  refine l_sld (pc' := 542) C tokL_9 rfl rfl v1 ?_
  refine l_aload_n (pc' := 543) C tokL_9 rfl rfl rfl ?_
  refine l_iload_n (pc' := 544) C tokL_9 rfl rfl rfl ?_
  refine l_iconst (v := 2) (pc' := 545) C tokL_9 rfl rfl (by decide) ?_
  refine l_iadd (pc' := 546) C tokL_9 rfl rfl ?_
  refine l_sld (pc' := 547) C tokL_9 rfl rfl v2 ?_
  refine l_v2 (pc' := 550) C tokL_9 rfl rfl miX7_force lnL_61 (gm_o _ _) rfl (s_X7_force _ μ _ _ _ e2) (l_rm rfl (Nat.le_trans (Nat.add_le_add hc0 (show rX6_force.cells ≤ 4 from Nat.le_of_ble_eq_true rfl)) hc4) (Nat.le_trans (Nat.add_le_add hs0 (show rX6_force.slots ≤ 30 from Nat.le_of_ble_eq_true rfl)) hs4)) (Nat.le_of_ble_eq_true rfl) ?_
  refine l_heap (gxgm roN σ μ).symm ?_
  refine l_icmp_eq (tgt := 1211) C tokL_9 rfl rfl ?_
  refine l_widen (a := 70 + 4 * k + 4) (d := 2000 + 30 * k + 30) (show 70 + 4 * k + rX6_force.cells + rX7_force.cells ≤ 70 + 4 * k + 4 from Nat.add_le_add_left (Nat.le_of_ble_eq_true rfl) (70 + 4 * k)) (show 2000 + 30 * k + rX6_force.slots + rX7_force.slots ≤ 2000 + 30 * k + 30 from Nat.add_le_add_left (Nat.le_of_ble_eq_true rfl) (2000 + 30 * k)) ?_
  exact tail σ μ hR1
set_option maxHeartbeats 4000000 in
set_option maxRecDepth 100000 in
theorem law_case_10 {p : Program} {l : Launch} {e : Env} {s : State} {m : MethodId} {below : List Frame} {meth : Method} {c : Code} {b L : Nat} {xs : Nat → Int32} {D : hG} {αc : Nat → Nat} (C : h_LC p s m meth c b L xs D) {Rel : xS → mS → Prop} (H10 : ∀ (σ : xS) (μ : mS), Rel σ μ → ∀ (a0 : Int32) (a1 : Int32) (a2 : Int32), ∃ (r : Int32), f_X6_pass σ a0 a1 a2 = some r ∧ f_X7_pass μ a0 a1 a2 = some r ∧ Rel σ μ) {k : Nat} {σ : xS} {μ : mS} (hR : Rel σ μ) (v1 : vp_in (Int32.ofNat (7 * k) + 1) L) (v2 : vp_in (Int32.ofNat (7 * k) + 2) L) (v3 : vp_in (Int32.ofNat (7 * k) + 3) L) (v4 : vp_in (Int32.ofNat (7 * k) + 4) L) (v5 : vp_in (Int32.ofNat (7 * k) + 5) L) (v6 : vp_in (Int32.ofNat (7 * k) + 6) L) (hk : k ≤ 512) (tail : ∀ (σ1 : xS) (μ1 : mS), Rel σ1 μ1 → JL p l e s m below meth c b D αc (70 + 4 * k + 4) (2000 + 30 * k + 30) (gx (gm roN μ1) σ1) 1211 [(3, .int (Int32.ofNat (7 * k))), (2, .ref 5000), (1, .ref 0), (0, .ref (9001 + 30))] []) : JL p l e s m below meth c b D αc (70 + 4 * k) (2000 + 30 * k) (gx (gm roN μ) σ) 555 [(3, .int (Int32.ofNat (7 * k))), (2, .ref 5000), (1, .ref 0), (0, .ref (9001 + 30))] [] := by
  have hc : 70 + 4 * k ≤ 500000 := by omega
  have hs : 2000 + 30 * k ≤ 7000000 := by omega
  have hc0 : 70 + 4 * k ≤ 400000 := by omega
  have hs0 : 2000 + 30 * k ≤ 6000000 := by omega
  have hc4 : 400000 + 4 ≤ 500000 := by decide
  have hs4 : 6000000 + 30 ≤ 7000000 := by decide
  obtain ⟨r, e1, e2, hR1⟩ := H10 σ μ hR (xs (Int32.ofNat (7 * k) + 1).toNatClampNeg) (xs (Int32.ofNat (7 * k) + 2).toNatClampNeg) (xs (Int32.ofNat (7 * k) + 3).toNatClampNeg)
  refine l_aload_n (pc' := 556) C tokL_10 rfl rfl rfl ?_
  refine l_aload_n (pc' := 557) C tokL_10 rfl rfl rfl ?_
  refine l_iload_n (pc' := 558) C tokL_10 rfl rfl rfl ?_
  refine l_iconst (v := 1) (pc' := 559) C tokL_10 rfl rfl (by decide) ?_
  refine l_iadd (pc' := 560) C tokL_10 rfl rfl ?_
  refine l_sld (pc' := 561) C tokL_10 rfl rfl v1 ?_
  refine l_aload_n (pc' := 562) C tokL_10 rfl rfl rfl ?_
  refine l_iload_n (pc' := 563) C tokL_10 rfl rfl rfl ?_
  refine l_iconst (v := 2) (pc' := 564) C tokL_10 rfl rfl (by decide) ?_
  refine l_iadd (pc' := 565) C tokL_10 rfl rfl ?_
  refine l_sld (pc' := 566) C tokL_10 rfl rfl v2 ?_
  refine l_aload_n (pc' := 567) C tokL_10 rfl rfl rfl ?_
  refine l_iload_n (pc' := 568) C tokL_10 rfl rfl rfl ?_
  refine l_iconst (v := 3) (pc' := 569) C tokL_10 rfl rfl (by decide) ?_
  refine l_iadd (pc' := 570) C tokL_10 rfl rfl ?_
  refine l_sld (pc' := 571) C tokL_10 rfl rfl v3 ?_
  refine l_v3 (pc' := 574) C tokL_10 rfl rfl miX6_pass lnL_62 (gxk_0 _ _) rfl (s_X6_pass _ σ _ _ _ _ e1) (l_rm rfl hc hs) (Nat.le_of_ble_eq_true rfl) ?_
  refine l_heap (gxgm roN σ μ) ?_
  refine l_aload_n (pc' := 575) C tokL_10 rfl rfl rfl ?_
  refine l_aload_n (pc' := 576) C tokL_10 rfl rfl rfl ?_
  refine l_iload_n (pc' := 577) C tokL_10 rfl rfl rfl ?_
  refine l_iconst (v := 1) (pc' := 578) C tokL_10 rfl rfl (by decide) ?_
  refine l_iadd (pc' := 579) C tokL_10 rfl rfl ?_
  refine l_sld (pc' := 580) C tokL_10 rfl rfl v1 ?_
  refine l_aload_n (pc' := 581) C tokL_10 rfl rfl rfl ?_
  refine l_iload_n (pc' := 582) C tokL_10 rfl rfl rfl ?_
  refine l_iconst (v := 2) (pc' := 583) C tokL_10 rfl rfl (by decide) ?_
  refine l_iadd (pc' := 584) C tokL_10 rfl rfl ?_
  refine l_sld (pc' := 585) C tokL_10 rfl rfl v2 ?_
  refine l_aload_n (pc' := 586) C tokL_10 rfl rfl rfl ?_
  refine l_iload_n (pc' := 587) C tokL_10 rfl rfl rfl ?_
  refine l_iconst (v := 3) (pc' := 588) C tokL_10 rfl rfl (by decide) ?_
  refine l_iadd (pc' := 589) C tokL_10 rfl rfl ?_
  refine l_sld (pc' := 590) C tokL_10 rfl rfl v3 ?_
  refine l_v3 (pc' := 593) C tokL_10 rfl rfl miX7_pass lnL_66 (gm_o _ _) rfl (s_X7_pass _ μ _ _ _ _ e2) (l_rm rfl (Nat.le_trans (Nat.add_le_add hc0 (show rX6_pass.cells ≤ 4 from Nat.le_of_ble_eq_true rfl)) hc4) (Nat.le_trans (Nat.add_le_add hs0 (show rX6_pass.slots ≤ 30 from Nat.le_of_ble_eq_true rfl)) hs4)) (Nat.le_of_ble_eq_true rfl) ?_
  refine l_heap (gxgm roN σ μ).symm ?_
  refine l_icmp_eq (tgt := 1211) C tokL_10 rfl rfl ?_
  refine l_widen (a := 70 + 4 * k + 4) (d := 2000 + 30 * k + 30) (show 70 + 4 * k + rX6_pass.cells + rX7_pass.cells ≤ 70 + 4 * k + 4 from Nat.add_le_add_left (Nat.le_of_ble_eq_true rfl) (70 + 4 * k)) (show 2000 + 30 * k + rX6_pass.slots + rX7_pass.slots ≤ 2000 + 30 * k + 30 from Nat.add_le_add_left (Nat.le_of_ble_eq_true rfl) (2000 + 30 * k)) ?_
  exact tail σ μ hR1
set_option maxHeartbeats 4000000 in
set_option maxRecDepth 100000 in
theorem law_case_11 {p : Program} {l : Launch} {e : Env} {s : State} {m : MethodId} {below : List Frame} {meth : Method} {c : Code} {b L : Nat} {xs : Nat → Int32} {D : hG} {αc : Nat → Nat} (C : h_LC p s m meth c b L xs D) {Rel : xS → mS → Prop} (H11 : ∀ (σ : xS) (μ : mS), Rel σ μ → ∀ (a0 : Int32) (a1 : Int32) (a2 : Int32) (a3 : Int32), ∃ (r : Int32), f_X6_light σ a0 a1 a2 a3 = some r ∧ f_X7_light μ a0 a1 a2 a3 = some r ∧ Rel σ μ) {k : Nat} {σ : xS} {μ : mS} (hR : Rel σ μ) (v1 : vp_in (Int32.ofNat (7 * k) + 1) L) (v2 : vp_in (Int32.ofNat (7 * k) + 2) L) (v3 : vp_in (Int32.ofNat (7 * k) + 3) L) (v4 : vp_in (Int32.ofNat (7 * k) + 4) L) (v5 : vp_in (Int32.ofNat (7 * k) + 5) L) (v6 : vp_in (Int32.ofNat (7 * k) + 6) L) (hk : k ≤ 512) (tail : ∀ (σ1 : xS) (μ1 : mS), Rel σ1 μ1 → JL p l e s m below meth c b D αc (70 + 4 * k + 4) (2000 + 30 * k + 30) (gx (gm roN μ1) σ1) 1211 [(3, .int (Int32.ofNat (7 * k))), (2, .ref 5000), (1, .ref 0), (0, .ref (9001 + 30))] []) : JL p l e s m below meth c b D αc (70 + 4 * k) (2000 + 30 * k) (gx (gm roN μ) σ) 598 [(3, .int (Int32.ofNat (7 * k))), (2, .ref 5000), (1, .ref 0), (0, .ref (9001 + 30))] [] := by
  have hc : 70 + 4 * k ≤ 500000 := by omega
  have hs : 2000 + 30 * k ≤ 7000000 := by omega
  have hc0 : 70 + 4 * k ≤ 400000 := by omega
  have hs0 : 2000 + 30 * k ≤ 6000000 := by omega
  have hc4 : 400000 + 4 ≤ 500000 := by decide
  have hs4 : 6000000 + 30 ≤ 7000000 := by decide
  obtain ⟨r, e1, e2, hR1⟩ := H11 σ μ hR (xs (Int32.ofNat (7 * k) + 1).toNatClampNeg) (xs (Int32.ofNat (7 * k) + 2).toNatClampNeg) (xs (Int32.ofNat (7 * k) + 3).toNatClampNeg) (xs (Int32.ofNat (7 * k) + 4).toNatClampNeg)
  refine l_aload_n (pc' := 599) C tokL_11 rfl rfl rfl ?_
  refine l_aload_n (pc' := 600) C tokL_11 rfl rfl rfl ?_
  refine l_iload_n (pc' := 601) C tokL_11 rfl rfl rfl ?_
  refine l_iconst (v := 1) (pc' := 602) C tokL_11 rfl rfl (by decide) ?_
  refine l_iadd (pc' := 603) C tokL_11 rfl rfl ?_
  refine l_sld (pc' := 604) C tokL_11 rfl rfl v1 ?_
  refine l_aload_n (pc' := 605) C tokL_11 rfl rfl rfl ?_
  refine l_iload_n (pc' := 606) C tokL_11 rfl rfl rfl ?_
  refine l_iconst (v := 2) (pc' := 607) C tokL_11 rfl rfl (by decide) ?_
  refine l_iadd (pc' := 608) C tokL_11 rfl rfl ?_
  refine l_sld (pc' := 609) C tokL_11 rfl rfl v2 ?_
  refine l_aload_n (pc' := 610) C tokL_11 rfl rfl rfl ?_
  refine l_iload_n (pc' := 611) C tokL_11 rfl rfl rfl ?_
  refine l_iconst (v := 3) (pc' := 612) C tokL_11 rfl rfl (by decide) ?_
  refine l_iadd (pc' := 613) C tokL_11 rfl rfl ?_
  refine l_sld (pc' := 614) C tokL_11 rfl rfl v3 ?_
  refine l_aload_n (pc' := 615) C tokL_11 rfl rfl rfl ?_
  refine l_iload_n (pc' := 616) C tokL_11 rfl rfl rfl ?_
  refine l_iconst (v := 4) (pc' := 617) C tokL_11 rfl rfl (by decide) ?_
  refine l_iadd (pc' := 618) C tokL_11 rfl rfl ?_
  refine l_sld (pc' := 619) C tokL_11 rfl rfl v4 ?_
  refine l_v4 (pc' := 622) C tokL_11 rfl rfl miX6_light lnL_67 (gxk_0 _ _) rfl (s_X6_light _ σ _ _ _ _ _ e1) (l_rm rfl hc hs) (Nat.le_of_ble_eq_true rfl) ?_
  refine l_heap (gxgm roN σ μ) ?_
  refine l_aload_n (pc' := 623) C tokL_11 rfl rfl rfl ?_
  refine l_aload_n (pc' := 624) C tokL_11 rfl rfl rfl ?_
  refine l_iload_n (pc' := 625) C tokL_11 rfl rfl rfl ?_
  refine l_iconst (v := 1) (pc' := 626) C tokL_11 rfl rfl (by decide) ?_
  refine l_iadd (pc' := 627) C tokL_11 rfl rfl ?_
  refine l_sld (pc' := 628) C tokL_11 rfl rfl v1 ?_
  refine l_aload_n (pc' := 629) C tokL_11 rfl rfl rfl ?_
  refine l_iload_n (pc' := 630) C tokL_11 rfl rfl rfl ?_
  refine l_iconst (v := 2) (pc' := 631) C tokL_11 rfl rfl (by decide) ?_
  refine l_iadd (pc' := 632) C tokL_11 rfl rfl ?_
  refine l_sld (pc' := 633) C tokL_11 rfl rfl v2 ?_
  refine l_aload_n (pc' := 634) C tokL_11 rfl rfl rfl ?_
  refine l_iload_n (pc' := 635) C tokL_11 rfl rfl rfl ?_
  refine l_iconst (v := 3) (pc' := 636) C tokL_11 rfl rfl (by decide) ?_
  refine l_iadd (pc' := 637) C tokL_11 rfl rfl ?_
  refine l_sld (pc' := 638) C tokL_11 rfl rfl v3 ?_
  refine l_aload_n (pc' := 639) C tokL_11 rfl rfl rfl ?_
  refine l_iload_n (pc' := 640) C tokL_11 rfl rfl rfl ?_
  refine l_iconst (v := 4) (pc' := 641) C tokL_11 rfl rfl (by decide) ?_
  refine l_iadd (pc' := 642) C tokL_11 rfl rfl ?_
  refine l_sld (pc' := 643) C tokL_11 rfl rfl v4 ?_
  refine l_v4 (pc' := 646) C tokL_11 rfl rfl miX7_light lnL_70 (gm_o _ _) rfl (s_X7_light _ μ _ _ _ _ _ e2) (l_rm rfl (Nat.le_trans (Nat.add_le_add hc0 (show rX6_light.cells ≤ 4 from Nat.le_of_ble_eq_true rfl)) hc4) (Nat.le_trans (Nat.add_le_add hs0 (show rX6_light.slots ≤ 30 from Nat.le_of_ble_eq_true rfl)) hs4)) (Nat.le_of_ble_eq_true rfl) ?_
  refine l_heap (gxgm roN σ μ).symm ?_
  refine l_icmp_eq (tgt := 1211) C tokL_11 rfl rfl ?_
  refine l_widen (a := 70 + 4 * k + 4) (d := 2000 + 30 * k + 30) (show 70 + 4 * k + rX6_light.cells + rX7_light.cells ≤ 70 + 4 * k + 4 from Nat.add_le_add_left (Nat.le_of_ble_eq_true rfl) (70 + 4 * k)) (show 2000 + 30 * k + rX6_light.slots + rX7_light.slots ≤ 2000 + 30 * k + 30 from Nat.add_le_add_left (Nat.le_of_ble_eq_true rfl) (2000 + 30 * k)) ?_
  exact tail σ μ hR1
set_option maxHeartbeats 4000000 in
set_option maxRecDepth 100000 in
theorem law_case_12 {p : Program} {l : Launch} {e : Env} {s : State} {m : MethodId} {below : List Frame} {meth : Method} {c : Code} {b L : Nat} {xs : Nat → Int32} {D : hG} {αc : Nat → Nat} (C : h_LC p s m meth c b L xs D) {Rel : xS → mS → Prop} (H12 : ∀ (σ : xS) (μ : mS), Rel σ μ → ∀ (a0 : Int32) (a1 : Int32), ∃ (r : Int32) (σ1 : xS) (μ1 : mS), f_X6_pay σ a0 a1 = some (r, σ1) ∧ f_X7_pay μ a0 a1 = some (r, μ1) ∧ Rel σ1 μ1) {k : Nat} {σ : xS} {μ : mS} (hR : Rel σ μ) (v1 : vp_in (Int32.ofNat (7 * k) + 1) L) (v2 : vp_in (Int32.ofNat (7 * k) + 2) L) (v3 : vp_in (Int32.ofNat (7 * k) + 3) L) (v4 : vp_in (Int32.ofNat (7 * k) + 4) L) (v5 : vp_in (Int32.ofNat (7 * k) + 5) L) (v6 : vp_in (Int32.ofNat (7 * k) + 6) L) (hk : k ≤ 512) (tail : ∀ (σ1 : xS) (μ1 : mS), Rel σ1 μ1 → JL p l e s m below meth c b D αc (70 + 4 * k + 4) (2000 + 30 * k + 30) (gx (gm roN μ1) σ1) 1211 [(3, .int (Int32.ofNat (7 * k))), (2, .ref 5000), (1, .ref 0), (0, .ref (9001 + 30))] []) : JL p l e s m below meth c b D αc (70 + 4 * k) (2000 + 30 * k) (gx (gm roN μ) σ) 651 [(3, .int (Int32.ofNat (7 * k))), (2, .ref 5000), (1, .ref 0), (0, .ref (9001 + 30))] [] := by
  have hc : 70 + 4 * k ≤ 500000 := by omega
  have hs : 2000 + 30 * k ≤ 7000000 := by omega
  have hc0 : 70 + 4 * k ≤ 400000 := by omega
  have hs0 : 2000 + 30 * k ≤ 6000000 := by omega
  have hc4 : 400000 + 4 ≤ 500000 := by decide
  have hs4 : 6000000 + 30 ≤ 7000000 := by decide
  obtain ⟨r, σ1, μ1, e1, e2, hR1⟩ := H12 σ μ hR (xs (Int32.ofNat (7 * k) + 1).toNatClampNeg) (xs (Int32.ofNat (7 * k) + 2).toNatClampNeg)
  refine l_aload_n (pc' := 652) C tokL_12 rfl rfl rfl ?_
  refine l_aload_n (pc' := 653) C tokL_12 rfl rfl rfl ?_
  refine l_iload_n (pc' := 654) C tokL_12 rfl rfl rfl ?_
  refine l_iconst (v := 1) (pc' := 655) C tokL_12 rfl rfl (by decide) ?_
  refine l_iadd (pc' := 656) C tokL_12 rfl rfl ?_
  refine l_sld (pc' := 657) C tokL_12 rfl rfl v1 ?_
  refine l_aload_n (pc' := 658) C tokL_12 rfl rfl rfl ?_
  refine l_iload_n (pc' := 659) C tokL_12 rfl rfl rfl ?_
  refine l_iconst (v := 2) (pc' := 660) C tokL_12 rfl rfl (by decide) ?_
  refine l_iadd (pc' := 661) C tokL_12 rfl rfl ?_
  refine l_sld (pc' := 662) C tokL_12 rfl rfl v2 ?_
  refine l_v2 (pc' := 665) C tokL_12 rfl rfl miX6_pay lnL_71 (gxk_0 _ _) rfl (s_X6_pay _ σ _ _ _ e1) (l_rm rfl hc hs) (Nat.le_of_ble_eq_true rfl) ?_
  refine l_heap (gxgm roN σ1 μ) ?_
  refine l_aload_n (pc' := 666) C tokL_12 rfl rfl rfl ?_
  refine l_aload_n (pc' := 667) C tokL_12 rfl rfl rfl ?_
  refine l_iload_n (pc' := 668) C tokL_12 rfl rfl rfl ?_
  refine l_iconst (v := 1) (pc' := 669) C tokL_12 rfl rfl (by decide) ?_
  refine l_iadd (pc' := 670) C tokL_12 rfl rfl ?_
  refine l_sld (pc' := 671) C tokL_12 rfl rfl v1 ?_
  refine l_aload_n (pc' := 672) C tokL_12 rfl rfl rfl ?_
  refine l_iload_n (pc' := 673) C tokL_12 rfl rfl rfl ?_
  refine l_iconst (v := 2) (pc' := 674) C tokL_12 rfl rfl (by decide) ?_
  refine l_iadd (pc' := 675) C tokL_12 rfl rfl ?_
  refine l_sld (pc' := 676) C tokL_12 rfl rfl v2 ?_
  refine l_v2 (pc' := 679) C tokL_12 rfl rfl miX7_pay lnL_74 (gm_o _ _) rfl (s_X7_pay _ μ _ _ _ e2) (l_rm rfl (Nat.le_trans (Nat.add_le_add hc0 (show rX6_pay.cells ≤ 4 from Nat.le_of_ble_eq_true rfl)) hc4) (Nat.le_trans (Nat.add_le_add hs0 (show rX6_pay.slots ≤ 30 from Nat.le_of_ble_eq_true rfl)) hs4)) (Nat.le_of_ble_eq_true rfl) ?_
  refine l_heap (gxgm roN σ1 μ1).symm ?_
  refine l_icmp_eq (tgt := 1211) C tokL_12 rfl rfl ?_
  refine l_widen (a := 70 + 4 * k + 4) (d := 2000 + 30 * k + 30) (show 70 + 4 * k + rX6_pay.cells + rX7_pay.cells ≤ 70 + 4 * k + 4 from Nat.add_le_add_left (Nat.le_of_ble_eq_true rfl) (70 + 4 * k)) (show 2000 + 30 * k + rX6_pay.slots + rX7_pay.slots ≤ 2000 + 30 * k + 30 from Nat.add_le_add_left (Nat.le_of_ble_eq_true rfl) (2000 + 30 * k)) ?_
  exact tail σ1 μ1 hR1
set_option maxHeartbeats 4000000 in
set_option maxRecDepth 100000 in
theorem law_case_13 {p : Program} {l : Launch} {e : Env} {s : State} {m : MethodId} {below : List Frame} {meth : Method} {c : Code} {b L : Nat} {xs : Nat → Int32} {D : hG} {αc : Nat → Nat} (C : h_LC p s m meth c b L xs D) {Rel : xS → mS → Prop} (H13 : ∀ (σ : xS) (μ : mS), Rel σ μ → ∀ (a0 : Int32), ∃ (r : Int32), f_X6_paid σ a0 = some r ∧ f_X7_paid μ a0 = some r ∧ Rel σ μ) {k : Nat} {σ : xS} {μ : mS} (hR : Rel σ μ) (v1 : vp_in (Int32.ofNat (7 * k) + 1) L) (v2 : vp_in (Int32.ofNat (7 * k) + 2) L) (v3 : vp_in (Int32.ofNat (7 * k) + 3) L) (v4 : vp_in (Int32.ofNat (7 * k) + 4) L) (v5 : vp_in (Int32.ofNat (7 * k) + 5) L) (v6 : vp_in (Int32.ofNat (7 * k) + 6) L) (hk : k ≤ 512) (tail : ∀ (σ1 : xS) (μ1 : mS), Rel σ1 μ1 → JL p l e s m below meth c b D αc (70 + 4 * k + 4) (2000 + 30 * k + 30) (gx (gm roN μ1) σ1) 1211 [(3, .int (Int32.ofNat (7 * k))), (2, .ref 5000), (1, .ref 0), (0, .ref (9001 + 30))] []) : JL p l e s m below meth c b D αc (70 + 4 * k) (2000 + 30 * k) (gx (gm roN μ) σ) 684 [(3, .int (Int32.ofNat (7 * k))), (2, .ref 5000), (1, .ref 0), (0, .ref (9001 + 30))] [] := by
  have hc : 70 + 4 * k ≤ 500000 := by omega
  have hs : 2000 + 30 * k ≤ 7000000 := by omega
  have hc0 : 70 + 4 * k ≤ 400000 := by omega
  have hs0 : 2000 + 30 * k ≤ 6000000 := by omega
  have hc4 : 400000 + 4 ≤ 500000 := by decide
  have hs4 : 6000000 + 30 ≤ 7000000 := by decide
  obtain ⟨r, e1, e2, hR1⟩ := H13 σ μ hR (xs (Int32.ofNat (7 * k) + 1).toNatClampNeg)
  refine l_aload_n (pc' := 685) C tokL_13 rfl rfl rfl ?_
  refine l_aload_n (pc' := 686) C tokL_13 rfl rfl rfl ?_
  refine l_iload_n (pc' := 687) C tokL_13 rfl rfl rfl ?_
  refine l_iconst (v := 1) (pc' := 688) C tokL_13 rfl rfl (by decide) ?_
  refine l_iadd (pc' := 689) C tokL_13 rfl rfl ?_
  refine l_sld (pc' := 690) C tokL_13 rfl rfl v1 ?_
  refine l_v1 (pc' := 693) C tokL_13 rfl rfl miX6_paid lnL_75 (gxk_0 _ _) rfl (s_X6_paid _ σ _ _ e1) (l_rm rfl hc hs) (Nat.le_of_ble_eq_true rfl) ?_
  refine l_heap (gxgm roN σ μ) ?_
  refine l_aload_n (pc' := 694) C tokL_13 rfl rfl rfl ?_
  refine l_aload_n (pc' := 695) C tokL_13 rfl rfl rfl ?_
  refine l_iload_n (pc' := 696) C tokL_13 rfl rfl rfl ?_
  refine l_iconst (v := 1) (pc' := 697) C tokL_13 rfl rfl (by decide) ?_
  refine l_iadd (pc' := 698) C tokL_13 rfl rfl ?_
  refine l_sld (pc' := 699) C tokL_13 rfl rfl v1 ?_
  refine l_v1 (pc' := 702) C tokL_13 rfl rfl miX7_paid lnL_78 (gm_o _ _) rfl (s_X7_paid _ μ _ _ e2) (l_rm rfl (Nat.le_trans (Nat.add_le_add hc0 (show rX6_paid.cells ≤ 4 from Nat.le_of_ble_eq_true rfl)) hc4) (Nat.le_trans (Nat.add_le_add hs0 (show rX6_paid.slots ≤ 30 from Nat.le_of_ble_eq_true rfl)) hs4)) (Nat.le_of_ble_eq_true rfl) ?_
  refine l_heap (gxgm roN σ μ).symm ?_
  refine l_icmp_eq (tgt := 1211) C tokL_13 rfl rfl ?_
  refine l_widen (a := 70 + 4 * k + 4) (d := 2000 + 30 * k + 30) (show 70 + 4 * k + rX6_paid.cells + rX7_paid.cells ≤ 70 + 4 * k + 4 from Nat.add_le_add_left (Nat.le_of_ble_eq_true rfl) (70 + 4 * k)) (show 2000 + 30 * k + rX6_paid.slots + rX7_paid.slots ≤ 2000 + 30 * k + 30 from Nat.add_le_add_left (Nat.le_of_ble_eq_true rfl) (2000 + 30 * k)) ?_
  exact tail σ μ hR1
set_option maxHeartbeats 4000000 in
set_option maxRecDepth 100000 in
theorem law_case_14 {p : Program} {l : Launch} {e : Env} {s : State} {m : MethodId} {below : List Frame} {meth : Method} {c : Code} {b L : Nat} {xs : Nat → Int32} {D : hG} {αc : Nat → Nat} (C : h_LC p s m meth c b L xs D) {Rel : xS → mS → Prop} (H14 : ∀ (σ : xS) (μ : mS), Rel σ μ → ∀ (a0 : Int32), ∃ (r : Int64), f_X6_credit σ a0 = some r ∧ f_X7_credit μ a0 = some r ∧ Rel σ μ) {k : Nat} {σ : xS} {μ : mS} (hR : Rel σ μ) (v1 : vp_in (Int32.ofNat (7 * k) + 1) L) (v2 : vp_in (Int32.ofNat (7 * k) + 2) L) (v3 : vp_in (Int32.ofNat (7 * k) + 3) L) (v4 : vp_in (Int32.ofNat (7 * k) + 4) L) (v5 : vp_in (Int32.ofNat (7 * k) + 5) L) (v6 : vp_in (Int32.ofNat (7 * k) + 6) L) (hk : k ≤ 512) (tail : ∀ (σ1 : xS) (μ1 : mS), Rel σ1 μ1 → JL p l e s m below meth c b D αc (70 + 4 * k + 4) (2000 + 30 * k + 30) (gx (gm roN μ1) σ1) 1211 [(3, .int (Int32.ofNat (7 * k))), (2, .ref 5000), (1, .ref 0), (0, .ref (9001 + 30))] []) : JL p l e s m below meth c b D αc (70 + 4 * k) (2000 + 30 * k) (gx (gm roN μ) σ) 707 [(3, .int (Int32.ofNat (7 * k))), (2, .ref 5000), (1, .ref 0), (0, .ref (9001 + 30))] [] := by
  have hc : 70 + 4 * k ≤ 500000 := by omega
  have hs : 2000 + 30 * k ≤ 7000000 := by omega
  have hc0 : 70 + 4 * k ≤ 400000 := by omega
  have hs0 : 2000 + 30 * k ≤ 6000000 := by omega
  have hc4 : 400000 + 4 ≤ 500000 := by decide
  have hs4 : 6000000 + 30 ≤ 7000000 := by decide
  obtain ⟨r, e1, e2, hR1⟩ := H14 σ μ hR (xs (Int32.ofNat (7 * k) + 1).toNatClampNeg)
  refine l_aload_n (pc' := 708) C tokL_14 rfl rfl rfl ?_
  refine l_aload_n (pc' := 709) C tokL_14 rfl rfl rfl ?_
  refine l_iload_n (pc' := 710) C tokL_14 rfl rfl rfl ?_
  refine l_iconst (v := 1) (pc' := 711) C tokL_14 rfl rfl (by decide) ?_
  refine l_iadd (pc' := 712) C tokL_14 rfl rfl ?_
  refine l_sld (pc' := 713) C tokL_14 rfl rfl v1 ?_
  refine l_v1 (pc' := 716) C tokL_14 rfl rfl miX6_credit lnL_79 (gxk_0 _ _) rfl (s_X6_credit _ σ _ _ e1) (l_rm rfl hc hs) (Nat.le_of_ble_eq_true rfl) ?_
  refine l_heap (gxgm roN σ μ) ?_
  refine l_aload_n (pc' := 717) C tokL_14 rfl rfl rfl ?_
  refine l_aload_n (pc' := 718) C tokL_14 rfl rfl rfl ?_
  refine l_iload_n (pc' := 719) C tokL_14 rfl rfl rfl ?_
  refine l_iconst (v := 1) (pc' := 720) C tokL_14 rfl rfl (by decide) ?_
  refine l_iadd (pc' := 721) C tokL_14 rfl rfl ?_
  refine l_sld (pc' := 722) C tokL_14 rfl rfl v1 ?_
  refine l_v1 (pc' := 725) C tokL_14 rfl rfl miX7_credit lnL_82 (gm_o _ _) rfl (s_X7_credit _ μ _ _ e2) (l_rm rfl (Nat.le_trans (Nat.add_le_add hc0 (show rX6_credit.cells ≤ 4 from Nat.le_of_ble_eq_true rfl)) hc4) (Nat.le_trans (Nat.add_le_add hs0 (show rX6_credit.slots ≤ 30 from Nat.le_of_ble_eq_true rfl)) hs4)) (Nat.le_of_ble_eq_true rfl) ?_
  refine l_heap (gxgm roN σ μ).symm ?_
  refine l_lcmp (pc' := 726) C tokL_14 rfl rfl ?_
  refine l_if_eq (tgt := 1211) (lg_self _) C tokL_14 rfl rfl ?_
  refine l_widen (a := 70 + 4 * k + 4) (d := 2000 + 30 * k + 30) (show 70 + 4 * k + rX6_credit.cells + rX7_credit.cells ≤ 70 + 4 * k + 4 from Nat.add_le_add_left (Nat.le_of_ble_eq_true rfl) (70 + 4 * k)) (show 2000 + 30 * k + rX6_credit.slots + rX7_credit.slots ≤ 2000 + 30 * k + 30 from Nat.add_le_add_left (Nat.le_of_ble_eq_true rfl) (2000 + 30 * k)) ?_
  exact tail σ μ hR1
set_option maxHeartbeats 4000000 in
set_option maxRecDepth 100000 in
theorem law_case_15 {p : Program} {l : Launch} {e : Env} {s : State} {m : MethodId} {below : List Frame} {meth : Method} {c : Code} {b L : Nat} {xs : Nat → Int32} {D : hG} {αc : Nat → Nat} (C : h_LC p s m meth c b L xs D) {Rel : xS → mS → Prop} (H15 : ∀ (σ : xS) (μ : mS), Rel σ μ → ∀ (a0 : Int32), ∃ (r : Int32) (σ1 : xS) (μ1 : mS), f_X6_give σ a0 = some (r, σ1) ∧ f_X7_give μ a0 = some (r, μ1) ∧ Rel σ1 μ1) {k : Nat} {σ : xS} {μ : mS} (hR : Rel σ μ) (v1 : vp_in (Int32.ofNat (7 * k) + 1) L) (v2 : vp_in (Int32.ofNat (7 * k) + 2) L) (v3 : vp_in (Int32.ofNat (7 * k) + 3) L) (v4 : vp_in (Int32.ofNat (7 * k) + 4) L) (v5 : vp_in (Int32.ofNat (7 * k) + 5) L) (v6 : vp_in (Int32.ofNat (7 * k) + 6) L) (hk : k ≤ 512) (tail : ∀ (σ1 : xS) (μ1 : mS), Rel σ1 μ1 → JL p l e s m below meth c b D αc (70 + 4 * k + 4) (2000 + 30 * k + 30) (gx (gm roN μ1) σ1) 1211 [(3, .int (Int32.ofNat (7 * k))), (2, .ref 5000), (1, .ref 0), (0, .ref (9001 + 30))] []) : JL p l e s m below meth c b D αc (70 + 4 * k) (2000 + 30 * k) (gx (gm roN μ) σ) 731 [(3, .int (Int32.ofNat (7 * k))), (2, .ref 5000), (1, .ref 0), (0, .ref (9001 + 30))] [] := by
  have hc : 70 + 4 * k ≤ 500000 := by omega
  have hs : 2000 + 30 * k ≤ 7000000 := by omega
  have hc0 : 70 + 4 * k ≤ 400000 := by omega
  have hs0 : 2000 + 30 * k ≤ 6000000 := by omega
  have hc4 : 400000 + 4 ≤ 500000 := by decide
  have hs4 : 6000000 + 30 ≤ 7000000 := by decide
  obtain ⟨r, σ1, μ1, e1, e2, hR1⟩ := H15 σ μ hR (xs (Int32.ofNat (7 * k) + 1).toNatClampNeg)
  refine l_aload_n (pc' := 732) C tokL_15 rfl rfl rfl ?_
  refine l_aload_n (pc' := 733) C tokL_15 rfl rfl rfl ?_
  refine l_iload_n (pc' := 734) C tokL_15 rfl rfl rfl ?_
  refine l_iconst (v := 1) (pc' := 735) C tokL_15 rfl rfl (by decide) ?_
  refine l_iadd (pc' := 736) C tokL_15 rfl rfl ?_
  refine l_sld (pc' := 737) C tokL_15 rfl rfl v1 ?_
  refine l_v1 (pc' := 740) C tokL_15 rfl rfl miX6_give lnL_83 (gxk_0 _ _) rfl (s_X6_give _ σ _ _ e1) (l_rm rfl hc hs) (Nat.le_of_ble_eq_true rfl) ?_
  refine l_heap (gxgm roN σ1 μ) ?_
  refine l_aload_n (pc' := 741) C tokL_15 rfl rfl rfl ?_
  refine l_aload_n (pc' := 742) C tokL_15 rfl rfl rfl ?_
  refine l_iload_n (pc' := 743) C tokL_15 rfl rfl rfl ?_
  refine l_iconst (v := 1) (pc' := 744) C tokL_15 rfl rfl (by decide) ?_
  refine l_iadd (pc' := 745) C tokL_15 rfl rfl ?_
  refine l_sld (pc' := 746) C tokL_15 rfl rfl v1 ?_
  refine l_v1 (pc' := 749) C tokL_15 rfl rfl miX7_give lnL_86 (gm_o _ _) rfl (s_X7_give _ μ _ _ e2) (l_rm rfl (Nat.le_trans (Nat.add_le_add hc0 (show rX6_give.cells ≤ 4 from Nat.le_of_ble_eq_true rfl)) hc4) (Nat.le_trans (Nat.add_le_add hs0 (show rX6_give.slots ≤ 30 from Nat.le_of_ble_eq_true rfl)) hs4)) (Nat.le_of_ble_eq_true rfl) ?_
  refine l_heap (gxgm roN σ1 μ1).symm ?_
  refine l_icmp_eq (tgt := 1211) C tokL_15 rfl rfl ?_
  refine l_widen (a := 70 + 4 * k + 4) (d := 2000 + 30 * k + 30) (show 70 + 4 * k + rX6_give.cells + rX7_give.cells ≤ 70 + 4 * k + 4 from Nat.add_le_add_left (Nat.le_of_ble_eq_true rfl) (70 + 4 * k)) (show 2000 + 30 * k + rX6_give.slots + rX7_give.slots ≤ 2000 + 30 * k + 30 from Nat.add_le_add_left (Nat.le_of_ble_eq_true rfl) (2000 + 30 * k)) ?_
  exact tail σ1 μ1 hR1
set_option maxHeartbeats 4000000 in
set_option maxRecDepth 100000 in
theorem law_case_16 {p : Program} {l : Launch} {e : Env} {s : State} {m : MethodId} {below : List Frame} {meth : Method} {c : Code} {b L : Nat} {xs : Nat → Int32} {D : hG} {αc : Nat → Nat} (C : h_LC p s m meth c b L xs D) {Rel : xS → mS → Prop} (H16 : ∀ (σ : xS) (μ : mS), Rel σ μ → ∀ (a0 : Int32) (a1 : Int32), ∃ (r : Int32) (σ1 : xS), f_X6_lack σ a0 a1 = some (r, σ1) ∧ f_X7_lack μ a0 a1 = some r ∧ Rel σ1 μ) {k : Nat} {σ : xS} {μ : mS} (hR : Rel σ μ) (v1 : vp_in (Int32.ofNat (7 * k) + 1) L) (v2 : vp_in (Int32.ofNat (7 * k) + 2) L) (v3 : vp_in (Int32.ofNat (7 * k) + 3) L) (v4 : vp_in (Int32.ofNat (7 * k) + 4) L) (v5 : vp_in (Int32.ofNat (7 * k) + 5) L) (v6 : vp_in (Int32.ofNat (7 * k) + 6) L) (hk : k ≤ 512) (tail : ∀ (σ1 : xS) (μ1 : mS), Rel σ1 μ1 → JL p l e s m below meth c b D αc (70 + 4 * k + 4) (2000 + 30 * k + 30) (gx (gm roN μ1) σ1) 1211 [(3, .int (Int32.ofNat (7 * k))), (2, .ref 5000), (1, .ref 0), (0, .ref (9001 + 30))] []) : JL p l e s m below meth c b D αc (70 + 4 * k) (2000 + 30 * k) (gx (gm roN μ) σ) 754 [(3, .int (Int32.ofNat (7 * k))), (2, .ref 5000), (1, .ref 0), (0, .ref (9001 + 30))] [] := by
  have hc : 70 + 4 * k ≤ 500000 := by omega
  have hs : 2000 + 30 * k ≤ 7000000 := by omega
  have hc0 : 70 + 4 * k ≤ 400000 := by omega
  have hs0 : 2000 + 30 * k ≤ 6000000 := by omega
  have hc4 : 400000 + 4 ≤ 500000 := by decide
  have hs4 : 6000000 + 30 ≤ 7000000 := by decide
  obtain ⟨r, σ1, e1, e2, hR1⟩ := H16 σ μ hR (xs (Int32.ofNat (7 * k) + 1).toNatClampNeg) (xs (Int32.ofNat (7 * k) + 2).toNatClampNeg)
  refine l_aload_n (pc' := 755) C tokL_16 rfl rfl rfl ?_
  refine l_aload_n (pc' := 756) C tokL_16 rfl rfl rfl ?_
  refine l_iload_n (pc' := 757) C tokL_16 rfl rfl rfl ?_
  refine l_iconst (v := 1) (pc' := 758) C tokL_16 rfl rfl (by decide) ?_
  refine l_iadd (pc' := 759) C tokL_16 rfl rfl ?_
  refine l_sld (pc' := 760) C tokL_16 rfl rfl v1 ?_
  refine l_aload_n (pc' := 761) C tokL_16 rfl rfl rfl ?_
  refine l_iload_n (pc' := 762) C tokL_16 rfl rfl rfl ?_
  refine l_iconst (v := 2) (pc' := 763) C tokL_16 rfl rfl (by decide) ?_
  refine l_iadd (pc' := 764) C tokL_16 rfl rfl ?_
  refine l_sld (pc' := 765) C tokL_16 rfl rfl v2 ?_
  refine l_v2 (pc' := 768) C tokL_16 rfl rfl miX6_lack lnL_87 (gxk_0 _ _) rfl (s_X6_lack _ σ _ _ _ e1) (l_rm rfl hc hs) (Nat.le_of_ble_eq_true rfl) ?_
  refine l_heap (gxgm roN σ1 μ) ?_
  refine l_aload_n (pc' := 769) C tokL_16 rfl rfl rfl ?_
  refine l_aload_n (pc' := 770) C tokL_16 rfl rfl rfl ?_
  refine l_iload_n (pc' := 771) C tokL_16 rfl rfl rfl ?_
  refine l_iconst (v := 1) (pc' := 772) C tokL_16 rfl rfl (by decide) ?_
  refine l_iadd (pc' := 773) C tokL_16 rfl rfl ?_
  refine l_sld (pc' := 774) C tokL_16 rfl rfl v1 ?_
  refine l_aload_n (pc' := 775) C tokL_16 rfl rfl rfl ?_
  refine l_iload_n (pc' := 776) C tokL_16 rfl rfl rfl ?_
  refine l_iconst (v := 2) (pc' := 777) C tokL_16 rfl rfl (by decide) ?_
  refine l_iadd (pc' := 778) C tokL_16 rfl rfl ?_
  refine l_sld (pc' := 779) C tokL_16 rfl rfl v2 ?_
  refine l_v2 (pc' := 782) C tokL_16 rfl rfl miX7_lack lnL_90 (gm_o _ _) rfl (s_X7_lack _ μ _ _ _ e2) (l_rm rfl (Nat.le_trans (Nat.add_le_add hc0 (show rX6_lack.cells ≤ 4 from Nat.le_of_ble_eq_true rfl)) hc4) (Nat.le_trans (Nat.add_le_add hs0 (show rX6_lack.slots ≤ 30 from Nat.le_of_ble_eq_true rfl)) hs4)) (Nat.le_of_ble_eq_true rfl) ?_
  refine l_heap (gxgm roN σ1 μ).symm ?_
  refine l_icmp_eq (tgt := 1211) C tokL_16 rfl rfl ?_
  refine l_widen (a := 70 + 4 * k + 4) (d := 2000 + 30 * k + 30) (show 70 + 4 * k + rX6_lack.cells + rX7_lack.cells ≤ 70 + 4 * k + 4 from Nat.add_le_add_left (Nat.le_of_ble_eq_true rfl) (70 + 4 * k)) (show 2000 + 30 * k + rX6_lack.slots + rX7_lack.slots ≤ 2000 + 30 * k + 30 from Nat.add_le_add_left (Nat.le_of_ble_eq_true rfl) (2000 + 30 * k)) ?_
  exact tail σ1 μ hR1
set_option maxHeartbeats 4000000 in
set_option maxRecDepth 100000 in
theorem law_case_17 {p : Program} {l : Launch} {e : Env} {s : State} {m : MethodId} {below : List Frame} {meth : Method} {c : Code} {b L : Nat} {xs : Nat → Int32} {D : hG} {αc : Nat → Nat} (C : h_LC p s m meth c b L xs D) {Rel : xS → mS → Prop} (H17 : ∀ (σ : xS) (μ : mS), Rel σ μ → ∀ (a0 : Int32) (a1 : Int32) (a2 : Int32), ∃ (r : Int32) (σ1 : xS) (μ1 : mS), f_X6_road σ a0 a1 a2 = some (r, σ1) ∧ f_X7_road μ a0 a1 a2 = some (r, μ1) ∧ Rel σ1 μ1) {k : Nat} {σ : xS} {μ : mS} (hR : Rel σ μ) (v1 : vp_in (Int32.ofNat (7 * k) + 1) L) (v2 : vp_in (Int32.ofNat (7 * k) + 2) L) (v3 : vp_in (Int32.ofNat (7 * k) + 3) L) (v4 : vp_in (Int32.ofNat (7 * k) + 4) L) (v5 : vp_in (Int32.ofNat (7 * k) + 5) L) (v6 : vp_in (Int32.ofNat (7 * k) + 6) L) (hk : k ≤ 512) (tail : ∀ (σ1 : xS) (μ1 : mS), Rel σ1 μ1 → JL p l e s m below meth c b D αc (70 + 4 * k + 4) (2000 + 30 * k + 30) (gx (gm roN μ1) σ1) 1211 [(3, .int (Int32.ofNat (7 * k))), (2, .ref 5000), (1, .ref 0), (0, .ref (9001 + 30))] []) : JL p l e s m below meth c b D αc (70 + 4 * k) (2000 + 30 * k) (gx (gm roN μ) σ) 787 [(3, .int (Int32.ofNat (7 * k))), (2, .ref 5000), (1, .ref 0), (0, .ref (9001 + 30))] [] := by
  have hc : 70 + 4 * k ≤ 500000 := by omega
  have hs : 2000 + 30 * k ≤ 7000000 := by omega
  have hc0 : 70 + 4 * k ≤ 400000 := by omega
  have hs0 : 2000 + 30 * k ≤ 6000000 := by omega
  have hc4 : 400000 + 4 ≤ 500000 := by decide
  have hs4 : 6000000 + 30 ≤ 7000000 := by decide
  obtain ⟨r, σ1, μ1, e1, e2, hR1⟩ := H17 σ μ hR (xs (Int32.ofNat (7 * k) + 1).toNatClampNeg) (xs (Int32.ofNat (7 * k) + 2).toNatClampNeg) (xs (Int32.ofNat (7 * k) + 3).toNatClampNeg)
  refine l_aload_n (pc' := 788) C tokL_17 rfl rfl rfl ?_
  refine l_aload_n (pc' := 789) C tokL_17 rfl rfl rfl ?_
  refine l_iload_n (pc' := 790) C tokL_17 rfl rfl rfl ?_
  refine l_iconst (v := 1) (pc' := 791) C tokL_17 rfl rfl (by decide) ?_
  refine l_iadd (pc' := 792) C tokL_17 rfl rfl ?_
  refine l_sld (pc' := 793) C tokL_17 rfl rfl v1 ?_
  refine l_aload_n (pc' := 794) C tokL_17 rfl rfl rfl ?_
  refine l_iload_n (pc' := 795) C tokL_17 rfl rfl rfl ?_
  refine l_iconst (v := 2) (pc' := 796) C tokL_17 rfl rfl (by decide) ?_
  refine l_iadd (pc' := 797) C tokL_17 rfl rfl ?_
  refine l_sld (pc' := 798) C tokL_17 rfl rfl v2 ?_
  refine l_aload_n (pc' := 799) C tokL_17 rfl rfl rfl ?_
  refine l_iload_n (pc' := 800) C tokL_17 rfl rfl rfl ?_
  refine l_iconst (v := 3) (pc' := 801) C tokL_17 rfl rfl (by decide) ?_
  refine l_iadd (pc' := 802) C tokL_17 rfl rfl ?_
  refine l_sld (pc' := 803) C tokL_17 rfl rfl v3 ?_
  refine l_v3 (pc' := 806) C tokL_17 rfl rfl miX6_road lnL_91 (gxk_0 _ _) rfl (s_X6_road _ σ _ _ _ _ e1) (l_rm rfl hc hs) (Nat.le_of_ble_eq_true rfl) ?_
  refine l_heap (gxgm roN σ1 μ) ?_
  refine l_aload_n (pc' := 807) C tokL_17 rfl rfl rfl ?_
  refine l_aload_n (pc' := 808) C tokL_17 rfl rfl rfl ?_
  refine l_iload_n (pc' := 809) C tokL_17 rfl rfl rfl ?_
  refine l_iconst (v := 1) (pc' := 810) C tokL_17 rfl rfl (by decide) ?_
  refine l_iadd (pc' := 811) C tokL_17 rfl rfl ?_
  refine l_sld (pc' := 812) C tokL_17 rfl rfl v1 ?_
  refine l_aload_n (pc' := 813) C tokL_17 rfl rfl rfl ?_
  refine l_iload_n (pc' := 814) C tokL_17 rfl rfl rfl ?_
  refine l_iconst (v := 2) (pc' := 815) C tokL_17 rfl rfl (by decide) ?_
  refine l_iadd (pc' := 816) C tokL_17 rfl rfl ?_
  refine l_sld (pc' := 817) C tokL_17 rfl rfl v2 ?_
  refine l_aload_n (pc' := 818) C tokL_17 rfl rfl rfl ?_
  refine l_iload_n (pc' := 819) C tokL_17 rfl rfl rfl ?_
  refine l_iconst (v := 3) (pc' := 820) C tokL_17 rfl rfl (by decide) ?_
  refine l_iadd (pc' := 821) C tokL_17 rfl rfl ?_
  refine l_sld (pc' := 822) C tokL_17 rfl rfl v3 ?_
  refine l_v3 (pc' := 825) C tokL_17 rfl rfl miX7_road lnL_94 (gm_o _ _) rfl (s_X7_road _ μ _ _ _ _ e2) (l_rm rfl (Nat.le_trans (Nat.add_le_add hc0 (show rX6_road.cells ≤ 4 from Nat.le_of_ble_eq_true rfl)) hc4) (Nat.le_trans (Nat.add_le_add hs0 (show rX6_road.slots ≤ 30 from Nat.le_of_ble_eq_true rfl)) hs4)) (Nat.le_of_ble_eq_true rfl) ?_
  refine l_heap (gxgm roN σ1 μ1).symm ?_
  refine l_icmp_eq (tgt := 1211) C tokL_17 rfl rfl ?_
  refine l_widen (a := 70 + 4 * k + 4) (d := 2000 + 30 * k + 30) (show 70 + 4 * k + rX6_road.cells + rX7_road.cells ≤ 70 + 4 * k + 4 from Nat.add_le_add_left (Nat.le_of_ble_eq_true rfl) (70 + 4 * k)) (show 2000 + 30 * k + rX6_road.slots + rX7_road.slots ≤ 2000 + 30 * k + 30 from Nat.add_le_add_left (Nat.le_of_ble_eq_true rfl) (2000 + 30 * k)) ?_
  exact tail σ1 μ1 hR1
set_option maxHeartbeats 4000000 in
set_option maxRecDepth 100000 in
theorem law_case_18 {p : Program} {l : Launch} {e : Env} {s : State} {m : MethodId} {below : List Frame} {meth : Method} {c : Code} {b L : Nat} {xs : Nat → Int32} {D : hG} {αc : Nat → Nat} (C : h_LC p s m meth c b L xs D) {Rel : xS → mS → Prop} (H18 : ∀ (σ : xS) (μ : mS), Rel σ μ → ∀ (a0 : Int32) (a1 : Int32), ∃ (r : Int32) (σ1 : xS) (μ1 : mS), f_X6_send σ a0 a1 = some (r, σ1) ∧ f_X7_send μ a0 a1 = some (r, μ1) ∧ Rel σ1 μ1) {k : Nat} {σ : xS} {μ : mS} (hR : Rel σ μ) (v1 : vp_in (Int32.ofNat (7 * k) + 1) L) (v2 : vp_in (Int32.ofNat (7 * k) + 2) L) (v3 : vp_in (Int32.ofNat (7 * k) + 3) L) (v4 : vp_in (Int32.ofNat (7 * k) + 4) L) (v5 : vp_in (Int32.ofNat (7 * k) + 5) L) (v6 : vp_in (Int32.ofNat (7 * k) + 6) L) (hk : k ≤ 512) (tail : ∀ (σ1 : xS) (μ1 : mS), Rel σ1 μ1 → JL p l e s m below meth c b D αc (70 + 4 * k + 4) (2000 + 30 * k + 30) (gx (gm roN μ1) σ1) 1211 [(3, .int (Int32.ofNat (7 * k))), (2, .ref 5000), (1, .ref 0), (0, .ref (9001 + 30))] []) : JL p l e s m below meth c b D αc (70 + 4 * k) (2000 + 30 * k) (gx (gm roN μ) σ) 830 [(3, .int (Int32.ofNat (7 * k))), (2, .ref 5000), (1, .ref 0), (0, .ref (9001 + 30))] [] := by
  have hc : 70 + 4 * k ≤ 500000 := by omega
  have hs : 2000 + 30 * k ≤ 7000000 := by omega
  have hc0 : 70 + 4 * k ≤ 400000 := by omega
  have hs0 : 2000 + 30 * k ≤ 6000000 := by omega
  have hc4 : 400000 + 4 ≤ 500000 := by decide
  have hs4 : 6000000 + 30 ≤ 7000000 := by decide
  obtain ⟨r, σ1, μ1, e1, e2, hR1⟩ := H18 σ μ hR (xs (Int32.ofNat (7 * k) + 1).toNatClampNeg) (xs (Int32.ofNat (7 * k) + 2).toNatClampNeg)
  refine l_aload_n (pc' := 831) C tokL_18 rfl rfl rfl ?_
  refine l_aload_n (pc' := 832) C tokL_18 rfl rfl rfl ?_
  refine l_iload_n (pc' := 833) C tokL_18 rfl rfl rfl ?_
  refine l_iconst (v := 1) (pc' := 834) C tokL_18 rfl rfl (by decide) ?_
  refine l_iadd (pc' := 835) C tokL_18 rfl rfl ?_
  refine l_sld (pc' := 836) C tokL_18 rfl rfl v1 ?_
  refine l_aload_n (pc' := 837) C tokL_18 rfl rfl rfl ?_
  refine l_iload_n (pc' := 838) C tokL_18 rfl rfl rfl ?_
  refine l_iconst (v := 2) (pc' := 839) C tokL_18 rfl rfl (by decide) ?_
  refine l_iadd (pc' := 840) C tokL_18 rfl rfl ?_
  refine l_sld (pc' := 841) C tokL_18 rfl rfl v2 ?_
  refine l_v2 (pc' := 844) C tokL_18 rfl rfl miX6_send lnL_95 (gxk_0 _ _) rfl (s_X6_send _ σ _ _ _ e1) (l_rm rfl hc hs) (Nat.le_of_ble_eq_true rfl) ?_
  refine l_heap (gxgm roN σ1 μ) ?_
  refine l_aload_n (pc' := 845) C tokL_18 rfl rfl rfl ?_
  refine l_aload_n (pc' := 846) C tokL_18 rfl rfl rfl ?_
  refine l_iload_n (pc' := 847) C tokL_18 rfl rfl rfl ?_
  refine l_iconst (v := 1) (pc' := 848) C tokL_18 rfl rfl (by decide) ?_
  refine l_iadd (pc' := 849) C tokL_18 rfl rfl ?_
  refine l_sld (pc' := 850) C tokL_18 rfl rfl v1 ?_
  refine l_aload_n (pc' := 851) C tokL_18 rfl rfl rfl ?_
  refine l_iload_n (pc' := 852) C tokL_18 rfl rfl rfl ?_
  refine l_iconst (v := 2) (pc' := 853) C tokL_18 rfl rfl (by decide) ?_
  refine l_iadd (pc' := 854) C tokL_18 rfl rfl ?_
  refine l_sld (pc' := 855) C tokL_18 rfl rfl v2 ?_
  refine l_v2 (pc' := 858) C tokL_18 rfl rfl miX7_send lnL_98 (gm_o _ _) rfl (s_X7_send _ μ _ _ _ e2) (l_rm rfl (Nat.le_trans (Nat.add_le_add hc0 (show rX6_send.cells ≤ 4 from Nat.le_of_ble_eq_true rfl)) hc4) (Nat.le_trans (Nat.add_le_add hs0 (show rX6_send.slots ≤ 30 from Nat.le_of_ble_eq_true rfl)) hs4)) (Nat.le_of_ble_eq_true rfl) ?_
  refine l_heap (gxgm roN σ1 μ1).symm ?_
  refine l_icmp_eq (tgt := 1211) C tokL_18 rfl rfl ?_
  refine l_widen (a := 70 + 4 * k + 4) (d := 2000 + 30 * k + 30) (show 70 + 4 * k + rX6_send.cells + rX7_send.cells ≤ 70 + 4 * k + 4 from Nat.add_le_add_left (Nat.le_of_ble_eq_true rfl) (70 + 4 * k)) (show 2000 + 30 * k + rX6_send.slots + rX7_send.slots ≤ 2000 + 30 * k + 30 from Nat.add_le_add_left (Nat.le_of_ble_eq_true rfl) (2000 + 30 * k)) ?_
  exact tail σ1 μ1 hR1
set_option maxHeartbeats 4000000 in
set_option maxRecDepth 100000 in
theorem law_case_19 {p : Program} {l : Launch} {e : Env} {s : State} {m : MethodId} {below : List Frame} {meth : Method} {c : Code} {b L : Nat} {xs : Nat → Int32} {D : hG} {αc : Nat → Nat} (C : h_LC p s m meth c b L xs D) {Rel : xS → mS → Prop} (H19 : ∀ (σ : xS) (μ : mS), Rel σ μ → ∀ (a0 : Int32) (a1 : Int32), ∃ (r : Int32) (σ1 : xS) (μ1 : mS), f_X6_bring σ a0 a1 = some (r, σ1) ∧ f_X7_bring μ a0 a1 = some (r, μ1) ∧ Rel σ1 μ1) {k : Nat} {σ : xS} {μ : mS} (hR : Rel σ μ) (v1 : vp_in (Int32.ofNat (7 * k) + 1) L) (v2 : vp_in (Int32.ofNat (7 * k) + 2) L) (v3 : vp_in (Int32.ofNat (7 * k) + 3) L) (v4 : vp_in (Int32.ofNat (7 * k) + 4) L) (v5 : vp_in (Int32.ofNat (7 * k) + 5) L) (v6 : vp_in (Int32.ofNat (7 * k) + 6) L) (hk : k ≤ 512) (tail : ∀ (σ1 : xS) (μ1 : mS), Rel σ1 μ1 → JL p l e s m below meth c b D αc (70 + 4 * k + 4) (2000 + 30 * k + 30) (gx (gm roN μ1) σ1) 1211 [(3, .int (Int32.ofNat (7 * k))), (2, .ref 5000), (1, .ref 0), (0, .ref (9001 + 30))] []) : JL p l e s m below meth c b D αc (70 + 4 * k) (2000 + 30 * k) (gx (gm roN μ) σ) 863 [(3, .int (Int32.ofNat (7 * k))), (2, .ref 5000), (1, .ref 0), (0, .ref (9001 + 30))] [] := by
  have hc : 70 + 4 * k ≤ 500000 := by omega
  have hs : 2000 + 30 * k ≤ 7000000 := by omega
  have hc0 : 70 + 4 * k ≤ 400000 := by omega
  have hs0 : 2000 + 30 * k ≤ 6000000 := by omega
  have hc4 : 400000 + 4 ≤ 500000 := by decide
  have hs4 : 6000000 + 30 ≤ 7000000 := by decide
  obtain ⟨r, σ1, μ1, e1, e2, hR1⟩ := H19 σ μ hR (xs (Int32.ofNat (7 * k) + 1).toNatClampNeg) (xs (Int32.ofNat (7 * k) + 2).toNatClampNeg)
  refine l_aload_n (pc' := 864) C tokL_19 rfl rfl rfl ?_
  refine l_aload_n (pc' := 865) C tokL_19 rfl rfl rfl ?_
  refine l_iload_n (pc' := 866) C tokL_19 rfl rfl rfl ?_
  refine l_iconst (v := 1) (pc' := 867) C tokL_19 rfl rfl (by decide) ?_
  refine l_iadd (pc' := 868) C tokL_19 rfl rfl ?_
  refine l_sld (pc' := 869) C tokL_19 rfl rfl v1 ?_
  refine l_aload_n (pc' := 870) C tokL_19 rfl rfl rfl ?_
  refine l_iload_n (pc' := 871) C tokL_19 rfl rfl rfl ?_
  refine l_iconst (v := 2) (pc' := 872) C tokL_19 rfl rfl (by decide) ?_
  refine l_iadd (pc' := 873) C tokL_19 rfl rfl ?_
  refine l_sld (pc' := 874) C tokL_19 rfl rfl v2 ?_
  refine l_v2 (pc' := 877) C tokL_19 rfl rfl miX6_bring lnL_99 (gxk_0 _ _) rfl (s_X6_bring _ σ _ _ _ e1) (l_rm rfl hc hs) (Nat.le_of_ble_eq_true rfl) ?_
  refine l_heap (gxgm roN σ1 μ) ?_
  refine l_aload_n (pc' := 878) C tokL_19 rfl rfl rfl ?_
  refine l_aload_n (pc' := 879) C tokL_19 rfl rfl rfl ?_
  refine l_iload_n (pc' := 880) C tokL_19 rfl rfl rfl ?_
  refine l_iconst (v := 1) (pc' := 881) C tokL_19 rfl rfl (by decide) ?_
  refine l_iadd (pc' := 882) C tokL_19 rfl rfl ?_
  refine l_sld (pc' := 883) C tokL_19 rfl rfl v1 ?_
  refine l_aload_n (pc' := 884) C tokL_19 rfl rfl rfl ?_
  refine l_iload_n (pc' := 885) C tokL_19 rfl rfl rfl ?_
  refine l_iconst (v := 2) (pc' := 886) C tokL_19 rfl rfl (by decide) ?_
  refine l_iadd (pc' := 887) C tokL_19 rfl rfl ?_
  refine l_sld (pc' := 888) C tokL_19 rfl rfl v2 ?_
  refine l_v2 (pc' := 891) C tokL_19 rfl rfl miX7_bring lnL_102 (gm_o _ _) rfl (s_X7_bring _ μ _ _ _ e2) (l_rm rfl (Nat.le_trans (Nat.add_le_add hc0 (show rX6_bring.cells ≤ 4 from Nat.le_of_ble_eq_true rfl)) hc4) (Nat.le_trans (Nat.add_le_add hs0 (show rX6_bring.slots ≤ 30 from Nat.le_of_ble_eq_true rfl)) hs4)) (Nat.le_of_ble_eq_true rfl) ?_
  refine l_heap (gxgm roN σ1 μ1).symm ?_
  refine l_icmp_eq (tgt := 1211) C tokL_19 rfl rfl ?_
  refine l_widen (a := 70 + 4 * k + 4) (d := 2000 + 30 * k + 30) (show 70 + 4 * k + rX6_bring.cells + rX7_bring.cells ≤ 70 + 4 * k + 4 from Nat.add_le_add_left (Nat.le_of_ble_eq_true rfl) (70 + 4 * k)) (show 2000 + 30 * k + rX6_bring.slots + rX7_bring.slots ≤ 2000 + 30 * k + 30 from Nat.add_le_add_left (Nat.le_of_ble_eq_true rfl) (2000 + 30 * k)) ?_
  exact tail σ1 μ1 hR1
set_option maxHeartbeats 4000000 in
set_option maxRecDepth 100000 in
theorem law_case_20 {p : Program} {l : Launch} {e : Env} {s : State} {m : MethodId} {below : List Frame} {meth : Method} {c : Code} {b L : Nat} {xs : Nat → Int32} {D : hG} {αc : Nat → Nat} (C : h_LC p s m meth c b L xs D) {Rel : xS → mS → Prop} (H20 : ∀ (σ : xS) (μ : mS), Rel σ μ → ∀ (a0 : Int32), ∃ (r : Int32) (σ1 : xS) (μ1 : mS), f_X6_melt σ a0 = some (r, σ1) ∧ f_X7_melt μ a0 = some (r, μ1) ∧ Rel σ1 μ1) {k : Nat} {σ : xS} {μ : mS} (hR : Rel σ μ) (v1 : vp_in (Int32.ofNat (7 * k) + 1) L) (v2 : vp_in (Int32.ofNat (7 * k) + 2) L) (v3 : vp_in (Int32.ofNat (7 * k) + 3) L) (v4 : vp_in (Int32.ofNat (7 * k) + 4) L) (v5 : vp_in (Int32.ofNat (7 * k) + 5) L) (v6 : vp_in (Int32.ofNat (7 * k) + 6) L) (hk : k ≤ 512) (tail : ∀ (σ1 : xS) (μ1 : mS), Rel σ1 μ1 → JL p l e s m below meth c b D αc (70 + 4 * k + 4) (2000 + 30 * k + 30) (gx (gm roN μ1) σ1) 1211 [(3, .int (Int32.ofNat (7 * k))), (2, .ref 5000), (1, .ref 0), (0, .ref (9001 + 30))] []) : JL p l e s m below meth c b D αc (70 + 4 * k) (2000 + 30 * k) (gx (gm roN μ) σ) 896 [(3, .int (Int32.ofNat (7 * k))), (2, .ref 5000), (1, .ref 0), (0, .ref (9001 + 30))] [] := by
  have hc : 70 + 4 * k ≤ 500000 := by omega
  have hs : 2000 + 30 * k ≤ 7000000 := by omega
  have hc0 : 70 + 4 * k ≤ 400000 := by omega
  have hs0 : 2000 + 30 * k ≤ 6000000 := by omega
  have hc4 : 400000 + 4 ≤ 500000 := by decide
  have hs4 : 6000000 + 30 ≤ 7000000 := by decide
  obtain ⟨r, σ1, μ1, e1, e2, hR1⟩ := H20 σ μ hR (xs (Int32.ofNat (7 * k) + 1).toNatClampNeg)
  refine l_aload_n (pc' := 897) C tokL_20 rfl rfl rfl ?_
  refine l_aload_n (pc' := 898) C tokL_20 rfl rfl rfl ?_
  refine l_iload_n (pc' := 899) C tokL_20 rfl rfl rfl ?_
  refine l_iconst (v := 1) (pc' := 900) C tokL_20 rfl rfl (by decide) ?_
  refine l_iadd (pc' := 901) C tokL_20 rfl rfl ?_
  refine l_sld (pc' := 902) C tokL_20 rfl rfl v1 ?_
  refine l_v1 (pc' := 905) C tokL_20 rfl rfl miX6_melt lnL_103 (gxk_0 _ _) rfl (s_X6_melt _ σ _ _ e1) (l_rm rfl hc hs) (Nat.le_of_ble_eq_true rfl) ?_
  refine l_heap (gxgm roN σ1 μ) ?_
  refine l_aload_n (pc' := 906) C tokL_20 rfl rfl rfl ?_
  refine l_aload_n (pc' := 907) C tokL_20 rfl rfl rfl ?_
  refine l_iload_n (pc' := 908) C tokL_20 rfl rfl rfl ?_
  refine l_iconst (v := 1) (pc' := 909) C tokL_20 rfl rfl (by decide) ?_
  refine l_iadd (pc' := 910) C tokL_20 rfl rfl ?_
  refine l_sld (pc' := 911) C tokL_20 rfl rfl v1 ?_
  refine l_v1 (pc' := 914) C tokL_20 rfl rfl miX7_melt lnL_106 (gm_o _ _) rfl (s_X7_melt _ μ _ _ e2) (l_rm rfl (Nat.le_trans (Nat.add_le_add hc0 (show rX6_melt.cells ≤ 4 from Nat.le_of_ble_eq_true rfl)) hc4) (Nat.le_trans (Nat.add_le_add hs0 (show rX6_melt.slots ≤ 30 from Nat.le_of_ble_eq_true rfl)) hs4)) (Nat.le_of_ble_eq_true rfl) ?_
  refine l_heap (gxgm roN σ1 μ1).symm ?_
  refine l_icmp_eq (tgt := 1211) C tokL_20 rfl rfl ?_
  refine l_widen (a := 70 + 4 * k + 4) (d := 2000 + 30 * k + 30) (show 70 + 4 * k + rX6_melt.cells + rX7_melt.cells ≤ 70 + 4 * k + 4 from Nat.add_le_add_left (Nat.le_of_ble_eq_true rfl) (70 + 4 * k)) (show 2000 + 30 * k + rX6_melt.slots + rX7_melt.slots ≤ 2000 + 30 * k + 30 from Nat.add_le_add_left (Nat.le_of_ble_eq_true rfl) (2000 + 30 * k)) ?_
  exact tail σ1 μ1 hR1
set_option maxHeartbeats 4000000 in
set_option maxRecDepth 100000 in
theorem law_case_21 {p : Program} {l : Launch} {e : Env} {s : State} {m : MethodId} {below : List Frame} {meth : Method} {c : Code} {b L : Nat} {xs : Nat → Int32} {D : hG} {αc : Nat → Nat} (C : h_LC p s m meth c b L xs D) {Rel : xS → mS → Prop} (H21 : ∀ (σ : xS) (μ : mS), Rel σ μ → ∀ (a0 : Int32) (a1 : Int32), ∃ (r : Int32) (σ1 : xS) (μ1 : mS), f_X6_furnace σ a0 a1 = some (r, σ1) ∧ f_X7_furnace μ a0 a1 = some (r, μ1) ∧ Rel σ1 μ1) {k : Nat} {σ : xS} {μ : mS} (hR : Rel σ μ) (v1 : vp_in (Int32.ofNat (7 * k) + 1) L) (v2 : vp_in (Int32.ofNat (7 * k) + 2) L) (v3 : vp_in (Int32.ofNat (7 * k) + 3) L) (v4 : vp_in (Int32.ofNat (7 * k) + 4) L) (v5 : vp_in (Int32.ofNat (7 * k) + 5) L) (v6 : vp_in (Int32.ofNat (7 * k) + 6) L) (hk : k ≤ 512) (tail : ∀ (σ1 : xS) (μ1 : mS), Rel σ1 μ1 → JL p l e s m below meth c b D αc (70 + 4 * k + 4) (2000 + 30 * k + 30) (gx (gm roN μ1) σ1) 1211 [(3, .int (Int32.ofNat (7 * k))), (2, .ref 5000), (1, .ref 0), (0, .ref (9001 + 30))] []) : JL p l e s m below meth c b D αc (70 + 4 * k) (2000 + 30 * k) (gx (gm roN μ) σ) 919 [(3, .int (Int32.ofNat (7 * k))), (2, .ref 5000), (1, .ref 0), (0, .ref (9001 + 30))] [] := by
  have hc : 70 + 4 * k ≤ 500000 := by omega
  have hs : 2000 + 30 * k ≤ 7000000 := by omega
  have hc0 : 70 + 4 * k ≤ 400000 := by omega
  have hs0 : 2000 + 30 * k ≤ 6000000 := by omega
  have hc4 : 400000 + 4 ≤ 500000 := by decide
  have hs4 : 6000000 + 30 ≤ 7000000 := by decide
  obtain ⟨r, σ1, μ1, e1, e2, hR1⟩ := H21 σ μ hR (xs (Int32.ofNat (7 * k) + 1).toNatClampNeg) (xs (Int32.ofNat (7 * k) + 2).toNatClampNeg)
  refine l_aload_n (pc' := 920) C tokL_21 rfl rfl rfl ?_
  refine l_aload_n (pc' := 921) C tokL_21 rfl rfl rfl ?_
  refine l_iload_n (pc' := 922) C tokL_21 rfl rfl rfl ?_
  refine l_iconst (v := 1) (pc' := 923) C tokL_21 rfl rfl (by decide) ?_
  refine l_iadd (pc' := 924) C tokL_21 rfl rfl ?_
  refine l_sld (pc' := 925) C tokL_21 rfl rfl v1 ?_
  refine l_aload_n (pc' := 926) C tokL_21 rfl rfl rfl ?_
  refine l_iload_n (pc' := 927) C tokL_21 rfl rfl rfl ?_
  refine l_iconst (v := 2) (pc' := 928) C tokL_21 rfl rfl (by decide) ?_
  refine l_iadd (pc' := 929) C tokL_21 rfl rfl ?_
  refine l_sld (pc' := 930) C tokL_21 rfl rfl v2 ?_
  refine l_v2 (pc' := 933) C tokL_21 rfl rfl miX6_furnace lnL_107 (gxk_0 _ _) rfl (s_X6_furnace _ σ _ _ _ e1) (l_rm rfl hc hs) (Nat.le_of_ble_eq_true rfl) ?_
  refine l_heap (gxgm roN σ1 μ) ?_
  refine l_aload_n (pc' := 934) C tokL_21 rfl rfl rfl ?_
  refine l_aload_n (pc' := 935) C tokL_21 rfl rfl rfl ?_
  refine l_iload_n (pc' := 936) C tokL_21 rfl rfl rfl ?_
  refine l_iconst (v := 1) (pc' := 937) C tokL_21 rfl rfl (by decide) ?_
  refine l_iadd (pc' := 938) C tokL_21 rfl rfl ?_
  refine l_sld (pc' := 939) C tokL_21 rfl rfl v1 ?_
  refine l_aload_n (pc' := 940) C tokL_21 rfl rfl rfl ?_
  refine l_iload_n (pc' := 941) C tokL_21 rfl rfl rfl ?_
  refine l_iconst (v := 2) (pc' := 942) C tokL_21 rfl rfl (by decide) ?_
  refine l_iadd (pc' := 943) C tokL_21 rfl rfl ?_
  refine l_sld (pc' := 944) C tokL_21 rfl rfl v2 ?_
  refine l_v2 (pc' := 947) C tokL_21 rfl rfl miX7_furnace lnL_110 (gm_o _ _) rfl (s_X7_furnace _ μ _ _ _ e2) (l_rm rfl (Nat.le_trans (Nat.add_le_add hc0 (show rX6_furnace.cells ≤ 4 from Nat.le_of_ble_eq_true rfl)) hc4) (Nat.le_trans (Nat.add_le_add hs0 (show rX6_furnace.slots ≤ 30 from Nat.le_of_ble_eq_true rfl)) hs4)) (Nat.le_of_ble_eq_true rfl) ?_
  refine l_heap (gxgm roN σ1 μ1).symm ?_
  refine l_icmp_eq (tgt := 1211) C tokL_21 rfl rfl ?_
  refine l_widen (a := 70 + 4 * k + 4) (d := 2000 + 30 * k + 30) (show 70 + 4 * k + rX6_furnace.cells + rX7_furnace.cells ≤ 70 + 4 * k + 4 from Nat.add_le_add_left (Nat.le_of_ble_eq_true rfl) (70 + 4 * k)) (show 2000 + 30 * k + rX6_furnace.slots + rX7_furnace.slots ≤ 2000 + 30 * k + 30 from Nat.add_le_add_left (Nat.le_of_ble_eq_true rfl) (2000 + 30 * k)) ?_
  exact tail σ1 μ1 hR1
set_option maxHeartbeats 4000000 in
set_option maxRecDepth 100000 in
theorem law_case_22 {p : Program} {l : Launch} {e : Env} {s : State} {m : MethodId} {below : List Frame} {meth : Method} {c : Code} {b L : Nat} {xs : Nat → Int32} {D : hG} {αc : Nat → Nat} (C : h_LC p s m meth c b L xs D) {Rel : xS → mS → Prop} (H22 : ∀ (σ : xS) (μ : mS), Rel σ μ → ∀ (a0 : Int32), ∃ (r : Int32) (σ1 : xS) (μ1 : mS), f_X6_refine σ a0 = some (r, σ1) ∧ f_X7_refine μ a0 = some (r, μ1) ∧ Rel σ1 μ1) {k : Nat} {σ : xS} {μ : mS} (hR : Rel σ μ) (v1 : vp_in (Int32.ofNat (7 * k) + 1) L) (v2 : vp_in (Int32.ofNat (7 * k) + 2) L) (v3 : vp_in (Int32.ofNat (7 * k) + 3) L) (v4 : vp_in (Int32.ofNat (7 * k) + 4) L) (v5 : vp_in (Int32.ofNat (7 * k) + 5) L) (v6 : vp_in (Int32.ofNat (7 * k) + 6) L) (hk : k ≤ 512) (tail : ∀ (σ1 : xS) (μ1 : mS), Rel σ1 μ1 → JL p l e s m below meth c b D αc (70 + 4 * k + 4) (2000 + 30 * k + 30) (gx (gm roN μ1) σ1) 1211 [(3, .int (Int32.ofNat (7 * k))), (2, .ref 5000), (1, .ref 0), (0, .ref (9001 + 30))] []) : JL p l e s m below meth c b D αc (70 + 4 * k) (2000 + 30 * k) (gx (gm roN μ) σ) 952 [(3, .int (Int32.ofNat (7 * k))), (2, .ref 5000), (1, .ref 0), (0, .ref (9001 + 30))] [] := by
  have hc : 70 + 4 * k ≤ 500000 := by omega
  have hs : 2000 + 30 * k ≤ 7000000 := by omega
  have hc0 : 70 + 4 * k ≤ 400000 := by omega
  have hs0 : 2000 + 30 * k ≤ 6000000 := by omega
  have hc4 : 400000 + 4 ≤ 500000 := by decide
  have hs4 : 6000000 + 30 ≤ 7000000 := by decide
  obtain ⟨r, σ1, μ1, e1, e2, hR1⟩ := H22 σ μ hR (xs (Int32.ofNat (7 * k) + 1).toNatClampNeg)
  refine l_aload_n (pc' := 953) C tokL_22 rfl rfl rfl ?_
  refine l_aload_n (pc' := 954) C tokL_22 rfl rfl rfl ?_
  refine l_iload_n (pc' := 955) C tokL_22 rfl rfl rfl ?_
  refine l_iconst (v := 1) (pc' := 956) C tokL_22 rfl rfl (by decide) ?_
  refine l_iadd (pc' := 957) C tokL_22 rfl rfl ?_
  refine l_sld (pc' := 958) C tokL_22 rfl rfl v1 ?_
  refine l_v1 (pc' := 961) C tokL_22 rfl rfl miX6_refine lnL_111 (gxk_0 _ _) rfl (s_X6_refine _ σ _ _ e1) (l_rm rfl hc hs) (Nat.le_of_ble_eq_true rfl) ?_
  refine l_heap (gxgm roN σ1 μ) ?_
  refine l_aload_n (pc' := 962) C tokL_22 rfl rfl rfl ?_
  refine l_aload_n (pc' := 963) C tokL_22 rfl rfl rfl ?_
  refine l_iload_n (pc' := 964) C tokL_22 rfl rfl rfl ?_
  refine l_iconst (v := 1) (pc' := 965) C tokL_22 rfl rfl (by decide) ?_
  refine l_iadd (pc' := 966) C tokL_22 rfl rfl ?_
  refine l_sld (pc' := 967) C tokL_22 rfl rfl v1 ?_
  refine l_v1 (pc' := 970) C tokL_22 rfl rfl miX7_refine lnL_114 (gm_o _ _) rfl (s_X7_refine _ μ _ _ e2) (l_rm rfl (Nat.le_trans (Nat.add_le_add hc0 (show rX6_refine.cells ≤ 4 from Nat.le_of_ble_eq_true rfl)) hc4) (Nat.le_trans (Nat.add_le_add hs0 (show rX6_refine.slots ≤ 30 from Nat.le_of_ble_eq_true rfl)) hs4)) (Nat.le_of_ble_eq_true rfl) ?_
  refine l_heap (gxgm roN σ1 μ1).symm ?_
  refine l_icmp_eq (tgt := 1211) C tokL_22 rfl rfl ?_
  refine l_widen (a := 70 + 4 * k + 4) (d := 2000 + 30 * k + 30) (show 70 + 4 * k + rX6_refine.cells + rX7_refine.cells ≤ 70 + 4 * k + 4 from Nat.add_le_add_left (Nat.le_of_ble_eq_true rfl) (70 + 4 * k)) (show 2000 + 30 * k + rX6_refine.slots + rX7_refine.slots ≤ 2000 + 30 * k + 30 from Nat.add_le_add_left (Nat.le_of_ble_eq_true rfl) (2000 + 30 * k)) ?_
  exact tail σ1 μ1 hR1
set_option maxHeartbeats 4000000 in
set_option maxRecDepth 100000 in
theorem law_case_23 {p : Program} {l : Launch} {e : Env} {s : State} {m : MethodId} {below : List Frame} {meth : Method} {c : Code} {b L : Nat} {xs : Nat → Int32} {D : hG} {αc : Nat → Nat} (C : h_LC p s m meth c b L xs D) {Rel : xS → mS → Prop} (H23 : ∀ (σ : xS) (μ : mS), Rel σ μ → ∀ (a0 : Int32) (a1 : Int32) (a2 : Int32), ∃ (r : Int32) (σ1 : xS) (μ1 : mS), f_X6_strike σ a0 a1 a2 = some (r, σ1) ∧ f_X7_strike μ a0 a1 a2 = some (r, μ1) ∧ Rel σ1 μ1) {k : Nat} {σ : xS} {μ : mS} (hR : Rel σ μ) (v1 : vp_in (Int32.ofNat (7 * k) + 1) L) (v2 : vp_in (Int32.ofNat (7 * k) + 2) L) (v3 : vp_in (Int32.ofNat (7 * k) + 3) L) (v4 : vp_in (Int32.ofNat (7 * k) + 4) L) (v5 : vp_in (Int32.ofNat (7 * k) + 5) L) (v6 : vp_in (Int32.ofNat (7 * k) + 6) L) (hk : k ≤ 512) (tail : ∀ (σ1 : xS) (μ1 : mS), Rel σ1 μ1 → JL p l e s m below meth c b D αc (70 + 4 * k + 4) (2000 + 30 * k + 30) (gx (gm roN μ1) σ1) 1211 [(3, .int (Int32.ofNat (7 * k))), (2, .ref 5000), (1, .ref 0), (0, .ref (9001 + 30))] []) : JL p l e s m below meth c b D αc (70 + 4 * k) (2000 + 30 * k) (gx (gm roN μ) σ) 975 [(3, .int (Int32.ofNat (7 * k))), (2, .ref 5000), (1, .ref 0), (0, .ref (9001 + 30))] [] := by
  have hc : 70 + 4 * k ≤ 500000 := by omega
  have hs : 2000 + 30 * k ≤ 7000000 := by omega
  have hc0 : 70 + 4 * k ≤ 400000 := by omega
  have hs0 : 2000 + 30 * k ≤ 6000000 := by omega
  have hc4 : 400000 + 4 ≤ 500000 := by decide
  have hs4 : 6000000 + 30 ≤ 7000000 := by decide
  obtain ⟨r, σ1, μ1, e1, e2, hR1⟩ := H23 σ μ hR (xs (Int32.ofNat (7 * k) + 1).toNatClampNeg) (xs (Int32.ofNat (7 * k) + 2).toNatClampNeg) (xs (Int32.ofNat (7 * k) + 3).toNatClampNeg)
  refine l_aload_n (pc' := 976) C tokL_23 rfl rfl rfl ?_
  refine l_aload_n (pc' := 977) C tokL_23 rfl rfl rfl ?_
  refine l_iload_n (pc' := 978) C tokL_23 rfl rfl rfl ?_
  refine l_iconst (v := 1) (pc' := 979) C tokL_23 rfl rfl (by decide) ?_
  refine l_iadd (pc' := 980) C tokL_23 rfl rfl ?_
  refine l_sld (pc' := 981) C tokL_23 rfl rfl v1 ?_
  refine l_aload_n (pc' := 982) C tokL_23 rfl rfl rfl ?_
  refine l_iload_n (pc' := 983) C tokL_23 rfl rfl rfl ?_
  refine l_iconst (v := 2) (pc' := 984) C tokL_23 rfl rfl (by decide) ?_
  refine l_iadd (pc' := 985) C tokL_23 rfl rfl ?_
  refine l_sld (pc' := 986) C tokL_23 rfl rfl v2 ?_
  refine l_aload_n (pc' := 987) C tokL_23 rfl rfl rfl ?_
  refine l_iload_n (pc' := 988) C tokL_23 rfl rfl rfl ?_
  refine l_iconst (v := 3) (pc' := 989) C tokL_23 rfl rfl (by decide) ?_
  refine l_iadd (pc' := 990) C tokL_23 rfl rfl ?_
  refine l_sld (pc' := 991) C tokL_23 rfl rfl v3 ?_
  refine l_v3 (pc' := 994) C tokL_23 rfl rfl miX6_strike lnL_115 (gxk_0 _ _) rfl (s_X6_strike _ σ _ _ _ _ e1) (l_rm rfl hc hs) (Nat.le_of_ble_eq_true rfl) ?_
  refine l_heap (gxgm roN σ1 μ) ?_
  refine l_aload_n (pc' := 995) C tokL_23 rfl rfl rfl ?_
  refine l_aload_n (pc' := 996) C tokL_23 rfl rfl rfl ?_
  refine l_iload_n (pc' := 997) C tokL_23 rfl rfl rfl ?_
  refine l_iconst (v := 1) (pc' := 998) C tokL_23 rfl rfl (by decide) ?_
  refine l_iadd (pc' := 999) C tokL_23 rfl rfl ?_
  refine l_sld (pc' := 1000) C tokL_23 rfl rfl v1 ?_
  refine l_aload_n (pc' := 1001) C tokL_23 rfl rfl rfl ?_
  refine l_iload_n (pc' := 1002) C tokL_23 rfl rfl rfl ?_
  refine l_iconst (v := 2) (pc' := 1003) C tokL_23 rfl rfl (by decide) ?_
  refine l_iadd (pc' := 1004) C tokL_23 rfl rfl ?_
  refine l_sld (pc' := 1005) C tokL_23 rfl rfl v2 ?_
  refine l_aload_n (pc' := 1006) C tokL_23 rfl rfl rfl ?_
  refine l_iload_n (pc' := 1007) C tokL_23 rfl rfl rfl ?_
  refine l_iconst (v := 3) (pc' := 1008) C tokL_23 rfl rfl (by decide) ?_
  refine l_iadd (pc' := 1009) C tokL_23 rfl rfl ?_
  refine l_sld (pc' := 1010) C tokL_23 rfl rfl v3 ?_
  refine l_v3 (pc' := 1013) C tokL_23 rfl rfl miX7_strike lnL_118 (gm_o _ _) rfl (s_X7_strike _ μ _ _ _ _ e2) (l_rm rfl (Nat.le_trans (Nat.add_le_add hc0 (show rX6_strike.cells ≤ 4 from Nat.le_of_ble_eq_true rfl)) hc4) (Nat.le_trans (Nat.add_le_add hs0 (show rX6_strike.slots ≤ 30 from Nat.le_of_ble_eq_true rfl)) hs4)) (Nat.le_of_ble_eq_true rfl) ?_
  refine l_heap (gxgm roN σ1 μ1).symm ?_
  refine l_icmp_eq (tgt := 1211) C tokL_23 rfl rfl ?_
  refine l_widen (a := 70 + 4 * k + 4) (d := 2000 + 30 * k + 30) (show 70 + 4 * k + rX6_strike.cells + rX7_strike.cells ≤ 70 + 4 * k + 4 from Nat.add_le_add_left (Nat.le_of_ble_eq_true rfl) (70 + 4 * k)) (show 2000 + 30 * k + rX6_strike.slots + rX7_strike.slots ≤ 2000 + 30 * k + 30 from Nat.add_le_add_left (Nat.le_of_ble_eq_true rfl) (2000 + 30 * k)) ?_
  exact tail σ1 μ1 hR1
set_option maxHeartbeats 4000000 in
set_option maxRecDepth 100000 in
theorem law_case_24 {p : Program} {l : Launch} {e : Env} {s : State} {m : MethodId} {below : List Frame} {meth : Method} {c : Code} {b L : Nat} {xs : Nat → Int32} {D : hG} {αc : Nat → Nat} (C : h_LC p s m meth c b L xs D) {Rel : xS → mS → Prop} (H24 : ∀ (σ : xS) (μ : mS), Rel σ μ → ∀ (a0 : Int32) (a1 : Int32), ∃ (r : Int64), f_X6_mint σ a0 a1 = some r ∧ f_X7_mint μ a0 a1 = some r ∧ Rel σ μ) {k : Nat} {σ : xS} {μ : mS} (hR : Rel σ μ) (v1 : vp_in (Int32.ofNat (7 * k) + 1) L) (v2 : vp_in (Int32.ofNat (7 * k) + 2) L) (v3 : vp_in (Int32.ofNat (7 * k) + 3) L) (v4 : vp_in (Int32.ofNat (7 * k) + 4) L) (v5 : vp_in (Int32.ofNat (7 * k) + 5) L) (v6 : vp_in (Int32.ofNat (7 * k) + 6) L) (hk : k ≤ 512) (tail : ∀ (σ1 : xS) (μ1 : mS), Rel σ1 μ1 → JL p l e s m below meth c b D αc (70 + 4 * k + 4) (2000 + 30 * k + 30) (gx (gm roN μ1) σ1) 1211 [(3, .int (Int32.ofNat (7 * k))), (2, .ref 5000), (1, .ref 0), (0, .ref (9001 + 30))] []) : JL p l e s m below meth c b D αc (70 + 4 * k) (2000 + 30 * k) (gx (gm roN μ) σ) 1018 [(3, .int (Int32.ofNat (7 * k))), (2, .ref 5000), (1, .ref 0), (0, .ref (9001 + 30))] [] := by
  have hc : 70 + 4 * k ≤ 500000 := by omega
  have hs : 2000 + 30 * k ≤ 7000000 := by omega
  have hc0 : 70 + 4 * k ≤ 400000 := by omega
  have hs0 : 2000 + 30 * k ≤ 6000000 := by omega
  have hc4 : 400000 + 4 ≤ 500000 := by decide
  have hs4 : 6000000 + 30 ≤ 7000000 := by decide
  obtain ⟨r, e1, e2, hR1⟩ := H24 σ μ hR (xs (Int32.ofNat (7 * k) + 1).toNatClampNeg) (xs (Int32.ofNat (7 * k) + 2).toNatClampNeg)
  refine l_aload_n (pc' := 1019) C tokL_24 rfl rfl rfl ?_
  refine l_aload_n (pc' := 1020) C tokL_24 rfl rfl rfl ?_
  refine l_iload_n (pc' := 1021) C tokL_24 rfl rfl rfl ?_
  refine l_iconst (v := 1) (pc' := 1022) C tokL_24 rfl rfl (by decide) ?_
  refine l_iadd (pc' := 1023) C tokL_24 rfl rfl ?_
  refine l_sld (pc' := 1024) C tokL_24 rfl rfl v1 ?_
  refine l_aload_n (pc' := 1025) C tokL_24 rfl rfl rfl ?_
  refine l_iload_n (pc' := 1026) C tokL_24 rfl rfl rfl ?_
  refine l_iconst (v := 2) (pc' := 1027) C tokL_24 rfl rfl (by decide) ?_
  refine l_iadd (pc' := 1028) C tokL_24 rfl rfl ?_
  refine l_sld (pc' := 1029) C tokL_24 rfl rfl v2 ?_
  refine l_v2 (pc' := 1032) C tokL_24 rfl rfl miX6_mint lnL_119 (gxk_0 _ _) rfl (s_X6_mint _ σ _ _ _ e1) (l_rm rfl hc hs) (Nat.le_of_ble_eq_true rfl) ?_
  refine l_heap (gxgm roN σ μ) ?_
  refine l_aload_n (pc' := 1033) C tokL_24 rfl rfl rfl ?_
  refine l_aload_n (pc' := 1034) C tokL_24 rfl rfl rfl ?_
  refine l_iload_n (pc' := 1035) C tokL_24 rfl rfl rfl ?_
  refine l_iconst (v := 1) (pc' := 1036) C tokL_24 rfl rfl (by decide) ?_
  refine l_iadd (pc' := 1037) C tokL_24 rfl rfl ?_
  refine l_sld (pc' := 1038) C tokL_24 rfl rfl v1 ?_
  refine l_aload_n (pc' := 1039) C tokL_24 rfl rfl rfl ?_
  refine l_iload_n (pc' := 1040) C tokL_24 rfl rfl rfl ?_
  refine l_iconst (v := 2) (pc' := 1041) C tokL_24 rfl rfl (by decide) ?_
  refine l_iadd (pc' := 1042) C tokL_24 rfl rfl ?_
  refine l_sld (pc' := 1043) C tokL_24 rfl rfl v2 ?_
  refine l_v2 (pc' := 1046) C tokL_24 rfl rfl miX7_mint lnL_123 (gm_o _ _) rfl (s_X7_mint _ μ _ _ _ e2) (l_rm rfl (Nat.le_trans (Nat.add_le_add hc0 (show rX6_mint.cells ≤ 4 from Nat.le_of_ble_eq_true rfl)) hc4) (Nat.le_trans (Nat.add_le_add hs0 (show rX6_mint.slots ≤ 30 from Nat.le_of_ble_eq_true rfl)) hs4)) (Nat.le_of_ble_eq_true rfl) ?_
  refine l_heap (gxgm roN σ μ).symm ?_
  refine l_lcmp (pc' := 1047) C tokL_24 rfl rfl ?_
  refine l_if_eq (tgt := 1211) (lg_self _) C tokL_24 rfl rfl ?_
  refine l_widen (a := 70 + 4 * k + 4) (d := 2000 + 30 * k + 30) (show 70 + 4 * k + rX6_mint.cells + rX7_mint.cells ≤ 70 + 4 * k + 4 from Nat.add_le_add_left (Nat.le_of_ble_eq_true rfl) (70 + 4 * k)) (show 2000 + 30 * k + rX6_mint.slots + rX7_mint.slots ≤ 2000 + 30 * k + 30 from Nat.add_le_add_left (Nat.le_of_ble_eq_true rfl) (2000 + 30 * k)) ?_
  exact tail σ μ hR1
set_option maxHeartbeats 4000000 in
set_option maxRecDepth 100000 in
theorem law_case_25 {p : Program} {l : Launch} {e : Env} {s : State} {m : MethodId} {below : List Frame} {meth : Method} {c : Code} {b L : Nat} {xs : Nat → Int32} {D : hG} {αc : Nat → Nat} (C : h_LC p s m meth c b L xs D) {Rel : xS → mS → Prop} (H25 : ∀ (σ : xS) (μ : mS), Rel σ μ → ∃ (r : Int64), f_X6_all σ = some r ∧ f_X7_all μ = some r ∧ Rel σ μ) {k : Nat} {σ : xS} {μ : mS} (hR : Rel σ μ) (v1 : vp_in (Int32.ofNat (7 * k) + 1) L) (v2 : vp_in (Int32.ofNat (7 * k) + 2) L) (v3 : vp_in (Int32.ofNat (7 * k) + 3) L) (v4 : vp_in (Int32.ofNat (7 * k) + 4) L) (v5 : vp_in (Int32.ofNat (7 * k) + 5) L) (v6 : vp_in (Int32.ofNat (7 * k) + 6) L) (hk : k ≤ 512) (tail : ∀ (σ1 : xS) (μ1 : mS), Rel σ1 μ1 → JL p l e s m below meth c b D αc (70 + 4 * k + 4) (2000 + 30 * k + 30) (gx (gm roN μ1) σ1) 1211 [(3, .int (Int32.ofNat (7 * k))), (2, .ref 5000), (1, .ref 0), (0, .ref (9001 + 30))] []) : JL p l e s m below meth c b D αc (70 + 4 * k) (2000 + 30 * k) (gx (gm roN μ) σ) 1052 [(3, .int (Int32.ofNat (7 * k))), (2, .ref 5000), (1, .ref 0), (0, .ref (9001 + 30))] [] := by
  have hc : 70 + 4 * k ≤ 500000 := by omega
  have hs : 2000 + 30 * k ≤ 7000000 := by omega
  have hc0 : 70 + 4 * k ≤ 400000 := by omega
  have hs0 : 2000 + 30 * k ≤ 6000000 := by omega
  have hc4 : 400000 + 4 ≤ 500000 := by decide
  have hs4 : 6000000 + 30 ≤ 7000000 := by decide
  obtain ⟨r, e1, e2, hR1⟩ := H25 σ μ hR
  refine l_aload_n (pc' := 1053) C tokL_25 rfl rfl rfl ?_
  refine l_v0 (pc' := 1056) C tokL_25 rfl rfl miX6_all lnL_124 (gxk_0 _ _) rfl (s_X6_all _ σ _ e1) (l_rm rfl hc hs) (Nat.le_of_ble_eq_true rfl) ?_
  refine l_heap (gxgm roN σ μ) ?_
  refine l_aload_n (pc' := 1057) C tokL_25 rfl rfl rfl ?_
  refine l_v0 (pc' := 1060) C tokL_25 rfl rfl miX7_all lnL_128 (gm_o _ _) rfl (s_X7_all _ μ _ e2) (l_rm rfl (Nat.le_trans (Nat.add_le_add hc0 (show rX6_all.cells ≤ 4 from Nat.le_of_ble_eq_true rfl)) hc4) (Nat.le_trans (Nat.add_le_add hs0 (show rX6_all.slots ≤ 30 from Nat.le_of_ble_eq_true rfl)) hs4)) (Nat.le_of_ble_eq_true rfl) ?_
  refine l_heap (gxgm roN σ μ).symm ?_
  refine l_lcmp (pc' := 1061) C tokL_25 rfl rfl ?_
  refine l_if_eq (tgt := 1211) (lg_self _) C tokL_25 rfl rfl ?_
  refine l_widen (a := 70 + 4 * k + 4) (d := 2000 + 30 * k + 30) (show 70 + 4 * k + rX6_all.cells + rX7_all.cells ≤ 70 + 4 * k + 4 from Nat.add_le_add_left (Nat.le_of_ble_eq_true rfl) (70 + 4 * k)) (show 2000 + 30 * k + rX6_all.slots + rX7_all.slots ≤ 2000 + 30 * k + 30 from Nat.add_le_add_left (Nat.le_of_ble_eq_true rfl) (2000 + 30 * k)) ?_
  exact tail σ μ hR1
set_option maxHeartbeats 4000000 in
set_option maxRecDepth 100000 in
theorem law_case_26 {p : Program} {l : Launch} {e : Env} {s : State} {m : MethodId} {below : List Frame} {meth : Method} {c : Code} {b L : Nat} {xs : Nat → Int32} {D : hG} {αc : Nat → Nat} (C : h_LC p s m meth c b L xs D) {Rel : xS → mS → Prop} (H26 : ∀ (σ : xS) (μ : mS), Rel σ μ → ∀ (a0 : Int32) (a1 : Int32) (a2 : Int32) (a3 : Int32), ∃ (r : Int32), f_X6_drawn σ a0 a1 a2 a3 = some r ∧ f_X7_drawn μ a0 a1 a2 a3 = some r ∧ Rel σ μ) {k : Nat} {σ : xS} {μ : mS} (hR : Rel σ μ) (v1 : vp_in (Int32.ofNat (7 * k) + 1) L) (v2 : vp_in (Int32.ofNat (7 * k) + 2) L) (v3 : vp_in (Int32.ofNat (7 * k) + 3) L) (v4 : vp_in (Int32.ofNat (7 * k) + 4) L) (v5 : vp_in (Int32.ofNat (7 * k) + 5) L) (v6 : vp_in (Int32.ofNat (7 * k) + 6) L) (hk : k ≤ 512) (tail : ∀ (σ1 : xS) (μ1 : mS), Rel σ1 μ1 → JL p l e s m below meth c b D αc (70 + 4 * k + 4) (2000 + 30 * k + 30) (gx (gm roN μ1) σ1) 1211 [(3, .int (Int32.ofNat (7 * k))), (2, .ref 5000), (1, .ref 0), (0, .ref (9001 + 30))] []) : JL p l e s m below meth c b D αc (70 + 4 * k) (2000 + 30 * k) (gx (gm roN μ) σ) 1066 [(3, .int (Int32.ofNat (7 * k))), (2, .ref 5000), (1, .ref 0), (0, .ref (9001 + 30))] [] := by
  have hc : 70 + 4 * k ≤ 500000 := by omega
  have hs : 2000 + 30 * k ≤ 7000000 := by omega
  have hc0 : 70 + 4 * k ≤ 400000 := by omega
  have hs0 : 2000 + 30 * k ≤ 6000000 := by omega
  have hc4 : 400000 + 4 ≤ 500000 := by decide
  have hs4 : 6000000 + 30 ≤ 7000000 := by decide
  obtain ⟨r, e1, e2, hR1⟩ := H26 σ μ hR (xs (Int32.ofNat (7 * k) + 1).toNatClampNeg) (xs (Int32.ofNat (7 * k) + 2).toNatClampNeg) (xs (Int32.ofNat (7 * k) + 3).toNatClampNeg) (xs (Int32.ofNat (7 * k) + 4).toNatClampNeg)
  refine l_aload_n (pc' := 1067) C tokL_26 rfl rfl rfl ?_
  refine l_aload_n (pc' := 1068) C tokL_26 rfl rfl rfl ?_
  refine l_iload_n (pc' := 1069) C tokL_26 rfl rfl rfl ?_
  refine l_iconst (v := 1) (pc' := 1070) C tokL_26 rfl rfl (by decide) ?_
  refine l_iadd (pc' := 1071) C tokL_26 rfl rfl ?_
  refine l_sld (pc' := 1072) C tokL_26 rfl rfl v1 ?_
  refine l_aload_n (pc' := 1073) C tokL_26 rfl rfl rfl ?_
  refine l_iload_n (pc' := 1074) C tokL_26 rfl rfl rfl ?_
  refine l_iconst (v := 2) (pc' := 1075) C tokL_26 rfl rfl (by decide) ?_
  refine l_iadd (pc' := 1076) C tokL_26 rfl rfl ?_
  refine l_sld (pc' := 1077) C tokL_26 rfl rfl v2 ?_
  refine l_aload_n (pc' := 1078) C tokL_26 rfl rfl rfl ?_
  refine l_iload_n (pc' := 1079) C tokL_26 rfl rfl rfl ?_
  refine l_iconst (v := 3) (pc' := 1080) C tokL_26 rfl rfl (by decide) ?_
  refine l_iadd (pc' := 1081) C tokL_26 rfl rfl ?_
  refine l_sld (pc' := 1082) C tokL_26 rfl rfl v3 ?_
  refine l_aload_n (pc' := 1083) C tokL_26 rfl rfl rfl ?_
  refine l_iload_n (pc' := 1084) C tokL_26 rfl rfl rfl ?_
  refine l_iconst (v := 4) (pc' := 1085) C tokL_26 rfl rfl (by decide) ?_
  refine l_iadd (pc' := 1086) C tokL_26 rfl rfl ?_
  refine l_sld (pc' := 1087) C tokL_26 rfl rfl v4 ?_
  refine l_v4 (pc' := 1090) C tokL_26 rfl rfl miX6_drawn lnL_129 (gxk_0 _ _) rfl (s_X6_drawn _ σ _ _ _ _ _ e1) (l_rm rfl hc hs) (Nat.le_of_ble_eq_true rfl) ?_
  refine l_heap (gxgm roN σ μ) ?_
  refine l_aload_n (pc' := 1091) C tokL_26 rfl rfl rfl ?_
  refine l_aload_n (pc' := 1092) C tokL_26 rfl rfl rfl ?_
  refine l_iload_n (pc' := 1093) C tokL_26 rfl rfl rfl ?_
  refine l_iconst (v := 1) (pc' := 1094) C tokL_26 rfl rfl (by decide) ?_
  refine l_iadd (pc' := 1095) C tokL_26 rfl rfl ?_
  refine l_sld (pc' := 1096) C tokL_26 rfl rfl v1 ?_
  refine l_aload_n (pc' := 1097) C tokL_26 rfl rfl rfl ?_
  refine l_iload_n (pc' := 1098) C tokL_26 rfl rfl rfl ?_
  refine l_iconst (v := 2) (pc' := 1099) C tokL_26 rfl rfl (by decide) ?_
  refine l_iadd (pc' := 1100) C tokL_26 rfl rfl ?_
  refine l_sld (pc' := 1101) C tokL_26 rfl rfl v2 ?_
  refine l_aload_n (pc' := 1102) C tokL_26 rfl rfl rfl ?_
  refine l_iload_n (pc' := 1103) C tokL_26 rfl rfl rfl ?_
  refine l_iconst (v := 3) (pc' := 1104) C tokL_26 rfl rfl (by decide) ?_
  refine l_iadd (pc' := 1105) C tokL_26 rfl rfl ?_
  refine l_sld (pc' := 1106) C tokL_26 rfl rfl v3 ?_
  refine l_aload_n (pc' := 1107) C tokL_26 rfl rfl rfl ?_
  refine l_iload_n (pc' := 1108) C tokL_26 rfl rfl rfl ?_
  refine l_iconst (v := 4) (pc' := 1109) C tokL_26 rfl rfl (by decide) ?_
  refine l_iadd (pc' := 1110) C tokL_26 rfl rfl ?_
  refine l_sld (pc' := 1111) C tokL_26 rfl rfl v4 ?_
  refine l_v4 (pc' := 1114) C tokL_26 rfl rfl miX7_drawn lnL_132 (gm_o _ _) rfl (s_X7_drawn _ μ _ _ _ _ _ e2) (l_rm rfl (Nat.le_trans (Nat.add_le_add hc0 (show rX6_drawn.cells ≤ 4 from Nat.le_of_ble_eq_true rfl)) hc4) (Nat.le_trans (Nat.add_le_add hs0 (show rX6_drawn.slots ≤ 30 from Nat.le_of_ble_eq_true rfl)) hs4)) (Nat.le_of_ble_eq_true rfl) ?_
  refine l_heap (gxgm roN σ μ).symm ?_
  refine l_icmp_eq (tgt := 1211) C tokL_26 rfl rfl ?_
  refine l_widen (a := 70 + 4 * k + 4) (d := 2000 + 30 * k + 30) (show 70 + 4 * k + rX6_drawn.cells + rX7_drawn.cells ≤ 70 + 4 * k + 4 from Nat.add_le_add_left (Nat.le_of_ble_eq_true rfl) (70 + 4 * k)) (show 2000 + 30 * k + rX6_drawn.slots + rX7_drawn.slots ≤ 2000 + 30 * k + 30 from Nat.add_le_add_left (Nat.le_of_ble_eq_true rfl) (2000 + 30 * k)) ?_
  exact tail σ μ hR1
set_option maxHeartbeats 4000000 in
set_option maxRecDepth 100000 in
theorem law_case_27 {p : Program} {l : Launch} {e : Env} {s : State} {m : MethodId} {below : List Frame} {meth : Method} {c : Code} {b L : Nat} {xs : Nat → Int32} {D : hG} {αc : Nat → Nat} (C : h_LC p s m meth c b L xs D) {Rel : xS → mS → Prop} (H27 : ∀ (σ : xS) (μ : mS), Rel σ μ → ∀ (a0 : Int32) (a1 : Int32) (a2 : Int32), ∃ (r : Int32) (σ1 : xS) (μ1 : mS), f_X6_wish σ a0 a1 a2 = some (r, σ1) ∧ f_X7_wish μ a0 a1 a2 = some (r, μ1) ∧ Rel σ1 μ1) {k : Nat} {σ : xS} {μ : mS} (hR : Rel σ μ) (v1 : vp_in (Int32.ofNat (7 * k) + 1) L) (v2 : vp_in (Int32.ofNat (7 * k) + 2) L) (v3 : vp_in (Int32.ofNat (7 * k) + 3) L) (v4 : vp_in (Int32.ofNat (7 * k) + 4) L) (v5 : vp_in (Int32.ofNat (7 * k) + 5) L) (v6 : vp_in (Int32.ofNat (7 * k) + 6) L) (hk : k ≤ 512) (tail : ∀ (σ1 : xS) (μ1 : mS), Rel σ1 μ1 → JL p l e s m below meth c b D αc (70 + 4 * k + 4) (2000 + 30 * k + 30) (gx (gm roN μ1) σ1) 1211 [(3, .int (Int32.ofNat (7 * k))), (2, .ref 5000), (1, .ref 0), (0, .ref (9001 + 30))] []) : JL p l e s m below meth c b D αc (70 + 4 * k) (2000 + 30 * k) (gx (gm roN μ) σ) 1119 [(3, .int (Int32.ofNat (7 * k))), (2, .ref 5000), (1, .ref 0), (0, .ref (9001 + 30))] [] := by
  have hc : 70 + 4 * k ≤ 500000 := by omega
  have hs : 2000 + 30 * k ≤ 7000000 := by omega
  have hc0 : 70 + 4 * k ≤ 400000 := by omega
  have hs0 : 2000 + 30 * k ≤ 6000000 := by omega
  have hc4 : 400000 + 4 ≤ 500000 := by decide
  have hs4 : 6000000 + 30 ≤ 7000000 := by decide
  obtain ⟨r, σ1, μ1, e1, e2, hR1⟩ := H27 σ μ hR (xs (Int32.ofNat (7 * k) + 1).toNatClampNeg) (xs (Int32.ofNat (7 * k) + 2).toNatClampNeg) (xs (Int32.ofNat (7 * k) + 3).toNatClampNeg)
  refine l_aload_n (pc' := 1120) C tokL_27 rfl rfl rfl ?_
  refine l_aload_n (pc' := 1121) C tokL_27 rfl rfl rfl ?_
  refine l_iload_n (pc' := 1122) C tokL_27 rfl rfl rfl ?_
  refine l_iconst (v := 1) (pc' := 1123) C tokL_27 rfl rfl (by decide) ?_
  refine l_iadd (pc' := 1124) C tokL_27 rfl rfl ?_
  refine l_sld (pc' := 1125) C tokL_27 rfl rfl v1 ?_
  refine l_aload_n (pc' := 1126) C tokL_27 rfl rfl rfl ?_
  refine l_iload_n (pc' := 1127) C tokL_27 rfl rfl rfl ?_
  refine l_iconst (v := 2) (pc' := 1128) C tokL_27 rfl rfl (by decide) ?_
  refine l_iadd (pc' := 1129) C tokL_27 rfl rfl ?_
  refine l_sld (pc' := 1130) C tokL_27 rfl rfl v2 ?_
  refine l_aload_n (pc' := 1131) C tokL_27 rfl rfl rfl ?_
  refine l_iload_n (pc' := 1132) C tokL_27 rfl rfl rfl ?_
  refine l_iconst (v := 3) (pc' := 1133) C tokL_27 rfl rfl (by decide) ?_
  refine l_iadd (pc' := 1134) C tokL_27 rfl rfl ?_
  refine l_sld (pc' := 1135) C tokL_27 rfl rfl v3 ?_
  refine l_v3 (pc' := 1138) C tokL_27 rfl rfl miX6_wish lnL_133 (gxk_0 _ _) rfl (s_X6_wish _ σ _ _ _ _ e1) (l_rm rfl hc hs) (Nat.le_of_ble_eq_true rfl) ?_
  refine l_heap (gxgm roN σ1 μ) ?_
  refine l_aload_n (pc' := 1139) C tokL_27 rfl rfl rfl ?_
  refine l_aload_n (pc' := 1140) C tokL_27 rfl rfl rfl ?_
  refine l_iload_n (pc' := 1141) C tokL_27 rfl rfl rfl ?_
  refine l_iconst (v := 1) (pc' := 1142) C tokL_27 rfl rfl (by decide) ?_
  refine l_iadd (pc' := 1143) C tokL_27 rfl rfl ?_
  refine l_sld (pc' := 1144) C tokL_27 rfl rfl v1 ?_
  refine l_aload_n (pc' := 1145) C tokL_27 rfl rfl rfl ?_
  refine l_iload_n (pc' := 1146) C tokL_27 rfl rfl rfl ?_
  refine l_iconst (v := 2) (pc' := 1147) C tokL_27 rfl rfl (by decide) ?_
  refine l_iadd (pc' := 1148) C tokL_27 rfl rfl ?_
  refine l_sld (pc' := 1149) C tokL_27 rfl rfl v2 ?_
  refine l_aload_n (pc' := 1150) C tokL_27 rfl rfl rfl ?_
  refine l_iload_n (pc' := 1151) C tokL_27 rfl rfl rfl ?_
  refine l_iconst (v := 3) (pc' := 1152) C tokL_27 rfl rfl (by decide) ?_
  refine l_iadd (pc' := 1153) C tokL_27 rfl rfl ?_
  refine l_sld (pc' := 1154) C tokL_27 rfl rfl v3 ?_
  refine l_v3 (pc' := 1157) C tokL_27 rfl rfl miX7_wish lnL_136 (gm_o _ _) rfl (s_X7_wish _ μ _ _ _ _ e2) (l_rm rfl (Nat.le_trans (Nat.add_le_add hc0 (show rX6_wish.cells ≤ 4 from Nat.le_of_ble_eq_true rfl)) hc4) (Nat.le_trans (Nat.add_le_add hs0 (show rX6_wish.slots ≤ 30 from Nat.le_of_ble_eq_true rfl)) hs4)) (Nat.le_of_ble_eq_true rfl) ?_
  refine l_heap (gxgm roN σ1 μ1).symm ?_
  refine l_icmp_eq (tgt := 1211) C tokL_27 rfl rfl ?_
  refine l_widen (a := 70 + 4 * k + 4) (d := 2000 + 30 * k + 30) (show 70 + 4 * k + rX6_wish.cells + rX7_wish.cells ≤ 70 + 4 * k + 4 from Nat.add_le_add_left (Nat.le_of_ble_eq_true rfl) (70 + 4 * k)) (show 2000 + 30 * k + rX6_wish.slots + rX7_wish.slots ≤ 2000 + 30 * k + 30 from Nat.add_le_add_left (Nat.le_of_ble_eq_true rfl) (2000 + 30 * k)) ?_
  exact tail σ1 μ1 hR1
set_option maxHeartbeats 4000000 in
set_option maxRecDepth 100000 in
theorem law_case_28 {p : Program} {l : Launch} {e : Env} {s : State} {m : MethodId} {below : List Frame} {meth : Method} {c : Code} {b L : Nat} {xs : Nat → Int32} {D : hG} {αc : Nat → Nat} (C : h_LC p s m meth c b L xs D) {Rel : xS → mS → Prop} (H28 : ∀ (σ : xS) (μ : mS), Rel σ μ → ∃ (r : Int32) (σ1 : xS) (μ1 : mS), f_X6_flow σ = some (r, σ1) ∧ f_X7_flow μ = some (r, μ1) ∧ Rel σ1 μ1) {k : Nat} {σ : xS} {μ : mS} (hR : Rel σ μ) (v1 : vp_in (Int32.ofNat (7 * k) + 1) L) (v2 : vp_in (Int32.ofNat (7 * k) + 2) L) (v3 : vp_in (Int32.ofNat (7 * k) + 3) L) (v4 : vp_in (Int32.ofNat (7 * k) + 4) L) (v5 : vp_in (Int32.ofNat (7 * k) + 5) L) (v6 : vp_in (Int32.ofNat (7 * k) + 6) L) (hk : k ≤ 512) (tail : ∀ (σ1 : xS) (μ1 : mS), Rel σ1 μ1 → JL p l e s m below meth c b D αc (70 + 4 * k + 4) (2000 + 30 * k + 30) (gx (gm roN μ1) σ1) 1211 [(3, .int (Int32.ofNat (7 * k))), (2, .ref 5000), (1, .ref 0), (0, .ref (9001 + 30))] []) : JL p l e s m below meth c b D αc (70 + 4 * k) (2000 + 30 * k) (gx (gm roN μ) σ) 1162 [(3, .int (Int32.ofNat (7 * k))), (2, .ref 5000), (1, .ref 0), (0, .ref (9001 + 30))] [] := by
  have hc : 70 + 4 * k ≤ 500000 := by omega
  have hs : 2000 + 30 * k ≤ 7000000 := by omega
  have hc0 : 70 + 4 * k ≤ 400000 := by omega
  have hs0 : 2000 + 30 * k ≤ 6000000 := by omega
  have hc4 : 400000 + 4 ≤ 500000 := by decide
  have hs4 : 6000000 + 30 ≤ 7000000 := by decide
  obtain ⟨r, σ1, μ1, e1, e2, hR1⟩ := H28 σ μ hR
  refine l_aload_n (pc' := 1163) C tokL_28 rfl rfl rfl ?_
  refine l_v0 (pc' := 1166) C tokL_28 rfl rfl miX6_flow lnL_137 (gxk_0 _ _) rfl (s_X6_flow _ σ _ e1) (l_rm rfl hc hs) (Nat.le_of_ble_eq_true rfl) ?_
  refine l_heap (gxgm roN σ1 μ) ?_
  refine l_aload_n (pc' := 1167) C tokL_28 rfl rfl rfl ?_
  refine l_v0 (pc' := 1170) C tokL_28 rfl rfl miX7_flow lnL_140 (gm_o _ _) rfl (s_X7_flow _ μ _ e2) (l_rm rfl (Nat.le_trans (Nat.add_le_add hc0 (show rX6_flow.cells ≤ 4 from Nat.le_of_ble_eq_true rfl)) hc4) (Nat.le_trans (Nat.add_le_add hs0 (show rX6_flow.slots ≤ 30 from Nat.le_of_ble_eq_true rfl)) hs4)) (Nat.le_of_ble_eq_true rfl) ?_
  refine l_heap (gxgm roN σ1 μ1).symm ?_
  refine l_icmp_eq (tgt := 1211) C tokL_28 rfl rfl ?_
  refine l_widen (a := 70 + 4 * k + 4) (d := 2000 + 30 * k + 30) (show 70 + 4 * k + rX6_flow.cells + rX7_flow.cells ≤ 70 + 4 * k + 4 from Nat.add_le_add_left (Nat.le_of_ble_eq_true rfl) (70 + 4 * k)) (show 2000 + 30 * k + rX6_flow.slots + rX7_flow.slots ≤ 2000 + 30 * k + 30 from Nat.add_le_add_left (Nat.le_of_ble_eq_true rfl) (2000 + 30 * k)) ?_
  exact tail σ1 μ1 hR1
set_option maxHeartbeats 4000000 in
set_option maxRecDepth 100000 in
theorem law_case_29 {p : Program} {l : Launch} {e : Env} {s : State} {m : MethodId} {below : List Frame} {meth : Method} {c : Code} {b L : Nat} {xs : Nat → Int32} {D : hG} {αc : Nat → Nat} (C : h_LC p s m meth c b L xs D) {Rel : xS → mS → Prop} (H29 : ∀ (σ : xS) (μ : mS), Rel σ μ → ∃ (r : Int32), f_X6_sent σ = some r ∧ f_X7_sent μ = some r ∧ Rel σ μ) {k : Nat} {σ : xS} {μ : mS} (hR : Rel σ μ) (v1 : vp_in (Int32.ofNat (7 * k) + 1) L) (v2 : vp_in (Int32.ofNat (7 * k) + 2) L) (v3 : vp_in (Int32.ofNat (7 * k) + 3) L) (v4 : vp_in (Int32.ofNat (7 * k) + 4) L) (v5 : vp_in (Int32.ofNat (7 * k) + 5) L) (v6 : vp_in (Int32.ofNat (7 * k) + 6) L) (hk : k ≤ 512) (tail : ∀ (σ1 : xS) (μ1 : mS), Rel σ1 μ1 → JL p l e s m below meth c b D αc (70 + 4 * k + 4) (2000 + 30 * k + 30) (gx (gm roN μ1) σ1) 1211 [(3, .int (Int32.ofNat (7 * k))), (2, .ref 5000), (1, .ref 0), (0, .ref (9001 + 30))] []) : JL p l e s m below meth c b D αc (70 + 4 * k) (2000 + 30 * k) (gx (gm roN μ) σ) 1175 [(3, .int (Int32.ofNat (7 * k))), (2, .ref 5000), (1, .ref 0), (0, .ref (9001 + 30))] [] := by
  have hc : 70 + 4 * k ≤ 500000 := by omega
  have hs : 2000 + 30 * k ≤ 7000000 := by omega
  have hc0 : 70 + 4 * k ≤ 400000 := by omega
  have hs0 : 2000 + 30 * k ≤ 6000000 := by omega
  have hc4 : 400000 + 4 ≤ 500000 := by decide
  have hs4 : 6000000 + 30 ≤ 7000000 := by decide
  obtain ⟨r, e1, e2, hR1⟩ := H29 σ μ hR
  refine l_aload_n (pc' := 1176) C tokL_29 rfl rfl rfl ?_
  refine l_v0 (pc' := 1179) C tokL_29 rfl rfl miX6_sent lnL_141 (gxk_0 _ _) rfl (s_X6_sent _ σ _ e1) (l_rm rfl hc hs) (Nat.le_of_ble_eq_true rfl) ?_
  refine l_heap (gxgm roN σ μ) ?_
  refine l_aload_n (pc' := 1180) C tokL_29 rfl rfl rfl ?_
  refine l_v0 (pc' := 1183) C tokL_29 rfl rfl miX7_sent lnL_144 (gm_o _ _) rfl (s_X7_sent _ μ _ e2) (l_rm rfl (Nat.le_trans (Nat.add_le_add hc0 (show rX6_sent.cells ≤ 4 from Nat.le_of_ble_eq_true rfl)) hc4) (Nat.le_trans (Nat.add_le_add hs0 (show rX6_sent.slots ≤ 30 from Nat.le_of_ble_eq_true rfl)) hs4)) (Nat.le_of_ble_eq_true rfl) ?_
  refine l_heap (gxgm roN σ μ).symm ?_
  refine l_icmp_eq (tgt := 1211) C tokL_29 rfl rfl ?_
  refine l_widen (a := 70 + 4 * k + 4) (d := 2000 + 30 * k + 30) (show 70 + 4 * k + rX6_sent.cells + rX7_sent.cells ≤ 70 + 4 * k + 4 from Nat.add_le_add_left (Nat.le_of_ble_eq_true rfl) (70 + 4 * k)) (show 2000 + 30 * k + rX6_sent.slots + rX7_sent.slots ≤ 2000 + 30 * k + 30 from Nat.add_le_add_left (Nat.le_of_ble_eq_true rfl) (2000 + 30 * k)) ?_
  exact tail σ μ hR1
set_option maxHeartbeats 4000000 in
set_option maxRecDepth 100000 in
theorem law_case_30 {p : Program} {l : Launch} {e : Env} {s : State} {m : MethodId} {below : List Frame} {meth : Method} {c : Code} {b L : Nat} {xs : Nat → Int32} {D : hG} {αc : Nat → Nat} (C : h_LC p s m meth c b L xs D) {Rel : xS → mS → Prop} (H30 : ∀ (σ : xS) (μ : mS), Rel σ μ → ∀ (a0 : Int32), ∃ (r : Int32), f_X6_count σ a0 = some r ∧ f_X7_count μ a0 = some r ∧ Rel σ μ) {k : Nat} {σ : xS} {μ : mS} (hR : Rel σ μ) (v1 : vp_in (Int32.ofNat (7 * k) + 1) L) (v2 : vp_in (Int32.ofNat (7 * k) + 2) L) (v3 : vp_in (Int32.ofNat (7 * k) + 3) L) (v4 : vp_in (Int32.ofNat (7 * k) + 4) L) (v5 : vp_in (Int32.ofNat (7 * k) + 5) L) (v6 : vp_in (Int32.ofNat (7 * k) + 6) L) (hk : k ≤ 512) (tail : ∀ (σ1 : xS) (μ1 : mS), Rel σ1 μ1 → JL p l e s m below meth c b D αc (70 + 4 * k + 4) (2000 + 30 * k + 30) (gx (gm roN μ1) σ1) 1211 [(3, .int (Int32.ofNat (7 * k))), (2, .ref 5000), (1, .ref 0), (0, .ref (9001 + 30))] []) : JL p l e s m below meth c b D αc (70 + 4 * k) (2000 + 30 * k) (gx (gm roN μ) σ) 1188 [(3, .int (Int32.ofNat (7 * k))), (2, .ref 5000), (1, .ref 0), (0, .ref (9001 + 30))] [] := by
  have hc : 70 + 4 * k ≤ 500000 := by omega
  have hs : 2000 + 30 * k ≤ 7000000 := by omega
  have hc0 : 70 + 4 * k ≤ 400000 := by omega
  have hs0 : 2000 + 30 * k ≤ 6000000 := by omega
  have hc4 : 400000 + 4 ≤ 500000 := by decide
  have hs4 : 6000000 + 30 ≤ 7000000 := by decide
  obtain ⟨r, e1, e2, hR1⟩ := H30 σ μ hR (xs (Int32.ofNat (7 * k) + 1).toNatClampNeg)
  refine l_aload_n (pc' := 1189) C tokL_30 rfl rfl rfl ?_
  refine l_aload_n (pc' := 1190) C tokL_30 rfl rfl rfl ?_
  refine l_iload_n (pc' := 1191) C tokL_30 rfl rfl rfl ?_
  refine l_iconst (v := 1) (pc' := 1192) C tokL_30 rfl rfl (by decide) ?_
  refine l_iadd (pc' := 1193) C tokL_30 rfl rfl ?_
  refine l_sld (pc' := 1194) C tokL_30 rfl rfl v1 ?_
  refine l_v1 (pc' := 1197) C tokL_30 rfl rfl miX6_count lnL_145 (gxk_0 _ _) rfl (s_X6_count _ σ _ _ e1) (l_rm rfl hc hs) (Nat.le_of_ble_eq_true rfl) ?_
  refine l_heap (gxgm roN σ μ) ?_
  refine l_aload_n (pc' := 1198) C tokL_30 rfl rfl rfl ?_
  refine l_aload_n (pc' := 1199) C tokL_30 rfl rfl rfl ?_
  refine l_iload_n (pc' := 1200) C tokL_30 rfl rfl rfl ?_
  refine l_iconst (v := 1) (pc' := 1201) C tokL_30 rfl rfl (by decide) ?_
  refine l_iadd (pc' := 1202) C tokL_30 rfl rfl ?_
  refine l_sld (pc' := 1203) C tokL_30 rfl rfl v1 ?_
  refine l_v1 (pc' := 1206) C tokL_30 rfl rfl miX7_count lnL_148 (gm_o _ _) rfl (s_X7_count _ μ _ _ e2) (l_rm rfl (Nat.le_trans (Nat.add_le_add hc0 (show rX6_count.cells ≤ 4 from Nat.le_of_ble_eq_true rfl)) hc4) (Nat.le_trans (Nat.add_le_add hs0 (show rX6_count.slots ≤ 30 from Nat.le_of_ble_eq_true rfl)) hs4)) (Nat.le_of_ble_eq_true rfl) ?_
  refine l_heap (gxgm roN σ μ).symm ?_
  refine l_icmp_eq (tgt := 1211) C tokL_30 rfl rfl ?_
  refine l_widen (a := 70 + 4 * k + 4) (d := 2000 + 30 * k + 30) (show 70 + 4 * k + rX6_count.cells + rX7_count.cells ≤ 70 + 4 * k + 4 from Nat.add_le_add_left (Nat.le_of_ble_eq_true rfl) (70 + 4 * k)) (show 2000 + 30 * k + rX6_count.slots + rX7_count.slots ≤ 2000 + 30 * k + 30 from Nat.add_le_add_left (Nat.le_of_ble_eq_true rfl) (2000 + 30 * k)) ?_
  exact tail σ μ hR1
end LAWLOOP
