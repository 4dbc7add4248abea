set_option maxHeartbeats 4000000 in
set_option maxRecDepth 100000 in
theorem cm_has_hit (l : Launch) (D : va_G) (ta : Nat → ClassId) (B n : Nat) (w : fw_W) (h0 : Nat) (U : Nat) (ht : Int) (k : cKey) (nu : Nat) (uf : Nat → Option Nat) (op : Bool) (ca : Nat → Nat) (cx : Nat → cCoin) (j : Nat) (e0 : w (h0) = some (.inr (0, [.ref (h0 + 1), .ref (h0 + 2), .int (iI (((2 * U : Nat) : Int))), .ref (h0 + 4), .ref (h0 + 6), .ref (h0 + 8), .int (iI (ht)), .int (bI (op))]))) (e1 : w (h0 + 1) = some (.inr (1, [.long (k.1), .long (k.2.1), .long (k.2.2.1), .long (k.2.2.2.1), .int (k.2.2.2.2)]))) (e4 : w (h0 + 4) = some (.inr (4, [.ref (h0 + 5), .int (iI (((nu : Nat) : Int)))]))) (e5 : w (h0 + 5) = some (.inl (ta 3, U, .inr (.inr (.inr (.inr (uf))))))) (hU : U ≤ 200) (hu : nu ≤ U) (hc : ∀ j, j < nu → uf j = some (ca j) ∧ cn_at ta w (ca j) (cx j)) (hj : j < nu) (hkj : (cx j).1 = k) (huq : ∀ i, i < nu → (cx i).1 = k → i = j) : fw_C l D vwCl (tyL ta) B yX0_has cX0_has 1 (some .boolean) ({ frames := 4, cells := 0, slots := 0, locals := 86 } : Room) [.ref (h0)] n w (fun r w1 n1 => r = some (.int (bI (true))) ∧ w1 = w ∧ n1 = n) := by
  refine fw_enter (by decide) (Nat.le_of_ble_eq_true rfl) ?_
  intro p e s m below meth c hx hb hr hml hown hlocks hin hG hts hK H locs hP hS ls hl
  have hown : s.vm.findClass RX0 = some m.cls := hown
  replace hl : lv_has ls 1 [(0, .ref (h0))] := hl
  have lt_e0 := hP.lt e0
  have lt_e1 := hP.lt e1
  have lt_e4 := hP.lt e4
  have lt_e5 := hP.lt e5
  refine lv_aload_n hx hb dX0_has_0 rfl (lv_at hl 0 rfl) ?_
  refine fw_callV (ci := 0) (fs := [.ref (h0 + 1), .ref (h0 + 2), .int (iI (((2 * U : Nat) : Int))), .ref (h0 + 4), .ref (h0 + 6), .ref (h0 + 8), .int (iI (ht)), .int (bI (op))]) (T := TX0) (N := 8) (b := h0) (As := []) (rest := []) hx hb hml hown hts hK hG hP hS hl mM_X0_coinInHand mV_X0_coinInHand mLX0_76 (cm_inHand_hit l D ta B (n) (w) (h0) (U) (ht) (k) (nu) (uf) (op) (ca) (cx) (j) e0 e1 e4 e5 (by omega) (by omega) (fun j hj => ⟨(hc j hj).1, (hc j hj).2⟩) hj hkj huq) e0 rfl rfl rfl (Nat.le_of_ble_eq_true rfl) ⟨Nat.le_of_ble_eq_true rfl, Nat.le_of_ble_eq_true rfl⟩ ⟨Nat.le_of_ble_eq_true rfl, Nat.le_of_ble_eq_true rfl⟩ dX0_has_1 (fun r w1 n1 H locs hq hP hS => ?_)
  obtain ⟨rfl, hw1, hn1⟩ := hq
  replace hw1 := hw1.symm; replace hn1 := hn1.symm; subst hw1; subst hn1
  refine W.eq (g2 := F0 m 4 ls [.ref (ca j)]) rfl ?_
  refine lv_ifnull hx hb dX0_has_4 ?_
  refine lv_iconst (v := (iI (((1 : Nat) : Int)))) hx hb dX0_has_7 rfl ?_
  refine lv_goto (tgt := 12) hx hb dX0_has_8 (by decide) ?_
  exact fw_zret hx hb hr hlocks hP hS dX0_has_12 (Or.inr rfl) (Nat.le_of_ble_eq_true rfl) (Nat.le_of_ble_eq_true rfl) ⟨rfl, rfl, rfl⟩
set_option maxHeartbeats 4000000 in
set_option maxRecDepth 100000 in
theorem cm_has_miss (l : Launch) (D : va_G) (ta : Nat → ClassId) (B n : Nat) (w : fw_W) (h0 : Nat) (U : Nat) (ht : Int) (k : cKey) (nu : Nat) (uf : Nat → Option Nat) (op : Bool) (ca : Nat → Nat) (cx : Nat → cCoin) (e0 : w (h0) = some (.inr (0, [.ref (h0 + 1), .ref (h0 + 2), .int (iI (((2 * U : Nat) : Int))), .ref (h0 + 4), .ref (h0 + 6), .ref (h0 + 8), .int (iI (ht)), .int (bI (op))]))) (e1 : w (h0 + 1) = some (.inr (1, [.long (k.1), .long (k.2.1), .long (k.2.2.1), .long (k.2.2.2.1), .int (k.2.2.2.2)]))) (e4 : w (h0 + 4) = some (.inr (4, [.ref (h0 + 5), .int (iI (((nu : Nat) : Int)))]))) (e5 : w (h0 + 5) = some (.inl (ta 3, U, .inr (.inr (.inr (.inr (uf))))))) (hU : U ≤ 200) (hu : nu ≤ U) (hc : ∀ j, j < nu → uf j = some (ca j) ∧ cn_at ta w (ca j) (cx j)) (hms : ∀ j, j < nu → (cx j).1 ≠ k) : fw_C l D vwCl (tyL ta) B yX0_has cX0_has 1 (some .boolean) ({ frames := 4, cells := 0, slots := 0, locals := 86 } : Room) [.ref (h0)] n w (fun r w1 n1 => r = some (.int (bI (false))) ∧ w1 = w ∧ n1 = n) := by
  refine fw_enter (by decide) (Nat.le_of_ble_eq_true rfl) ?_
  intro p e s m below meth c hx hb hr hml hown hlocks hin hG hts hK H locs hP hS ls hl
  have hown : s.vm.findClass RX0 = some m.cls := hown
  replace hl : lv_has ls 1 [(0, .ref (h0))] := hl
  have lt_e0 := hP.lt e0
  have lt_e1 := hP.lt e1
  have lt_e4 := hP.lt e4
  have lt_e5 := hP.lt e5
  refine lv_aload_n hx hb dX0_has_0 rfl (lv_at hl 0 rfl) ?_
  refine fw_callV (ci := 0) (fs := [.ref (h0 + 1), .ref (h0 + 2), .int (iI (((2 * U : Nat) : Int))), .ref (h0 + 4), .ref (h0 + 6), .ref (h0 + 8), .int (iI (ht)), .int (bI (op))]) (T := TX0) (N := 8) (b := h0) (As := []) (rest := []) hx hb hml hown hts hK hG hP hS hl mM_X0_coinInHand mV_X0_coinInHand mLX0_76 (cm_inHand_miss l D ta B (n) (w) (h0) (U) (ht) (k) (nu) (uf) (op) (ca) (cx) e0 e1 e4 e5 (by omega) (by omega) (fun j hj => ⟨(hc j hj).1, (hc j hj).2⟩) hms) e0 rfl rfl rfl (Nat.le_of_ble_eq_true rfl) ⟨Nat.le_of_ble_eq_true rfl, Nat.le_of_ble_eq_true rfl⟩ ⟨Nat.le_of_ble_eq_true rfl, Nat.le_of_ble_eq_true rfl⟩ dX0_has_1 (fun r w1 n1 H locs hq hP hS => ?_)
  obtain ⟨rfl, hw1, hn1⟩ := hq
  replace hw1 := hw1.symm; replace hn1 := hn1.symm; subst hw1; subst hn1
  refine W.eq (g2 := F0 m 4 ls [.null]) rfl ?_
  refine lv_ifnullN (tgt := 11) hx hb dX0_has_4 (by decide) ?_
  refine lv_iconst (v := (iI (((0 : Nat) : Int)))) hx hb dX0_has_11 rfl ?_
  exact fw_zret hx hb hr hlocks hP hS dX0_has_12 (Or.inl rfl) (Nat.le_of_ble_eq_true rfl) (Nat.le_of_ble_eq_true rfl) ⟨rfl, rfl, rfl⟩
set_option maxHeartbeats 4000000 in
set_option maxRecDepth 100000 in
theorem cm_look_miss (l : Launch) (D : va_G) (ta : Nat → ClassId) (B n : Nat) (w : fw_W) (h0 : Nat) (U : Nat) (ht : Int) (k : cKey) (nu : Nat) (uf : Nat → Option Nat) (op : Bool) (ca : Nat → Nat) (cx : Nat → cCoin) (what : Int32) (e0 : w (h0) = some (.inr (0, [.ref (h0 + 1), .ref (h0 + 2), .int (iI (((2 * U : Nat) : Int))), .ref (h0 + 4), .ref (h0 + 6), .ref (h0 + 8), .int (iI (ht)), .int (bI (op))]))) (e1 : w (h0 + 1) = some (.inr (1, [.long (k.1), .long (k.2.1), .long (k.2.2.1), .long (k.2.2.2.1), .int (k.2.2.2.2)]))) (e4 : w (h0 + 4) = some (.inr (4, [.ref (h0 + 5), .int (iI (((nu : Nat) : Int)))]))) (e5 : w (h0 + 5) = some (.inl (ta 3, U, .inr (.inr (.inr (.inr (uf))))))) (hU : U ≤ 200) (hu : nu ≤ U) (hc : ∀ j, j < nu → uf j = some (ca j) ∧ cn_at ta w (ca j) (cx j)) (hms : ∀ j, j < nu → (cx j).1 ≠ k) : fw_C l D vwCl (tyL ta) B yX0_look cX0_look 3 (some .long) ({ frames := 4, cells := 0, slots := 0, locals := 86 } : Room) [.ref (h0), .int (what)] n w (fun r w1 n1 => r = some (.long ((-1))) ∧ w1 = w ∧ n1 = n) := by
  refine fw_enter (by decide) (Nat.le_of_ble_eq_true rfl) ?_
  intro p e s m below meth c hx hb hr hml hown hlocks hin hG hts hK H locs hP hS ls hl
  have hown : s.vm.findClass RX0 = some m.cls := hown
  replace hl : lv_has ls 3 [(0, .ref (h0)), (1, .int (what))] := hl
  have lt_e0 := hP.lt e0
  have lt_e1 := hP.lt e1
  have lt_e4 := hP.lt e4
  have lt_e5 := hP.lt e5
  refine lv_aload_n hx hb dX0_look_0 rfl (lv_at hl 0 rfl) ?_
  refine fw_callV (ci := 0) (fs := [.ref (h0 + 1), .ref (h0 + 2), .int (iI (((2 * U : Nat) : Int))), .ref (h0 + 4), .ref (h0 + 6), .ref (h0 + 8), .int (iI (ht)), .int (bI (op))]) (T := TX0) (N := 8) (b := h0) (As := []) (rest := []) hx hb hml hown hts hK hG hP hS hl mM_X0_coinInHand mV_X0_coinInHand mLX0_76 (cm_inHand_miss l D ta B (n) (w) (h0) (U) (ht) (k) (nu) (uf) (op) (ca) (cx) e0 e1 e4 e5 (by omega) (by omega) (fun j hj => ⟨(hc j hj).1, (hc j hj).2⟩) hms) e0 rfl rfl rfl (Nat.le_of_ble_eq_true rfl) ⟨Nat.le_of_ble_eq_true rfl, Nat.le_of_ble_eq_true rfl⟩ ⟨Nat.le_of_ble_eq_true rfl, Nat.le_of_ble_eq_true rfl⟩ dX0_look_1 (fun r w1 n1 H locs hq hP hS => ?_)
  obtain ⟨rfl, hw1, hn1⟩ := hq
  replace hw1 := hw1.symm; replace hn1 := hn1.symm; subst hw1; subst hn1
  refine W.eq (g2 := F0 m 4 ls [.null]) rfl ?_
  refine lv_astore_nN (lv' := [(2, .null), (0, .ref (h0)), (1, .int (what))]) hx hb dX0_look_4 rfl hl (by decide) rfl (fun ls hl => ?_)
  refine lv_aload_nN hx hb dX0_look_5 rfl (lv_at hl 0 rfl) ?_
  refine lv_ifnonnullN hx hb dX0_look_6 ?_
  refine lv_ldc2 (v := (-1)) hx hb hown (hts _ mDX0_135) dX0_look_9 ?_
  exact fw_lret hx hb hr hlocks hP hS dX0_look_12 (Nat.le_of_ble_eq_true rfl) (Nat.le_of_ble_eq_true rfl) ⟨rfl, rfl, rfl⟩
set_option maxHeartbeats 4000000 in
set_option maxRecDepth 100000 in
theorem cm_look_hit (l : Launch) (D : va_G) (ta : Nat → ClassId) (B n : Nat) (w : fw_W) (h0 : Nat) (U : Nat) (ht : Int) (k : cKey) (nu : Nat) (uf : Nat → Option Nat) (op : Bool) (ca : Nat → Nat) (cx : Nat → cCoin) (j : Nat) (what : Int32) (e0 : w (h0) = some (.inr (0, [.ref (h0 + 1), .ref (h0 + 2), .int (iI (((2 * U : Nat) : Int))), .ref (h0 + 4), .ref (h0 + 6), .ref (h0 + 8), .int (iI (ht)), .int (bI (op))]))) (e1 : w (h0 + 1) = some (.inr (1, [.long (k.1), .long (k.2.1), .long (k.2.2.1), .long (k.2.2.2.1), .int (k.2.2.2.2)]))) (e4 : w (h0 + 4) = some (.inr (4, [.ref (h0 + 5), .int (iI (((nu : Nat) : Int)))]))) (e5 : w (h0 + 5) = some (.inl (ta 3, U, .inr (.inr (.inr (.inr (uf))))))) (hU : U ≤ 200) (hu : nu ≤ U) (hc : ∀ j, j < nu → uf j = some (ca j) ∧ cn_at ta w (ca j) (cx j)) (hj : j < nu) (hkj : (cx j).1 = k) (huq : ∀ i, i < nu → (cx i).1 = k → i = j) : fw_C l D vwCl (tyL ta) B yX0_look cX0_look 3 (some .long) ({ frames := 4, cells := 0, slots := 0, locals := 86 } : Room) [.ref (h0), .int (what)] n w (fun r w1 n1 => r = some (.long (lookv what (cx j))) ∧ w1 = w ∧ n1 = n) := by
  refine fw_enter (by decide) (Nat.le_of_ble_eq_true rfl) ?_
  intro p e s m below meth c hx hb hr hml hown hlocks hin hG hts hK H locs hP hS ls hl
  have hown : s.vm.findClass RX0 = some m.cls := hown
  replace hl : lv_has ls 3 [(0, .ref (h0)), (1, .int (what))] := hl
  have lt_e0 := hP.lt e0
  have lt_e1 := hP.lt e1
  have lt_e4 := hP.lt e4
  have lt_e5 := hP.lt e5
  refine lv_aload_n hx hb dX0_look_0 rfl (lv_at hl 0 rfl) ?_
  refine fw_callV (ci := 0) (fs := [.ref (h0 + 1), .ref (h0 + 2), .int (iI (((2 * U : Nat) : Int))), .ref (h0 + 4), .ref (h0 + 6), .ref (h0 + 8), .int (iI (ht)), .int (bI (op))]) (T := TX0) (N := 8) (b := h0) (As := []) (rest := []) hx hb hml hown hts hK hG hP hS hl mM_X0_coinInHand mV_X0_coinInHand mLX0_76 (cm_inHand_hit l D ta B (n) (w) (h0) (U) (ht) (k) (nu) (uf) (op) (ca) (cx) (j) e0 e1 e4 e5 (by omega) (by omega) (fun j hj => ⟨(hc j hj).1, (hc j hj).2⟩) hj hkj huq) e0 rfl rfl rfl (Nat.le_of_ble_eq_true rfl) ⟨Nat.le_of_ble_eq_true rfl, Nat.le_of_ble_eq_true rfl⟩ ⟨Nat.le_of_ble_eq_true rfl, Nat.le_of_ble_eq_true rfl⟩ dX0_look_1 (fun r w1 n1 H locs hq hP hS => ?_)
  obtain ⟨rfl, hw1, hn1⟩ := hq
  replace hw1 := hw1.symm; replace hn1 := hn1.symm; subst hw1; subst hn1
  refine W.eq (g2 := F0 m 4 ls [.ref (ca j)]) rfl ?_
  obtain ⟨hq0, hq1, hq2, hq3, hq4⟩ := hc j hj
  have ne2 : (ca j : Nat) ≠ h0 := fw_noo hq1 e0 (by decide)
  have ne3 : (ca j : Nat) ≠ h0 + 1 := fw_noo hq1 e1 (by decide)
  have ne4 : (ca j : Nat) ≠ h0 + 4 := fw_noo hq1 e4 (by decide)
  have ne5 : (ca j : Nat) ≠ h0 + 5 := (fw_nio e5 hq1).symm
  have ne6 : (ca j + 2 : Nat) ≠ h0 := fw_noo hq3 e0 (by decide)
  have ne7 : (ca j + 2 : Nat) ≠ h0 + 1 := fw_noo hq3 e1 (by decide)
  have ne8 : (ca j + 2 : Nat) ≠ h0 + 4 := fw_noo hq3 e4 (by decide)
  have ne9 : (ca j + 2 : Nat) ≠ h0 + 5 := (fw_nio e5 hq3).symm
  have ne10 : (ca j + 2 : Nat) ≠ ca j := fw_noo hq3 hq1 (by decide)
  have ne11 : (ca j + 3 : Nat) ≠ h0 := fw_nio hq4 e0
  have ne12 : (ca j + 3 : Nat) ≠ h0 + 1 := fw_nio hq4 e1
  have ne13 : (ca j + 3 : Nat) ≠ h0 + 4 := fw_nio hq4 e4
  have ne14 : (ca j + 3 : Nat) ≠ h0 + 5 := fw_niq hq4 e5
  have ne15 : (ca j + 3 : Nat) ≠ ca j := fw_nio hq4 hq1
  have ne16 : (ca j + 3 : Nat) ≠ ca j + 2 := fw_nio hq4 hq3
  refine lv_astore_n (lv' := [(2, .ref (ca j)), (0, .ref (h0)), (1, .int (what))]) hx hb dX0_look_4 rfl hl (by decide) rfl (fun ls hl => ?_)
  refine lv_aload_n hx hb dX0_look_5 rfl (lv_at hl 0 rfl) ?_
  refine lv_ifnonnull (tgt := 13) hx hb dX0_look_6 (by decide) ?_
  refine lv_iload_n hx hb dX0_look_13 rfl (lv_at hl 2 rfl) ?_
  by_cases hsw : (what).toInt < 0 ∨ 3 < (what).toInt
  · refine lv_tableOut (tgt := 77) hx hb dX0_look_14 hsw (by decide) ?_
    refine lv_ldc2 (v := (-1)) hx hb hown (hts _ mDX0_135) dX0_look_77 ?_
    exact fw_lret hx hb hr hlocks hP hS dX0_look_80 (Nat.le_of_ble_eq_true rfl) (Nat.le_of_ble_eq_true rfl) ⟨by rw [lookv_out _ hsw], rfl, rfl⟩
  · have h1 : ¬ (what).toInt < 0 := fun q => hsw (Or.inl q)
    have h2 : ¬ 3 < (what).toInt := fun q => hsw (Or.inr q)
    have h3 : (what).toInt = 0 ∨ (what).toInt = 1 ∨ (what).toInt = 2 ∨ (what).toInt = 3 := by omega
    rcases h3 with h3 | h3 | h3 | h3
    · refine lv_tableIn (tgt := 44) hx hb dX0_look_14 h1 h2 (by rw [h3]; rfl) (by decide) ?_
      refine lv_aload_n hx hb dX0_look_44 rfl (lv_at hl 0 rfl) ?_
      refine fw_getN (ci := 3) (fs := [.ref (ca j + 1), .ref (ca j + 2), .long ((cx j).2.2.1), .int ((cx j).2.2.2.1), .int (bI ((cx j).2.2.2.2))]) (k := 2) (v := .long ((cx j).2.2.1)) (C := RX3) (T := TX3) (N := 5) hx hb hts inFX3 hown hK hP hq1 rfl (by decide) mFX0_137 rfl dX0_look_45 ?_
      exact fw_lret hx hb hr hlocks hP hS dX0_look_48 (Nat.le_of_ble_eq_true rfl) (Nat.le_of_ble_eq_true rfl) ⟨by rw [lookv_in _ h3]; rfl, rfl, rfl⟩
    · refine lv_tableIn (tgt := 49) hx hb dX0_look_14 h1 h2 (by rw [h3]; rfl) (by decide) ?_
      refine lv_aload_n hx hb dX0_look_49 rfl (lv_at hl 0 rfl) ?_
      refine fw_getN (ci := 3) (fs := [.ref (ca j + 1), .ref (ca j + 2), .long ((cx j).2.2.1), .int ((cx j).2.2.2.1), .int (bI ((cx j).2.2.2.2))]) (k := 3) (v := .int ((cx j).2.2.2.1)) (C := RX3) (T := TX3) (N := 5) hx hb hts inFX3 hown hK hP hq1 rfl (by decide) mFX0_141 rfl dX0_look_50 ?_
      refine lv_i2l (v := (((cx j).2.2.2.1)).toInt64) hx hb dX0_look_53 rfl ?_
      exact fw_lret hx hb hr hlocks hP hS dX0_look_54 (Nat.le_of_ble_eq_true rfl) (Nat.le_of_ble_eq_true rfl) ⟨by rw [lookv_in _ h3]; rfl, rfl, rfl⟩
    · refine lv_tableIn (tgt := 55) hx hb dX0_look_14 h1 h2 (by rw [h3]; rfl) (by decide) ?_
      refine lv_aload_n hx hb dX0_look_55 rfl (lv_at hl 0 rfl) ?_
      refine fw_getN (ci := 3) (fs := [.ref (ca j + 1), .ref (ca j + 2), .long ((cx j).2.2.1), .int ((cx j).2.2.2.1), .int (bI ((cx j).2.2.2.2))]) (k := 4) (v := .int (bI ((cx j).2.2.2.2))) (C := RX3) (T := TX3) (N := 5) hx hb hts inFX3 hown hK hP hq1 rfl (by decide) mFX0_142 rfl dX0_look_56 ?_
      refine fn_bif_eq (x := (cx j).2.2.2.2) (tgt := 66) hx hb dX0_look_59 (by decide) (fun c17 => ?_) (fun c17 => ?_)
      · refine lv_lconst (v := 0) hx hb dX0_look_66 rfl ?_
        exact fw_lret hx hb hr hlocks hP hS dX0_look_67 (Nat.le_of_ble_eq_true rfl) (Nat.le_of_ble_eq_true rfl) ⟨by rw [lookv_in _ h3]; simp only [lookw, c17]; rfl, rfl, rfl⟩
      · refine lv_lconst (v := 1) hx hb dX0_look_62 rfl ?_
        refine lv_goto (tgt := 67) hx hb dX0_look_63 (by decide) ?_
        exact fw_lret hx hb hr hlocks hP hS dX0_look_67 (Nat.le_of_ble_eq_true rfl) (Nat.le_of_ble_eq_true rfl) ⟨by rw [lookv_in _ h3]; simp only [lookw, c17]; rfl, rfl, rfl⟩
    · refine lv_tableIn (tgt := 68) hx hb dX0_look_14 h1 h2 (by rw [h3]; rfl) (by decide) ?_
      refine lv_aload_n hx hb dX0_look_68 rfl (lv_at hl 0 rfl) ?_
      refine fw_getN (ci := 3) (fs := [.ref (ca j + 1), .ref (ca j + 2), .long ((cx j).2.2.1), .int ((cx j).2.2.2.1), .int (bI ((cx j).2.2.2.2))]) (k := 1) (v := .ref (ca j + 2)) (C := RX3) (T := TX3) (N := 5) hx hb hts inFX3 hown hK hP hq1 rfl (by decide) mFX0_99 rfl dX0_look_69 ?_
      refine fw_callV (ci := 2) (fs := [.ref (ca j + 3), .int (iI ((((cx j).2.1.1 : Nat) : Int)))]) (T := TX2) (N := 2) (b := ca j + 2) (As := []) (rest := []) hx hb hml hown hts hK hG hP hS hl mM_X2_length mV_X2_length mLX0_145 (cm_Script_length l D ta B (n) (w) (ca j + 2) (ca j + 3) ((cx j).2.1.1) hq3 ) hq3 rfl rfl rfl (Nat.le_of_ble_eq_true rfl) ⟨Nat.le_of_ble_eq_true rfl, Nat.le_of_ble_eq_true rfl⟩ ⟨Nat.le_of_ble_eq_true rfl, Nat.le_of_ble_eq_true rfl⟩ dX0_look_72 (fun r w18 n1 H locs hq hP hS => ?_)
      obtain ⟨rfl, hw1, hn1⟩ := hq
      replace hw1 := hw1.symm; replace hn1 := hn1.symm; subst hw1; subst hn1
      refine W.eq (g2 := F0 m 75 ls [.int (iI (((((cx j).2.1.1) : Nat) : Int)))]) rfl ?_
      refine lv_i2l (v := ((iI (((((cx j).2.1.1) : Nat) : Int)))).toInt64) hx hb dX0_look_75 rfl ?_
      exact fw_lret hx hb hr hlocks hP hS dX0_look_76 (Nat.le_of_ble_eq_true rfl) (Nat.le_of_ble_eq_true rfl) ⟨by rw [lookv_in _ h3]; rfl, rfl, rfl⟩
set_option maxHeartbeats 4000000 in
set_option maxRecDepth 100000 in
theorem cm_byteOf_miss (l : Launch) (D : va_G) (ta : Nat → ClassId) (B n : Nat) (w : fw_W) (h0 : Nat) (U : Nat) (ht : Int) (k : cKey) (nu : Nat) (uf : Nat → Option Nat) (op : Bool) (ca : Nat → Nat) (cx : Nat → cCoin) (z : Int) (e0 : w (h0) = some (.inr (0, [.ref (h0 + 1), .ref (h0 + 2), .int (iI (((2 * U : Nat) : Int))), .ref (h0 + 4), .ref (h0 + 6), .ref (h0 + 8), .int (iI (ht)), .int (bI (op))]))) (e1 : w (h0 + 1) = some (.inr (1, [.long (k.1), .long (k.2.1), .long (k.2.2.1), .long (k.2.2.2.1), .int (k.2.2.2.2)]))) (e4 : w (h0 + 4) = some (.inr (4, [.ref (h0 + 5), .int (iI (((nu : Nat) : Int)))]))) (e5 : w (h0 + 5) = some (.inl (ta 3, U, .inr (.inr (.inr (.inr (uf))))))) (hU : U ≤ 200) (hu : nu ≤ U) (hc : ∀ j, j < nu → uf j = some (ca j) ∧ cn_at ta w (ca j) (cx j)) (hms : ∀ j, j < nu → (cx j).1 ≠ k) : fw_C l D vwCl (tyL ta) B yX0_byteOf cX0_byteOf 3 (some .int) ({ frames := 4, cells := 0, slots := 0, locals := 86 } : Room) [.ref (h0), .int (iI (z))] n w (fun r w1 n1 => r = some (.int (iI ((-1)))) ∧ w1 = w ∧ n1 = n) := by
  refine fw_enter (by decide) (Nat.le_of_ble_eq_true rfl) ?_
  intro p e s m below meth c hx hb hr hml hown hlocks hin hG hts hK H locs hP hS ls hl
  have hown : s.vm.findClass RX0 = some m.cls := hown
  replace hl : lv_has ls 3 [(0, .ref (h0)), (1, .int (iI (z)))] := hl
  have lt_e0 := hP.lt e0
  have lt_e1 := hP.lt e1
  have lt_e4 := hP.lt e4
  have lt_e5 := hP.lt e5
  refine lv_aload_n hx hb dX0_byteOf_0 rfl (lv_at hl 0 rfl) ?_
  refine fw_callV (ci := 0) (fs := [.ref (h0 + 1), .ref (h0 + 2), .int (iI (((2 * U : Nat) : Int))), .ref (h0 + 4), .ref (h0 + 6), .ref (h0 + 8), .int (iI (ht)), .int (bI (op))]) (T := TX0) (N := 8) (b := h0) (As := []) (rest := []) hx hb hml hown hts hK hG hP hS hl mM_X0_coinInHand mV_X0_coinInHand mLX0_76 (cm_inHand_miss l D ta B (n) (w) (h0) (U) (ht) (k) (nu) (uf) (op) (ca) (cx) e0 e1 e4 e5 (by omega) (by omega) (fun j hj => ⟨(hc j hj).1, (hc j hj).2⟩) hms) e0 rfl rfl rfl (Nat.le_of_ble_eq_true rfl) ⟨Nat.le_of_ble_eq_true rfl, Nat.le_of_ble_eq_true rfl⟩ ⟨Nat.le_of_ble_eq_true rfl, Nat.le_of_ble_eq_true rfl⟩ dX0_byteOf_1 (fun r w1 n1 H locs hq hP hS => ?_)
  obtain ⟨rfl, hw1, hn1⟩ := hq
  replace hw1 := hw1.symm; replace hn1 := hn1.symm; subst hw1; subst hn1
  refine W.eq (g2 := F0 m 4 ls [.null]) rfl ?_
  refine lv_astore_nN (lv' := [(2, .null), (0, .ref (h0)), (1, .int (iI (z)))]) hx hb dX0_byteOf_4 rfl hl (by decide) rfl (fun ls hl => ?_)
  refine lv_aload_nN hx hb dX0_byteOf_5 rfl (lv_at hl 0 rfl) ?_
  refine lv_ifnonnullN hx hb dX0_byteOf_6 ?_
  refine lv_iconst (v := (iI ((-1)))) hx hb dX0_byteOf_9 rfl ?_
  refine lv_goto (tgt := 21) hx hb dX0_byteOf_10 (by decide) ?_
  exact fw_iret hx hb hr hlocks hP hS dX0_byteOf_21 (Nat.le_of_ble_eq_true rfl) (Nat.le_of_ble_eq_true rfl) ⟨rfl, rfl, rfl⟩
set_option maxHeartbeats 4000000 in
set_option maxRecDepth 100000 in
theorem cm_byteOf_hit (l : Launch) (D : va_G) (ta : Nat → ClassId) (B n : Nat) (w : fw_W) (h0 : Nat) (U : Nat) (ht : Int) (k : cKey) (nu : Nat) (uf : Nat → Option Nat) (op : Bool) (ca : Nat → Nat) (cx : Nat → cCoin) (j : Nat) (z : Int) (e0 : w (h0) = some (.inr (0, [.ref (h0 + 1), .ref (h0 + 2), .int (iI (((2 * U : Nat) : Int))), .ref (h0 + 4), .ref (h0 + 6), .ref (h0 + 8), .int (iI (ht)), .int (bI (op))]))) (e1 : w (h0 + 1) = some (.inr (1, [.long (k.1), .long (k.2.1), .long (k.2.2.1), .long (k.2.2.2.1), .int (k.2.2.2.2)]))) (e4 : w (h0 + 4) = some (.inr (4, [.ref (h0 + 5), .int (iI (((nu : Nat) : Int)))]))) (e5 : w (h0 + 5) = some (.inl (ta 3, U, .inr (.inr (.inr (.inr (uf))))))) (hU : U ≤ 200) (hu : nu ≤ U) (hc : ∀ j, j < nu → uf j = some (ca j) ∧ cn_at ta w (ca j) (cx j)) (hj : j < nu) (hkj : (cx j).1 = k) (huq : ∀ i, i < nu → (cx i).1 = k → i = j) (hxl : (cx j).2.1.1 ≤ 200) (hz : iK z) : fw_C l D vwCl (tyL ta) B yX0_byteOf cX0_byteOf 3 (some .int) ({ frames := 4, cells := 0, slots := 0, locals := 86 } : Room) [.ref (h0), .int (iI (z))] n w (fun r w1 n1 => r = some (.int (if 0 ≤ z ∧ z < ((((cx j).2.1.1) : Nat) : Int) then ((cx j).2.1.2) z.toNat &&& iI ((255 : Nat) : Int) else iI (-1))) ∧ w1 = w ∧ n1 = n) := by
  refine fw_enter (by decide) (Nat.le_of_ble_eq_true rfl) ?_
  intro p e s m below meth c hx hb hr hml hown hlocks hin hG hts hK H locs hP hS ls hl
  have hown : s.vm.findClass RX0 = some m.cls := hown
  replace hl : lv_has ls 3 [(0, .ref (h0)), (1, .int (iI (z)))] := hl
  have lt_e0 := hP.lt e0
  have lt_e1 := hP.lt e1
  have lt_e4 := hP.lt e4
  have lt_e5 := hP.lt e5
  refine lv_aload_n hx hb dX0_byteOf_0 rfl (lv_at hl 0 rfl) ?_
  refine fw_callV (ci := 0) (fs := [.ref (h0 + 1), .ref (h0 + 2), .int (iI (((2 * U : Nat) : Int))), .ref (h0 + 4), .ref (h0 + 6), .ref (h0 + 8), .int (iI (ht)), .int (bI (op))]) (T := TX0) (N := 8) (b := h0) (As := []) (rest := []) hx hb hml hown hts hK hG hP hS hl mM_X0_coinInHand mV_X0_coinInHand mLX0_76 (cm_inHand_hit l D ta B (n) (w) (h0) (U) (ht) (k) (nu) (uf) (op) (ca) (cx) (j) e0 e1 e4 e5 (by omega) (by omega) (fun j hj => ⟨(hc j hj).1, (hc j hj).2⟩) hj hkj huq) e0 rfl rfl rfl (Nat.le_of_ble_eq_true rfl) ⟨Nat.le_of_ble_eq_true rfl, Nat.le_of_ble_eq_true rfl⟩ ⟨Nat.le_of_ble_eq_true rfl, Nat.le_of_ble_eq_true rfl⟩ dX0_byteOf_1 (fun r w1 n1 H locs hq hP hS => ?_)
  obtain ⟨rfl, hw1, hn1⟩ := hq
  replace hw1 := hw1.symm; replace hn1 := hn1.symm; subst hw1; subst hn1
  refine W.eq (g2 := F0 m 4 ls [.ref (ca j)]) rfl ?_
  obtain ⟨hq0, hq1, hq2, hq3, hq4⟩ := hc j hj
  have ne2 : (ca j : Nat) ≠ h0 := fw_noo hq1 e0 (by decide)
  have ne3 : (ca j : Nat) ≠ h0 + 1 := fw_noo hq1 e1 (by decide)
  have ne4 : (ca j : Nat) ≠ h0 + 4 := fw_noo hq1 e4 (by decide)
  have ne5 : (ca j : Nat) ≠ h0 + 5 := (fw_nio e5 hq1).symm
  have ne6 : (ca j + 2 : Nat) ≠ h0 := fw_noo hq3 e0 (by decide)
  have ne7 : (ca j + 2 : Nat) ≠ h0 + 1 := fw_noo hq3 e1 (by decide)
  have ne8 : (ca j + 2 : Nat) ≠ h0 + 4 := fw_noo hq3 e4 (by decide)
  have ne9 : (ca j + 2 : Nat) ≠ h0 + 5 := (fw_nio e5 hq3).symm
  have ne10 : (ca j + 2 : Nat) ≠ ca j := fw_noo hq3 hq1 (by decide)
  have ne11 : (ca j + 3 : Nat) ≠ h0 := fw_nio hq4 e0
  have ne12 : (ca j + 3 : Nat) ≠ h0 + 1 := fw_nio hq4 e1
  have ne13 : (ca j + 3 : Nat) ≠ h0 + 4 := fw_nio hq4 e4
  have ne14 : (ca j + 3 : Nat) ≠ h0 + 5 := fw_niq hq4 e5
  have ne15 : (ca j + 3 : Nat) ≠ ca j := fw_nio hq4 hq1
  have ne16 : (ca j + 3 : Nat) ≠ ca j + 2 := fw_nio hq4 hq3
  refine lv_astore_n (lv' := [(2, .ref (ca j)), (0, .ref (h0)), (1, .int (iI (z)))]) hx hb dX0_byteOf_4 rfl hl (by decide) rfl (fun ls hl => ?_)
  refine lv_aload_n hx hb dX0_byteOf_5 rfl (lv_at hl 0 rfl) ?_
  refine lv_ifnonnull (tgt := 13) hx hb dX0_byteOf_6 (by decide) ?_
  refine lv_aload_n hx hb dX0_byteOf_13 rfl (lv_at hl 0 rfl) ?_
  refine fw_getN (ci := 3) (fs := [.ref (ca j + 1), .ref (ca j + 2), .long ((cx j).2.2.1), .int ((cx j).2.2.2.1), .int (bI ((cx j).2.2.2.2))]) (k := 1) (v := .ref (ca j + 2)) (C := RX3) (T := TX3) (N := 5) hx hb hts inFX3 hown hK hP hq1 rfl (by decide) mFX0_99 rfl dX0_byteOf_14 ?_
  refine lv_iload_n hx hb dX0_byteOf_17 rfl (lv_at hl 2 rfl) ?_
  refine fw_callV (ci := 2) (fs := [.ref (ca j + 3), .int (iI ((((cx j).2.1.1 : Nat) : Int)))]) (T := TX2) (N := 2) (b := ca j + 2) (As := [.int (iI (z))]) (rest := []) hx hb hml hown hts hK hG hP hS hl mM_X2_byteAt mV_X2_byteAt mLX0_148 (cm_Script_byteAt l D ta B (n) (w) (ca j + 2) (ca j + 3) ((cx j).2.1.1) ((cx j).2.1.2) (z) hq3 hq4 hxl hz) hq3 rfl rfl rfl (Nat.le_of_ble_eq_true rfl) ⟨Nat.le_of_ble_eq_true rfl, Nat.le_of_ble_eq_true rfl⟩ ⟨Nat.le_of_ble_eq_true rfl, Nat.le_of_ble_eq_true rfl⟩ dX0_byteOf_18 (fun r w17 n1 H locs hq hP hS => ?_)
  obtain ⟨rfl, hw1, hn1⟩ := hq
  replace hw1 := hw1.symm; replace hn1 := hn1.symm; subst hw1; subst hn1
  refine W.eq (g2 := F0 m 21 ls [.int (if 0 ≤ z ∧ z < ((((cx j).2.1.1) : Nat) : Int) then ((cx j).2.1.2) z.toNat &&& iI ((255 : Nat) : Int) else iI (-1))]) rfl ?_
  exact fw_iret hx hb hr hlocks hP hS dX0_byteOf_21 (Nat.le_of_ble_eq_true rfl) (Nat.le_of_ble_eq_true rfl) ⟨rfl, rfl, rfl⟩
set_option maxHeartbeats 4000000 in
set_option maxRecDepth 100000 in
theorem cm_count (l : Launch) (D : va_G) (ta : Nat → ClassId) (B n : Nat) (w : fw_W) (h0 : Nat) (U : Nat) (ht : Int) (nu : Nat) (nj : Nat) (nr : Nat) (ns : Nat) (op : Bool) (what : Int32) (e0 : w (h0) = some (.inr (0, [.ref (h0 + 1), .ref (h0 + 2), .int (iI (((2 * U : Nat) : Int))), .ref (h0 + 4), .ref (h0 + 6), .ref (h0 + 8), .int (iI (ht)), .int (bI (op))]))) (e4 : w (h0 + 4) = some (.inr (4, [.ref (h0 + 5), .int (iI (((nu : Nat) : Int)))]))) (e8 : w (h0 + 8) = some (.inr (5, [.ref (h0 + 10), .ref (h0 + 11), .ref (h0 + 9), .int (iI (((nj : Nat) : Int))), .int (iI (((nr : Nat) : Int))), .int (iI (((ns : Nat) : Int)))])))  : fw_C l D vwCl (tyL ta) B yX0_count cX0_count 2 (some .int) ({ frames := 1, cells := 0, slots := 0, locals := 20 } : Room) [.ref (h0), .int (what)] n w (fun r w1 n1 => r = some (.int (countv what ht nu ns nr op)) ∧ w1 = w ∧ n1 = n) := by
  refine fw_enter (by decide) (Nat.le_of_ble_eq_true rfl) ?_
  intro p e s m below meth c hx hb hr hml hown hlocks hin hG hts hK H locs hP hS ls hl
  have hown : s.vm.findClass RX0 = some m.cls := hown
  replace hl : lv_has ls 2 [(0, .ref (h0)), (1, .int (what))] := hl
  have lt_e0 := hP.lt e0
  have lt_e4 := hP.lt e4
  have lt_e8 := hP.lt e8
  refine lv_iload_n hx hb dX0_count_0 rfl (lv_at hl 1 rfl) ?_
  by_cases hsw : (what).toInt < 0 ∨ 4 < (what).toInt
  · refine lv_tableOut (tgt := 78) hx hb dX0_count_1 hsw (by decide) ?_
    refine lv_iconst (v := (iI ((-1)))) hx hb dX0_count_78 rfl ?_
    exact fw_iret hx hb hr hlocks hP hS dX0_count_79 (Nat.le_of_ble_eq_true rfl) (Nat.le_of_ble_eq_true rfl) ⟨by rw [countv_out _ _ _ _ _ hsw], rfl, rfl⟩
  · have h1 : ¬ (what).toInt < 0 := fun q => hsw (Or.inl q)
    have h2 : ¬ 4 < (what).toInt := fun q => hsw (Or.inr q)
    have h3 : (what).toInt = 0 ∨ (what).toInt = 1 ∨ (what).toInt = 2 ∨ (what).toInt = 3 ∨ (what).toInt = 4 := by omega
    rcases h3 with h3 | h3 | h3 | h3 | h3
    · refine lv_tableIn (tgt := 36) hx hb dX0_count_1 h1 h2 (by rw [h3]; rfl) (by decide) ?_
      refine lv_aload_n hx hb dX0_count_36 rfl (lv_at hl 0 rfl) ?_
      refine fw_get (ci := 0) (fs := [.ref (h0 + 1), .ref (h0 + 2), .int (iI (((2 * U : Nat) : Int))), .ref (h0 + 4), .ref (h0 + 6), .ref (h0 + 8), .int (iI (ht)), .int (bI (op))]) (k := 6) (v := .int (iI (ht))) (C := RX0) (T := TX0) (N := 8) hx hb hts inFX0 hown hK hP e0 rfl (by decide) mFX0_84 rfl dX0_count_37 ?_
      exact fw_iret hx hb hr hlocks hP hS dX0_count_40 (Nat.le_of_ble_eq_true rfl) (Nat.le_of_ble_eq_true rfl) ⟨by rw [countv_in _ _ _ _ _ h3]; rfl, rfl, rfl⟩
    · refine lv_tableIn (tgt := 41) hx hb dX0_count_1 h1 h2 (by rw [h3]; rfl) (by decide) ?_
      refine lv_aload_n hx hb dX0_count_41 rfl (lv_at hl 0 rfl) ?_
      refine fw_get (ci := 0) (fs := [.ref (h0 + 1), .ref (h0 + 2), .int (iI (((2 * U : Nat) : Int))), .ref (h0 + 4), .ref (h0 + 6), .ref (h0 + 8), .int (iI (ht)), .int (bI (op))]) (k := 3) (v := .ref (h0 + 4)) (C := RX0) (T := TX0) (N := 8) hx hb hts inFX0 hown hK hP e0 rfl (by decide) mFX0_36 rfl dX0_count_42 ?_
      refine fw_callV (ci := 4) (fs := [.ref (h0 + 5), .int (iI (((nu : Nat) : Int)))]) (T := TX4) (N := 2) (b := h0 + 4) (As := []) (rest := []) hx hb hml hown hts hK hG hP hS hl mM_X4_size mV_X4_size mLX0_151 (cm_Pile_size l D ta B (n) (w) (h0 + 4) (h0 + 5) (nu) e4 ) e4 rfl rfl rfl (Nat.le_of_ble_eq_true rfl) ⟨Nat.le_of_ble_eq_true rfl, Nat.le_of_ble_eq_true rfl⟩ ⟨Nat.le_of_ble_eq_true rfl, Nat.le_of_ble_eq_true rfl⟩ dX0_count_45 (fun r w1 n1 H locs hq hP hS => ?_)
      obtain ⟨rfl, hw1, hn1⟩ := hq
      replace hw1 := hw1.symm; replace hn1 := hn1.symm; subst hw1; subst hn1
      refine W.eq (g2 := F0 m 48 ls [.int (iI (((nu : Nat) : Int)))]) rfl ?_
      exact fw_iret hx hb hr hlocks hP hS dX0_count_48 (Nat.le_of_ble_eq_true rfl) (Nat.le_of_ble_eq_true rfl) ⟨by rw [countv_in _ _ _ _ _ h3]; rfl, rfl, rfl⟩
    · refine lv_tableIn (tgt := 49) hx hb dX0_count_1 h1 h2 (by rw [h3]; rfl) (by decide) ?_
      refine lv_aload_n hx hb dX0_count_49 rfl (lv_at hl 0 rfl) ?_
      refine fw_get (ci := 0) (fs := [.ref (h0 + 1), .ref (h0 + 2), .int (iI (((2 * U : Nat) : Int))), .ref (h0 + 4), .ref (h0 + 6), .ref (h0 + 8), .int (iI (ht)), .int (bI (op))]) (k := 5) (v := .ref (h0 + 8)) (C := RX0) (T := TX0) (N := 8) hx hb hts inFX0 hown hK hP e0 rfl (by decide) mFX0_46 rfl dX0_count_50 ?_
      refine fw_callV (ci := 5) (fs := [.ref (h0 + 10), .ref (h0 + 11), .ref (h0 + 9), .int (iI (((nj : Nat) : Int))), .int (iI (((nr : Nat) : Int))), .int (iI (((ns : Nat) : Int)))]) (T := TX5) (N := 6) (b := h0 + 8) (As := []) (rest := []) hx hb hml hown hts hK hG hP hS hl mM_X5_spent mV_X5_spent mLX0_113 (cm_Jrn_spent l D ta B (n) (w) (h0 + 8) (h0 + 10) (h0 + 11) (h0 + 9) (nj) (nr) (ns) e8 ) e8 rfl rfl rfl (Nat.le_of_ble_eq_true rfl) ⟨Nat.le_of_ble_eq_true rfl, Nat.le_of_ble_eq_true rfl⟩ ⟨Nat.le_of_ble_eq_true rfl, Nat.le_of_ble_eq_true rfl⟩ dX0_count_53 (fun r w2 n1 H locs hq hP hS => ?_)
      obtain ⟨rfl, hw1, hn1⟩ := hq
      replace hw1 := hw1.symm; replace hn1 := hn1.symm; subst hw1; subst hn1
      refine W.eq (g2 := F0 m 56 ls [.int (iI (((ns : Nat) : Int)))]) rfl ?_
      exact fw_iret hx hb hr hlocks hP hS dX0_count_56 (Nat.le_of_ble_eq_true rfl) (Nat.le_of_ble_eq_true rfl) ⟨by rw [countv_in _ _ _ _ _ h3]; rfl, rfl, rfl⟩
    · refine lv_tableIn (tgt := 57) hx hb dX0_count_1 h1 h2 (by rw [h3]; rfl) (by decide) ?_
      refine lv_aload_n hx hb dX0_count_57 rfl (lv_at hl 0 rfl) ?_
      refine fw_get (ci := 0) (fs := [.ref (h0 + 1), .ref (h0 + 2), .int (iI (((2 * U : Nat) : Int))), .ref (h0 + 4), .ref (h0 + 6), .ref (h0 + 8), .int (iI (ht)), .int (bI (op))]) (k := 5) (v := .ref (h0 + 8)) (C := RX0) (T := TX0) (N := 8) hx hb hts inFX0 hown hK hP e0 rfl (by decide) mFX0_46 rfl dX0_count_58 ?_
      refine fw_callV (ci := 5) (fs := [.ref (h0 + 10), .ref (h0 + 11), .ref (h0 + 9), .int (iI (((nj : Nat) : Int))), .int (iI (((nr : Nat) : Int))), .int (iI (((ns : Nat) : Int)))]) (T := TX5) (N := 6) (b := h0 + 8) (As := []) (rest := []) hx hb hml hown hts hK hG hP hS hl mM_X5_records mV_X5_records mLX0_122 (cm_Jrn_records l D ta B (n) (w) (h0 + 8) (h0 + 10) (h0 + 11) (h0 + 9) (nj) (nr) (ns) e8 ) e8 rfl rfl rfl (Nat.le_of_ble_eq_true rfl) ⟨Nat.le_of_ble_eq_true rfl, Nat.le_of_ble_eq_true rfl⟩ ⟨Nat.le_of_ble_eq_true rfl, Nat.le_of_ble_eq_true rfl⟩ dX0_count_61 (fun r w3 n1 H locs hq hP hS => ?_)
      obtain ⟨rfl, hw1, hn1⟩ := hq
      replace hw1 := hw1.symm; replace hn1 := hn1.symm; subst hw1; subst hn1
      refine W.eq (g2 := F0 m 64 ls [.int (iI (((nr : Nat) : Int)))]) rfl ?_
      exact fw_iret hx hb hr hlocks hP hS dX0_count_64 (Nat.le_of_ble_eq_true rfl) (Nat.le_of_ble_eq_true rfl) ⟨by rw [countv_in _ _ _ _ _ h3]; rfl, rfl, rfl⟩
    · refine lv_tableIn (tgt := 65) hx hb dX0_count_1 h1 h2 (by rw [h3]; rfl) (by decide) ?_
      refine lv_aload_n hx hb dX0_count_65 rfl (lv_at hl 0 rfl) ?_
      refine fw_get (ci := 0) (fs := [.ref (h0 + 1), .ref (h0 + 2), .int (iI (((2 * U : Nat) : Int))), .ref (h0 + 4), .ref (h0 + 6), .ref (h0 + 8), .int (iI (ht)), .int (bI (op))]) (k := 7) (v := .int (bI (op))) (C := RX0) (T := TX0) (N := 8) hx hb hts inFX0 hown hK hP e0 rfl (by decide) mFX0_65 rfl dX0_count_66 ?_
      refine fn_bif_eq (x := op) (tgt := 76) hx hb dX0_count_69 (by decide) (fun c4 => ?_) (fun c4 => ?_)
      · refine lv_iconst (v := (iI (((0 : Nat) : Int)))) hx hb dX0_count_76 rfl ?_
        exact fw_iret hx hb hr hlocks hP hS dX0_count_77 (Nat.le_of_ble_eq_true rfl) (Nat.le_of_ble_eq_true rfl) ⟨by rw [countv_in _ _ _ _ _ h3]; simp only [countw, c4]; rfl, rfl, rfl⟩
      · refine lv_iconst (v := (iI (((1 : Nat) : Int)))) hx hb dX0_count_72 rfl ?_
        refine lv_goto (tgt := 77) hx hb dX0_count_73 (by decide) ?_
        exact fw_iret hx hb hr hlocks hP hS dX0_count_77 (Nat.le_of_ble_eq_true rfl) (Nat.le_of_ble_eq_true rfl) ⟨by rw [countv_in _ _ _ _ _ h3]; simp only [countw, c4]; rfl, rfl, rfl⟩
set_option maxHeartbeats 4000000 in
set_option maxRecDepth 100000 in
theorem cm_total (l : Launch) (D : va_G) (ta : Nat → ClassId) (B n : Nat) (w : fw_W) (h0 : Nat) (U : Nat) (ht : Int) (nu : Nat) (uf : Nat → Option Nat) (op : Bool) (ca : Nat → Nat) (cx : Nat → cCoin) (e0 : w (h0) = some (.inr (0, [.ref (h0 + 1), .ref (h0 + 2), .int (iI (((2 * U : Nat) : Int))), .ref (h0 + 4), .ref (h0 + 6), .ref (h0 + 8), .int (iI (ht)), .int (bI (op))]))) (e4 : w (h0 + 4) = some (.inr (4, [.ref (h0 + 5), .int (iI (((nu : Nat) : Int)))]))) (e5 : w (h0 + 5) = some (.inl (ta 3, U, .inr (.inr (.inr (.inr (uf))))))) (hU : U ≤ 200) (hu : nu ≤ U) (hc : ∀ j, j < nu → uf j = some (ca j) ∧ cn_at ta w (ca j) (cx j)) : fw_C l D vwCl (tyL ta) B yX0_total cX0_total 1 (some .long) ({ frames := 1, cells := 0, slots := 0, locals := 24 } : Room) [.ref (h0)] n w (fun r w1 n1 => r = some (.long (csum cx nu)) ∧ w1 = w ∧ n1 = n) := by
  refine fw_enter (by decide) (Nat.le_of_ble_eq_true rfl) ?_
  intro p e s m below meth c hx hb hr hml hown hlocks hin hG hts hK H locs hP hS ls hl
  have hown : s.vm.findClass RX0 = some m.cls := hown
  replace hl : lv_has ls 1 [(0, .ref (h0))] := hl
  have lt_e0 := hP.lt e0
  have lt_e4 := hP.lt e4
  have lt_e5 := hP.lt e5
  refine lv_aload_n hx hb dX0_total_0 rfl (lv_at hl 0 rfl) ?_
  refine fw_get (ci := 0) (fs := [.ref (h0 + 1), .ref (h0 + 2), .int (iI (((2 * U : Nat) : Int))), .ref (h0 + 4), .ref (h0 + 6), .ref (h0 + 8), .int (iI (ht)), .int (bI (op))]) (k := 3) (v := .ref (h0 + 4)) (C := RX0) (T := TX0) (N := 8) hx hb hts inFX0 hown hK hP e0 rfl (by decide) mFX0_36 rfl dX0_total_1 ?_
  refine fw_callV (ci := 4) (fs := [.ref (h0 + 5), .int (iI (((nu : Nat) : Int)))]) (T := TX4) (N := 2) (b := h0 + 4) (As := []) (rest := []) hx hb hml hown hts hK hG hP hS hl mM_X4_sum mV_X4_sum mLX0_154 (cm_Pile_sum l D ta B (n) (w) (h0 + 4) (h0 + 5) (nu) (U) (uf) (ca) (cx) e4 e5 (by omega) (by omega) (fun j hj => ⟨(hc j hj).1, (hc j hj).2⟩)) e4 rfl rfl rfl (Nat.le_of_ble_eq_true rfl) ⟨Nat.le_of_ble_eq_true rfl, Nat.le_of_ble_eq_true rfl⟩ ⟨Nat.le_of_ble_eq_true rfl, Nat.le_of_ble_eq_true rfl⟩ dX0_total_4 (fun r w1 n1 H locs hq hP hS => ?_)
  obtain ⟨rfl, hw1, hn1⟩ := hq
  replace hw1 := hw1.symm; replace hn1 := hn1.symm; subst hw1; subst hn1
  refine W.eq (g2 := F0 m 7 ls [.long (csum cx nu)]) rfl ?_
  exact fw_lret hx hb hr hlocks hP hS dX0_total_7 (Nat.le_of_ble_eq_true rfl) (Nat.le_of_ble_eq_true rfl) ⟨rfl, rfl, rfl⟩
