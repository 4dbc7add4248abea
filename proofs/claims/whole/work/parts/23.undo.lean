set_option maxHeartbeats 4000000 in
set_option maxRecDepth 100000 in
theorem cm_undo_mk (l : Launch) (D : va_G) (ta : Nat → ClassId) (B n : Nat) (w : fw_W) (h0 : Nat) (U : Nat) (ht : Int) (nu : Nat) (uf : Nat → Option Nat) (nb : Nat) (bf : Nat → Option Nat) (nj : Nat) (nr : Nat) (ns : Nat) (jf : Nat → Option Nat) (sb : Nat → Bool) (op : Bool) (ca : Nat → Nat) (cx : Nat → cCoin) (j : Nat) (e0 : w (h0) = some (.inr (0, [.ref (h0 + 1), .ref (h0 + 2), .int (iI (((2 * U : Nat) : Int))), .ref (h0 + 4), .ref (h0 + 6), .ref (h0 + 8), .int (iI (ht)), .int (bI (op))]))) (e4 : w (h0 + 4) = some (.inr (4, [.ref (h0 + 5), .int (iI (((nu : Nat) : Int)))]))) (e5 : w (h0 + 5) = some (.inl (ta 3, U, .inr (.inr (.inr (.inr (uf))))))) (e6 : w (h0 + 6) = some (.inr (4, [.ref (h0 + 7), .int (iI (((nb : Nat) : Int)))]))) (e7 : w (h0 + 7) = some (.inl (ta 3, (3 * U), .inr (.inr (.inr (.inr (bf))))))) (e8 : w (h0 + 8) = some (.inr (5, [.ref (h0 + 10), .ref (h0 + 11), .ref (h0 + 9), .int (iI (((nj : Nat) : Int))), .int (iI (((nr : Nat) : Int))), .int (iI (((ns : Nat) : Int)))]))) (e10 : w (h0 + 10) = some (.inl (ta 3, (5 * U), .inr (.inr (.inr (.inr (jf))))))) (e11 : w (h0 + 11) = some (.inl (ta 2, (5 * U), .inl (fun z_ => bI ((sb) z_))))) (hU : U ≤ 200) (hu : nu ≤ U) (hc : ∀ j, j < nu → uf j = some (ca j) ∧ cn_at ta w (ca j) (cx j)) (hca : ∀ j, j < nu → h0 + 12 ≤ ca j) (hj : j < nu) (huq : ∀ i, i < nu → (cx i).1 = (cx j).1 → i = j) (hj1 : 1 ≤ nj) (hj5 : nj ≤ 5 * U) (hjf : jf (nj - 1) = some (ca j)) (hsb : sb (nj - 1) = false) (hbl : nb < 3 * U) : fw_C l D vwCl (tyL ta) B yX0_undoLatest cX0_undoLatest 3 none ({ frames := 3, cells := 0, slots := 0, locals := 67 } : Room) [.ref (h0)] n w (fun r w1 n1 => ∃ f2 : Nat → Option Nat, (∀ i, i < nu - 1 → f2 i = if i = j then uf (nu - 1) else uf i) ∧ r = none ∧ w1 = fw_up (fw_up (fw_up (fw_up (fw_up (w) (h0 + 8) (.inr (5, [.ref (h0 + 10), .ref (h0 + 11), .ref (h0 + 9), .int (iI (((nj - 1 : Nat) : Int))), .int (iI (((nr : Nat) : Int))), .int (iI (((ns : Nat) : Int)))]))) (h0 + 4) (.inr (4, [.ref (h0 + 5), .int (iI (((nu - 1 : Nat) : Int)))]))) (h0 + 5) (.inl (ta 3, U, .inr (.inr (.inr (.inr (f2))))))) (h0 + 7) (.inl (ta 3, ((3 * U)), .inr (.inr (.inr (.inr (va_up (bf) (nb) (some ((ca j)))))))))) (h0 + 6) (.inr (4, [.ref (h0 + 7), .int (iI (((nb + 1 : Nat) : Int)))])) ∧ n1 = n) := by
  refine fw_enter (by decide) (Nat.le_of_ble_eq_true rfl) ?_
  intro p e s m below meth c hx hb hr hml hown hlocks hin hG hts hK H locs hP hS ls hl
  have hown : s.vm.findClass RX0 = some m.cls := hown
  replace hl : lv_has ls 3 [(0, .ref (h0))] := hl
  have lt_e0 := hP.lt e0
  have lt_e4 := hP.lt e4
  have lt_e5 := hP.lt e5
  have lt_e6 := hP.lt e6
  have lt_e7 := hP.lt e7
  have lt_e8 := hP.lt e8
  have lt_e10 := hP.lt e10
  have lt_e11 := hP.lt e11
  refine lv_aload_n hx hb dX0_undoLatest_0 rfl (lv_at hl 0 rfl) ?_
  refine fw_get (ci := 0) (fs := [.ref (h0 + 1), .ref (h0 + 2), .int (iI (((2 * U : Nat) : Int))), .ref (h0 + 4), .ref (h0 + 6), .ref (h0 + 8), .int (iI (ht)), .int (bI (op))]) (k := 5) (v := .ref (h0 + 8)) (C := RX0) (T := TX0) (N := 8) hx hb hts inFX0 hown hK hP e0 rfl (by decide) mFX0_46 rfl dX0_undoLatest_1 ?_
  refine fw_callV (ci := 5) (fs := [.ref (h0 + 10), .ref (h0 + 11), .ref (h0 + 9), .int (iI (((nj : Nat) : Int))), .int (iI (((nr : Nat) : Int))), .int (iI (((ns : Nat) : Int)))]) (T := TX5) (N := 6) (b := h0 + 8) (As := []) (rest := []) hx hb hml hown hts hK hG hP hS hl mM_X5_latestIsSpending mV_X5_latestIsSpending mLX0_166 (cm_Jrn_latestIsSpending l D ta B (n) (w) (h0 + 8) (h0 + 10) (h0 + 11) (h0 + 9) (nj) (nr) (ns) (5 * U) (jf) (sb) e8 e10 e11 (by omega) (by omega) (by omega)) e8 rfl rfl rfl (Nat.le_of_ble_eq_true rfl) ⟨Nat.le_of_ble_eq_true rfl, Nat.le_of_ble_eq_true rfl⟩ ⟨Nat.le_of_ble_eq_true rfl, Nat.le_of_ble_eq_true rfl⟩ dX0_undoLatest_4 (fun r w1 n1 H locs hq hP hS => ?_)
  obtain ⟨rfl, hw1, hn1⟩ := hq
  replace hw1 := hw1.symm; replace hn1 := hn1.symm; subst hw1; subst hn1
  refine W.eq (g2 := F0 m 7 ls [.int (bI (sb (nj - 1)))]) rfl ?_
  refine lv_istore_n (lv' := [(1, .int (bI (sb (nj - 1)))), (0, .ref (h0))]) hx hb dX0_undoLatest_7 rfl hl (by decide) rfl (fun ls hl => ?_)
  refine lv_aload_n hx hb dX0_undoLatest_8 rfl (lv_at hl 1 rfl) ?_
  refine fw_get (ci := 0) (fs := [.ref (h0 + 1), .ref (h0 + 2), .int (iI (((2 * U : Nat) : Int))), .ref (h0 + 4), .ref (h0 + 6), .ref (h0 + 8), .int (iI (ht)), .int (bI (op))]) (k := 5) (v := .ref (h0 + 8)) (C := RX0) (T := TX0) (N := 8) hx hb hts inFX0 hown hK hP e0 rfl (by decide) mFX0_46 rfl dX0_undoLatest_9 ?_
  refine fw_callV (ci := 5) (fs := [.ref (h0 + 10), .ref (h0 + 11), .ref (h0 + 9), .int (iI (((nj : Nat) : Int))), .int (iI (((nr : Nat) : Int))), .int (iI (((ns : Nat) : Int)))]) (T := TX5) (N := 6) (b := h0 + 8) (As := []) (rest := []) hx hb hml hown hts hK hG hP hS hl mM_X5_takeLatest mV_X5_takeLatest mLX0_169 (cm_Jrn_takeLatest_mk l D ta B (n) (w) (h0 + 8) (h0 + 10) (h0 + 11) (h0 + 9) (nj) (nr) (ns) (5 * U) (jf) (sb) (ca j) e8 e10 e11 (by omega) (by omega) (by omega) hjf hsb) e8 rfl rfl rfl (Nat.le_of_ble_eq_true rfl) ⟨Nat.le_of_ble_eq_true rfl, Nat.le_of_ble_eq_true rfl⟩ ⟨Nat.le_of_ble_eq_true rfl, Nat.le_of_ble_eq_true rfl⟩ dX0_undoLatest_12 (fun r w2 n1 H locs hq hP hS => ?_)
  obtain ⟨rfl, hw1, hn1⟩ := hq
  replace hw1 := hw1.symm; replace hn1 := hn1.symm; subst hw1; subst hn1
  refine W.eq (g2 := F0 m 15 ls [.ref (ca j)]) rfl ?_
  have hP : fw_P D vwCl B (n) (fw_up (w) (h0 + 8) (.inr (5, [.ref (h0 + 10), .ref (h0 + 11), .ref (h0 + 9), .int (iI (((nj - 1 : Nat) : Int))), .int (iI (((nr : Nat) : Int))), .int (iI (((ns : Nat) : Int)))]))) H := hP
  refine lv_astore_n (lv' := [(2, .ref (ca j)), (1, .int (bI (sb (nj - 1)))), (0, .ref (h0))]) hx hb dX0_undoLatest_15 rfl hl (by decide) rfl (fun ls hl => ?_)
  refine lv_aload_n hx hb dX0_undoLatest_16 rfl (lv_at hl 0 rfl) ?_
  refine lv_ifnonnull (tgt := 21) hx hb dX0_undoLatest_17 (by decide) ?_
  refine lv_iload_n hx hb dX0_undoLatest_21 rfl (lv_at hl 1 rfl) ?_
  refine fn_bif_eq (x := sb (nj - 1)) (tgt := 36) hx hb dX0_undoLatest_22 (by decide) (fun c3 => ?_) (fun c3 => False.elim (by rw [hsb] at c3; cases c3))
  refine lv_aload_n hx hb dX0_undoLatest_36 rfl (lv_at hl 2 rfl) ?_
  refine fw_get (ci := 0) (fs := [.ref (h0 + 1), .ref (h0 + 2), .int (iI (((2 * U : Nat) : Int))), .ref (h0 + 4), .ref (h0 + 6), .ref (h0 + 8), .int (iI (ht)), .int (bI (op))]) (k := 3) (v := .ref (h0 + 4)) (C := RX0) (T := TX0) (N := 8) hx hb hts inFX0 hown hK hP (fw_at (by omega) e0) rfl (by decide) mFX0_36 rfl dX0_undoLatest_37 ?_
  obtain ⟨hq0, hq1, hq2, hq3, hq4⟩ := hc j hj
  have hcj := hca j hj
  have ne4 : (ca j : Nat) ≠ h0 := fw_noo hq1 e0 (by decide)
  have ne5 : (ca j : Nat) ≠ h0 + 4 := fw_noo hq1 e4 (by decide)
  have ne6 : (ca j : Nat) ≠ h0 + 5 := (fw_nio e5 hq1).symm
  have ne7 : (ca j : Nat) ≠ h0 + 6 := fw_noo hq1 e6 (by decide)
  have ne8 : (ca j : Nat) ≠ h0 + 7 := (fw_nio e7 hq1).symm
  have ne9 : (ca j : Nat) ≠ h0 + 8 := fw_noo hq1 e8 (by decide)
  have ne10 : (ca j : Nat) ≠ h0 + 10 := (fw_nio e10 hq1).symm
  have ne11 : (ca j : Nat) ≠ h0 + 11 := (fw_nio e11 hq1).symm
  have ne12 : (ca j + 1 : Nat) ≠ h0 := fw_noo hq2 e0 (by decide)
  have ne13 : (ca j + 1 : Nat) ≠ h0 + 4 := fw_noo hq2 e4 (by decide)
  have ne14 : (ca j + 1 : Nat) ≠ h0 + 5 := (fw_nio e5 hq2).symm
  have ne15 : (ca j + 1 : Nat) ≠ h0 + 6 := fw_noo hq2 e6 (by decide)
  have ne16 : (ca j + 1 : Nat) ≠ h0 + 7 := (fw_nio e7 hq2).symm
  have ne17 : (ca j + 1 : Nat) ≠ h0 + 8 := fw_noo hq2 e8 (by decide)
  have ne18 : (ca j + 1 : Nat) ≠ h0 + 10 := (fw_nio e10 hq2).symm
  have ne19 : (ca j + 1 : Nat) ≠ h0 + 11 := (fw_nio e11 hq2).symm
  have ne20 : (ca j + 1 : Nat) ≠ ca j := fw_noo hq2 hq1 (by decide)
  refine lv_aload_n hx hb dX0_undoLatest_40 rfl (lv_at hl 0 rfl) ?_
  refine fw_getN (ci := 3) (fs := [.ref (ca j + 1), .ref (ca j + 2), .long ((cx j).2.2.1), .int ((cx j).2.2.2.1), .int (bI ((cx j).2.2.2.2))]) (k := 0) (v := .ref (ca j + 1)) (C := RX3) (T := TX3) (N := 5) hx hb hts inFX3 hown hK hP (fw_at ne9 hq1) rfl (by decide) mFX0_92 rfl dX0_undoLatest_41 ?_
  refine fw_callV (ci := 4) (fs := [.ref (h0 + 5), .int (iI (((nu : Nat) : Int)))]) (T := TX4) (N := 2) (b := h0 + 4) (As := [.ref (ca j + 1)]) (rest := []) hx hb hml hown hts hK hG hP hS hl mM_X4_remove mV_X4_remove mLX0_116 (cm_Pile_remove l D ta B (n) (fw_up (w) (h0 + 8) (.inr (5, [.ref (h0 + 10), .ref (h0 + 11), .ref (h0 + 9), .int (iI (((nj - 1 : Nat) : Int))), .int (iI (((nr : Nat) : Int))), .int (iI (((ns : Nat) : Int)))]))) (h0 + 4) (h0 + 5) (nu) (U) (uf) (ca j + 1) ((cx j).1) (ca) (cx) (j) (fw_at (by omega) e4) (fw_at (by omega) e5) (fw_at ne17 hq2) (by omega) (by omega) (fun j hj => ⟨(hc j hj).1, (cn_upO (hc j hj).2 e8 (by decide))⟩) hj rfl huq) (fw_at (by omega) e4) rfl rfl rfl (Nat.le_of_ble_eq_true rfl) ⟨Nat.le_of_ble_eq_true rfl, Nat.le_of_ble_eq_true rfl⟩ ⟨Nat.le_of_ble_eq_true rfl, Nat.le_of_ble_eq_true rfl⟩ dX0_undoLatest_44 (fun r w21 n1 H locs hq hP hS => ?_)
  obtain ⟨f2, hf2, rfl, hw1, hn1⟩ := hq
  replace hw1 := hw1.symm; replace hn1 := hn1.symm; subst hw1; subst hn1
  refine W.eq (g2 := F0 m 47 ls []) rfl ?_
  have hP : fw_P D vwCl B (n) (fw_up (fw_up (fw_up (w) (h0 + 8) (.inr (5, [.ref (h0 + 10), .ref (h0 + 11), .ref (h0 + 9), .int (iI (((nj - 1 : Nat) : Int))), .int (iI (((nr : Nat) : Int))), .int (iI (((ns : Nat) : Int)))]))) (h0 + 4) (.inr (4, [.ref (h0 + 5), .int (iI (((nu - 1 : Nat) : Int)))]))) (h0 + 5) (.inl (ta 3, U, .inr (.inr (.inr (.inr (f2))))))) H := hP
  refine lv_aload_n hx hb dX0_undoLatest_47 rfl (lv_at hl 2 rfl) ?_
  refine fw_get (ci := 0) (fs := [.ref (h0 + 1), .ref (h0 + 2), .int (iI (((2 * U : Nat) : Int))), .ref (h0 + 4), .ref (h0 + 6), .ref (h0 + 8), .int (iI (ht)), .int (bI (op))]) (k := 4) (v := .ref (h0 + 6)) (C := RX0) (T := TX0) (N := 8) hx hb hts inFX0 hown hK hP (fw_at (by omega) (fw_at (by omega) (fw_at (by omega) e0))) rfl (by decide) mFX0_40 rfl dX0_undoLatest_48 ?_
  refine lv_aload_n hx hb dX0_undoLatest_51 rfl (lv_at hl 0 rfl) ?_
  refine fw_callV (ci := 4) (fs := [.ref (h0 + 7), .int (iI (((nb : Nat) : Int)))]) (T := TX4) (N := 2) (b := h0 + 6) (As := [.ref (ca j)]) (rest := []) hx hb hml hown hts hK hG hP hS hl mM_X4_add mV_X4_add mLX0_105 (cm_Pile_add l D ta B (n) (fw_up (fw_up (fw_up (w) (h0 + 8) (.inr (5, [.ref (h0 + 10), .ref (h0 + 11), .ref (h0 + 9), .int (iI (((nj - 1 : Nat) : Int))), .int (iI (((nr : Nat) : Int))), .int (iI (((ns : Nat) : Int)))]))) (h0 + 4) (.inr (4, [.ref (h0 + 5), .int (iI (((nu - 1 : Nat) : Int)))]))) (h0 + 5) (.inl (ta 3, U, .inr (.inr (.inr (.inr (f2))))))) (h0 + 6) (h0 + 7) (nb) (3 * U) (bf) (ca j) (ca j + 1) (ca j + 2) ((cx j).2.2.1) (((cx j).2.2.2.1)) ((cx j).2.2.2.2) (fw_at (by omega) (fw_at (by omega) (fw_at (by omega) e6))) (fw_at (by omega) (fw_at (by omega) (fw_at (by omega) e7))) (fw_at ne6 (fw_at ne5 (fw_at ne9 hq1))) (by omega) (by omega)) (fw_at (by omega) (fw_at (by omega) (fw_at (by omega) e6))) rfl rfl rfl (Nat.le_of_ble_eq_true rfl) ⟨Nat.le_of_ble_eq_true rfl, Nat.le_of_ble_eq_true rfl⟩ ⟨Nat.le_of_ble_eq_true rfl, Nat.le_of_ble_eq_true rfl⟩ dX0_undoLatest_52 (fun r w22 n1 H locs hq hP hS => ?_)
  obtain ⟨rfl, hw1, hn1⟩ := hq
  replace hw1 := hw1.symm; replace hn1 := hn1.symm; subst hw1; subst hn1
  refine W.eq (g2 := F0 m 55 ls []) rfl ?_
  have hP : fw_P D vwCl B (n) (fw_up (fw_up (fw_up (fw_up (fw_up (w) (h0 + 8) (.inr (5, [.ref (h0 + 10), .ref (h0 + 11), .ref (h0 + 9), .int (iI (((nj - 1 : Nat) : Int))), .int (iI (((nr : Nat) : Int))), .int (iI (((ns : Nat) : Int)))]))) (h0 + 4) (.inr (4, [.ref (h0 + 5), .int (iI (((nu - 1 : Nat) : Int)))]))) (h0 + 5) (.inl (ta 3, U, .inr (.inr (.inr (.inr (f2))))))) (h0 + 7) (.inl (ta 3, ((3 * U)), .inr (.inr (.inr (.inr (va_up (bf) (nb) (some ((ca j)))))))))) (h0 + 6) (.inr (4, [.ref (h0 + 7), .int (iI (((nb + 1 : Nat) : Int)))]))) H := hP
  exact fw_vret hx hb hr hlocks hP hS dX0_undoLatest_55 (Nat.le_of_ble_eq_true rfl) (Nat.le_of_ble_eq_true rfl) ⟨f2, hf2, rfl, rfl, rfl⟩
set_option maxHeartbeats 4000000 in
set_option maxRecDepth 100000 in
theorem cm_undo_sp (l : Launch) (D : va_G) (ta : Nat → ClassId) (B n : Nat) (w : fw_W) (h0 : Nat) (U : Nat) (ht : Int) (nu : Nat) (uf : Nat → Option Nat) (nj : Nat) (nr : Nat) (ns : Nat) (jf : Nat → Option Nat) (sb : Nat → Bool) (op : Bool) (a : Nat) (x : cCoin) (e0 : w (h0) = some (.inr (0, [.ref (h0 + 1), .ref (h0 + 2), .int (iI (((2 * U : Nat) : Int))), .ref (h0 + 4), .ref (h0 + 6), .ref (h0 + 8), .int (iI (ht)), .int (bI (op))]))) (e4 : w (h0 + 4) = some (.inr (4, [.ref (h0 + 5), .int (iI (((nu : Nat) : Int)))]))) (e5 : w (h0 + 5) = some (.inl (ta 3, U, .inr (.inr (.inr (.inr (uf))))))) (e8 : w (h0 + 8) = some (.inr (5, [.ref (h0 + 10), .ref (h0 + 11), .ref (h0 + 9), .int (iI (((nj : Nat) : Int))), .int (iI (((nr : Nat) : Int))), .int (iI (((ns : Nat) : Int)))]))) (e10 : w (h0 + 10) = some (.inl (ta 3, (5 * U), .inr (.inr (.inr (.inr (jf))))))) (e11 : w (h0 + 11) = some (.inl (ta 2, (5 * U), .inl (fun z_ => bI ((sb) z_))))) (ea : w (a) = some (.inr (3, [.ref (a + 1), .ref (a + 2), .long ((x).2.2.1), .int ((x).2.2.2.1), .int (bI ((x).2.2.2.2))]))) (hU : U ≤ 200) (hj1 : 1 ≤ nj) (hj5 : nj ≤ 5 * U) (hjf : jf (nj - 1) = some a) (hsb : sb (nj - 1) = true) (h1s : 1 ≤ ns) (hul : nu < U) (ha12 : h0 + 12 ≤ a) : fw_C l D vwCl (tyL ta) B yX0_undoLatest cX0_undoLatest 3 none ({ frames := 3, cells := 0, slots := 0, locals := 67 } : Room) [.ref (h0)] n w (fun r w1 n1 => r = none ∧ w1 = fw_up (fw_up (fw_up (w) (h0 + 8) (.inr (5, [.ref (h0 + 10), .ref (h0 + 11), .ref (h0 + 9), .int (iI (((nj - 1 : Nat) : Int))), .int (iI (((nr : Nat) : Int))), .int (iI (((ns - 1 : Nat) : Int)))]))) (h0 + 5) (.inl (ta 3, U, .inr (.inr (.inr (.inr (va_up (uf) (nu) (some (a))))))))) (h0 + 4) (.inr (4, [.ref (h0 + 5), .int (iI (((nu + 1 : Nat) : Int)))])) ∧ n1 = n) := by
  refine fw_enter (by decide) (Nat.le_of_ble_eq_true rfl) ?_
  intro p e s m below meth c hx hb hr hml hown hlocks hin hG hts hK H locs hP hS ls hl
  have hown : s.vm.findClass RX0 = some m.cls := hown
  replace hl : lv_has ls 3 [(0, .ref (h0))] := hl
  have lt_e0 := hP.lt e0
  have lt_e4 := hP.lt e4
  have lt_e5 := hP.lt e5
  have lt_e8 := hP.lt e8
  have lt_e10 := hP.lt e10
  have lt_e11 := hP.lt e11
  have lt_ea := hP.lt ea
  refine lv_aload_n hx hb dX0_undoLatest_0 rfl (lv_at hl 0 rfl) ?_
  refine fw_get (ci := 0) (fs := [.ref (h0 + 1), .ref (h0 + 2), .int (iI (((2 * U : Nat) : Int))), .ref (h0 + 4), .ref (h0 + 6), .ref (h0 + 8), .int (iI (ht)), .int (bI (op))]) (k := 5) (v := .ref (h0 + 8)) (C := RX0) (T := TX0) (N := 8) hx hb hts inFX0 hown hK hP e0 rfl (by decide) mFX0_46 rfl dX0_undoLatest_1 ?_
  refine fw_callV (ci := 5) (fs := [.ref (h0 + 10), .ref (h0 + 11), .ref (h0 + 9), .int (iI (((nj : Nat) : Int))), .int (iI (((nr : Nat) : Int))), .int (iI (((ns : Nat) : Int)))]) (T := TX5) (N := 6) (b := h0 + 8) (As := []) (rest := []) hx hb hml hown hts hK hG hP hS hl mM_X5_latestIsSpending mV_X5_latestIsSpending mLX0_166 (cm_Jrn_latestIsSpending l D ta B (n) (w) (h0 + 8) (h0 + 10) (h0 + 11) (h0 + 9) (nj) (nr) (ns) (5 * U) (jf) (sb) e8 e10 e11 (by omega) (by omega) (by omega)) e8 rfl rfl rfl (Nat.le_of_ble_eq_true rfl) ⟨Nat.le_of_ble_eq_true rfl, Nat.le_of_ble_eq_true rfl⟩ ⟨Nat.le_of_ble_eq_true rfl, Nat.le_of_ble_eq_true rfl⟩ dX0_undoLatest_4 (fun r w1 n1 H locs hq hP hS => ?_)
  obtain ⟨rfl, hw1, hn1⟩ := hq
  replace hw1 := hw1.symm; replace hn1 := hn1.symm; subst hw1; subst hn1
  refine W.eq (g2 := F0 m 7 ls [.int (bI (sb (nj - 1)))]) rfl ?_
  refine lv_istore_n (lv' := [(1, .int (bI (sb (nj - 1)))), (0, .ref (h0))]) hx hb dX0_undoLatest_7 rfl hl (by decide) rfl (fun ls hl => ?_)
  refine lv_aload_n hx hb dX0_undoLatest_8 rfl (lv_at hl 1 rfl) ?_
  refine fw_get (ci := 0) (fs := [.ref (h0 + 1), .ref (h0 + 2), .int (iI (((2 * U : Nat) : Int))), .ref (h0 + 4), .ref (h0 + 6), .ref (h0 + 8), .int (iI (ht)), .int (bI (op))]) (k := 5) (v := .ref (h0 + 8)) (C := RX0) (T := TX0) (N := 8) hx hb hts inFX0 hown hK hP e0 rfl (by decide) mFX0_46 rfl dX0_undoLatest_9 ?_
  refine fw_callV (ci := 5) (fs := [.ref (h0 + 10), .ref (h0 + 11), .ref (h0 + 9), .int (iI (((nj : Nat) : Int))), .int (iI (((nr : Nat) : Int))), .int (iI (((ns : Nat) : Int)))]) (T := TX5) (N := 6) (b := h0 + 8) (As := []) (rest := []) hx hb hml hown hts hK hG hP hS hl mM_X5_takeLatest mV_X5_takeLatest mLX0_169 (cm_Jrn_takeLatest_sp l D ta B (n) (w) (h0 + 8) (h0 + 10) (h0 + 11) (h0 + 9) (nj) (nr) (ns) (5 * U) (jf) (sb) (a) e8 e10 e11 (by omega) (by omega) (by omega) hjf hsb (by omega)) e8 rfl rfl rfl (Nat.le_of_ble_eq_true rfl) ⟨Nat.le_of_ble_eq_true rfl, Nat.le_of_ble_eq_true rfl⟩ ⟨Nat.le_of_ble_eq_true rfl, Nat.le_of_ble_eq_true rfl⟩ dX0_undoLatest_12 (fun r w2 n1 H locs hq hP hS => ?_)
  obtain ⟨rfl, hw1, hn1⟩ := hq
  replace hw1 := hw1.symm; replace hn1 := hn1.symm; subst hw1; subst hn1
  refine W.eq (g2 := F0 m 15 ls [.ref (a)]) rfl ?_
  have hP : fw_P D vwCl B (n) (fw_up (w) (h0 + 8) (.inr (5, [.ref (h0 + 10), .ref (h0 + 11), .ref (h0 + 9), .int (iI (((nj - 1 : Nat) : Int))), .int (iI (((nr : Nat) : Int))), .int (iI (((ns - 1 : Nat) : Int)))]))) H := hP
  refine lv_astore_n (lv' := [(2, .ref (a)), (1, .int (bI (sb (nj - 1)))), (0, .ref (h0))]) hx hb dX0_undoLatest_15 rfl hl (by decide) rfl (fun ls hl => ?_)
  refine lv_aload_n hx hb dX0_undoLatest_16 rfl (lv_at hl 0 rfl) ?_
  refine lv_ifnonnull (tgt := 21) hx hb dX0_undoLatest_17 (by decide) ?_
  refine lv_iload_n hx hb dX0_undoLatest_21 rfl (lv_at hl 1 rfl) ?_
  refine fn_bif_eq (x := sb (nj - 1)) (tgt := 36) hx hb dX0_undoLatest_22 (by decide) (fun c3 => False.elim (by rw [hsb] at c3; cases c3)) (fun c3 => ?_)
  refine lv_aload_n hx hb dX0_undoLatest_25 rfl (lv_at hl 2 rfl) ?_
  refine fw_get (ci := 0) (fs := [.ref (h0 + 1), .ref (h0 + 2), .int (iI (((2 * U : Nat) : Int))), .ref (h0 + 4), .ref (h0 + 6), .ref (h0 + 8), .int (iI (ht)), .int (bI (op))]) (k := 3) (v := .ref (h0 + 4)) (C := RX0) (T := TX0) (N := 8) hx hb hts inFX0 hown hK hP (fw_at (by omega) e0) rfl (by decide) mFX0_36 rfl dX0_undoLatest_26 ?_
  refine lv_aload_n hx hb dX0_undoLatest_29 rfl (lv_at hl 0 rfl) ?_
  refine fw_callV (ci := 4) (fs := [.ref (h0 + 5), .int (iI (((nu : Nat) : Int)))]) (T := TX4) (N := 2) (b := h0 + 4) (As := [.ref (a)]) (rest := []) hx hb hml hown hts hK hG hP hS hl mM_X4_add mV_X4_add mLX0_105 (cm_Pile_add l D ta B (n) (fw_up (w) (h0 + 8) (.inr (5, [.ref (h0 + 10), .ref (h0 + 11), .ref (h0 + 9), .int (iI (((nj - 1 : Nat) : Int))), .int (iI (((nr : Nat) : Int))), .int (iI (((ns - 1 : Nat) : Int)))]))) (h0 + 4) (h0 + 5) (nu) (U) (uf) (a) (a + 1) (a + 2) ((x).2.2.1) (((x).2.2.2.1)) ((x).2.2.2.2) (fw_at (by omega) e4) (fw_at (by omega) e5) (fw_at (by omega) ea) (by omega) (by omega)) (fw_at (by omega) e4) rfl rfl rfl (Nat.le_of_ble_eq_true rfl) ⟨Nat.le_of_ble_eq_true rfl, Nat.le_of_ble_eq_true rfl⟩ ⟨Nat.le_of_ble_eq_true rfl, Nat.le_of_ble_eq_true rfl⟩ dX0_undoLatest_30 (fun r w4 n1 H locs hq hP hS => ?_)
  obtain ⟨rfl, hw1, hn1⟩ := hq
  replace hw1 := hw1.symm; replace hn1 := hn1.symm; subst hw1; subst hn1
  refine W.eq (g2 := F0 m 33 ls []) rfl ?_
  have hP : fw_P D vwCl B (n) (fw_up (fw_up (fw_up (w) (h0 + 8) (.inr (5, [.ref (h0 + 10), .ref (h0 + 11), .ref (h0 + 9), .int (iI (((nj - 1 : Nat) : Int))), .int (iI (((nr : Nat) : Int))), .int (iI (((ns - 1 : Nat) : Int)))]))) (h0 + 5) (.inl (ta 3, U, .inr (.inr (.inr (.inr (va_up (uf) (nu) (some (a))))))))) (h0 + 4) (.inr (4, [.ref (h0 + 5), .int (iI (((nu + 1 : Nat) : Int)))]))) H := hP
  refine lv_goto (tgt := 55) hx hb dX0_undoLatest_33 (by decide) ?_
  exact fw_vret hx hb hr hlocks hP hS dX0_undoLatest_55 (Nat.le_of_ble_eq_true rfl) (Nat.le_of_ble_eq_true rfl) ⟨rfl, rfl, rfl⟩
set_option maxHeartbeats 4000000 in
set_option maxRecDepth 100000 in
theorem cm_back_none (l : Launch) (D : va_G) (ta : Nat → ClassId) (B n : Nat) (w : fw_W) (h0 : Nat) (U : Nat) (ht : Int) (nj : Nat) (nr : Nat) (ns : Nat) (op : Bool) (e0 : w (h0) = some (.inr (0, [.ref (h0 + 1), .ref (h0 + 2), .int (iI (((2 * U : Nat) : Int))), .ref (h0 + 4), .ref (h0 + 6), .ref (h0 + 8), .int (iI (ht)), .int (bI (op))]))) (e8 : w (h0 + 8) = some (.inr (5, [.ref (h0 + 10), .ref (h0 + 11), .ref (h0 + 9), .int (iI (((nj : Nat) : Int))), .int (iI (((nr : Nat) : Int))), .int (iI (((ns : Nat) : Int)))]))) (h0r : nr = 0) : fw_C l D vwCl (tyL ta) B yX0_back cX0_back 3 (some .int) ({ frames := 4, cells := 0, slots := 0, locals := 89 } : Room) [.ref (h0)] n w (fun r w1 n1 => r = some (.int (iI ((-1)))) ∧ w1 = w ∧ n1 = n) := by
  refine fw_enter (by decide) (Nat.le_of_ble_eq_true rfl) ?_
  intro p e s m below meth c hx hb hr hml hown hlocks hin hG hts hK H locs hP hS ls hl
  have hown : s.vm.findClass RX0 = some m.cls := hown
  replace hl : lv_has ls 3 [(0, .ref (h0))] := hl
  have lt_e0 := hP.lt e0
  have lt_e8 := hP.lt e8
  refine lv_aload_n hx hb dX0_back_0 rfl (lv_at hl 0 rfl) ?_
  refine fw_get (ci := 0) (fs := [.ref (h0 + 1), .ref (h0 + 2), .int (iI (((2 * U : Nat) : Int))), .ref (h0 + 4), .ref (h0 + 6), .ref (h0 + 8), .int (iI (ht)), .int (bI (op))]) (k := 5) (v := .ref (h0 + 8)) (C := RX0) (T := TX0) (N := 8) hx hb hts inFX0 hown hK hP e0 rfl (by decide) mFX0_46 rfl dX0_back_1 ?_
  refine fw_callV (ci := 5) (fs := [.ref (h0 + 10), .ref (h0 + 11), .ref (h0 + 9), .int (iI (((nj : Nat) : Int))), .int (iI (((nr : Nat) : Int))), .int (iI (((ns : Nat) : Int)))]) (T := TX5) (N := 6) (b := h0 + 8) (As := []) (rest := []) hx hb hml hown hts hK hG hP hS hl mM_X5_records mV_X5_records mLX0_122 (cm_Jrn_records l D ta B (n) (w) (h0 + 8) (h0 + 10) (h0 + 11) (h0 + 9) (nj) (nr) (ns) e8 ) e8 rfl rfl rfl (Nat.le_of_ble_eq_true rfl) ⟨Nat.le_of_ble_eq_true rfl, Nat.le_of_ble_eq_true rfl⟩ ⟨Nat.le_of_ble_eq_true rfl, Nat.le_of_ble_eq_true rfl⟩ dX0_back_4 (fun r w1 n1 H locs hq hP hS => ?_)
  obtain ⟨rfl, hw1, hn1⟩ := hq
  replace hw1 := hw1.symm; replace hn1 := hn1.symm; subst hw1; subst hn1
  refine W.eq (g2 := F0 m 7 ls [.int (iI (((nr : Nat) : Int)))]) rfl ?_
  refine lv_iconst (v := (iI (((1 : Nat) : Int)))) hx hb dX0_back_7 rfl ?_
  refine fn_icmp_ge (x := ((nr : Nat) : Int)) (y := ((1 : Nat) : Int)) (tgt := 13) hx hb dX0_back_8 (by decide) ⟨by omega, by omega⟩ ⟨by omega, by omega⟩ (fun c2 => False.elim (by omega)) (fun c2 => ?_)
  refine lv_iconst (v := (iI ((-1)))) hx hb dX0_back_11 rfl ?_
  exact fw_iret hx hb hr hlocks hP hS dX0_back_12 (Nat.le_of_ble_eq_true rfl) (Nat.le_of_ble_eq_true rfl) ⟨rfl, rfl, rfl⟩
