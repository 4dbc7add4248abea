set_option maxHeartbeats 4000000 in
set_option maxRecDepth 100000 in
theorem cm_Coin_init (l : Launch) (D : va_G) (ta : Nat → ClassId) (B n : Nat) (w : fw_W) (h0 : Nat) (e0 : w (h0) = some (.inr (3, [.null, .null, .long (0), .int (iI (((0 : Nat) : Int))), .int (bI (false))])))  : fw_C l D vwCl (tyL ta) B yX3_init cX3_init 1 none ({ frames := 2, cells := 3, slots := 207, locals := 40 } : Room) [.ref (h0)] n w (fun r w1 n1 => r = none ∧ w1 = fw_up (fw_up (fw_up (fw_up (w) (n) (.inr (1, [.long (0), .long (0), .long (0), .long (0), .int (iI (((0 : Nat) : Int)))]))) (h0) (.inr (3, [.ref (n), .ref (n + 1), .long (0), .int (iI (((0 : Nat) : Int))), .int (bI (false))]))) (n + 1) (.inr (2, [.ref (n + 2), .int (iI (((0 : Nat) : Int)))]))) (n + 2) (.inl (ta 0, 200, .inl (fun _ => (0 : Int32)))) ∧ n1 = n + 3) := by
  refine fw_enter (by decide) (Nat.le_of_ble_eq_true rfl) ?_
  intro p e s m below meth c hx hb hr hml hown hlocks hin hG hts hK H locs hP hS ls hl
  have hown : s.vm.findClass RX3 = some m.cls := hown
  replace hl : lv_has ls 1 [(0, .ref (h0))] := hl
  have lt_e0 := hP.lt e0
  refine lv_aload_n hx hb dX3_init_0 rfl (lv_at hl 0 rfl) ?_
  refine W.objInit hx hb hown (hts _ mLX3_1) (hts _ mI_obj) (hts _ mC_obj) rfl (by rw [hml]; exact hl.1) rfl dX3_init_1 (Nat.le_of_ble_eq_true rfl) (Nat.le_of_ble_eq_true rfl) ?_
  refine W.eq (g2 := F0 m 4 ls []) rfl ?_
  refine lv_aload_n hx hb dX3_init_4 rfl (lv_at hl 0 rfl) ?_
  refine fw_new (ci := 1) (fs := [.long (0), .long (0), .long (0), .long (0), .int (iI (((0 : Nat) : Int)))]) (C := RX1) (T := TX1) (N := 5) hx hb hts inFX1 tyX1 tyX1_ok hown mKX3_7 mIX1 mZX1 hK hP hS rfl (by decide +kernel) (by decide) (by decide) dX3_init_5 (fun H hP hS => ?_)
  have hP : fw_P D vwCl B (n + 1) (fw_up (w) (n) (.inr (1, [.long (0), .long (0), .long (0), .long (0), .int (iI (((0 : Nat) : Int)))]))) H := hP
  refine lv_dup hx hb dX3_init_8 rfl ?_
  refine fw_callIN (b := n) (As := []) (rest := [.ref (n), .ref (h0)]) hx hb hml hown hts hK hG hP hS hl mM_X1_init mV_X1_init rfl mNX3_9 (cm_Key_init l D ta B (n + 1) (fw_up (w) (n) (.inr (1, [.long (0), .long (0), .long (0), .long (0), .int (iI (((0 : Nat) : Int)))]))) (n)  ) rfl rfl (Nat.le_of_ble_eq_true rfl) ⟨Nat.le_of_ble_eq_true rfl, Nat.le_of_ble_eq_true rfl⟩ ⟨Nat.le_of_ble_eq_true rfl, Nat.le_of_ble_eq_true rfl⟩ dX3_init_9 (fun r w1 n1 H locs hq hP hS => ?_)
  obtain ⟨rfl, hw1, hn1⟩ := hq
  replace hw1 := hw1.symm; replace hn1 := hn1.symm; subst hw1; subst hn1
  refine W.eq (g2 := F0 m 12 ls [.ref (n), .ref (h0)]) rfl ?_
  refine fw_putF (ci := 3) (fs := [.null, .null, .long (0), .int (iI (((0 : Nat) : Int))), .int (bI (false))]) (k := 0) (v := .ref (n)) (C := RX3) (T := TX3) (N := 5) hx hb hts inFX3 tyX3 tyX3_ok nmX3 hown hin hK hP hS (fw_at (by omega) e0) rfl (by decide) mFX3_10 rfl rfl rfl rfl rfl (Nat.le_of_ble_eq_true rfl) dX3_init_12 (fun H locs hP hS => ?_)
  have hP : fw_P D vwCl B (n + 1) (fw_up (fw_up (w) (n) (.inr (1, [.long (0), .long (0), .long (0), .long (0), .int (iI (((0 : Nat) : Int)))]))) (h0) (.inr (3, [.ref (n), .null, .long (0), .int (iI (((0 : Nat) : Int))), .int (bI (false))]))) H := hP
  refine lv_aload_n hx hb dX3_init_15 rfl (lv_at hl 0 rfl) ?_
  refine fw_new (ci := 2) (fs := [.null, .int (iI (((0 : Nat) : Int)))]) (C := RX2) (T := TX2) (N := 2) hx hb hts inFX2 tyX2 tyX2_ok hown mKX3_16 mIX2 mZX2 hK hP hS rfl (by decide +kernel) (by decide) (by decide) dX3_init_16 (fun H hP hS => ?_)
  have hP : fw_P D vwCl B (n + 2) (fw_up (fw_up (fw_up (w) (n) (.inr (1, [.long (0), .long (0), .long (0), .long (0), .int (iI (((0 : Nat) : Int)))]))) (h0) (.inr (3, [.ref (n), .null, .long (0), .int (iI (((0 : Nat) : Int))), .int (bI (false))]))) (n + 1) (.inr (2, [.null, .int (iI (((0 : Nat) : Int)))]))) H := hP
  refine lv_dup hx hb dX3_init_19 rfl ?_
  refine fw_callIN (b := n + 1) (As := []) (rest := [.ref (n + 1), .ref (h0)]) hx hb hml hown hts hK hG hP hS hl mM_X2_init mV_X2_init rfl mNX3_18 (cm_Script_init l D ta B (n + 2) (fw_up (fw_up (fw_up (w) (n) (.inr (1, [.long (0), .long (0), .long (0), .long (0), .int (iI (((0 : Nat) : Int)))]))) (h0) (.inr (3, [.ref (n), .null, .long (0), .int (iI (((0 : Nat) : Int))), .int (bI (false))]))) (n + 1) (.inr (2, [.null, .int (iI (((0 : Nat) : Int)))]))) (n + 1) (fw_same _ _ _) ) rfl rfl (Nat.le_of_ble_eq_true rfl) ⟨Nat.le_of_ble_eq_true rfl, Nat.le_of_ble_eq_true rfl⟩ ⟨Nat.le_of_ble_eq_true rfl, Nat.le_of_ble_eq_true rfl⟩ dX3_init_20 (fun r w2 n1 H locs hq hP hS => ?_)
  obtain ⟨rfl, hw1, hn1⟩ := hq
  replace hw1 := hw1.symm; replace hn1 := hn1.symm; subst hw1; subst hn1
  refine W.eq (g2 := F0 m 23 ls [.ref (n + 1), .ref (h0)]) rfl ?_
  have hP : fw_P D vwCl B (n + 3) (fw_up (fw_up (fw_up (fw_up (w) (n) (.inr (1, [.long (0), .long (0), .long (0), .long (0), .int (iI (((0 : Nat) : Int)))]))) (h0) (.inr (3, [.ref (n), .null, .long (0), .int (iI (((0 : Nat) : Int))), .int (bI (false))]))) (n + 1) (.inr (2, [.ref (n + 2), .int (iI (((0 : Nat) : Int)))]))) (n + 2) (.inl (ta 0, 200, .inl (fun _ => (0 : Int32))))) H := fw_P.eqw (fw_swap (by omega) (fw_twice _ _ _ _)) hP
  refine fw_putF (ci := 3) (fs := [.ref (n), .null, .long (0), .int (iI (((0 : Nat) : Int))), .int (bI (false))]) (k := 1) (v := .ref (n + 1)) (C := RX3) (T := TX3) (N := 5) hx hb hts inFX3 tyX3 tyX3_ok nmX3 hown hin hK hP hS (fw_at (by omega) (fw_at (by omega) (fw_same _ _ _))) rfl (by decide) mFX3_19 rfl rfl rfl rfl rfl (Nat.le_of_ble_eq_true rfl) dX3_init_23 (fun H locs hP hS => ?_)
  have hP : fw_P D vwCl B (n + 3) (fw_up (fw_up (fw_up (fw_up (w) (n) (.inr (1, [.long (0), .long (0), .long (0), .long (0), .int (iI (((0 : Nat) : Int)))]))) (h0) (.inr (3, [.ref (n), .ref (n + 1), .long (0), .int (iI (((0 : Nat) : Int))), .int (bI (false))]))) (n + 1) (.inr (2, [.ref (n + 2), .int (iI (((0 : Nat) : Int)))]))) (n + 2) (.inl (ta 0, 200, .inl (fun _ => (0 : Int32))))) H := fw_P.eqw (fw_swap (by omega) (fw_swap (by omega) (fw_twice _ _ _ _))) hP
  exact fw_vret hx hb hr hlocks hP hS dX3_init_26 (Nat.le_of_ble_eq_true rfl) (Nat.le_of_ble_eq_true rfl) ⟨rfl, rfl, rfl⟩
set_option maxHeartbeats 4000000 in
set_option maxRecDepth 100000 in
theorem cm_Coin_tell (l : Launch) (D : va_G) (ta : Nat → ClassId) (B n : Nat) (w : fw_W) (h0 : Nat) (ka : Nat) (sa : Nat) (v : Int64) (ht : Int32) (fi : Bool) (v2 : Int64) (ht2 : Int32) (fi2 : Bool) (e0 : w (h0) = some (.inr (3, [.ref (ka), .ref (sa), .long (v), .int (ht), .int (bI (fi))])))  : fw_C l D vwCl (tyL ta) B yX3_tell cX3_tell 5 none ({ frames := 0, cells := 0, slots := 0, locals := 0 } : Room) [.ref (h0), .long (v2), .int (ht2), .int (bI (fi2))] n w (fun r w1 n1 => r = none ∧ w1 = fw_up (w) (h0) (.inr (3, [.ref (ka), .ref (sa), .long (v2), .int (ht2), .int (bI (fi2))])) ∧ n1 = n) := by
  refine fw_enter (by decide) (Nat.le_of_ble_eq_true rfl) ?_
  intro p e s m below meth c hx hb hr hml hown hlocks hin hG hts hK H locs hP hS ls hl
  have hown : s.vm.findClass RX3 = some m.cls := hown
  replace hl : lv_has ls 5 [(0, .ref (h0)), (1, .long (v2)), (3, .int (ht2)), (4, .int (bI (fi2)))] := hl
  have lt_e0 := hP.lt e0
  refine lv_aload_n hx hb dX3_tell_0 rfl (lv_at hl 0 rfl) ?_
  refine lv_lload_n hx hb dX3_tell_1 rfl (lv_at hl 1 rfl) ?_
  refine fw_put (ci := 3) (fs := [.ref (ka), .ref (sa), .long (v), .int (ht), .int (bI (fi))]) (k := 2) (v := .long (v2)) (C := RX3) (T := TX3) (N := 5) hx hb hts inFX3 tyX3 tyX3_ok nmX3 hown hK hP hS e0 rfl (by decide) mFX3_23 rfl rfl rfl rfl (Nat.le_of_ble_eq_true rfl) dX3_tell_2 (fun H locs hP hS => ?_)
  have hP : fw_P D vwCl B (n) (fw_up (w) (h0) (.inr (3, [.ref (ka), .ref (sa), .long (v2), .int (ht), .int (bI (fi))]))) H := hP
  refine lv_aload_n hx hb dX3_tell_5 rfl (lv_at hl 0 rfl) ?_
  refine lv_iload_n hx hb dX3_tell_6 rfl (lv_at hl 2 rfl) ?_
  refine fw_put (ci := 3) (fs := [.ref (ka), .ref (sa), .long (v2), .int (ht), .int (bI (fi))]) (k := 3) (v := .int (ht2)) (C := RX3) (T := TX3) (N := 5) hx hb hts inFX3 tyX3 tyX3_ok nmX3 hown hK hP hS (fw_same _ _ _) rfl (by decide) mFX3_27 rfl rfl rfl rfl (Nat.le_of_ble_eq_true rfl) dX3_tell_7 (fun H locs hP hS => ?_)
  have hP : fw_P D vwCl B (n) (fw_up (w) (h0) (.inr (3, [.ref (ka), .ref (sa), .long (v2), .int (ht2), .int (bI (fi))]))) H := fw_P.eqw (fw_twice _ _ _ _) hP
  refine lv_aload_n hx hb dX3_tell_10 rfl (lv_at hl 0 rfl) ?_
  refine lv_iload hx hb dX3_tell_11 (lv_at hl 3 rfl) ?_
  refine fw_put (ci := 3) (fs := [.ref (ka), .ref (sa), .long (v2), .int (ht2), .int (bI (fi))]) (k := 4) (v := .int (bI (fi2))) (C := RX3) (T := TX3) (N := 5) hx hb hts inFX3 tyX3 tyX3_ok nmX3 hown hK hP hS (fw_same _ _ _) rfl (by decide) mFX3_31 rfl rfl (bI_narrow _) (bI_fits _) (Nat.le_of_ble_eq_true rfl) dX3_tell_13 (fun H locs hP hS => ?_)
  have hP : fw_P D vwCl B (n) (fw_up (w) (h0) (.inr (3, [.ref (ka), .ref (sa), .long (v2), .int (ht2), .int (bI (fi2))]))) H := fw_P.eqw (fw_twice _ _ _ _) hP
  exact fw_vret hx hb hr hlocks hP hS dX3_tell_16 (Nat.le_of_ble_eq_true rfl) (Nat.le_of_ble_eq_true rfl) ⟨rfl, rfl, rfl⟩
