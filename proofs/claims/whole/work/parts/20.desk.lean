set_option maxHeartbeats 4000000 in
set_option maxRecDepth 100000 in
theorem cm_limit (l : Launch) (D : va_G) (ta : Nat → ClassId) (B n : Nat) (w : fw_W) (z : Int)  (hz : iK z) : fw_C l D vwCl (tyL ta) B yX0_unspentLimit cX0_unspentLimit 1 (some .int) ({ frames := 0, cells := 0, slots := 0, locals := 0 } : Room) [.int (iI (z))] n w (fun r w1 n1 => r = some (.int (iI (((ulim z : Nat) : Int)))) ∧ w1 = w ∧ n1 = n) := by
  refine fw_enter (by decide) (Nat.le_of_ble_eq_true rfl) ?_
  intro p e s m below meth c hx hb hr hml hown hlocks hin hG hts hK H locs hP hS ls hl
  have hown : s.vm.findClass RX0 = some m.cls := hown
  replace hl : lv_has ls 1 [(0, .int (iI (z)))] := hl
  obtain ⟨hz1, hz2⟩ := hz
  refine lv_iload_n hx hb dX0_unspentLimit_0 rfl (lv_at hl 0 rfl) ?_
  refine lv_iconst (v := (iI (((2 : Nat) : Int)))) hx hb dX0_unspentLimit_1 rfl ?_
  refine fn_icmp_lt (x := z) (y := ((2 : Nat) : Int)) (tgt := 16) hx hb dX0_unspentLimit_2 (by decide) ⟨by omega, by omega⟩ ⟨by omega, by omega⟩ (fun c1 => ?_) (fun c1 => ?_)
  · refine lv_bipush (v := (iI (((60 : Nat) : Int)))) hx hb dX0_unspentLimit_16 (by decide) ?_
    exact fw_iret hx hb hr hlocks hP hS dX0_unspentLimit_18 (Nat.le_of_ble_eq_true rfl) (Nat.le_of_ble_eq_true rfl) ⟨by rw [show ulim z = 60 by unfold ulim; rw [if_neg (by omega)]], rfl, rfl⟩
  · refine lv_iload_n hx hb dX0_unspentLimit_5 rfl (lv_at hl 0 rfl) ?_
    refine lv_sipush (v := (iI (((200 : Nat) : Int)))) hx hb dX0_unspentLimit_6 (by decide) ?_
    refine fn_icmp_gt (x := z) (y := ((200 : Nat) : Int)) (tgt := 16) hx hb dX0_unspentLimit_9 (by decide) ⟨by omega, by omega⟩ ⟨by omega, by omega⟩ (fun c2 => ?_) (fun c2 => ?_)
    · refine lv_bipush (v := (iI (((60 : Nat) : Int)))) hx hb dX0_unspentLimit_16 (by decide) ?_
      exact fw_iret hx hb hr hlocks hP hS dX0_unspentLimit_18 (Nat.le_of_ble_eq_true rfl) (Nat.le_of_ble_eq_true rfl) ⟨by rw [show ulim z = 60 by unfold ulim; rw [if_neg (by omega)]], rfl, rfl⟩
    · refine lv_iload_n hx hb dX0_unspentLimit_12 rfl (lv_at hl 0 rfl) ?_
      refine lv_goto (tgt := 18) hx hb dX0_unspentLimit_13 (by decide) ?_
      exact fw_iret hx hb hr hlocks hP hS dX0_unspentLimit_18 (Nat.le_of_ble_eq_true rfl) (Nat.le_of_ble_eq_true rfl) ⟨by rw [show ((ulim z : Nat) : Int) = z by unfold ulim; rw [if_pos (by omega)]; omega], rfl, rfl⟩
set_option maxHeartbeats 4000000 in
set_option maxRecDepth 100000 in
theorem cm_Desk_init (l : Launch) (D : va_G) (ta : Nat → ClassId) (B n : Nat) (w : fw_W) (h0 : Nat) (z : Int) (e0 : w (h0) = some (.inr (0, [.null, .null, .int (iI (((0 : Nat) : Int))), .null, .null, .null, .int (iI (((0 : Nat) : Int))), .int (bI (false))]))) (hz : iK z) : fw_C l D vwCl (tyL ta) B yX0_init cX0_init 3 none ({ frames := 2, cells := 11, slots := 3100, locals := 45 } : Room) [.ref (h0), .int (iI (z))] n w (fun r w1 n1 => r = none ∧ w1 = fw_up (fw_up (fw_up (fw_up (fw_up (fw_up (fw_up (fw_up (fw_up (fw_up (fw_up (fw_up (w) (n) (.inr (1, [.long (0), .long (0), .long (0), .long (0), .int (iI (((0 : Nat) : Int)))]))) (h0) (.inr (0, [.ref (n), .ref (n + 1), .int (iI (((2 * ulim z : Nat) : Int))), .ref (n + 3), .ref (n + 5), .ref (n + 7), .int (iI (((0 : Nat) : Int))), .int (bI (false))]))) (n + 1) (.inr (2, [.ref (n + 2), .int (iI (((0 : Nat) : Int)))]))) (n + 2) (.inl (ta 0, 200, .inl (fun _ => (0 : Int32))))) (n + 3) (.inr (4, [.ref (n + 4), .int (iI (((0 : Nat) : Int)))]))) (n + 4) (.inl (ta 3, ((ulim z)), .inr (.inr (.inr (.inr (fun _ => (none : Option Nat)))))))) (n + 5) (.inr (4, [.ref (n + 6), .int (iI (((0 : Nat) : Int)))]))) (n + 6) (.inl (ta 3, ((3 * ulim z)), .inr (.inr (.inr (.inr (fun _ => (none : Option Nat)))))))) (n + 7) (.inr (5, [.ref (n + 9), .ref (n + 10), .ref (n + 8), .int (iI (((0 : Nat) : Int))), .int (iI (((0 : Nat) : Int))), .int (iI (((0 : Nat) : Int)))]))) (n + 8) (.inl (ta 1, 64, .inl (fun z_ => iI (((fun _ => 0) z_ : Nat) : Int))))) (n + 9) (.inl (ta 3, ((5 * ulim z)), .inr (.inr (.inr (.inr (fun _ => (none : Option Nat)))))))) (n + 10) (.inl (ta 2, ((5 * ulim z)), .inl (fun z_ => bI ((fun _ => false) z_)))) ∧ n1 = n + 11) := by
  refine fw_enter (by decide) (Nat.le_of_ble_eq_true rfl) ?_
  intro p e s m below meth c hx hb hr hml hown hlocks hin hG hts hK H locs hP hS ls hl
  have hown : s.vm.findClass RX0 = some m.cls := hown
  replace hl : lv_has ls 3 [(0, .ref (h0)), (1, .int (iI (z)))] := hl
  have lt_e0 := hP.lt e0
  have hU := ulim_le z
  refine lv_aload_n hx hb dX0_init_0 rfl (lv_at hl 0 rfl) ?_
  refine W.objInit hx hb hown (hts _ mLX0_1) (hts _ mI_obj) (hts _ mC_obj) rfl (by rw [hml]; exact hl.1) rfl dX0_init_1 (Nat.le_of_ble_eq_true rfl) (Nat.le_of_ble_eq_true rfl) ?_
  refine W.eq (g2 := F0 m 4 ls []) rfl ?_
  refine lv_aload_n hx hb dX0_init_4 rfl (lv_at hl 0 rfl) ?_
  refine fw_new (ci := 1) (fs := [.long (0), .long (0), .long (0), .long (0), .int (iI (((0 : Nat) : Int)))]) (C := RX1) (T := TX1) (N := 5) hx hb hts inFX1 tyX1 tyX1_ok hown mKX0_7 mIX1 mZX1 hK hP hS rfl (by decide +kernel) (Nat.le_of_ble_eq_true rfl) (by dsimp only; omega) dX0_init_5 (fun H hP hS => ?_)
  have hP : fw_P D vwCl B (n + 1) (fw_up (w) (n) (.inr (1, [.long (0), .long (0), .long (0), .long (0), .int (iI (((0 : Nat) : Int)))]))) H := hP
  refine lv_dup hx hb dX0_init_8 rfl ?_
  refine fw_callIN (b := n) (As := []) (rest := [.ref (n), .ref (h0)]) hx hb hml hown hts hK hG hP hS hl mM_X1_init mV_X1_init rfl mNX0_9 (cm_Key_init l D ta B (n + 1) (fw_up (w) (n) (.inr (1, [.long (0), .long (0), .long (0), .long (0), .int (iI (((0 : Nat) : Int)))]))) (n)  ) rfl rfl (Nat.le_of_ble_eq_true rfl) ⟨Nat.le_of_ble_eq_true rfl, Nat.le_of_ble_eq_true rfl⟩ ⟨Nat.le_of_ble_eq_true rfl, by dsimp only; omega⟩ dX0_init_9 (fun r w1 n1 H locs hq hP hS => ?_)
  obtain ⟨rfl, hw1, hn1⟩ := hq
  replace hw1 := hw1.symm; replace hn1 := hn1.symm; subst hw1; subst hn1
  refine W.eq (g2 := F0 m 12 ls [.ref (n), .ref (h0)]) rfl ?_
  refine fw_putF (ci := 0) (fs := [.null, .null, .int (iI (((0 : Nat) : Int))), .null, .null, .null, .int (iI (((0 : Nat) : Int))), .int (bI (false))]) (k := 0) (v := .ref (n)) (C := RX0) (T := TX0) (N := 8) hx hb hts inFX0 tyX0 tyX0_ok nmX0 hown hin hK hP hS (fw_at (by omega) e0) rfl (by decide) mFX0_10 rfl rfl rfl rfl rfl (Nat.le_of_ble_eq_true rfl) dX0_init_12 (fun H locs hP hS => ?_)
  have hP : fw_P D vwCl B (n + 1) (fw_up (fw_up (w) (n) (.inr (1, [.long (0), .long (0), .long (0), .long (0), .int (iI (((0 : Nat) : Int)))]))) (h0) (.inr (0, [.ref (n), .null, .int (iI (((0 : Nat) : Int))), .null, .null, .null, .int (iI (((0 : Nat) : Int))), .int (bI (false))]))) H := hP
  refine lv_aload_n hx hb dX0_init_15 rfl (lv_at hl 0 rfl) ?_
  refine fw_new (ci := 2) (fs := [.null, .int (iI (((0 : Nat) : Int)))]) (C := RX2) (T := TX2) (N := 2) hx hb hts inFX2 tyX2 tyX2_ok hown mKX0_16 mIX2 mZX2 hK hP hS rfl (by decide +kernel) (Nat.le_of_ble_eq_true rfl) (by dsimp only; omega) dX0_init_16 (fun H hP hS => ?_)
  have hP : fw_P D vwCl B (n + 2) (fw_up (fw_up (fw_up (w) (n) (.inr (1, [.long (0), .long (0), .long (0), .long (0), .int (iI (((0 : Nat) : Int)))]))) (h0) (.inr (0, [.ref (n), .null, .int (iI (((0 : Nat) : Int))), .null, .null, .null, .int (iI (((0 : Nat) : Int))), .int (bI (false))]))) (n + 1) (.inr (2, [.null, .int (iI (((0 : Nat) : Int)))]))) H := hP
  refine lv_dup hx hb dX0_init_19 rfl ?_
  refine fw_callIN (b := n + 1) (As := []) (rest := [.ref (n + 1), .ref (h0)]) hx hb hml hown hts hK hG hP hS hl mM_X2_init mV_X2_init rfl mNX0_18 (cm_Script_init l D ta B (n + 2) (fw_up (fw_up (fw_up (w) (n) (.inr (1, [.long (0), .long (0), .long (0), .long (0), .int (iI (((0 : Nat) : Int)))]))) (h0) (.inr (0, [.ref (n), .null, .int (iI (((0 : Nat) : Int))), .null, .null, .null, .int (iI (((0 : Nat) : Int))), .int (bI (false))]))) (n + 1) (.inr (2, [.null, .int (iI (((0 : Nat) : Int)))]))) (n + 1) (fw_same _ _ _) ) rfl rfl (Nat.le_of_ble_eq_true rfl) ⟨Nat.le_of_ble_eq_true rfl, Nat.le_of_ble_eq_true rfl⟩ ⟨Nat.le_of_ble_eq_true rfl, by dsimp only; omega⟩ dX0_init_20 (fun r w2 n1 H locs hq hP hS => ?_)
  obtain ⟨rfl, hw1, hn1⟩ := hq
  replace hw1 := hw1.symm; replace hn1 := hn1.symm; subst hw1; subst hn1
  refine W.eq (g2 := F0 m 23 ls [.ref (n + 1), .ref (h0)]) rfl ?_
  have hP : fw_P D vwCl B (n + 3) (fw_up (fw_up (fw_up (fw_up (w) (n) (.inr (1, [.long (0), .long (0), .long (0), .long (0), .int (iI (((0 : Nat) : Int)))]))) (h0) (.inr (0, [.ref (n), .null, .int (iI (((0 : Nat) : Int))), .null, .null, .null, .int (iI (((0 : Nat) : Int))), .int (bI (false))]))) (n + 1) (.inr (2, [.ref (n + 2), .int (iI (((0 : Nat) : Int)))]))) (n + 2) (.inl (ta 0, 200, .inl (fun _ => (0 : Int32))))) H := fw_P.eqw (fw_swap (by omega) (fw_twice _ _ _ _)) hP
  refine fw_putF (ci := 0) (fs := [.ref (n), .null, .int (iI (((0 : Nat) : Int))), .null, .null, .null, .int (iI (((0 : Nat) : Int))), .int (bI (false))]) (k := 1) (v := .ref (n + 1)) (C := RX0) (T := TX0) (N := 8) hx hb hts inFX0 tyX0 tyX0_ok nmX0 hown hin hK hP hS (fw_at (by omega) (fw_at (by omega) (fw_same _ _ _))) rfl (by decide) mFX0_19 rfl rfl rfl rfl rfl (Nat.le_of_ble_eq_true rfl) dX0_init_23 (fun H locs hP hS => ?_)
  have hP : fw_P D vwCl B (n + 3) (fw_up (fw_up (fw_up (fw_up (w) (n) (.inr (1, [.long (0), .long (0), .long (0), .long (0), .int (iI (((0 : Nat) : Int)))]))) (h0) (.inr (0, [.ref (n), .ref (n + 1), .int (iI (((0 : Nat) : Int))), .null, .null, .null, .int (iI (((0 : Nat) : Int))), .int (bI (false))]))) (n + 1) (.inr (2, [.ref (n + 2), .int (iI (((0 : Nat) : Int)))]))) (n + 2) (.inl (ta 0, 200, .inl (fun _ => (0 : Int32))))) H := fw_P.eqw (fw_swap (by omega) (fw_swap (by omega) (fw_twice _ _ _ _))) hP
  refine lv_iload_n hx hb dX0_init_26 rfl (lv_at hl 1 rfl) ?_
  refine fw_callS (As := [.int (iI (z))]) (rest := []) hx hb hml hown hts hK hG hP hS hl mM_X0_unspentLimit mV_X0_unspentLimit mLX0_23 (cm_limit l D ta B (n + 3) (fw_up (fw_up (fw_up (fw_up (w) (n) (.inr (1, [.long (0), .long (0), .long (0), .long (0), .int (iI (((0 : Nat) : Int)))]))) (h0) (.inr (0, [.ref (n), .ref (n + 1), .int (iI (((0 : Nat) : Int))), .null, .null, .null, .int (iI (((0 : Nat) : Int))), .int (bI (false))]))) (n + 1) (.inr (2, [.ref (n + 2), .int (iI (((0 : Nat) : Int)))]))) (n + 2) (.inl (ta 0, 200, .inl (fun _ => (0 : Int32))))) (z)  hz) rfl rfl (Nat.le_of_ble_eq_true rfl) ⟨Nat.le_of_ble_eq_true rfl, Nat.le_of_ble_eq_true rfl⟩ ⟨Nat.le_of_ble_eq_true rfl, by dsimp only; omega⟩ dX0_init_27 (fun r w3 n1 H locs hq hP hS => ?_)
  obtain ⟨rfl, hw1, hn1⟩ := hq
  replace hw1 := hw1.symm; replace hn1 := hn1.symm; subst hw1; subst hn1
  refine W.eq (g2 := F0 m 30 ls [.int (iI (((ulim z : Nat) : Int)))]) rfl ?_
  refine lv_istore_n (lv' := [(2, .int (iI (((ulim z : Nat) : Int)))), (0, .ref (h0)), (1, .int (iI (z)))]) hx hb dX0_init_30 rfl hl (by decide) rfl (fun ls hl => ?_)
  refine lv_aload_n hx hb dX0_init_31 rfl (lv_at hl 1 rfl) ?_
  refine lv_iconst (v := (iI (((2 : Nat) : Int)))) hx hb dX0_init_32 rfl ?_
  refine lv_iload_n hx hb dX0_init_33 rfl (lv_at hl 0 rfl) ?_
  refine fn_imul (x := ((2 : Nat) : Int)) (y := ((ulim z : Nat) : Int)) hx hb dX0_init_34 ?_
  refine fn_topz (y := (((2) * (ulim z) : Nat) : Int)) (by omega) ?_
  refine fn_topz (y := ((2 * ulim z : Nat) : Int)) (by omega) ?_
  refine fw_putF (ci := 0) (fs := [.ref (n), .ref (n + 1), .int (iI (((0 : Nat) : Int))), .null, .null, .null, .int (iI (((0 : Nat) : Int))), .int (bI (false))]) (k := 2) (v := .int (iI (((2 * ulim z : Nat) : Int)))) (C := RX0) (T := TX0) (N := 8) hx hb hts inFX0 tyX0 tyX0_ok nmX0 hown hin hK hP hS (fw_at (by omega) (fw_at (by omega) (fw_same _ _ _))) rfl (by decide) mFX0_27 rfl rfl rfl rfl rfl (Nat.le_of_ble_eq_true rfl) dX0_init_35 (fun H locs hP hS => ?_)
  have hP : fw_P D vwCl B (n + 3) (fw_up (fw_up (fw_up (fw_up (w) (n) (.inr (1, [.long (0), .long (0), .long (0), .long (0), .int (iI (((0 : Nat) : Int)))]))) (h0) (.inr (0, [.ref (n), .ref (n + 1), .int (iI (((2 * ulim z : Nat) : Int))), .null, .null, .null, .int (iI (((0 : Nat) : Int))), .int (bI (false))]))) (n + 1) (.inr (2, [.ref (n + 2), .int (iI (((0 : Nat) : Int)))]))) (n + 2) (.inl (ta 0, 200, .inl (fun _ => (0 : Int32))))) H := fw_P.eqw (fw_swap (by omega) (fw_swap (by omega) (fw_twice _ _ _ _))) hP
  refine lv_aload_n hx hb dX0_init_38 rfl (lv_at hl 1 rfl) ?_
  refine fw_new (ci := 4) (fs := [.null, .int (iI (((0 : Nat) : Int)))]) (C := RX4) (T := TX4) (N := 2) hx hb hts inFX4 tyX4 tyX4_ok hown mKX0_31 mIX4 mZX4 hK hP hS rfl (by decide +kernel) (Nat.le_of_ble_eq_true rfl) (by dsimp only; omega) dX0_init_39 (fun H hP hS => ?_)
  have hP : fw_P D vwCl B (n + 4) (fw_up (fw_up (fw_up (fw_up (fw_up (w) (n) (.inr (1, [.long (0), .long (0), .long (0), .long (0), .int (iI (((0 : Nat) : Int)))]))) (h0) (.inr (0, [.ref (n), .ref (n + 1), .int (iI (((2 * ulim z : Nat) : Int))), .null, .null, .null, .int (iI (((0 : Nat) : Int))), .int (bI (false))]))) (n + 1) (.inr (2, [.ref (n + 2), .int (iI (((0 : Nat) : Int)))]))) (n + 2) (.inl (ta 0, 200, .inl (fun _ => (0 : Int32))))) (n + 3) (.inr (4, [.null, .int (iI (((0 : Nat) : Int)))]))) H := hP
  refine lv_dup hx hb dX0_init_42 rfl ?_
  refine lv_iload_n hx hb dX0_init_43 rfl (lv_at hl 0 rfl) ?_
  refine fw_callI (b := n + 3) (As := [.int (iI ((((ulim z) : Nat) : Int)))]) (rest := [.ref (n + 3), .ref (h0)]) hx hb hml hown hts hK hG hP hS hl mM_X4_init mV_X4_init rfl mLX0_33 (cm_Pile_init l D ta B (n + 4) (fw_up (fw_up (fw_up (fw_up (fw_up (w) (n) (.inr (1, [.long (0), .long (0), .long (0), .long (0), .int (iI (((0 : Nat) : Int)))]))) (h0) (.inr (0, [.ref (n), .ref (n + 1), .int (iI (((2 * ulim z : Nat) : Int))), .null, .null, .null, .int (iI (((0 : Nat) : Int))), .int (bI (false))]))) (n + 1) (.inr (2, [.ref (n + 2), .int (iI (((0 : Nat) : Int)))]))) (n + 2) (.inl (ta 0, 200, .inl (fun _ => (0 : Int32))))) (n + 3) (.inr (4, [.null, .int (iI (((0 : Nat) : Int)))]))) (n + 3) (ulim z) (fw_same _ _ _) (by omega)) rfl rfl (Nat.le_of_ble_eq_true rfl) ⟨Nat.le_of_ble_eq_true rfl, Nat.le_of_ble_eq_true rfl⟩ ⟨Nat.le_of_ble_eq_true rfl, by dsimp only; omega⟩ dX0_init_44 (fun r w4 n1 H locs hq hP hS => ?_)
  obtain ⟨rfl, hw1, hn1⟩ := hq
  replace hw1 := hw1.symm; replace hn1 := hn1.symm; subst hw1; subst hn1
  refine W.eq (g2 := F0 m 47 ls [.ref (n + 3), .ref (h0)]) rfl ?_
  have hP : fw_P D vwCl B (n + 5) (fw_up (fw_up (fw_up (fw_up (fw_up (fw_up (w) (n) (.inr (1, [.long (0), .long (0), .long (0), .long (0), .int (iI (((0 : Nat) : Int)))]))) (h0) (.inr (0, [.ref (n), .ref (n + 1), .int (iI (((2 * ulim z : Nat) : Int))), .null, .null, .null, .int (iI (((0 : Nat) : Int))), .int (bI (false))]))) (n + 1) (.inr (2, [.ref (n + 2), .int (iI (((0 : Nat) : Int)))]))) (n + 2) (.inl (ta 0, 200, .inl (fun _ => (0 : Int32))))) (n + 3) (.inr (4, [.ref (n + 4), .int (iI (((0 : Nat) : Int)))]))) (n + 4) (.inl (ta 3, ((ulim z)), .inr (.inr (.inr (.inr (fun _ => (none : Option Nat)))))))) H := fw_P.eqw (fw_swap (by omega) (fw_twice _ _ _ _)) hP
  refine fw_putF (ci := 0) (fs := [.ref (n), .ref (n + 1), .int (iI (((2 * ulim z : Nat) : Int))), .null, .null, .null, .int (iI (((0 : Nat) : Int))), .int (bI (false))]) (k := 3) (v := .ref (n + 3)) (C := RX0) (T := TX0) (N := 8) hx hb hts inFX0 tyX0 tyX0_ok nmX0 hown hin hK hP hS (fw_at (by omega) (fw_at (by omega) (fw_at (by omega) (fw_at (by omega) (fw_same _ _ _))))) rfl (by decide) mFX0_36 rfl rfl rfl rfl rfl (Nat.le_of_ble_eq_true rfl) dX0_init_47 (fun H locs hP hS => ?_)
  have hP : fw_P D vwCl B (n + 5) (fw_up (fw_up (fw_up (fw_up (fw_up (fw_up (w) (n) (.inr (1, [.long (0), .long (0), .long (0), .long (0), .int (iI (((0 : Nat) : Int)))]))) (h0) (.inr (0, [.ref (n), .ref (n + 1), .int (iI (((2 * ulim z : Nat) : Int))), .ref (n + 3), .null, .null, .int (iI (((0 : Nat) : Int))), .int (bI (false))]))) (n + 1) (.inr (2, [.ref (n + 2), .int (iI (((0 : Nat) : Int)))]))) (n + 2) (.inl (ta 0, 200, .inl (fun _ => (0 : Int32))))) (n + 3) (.inr (4, [.ref (n + 4), .int (iI (((0 : Nat) : Int)))]))) (n + 4) (.inl (ta 3, ((ulim z)), .inr (.inr (.inr (.inr (fun _ => (none : Option Nat)))))))) H := fw_P.eqw (fw_swap (by omega) (fw_swap (by omega) (fw_swap (by omega) (fw_swap (by omega) (fw_twice _ _ _ _))))) hP
  refine lv_aload_n hx hb dX0_init_50 rfl (lv_at hl 1 rfl) ?_
  refine fw_new (ci := 4) (fs := [.null, .int (iI (((0 : Nat) : Int)))]) (C := RX4) (T := TX4) (N := 2) hx hb hts inFX4 tyX4 tyX4_ok hown mKX0_31 mIX4 mZX4 hK hP hS rfl (by decide +kernel) (Nat.le_of_ble_eq_true rfl) (by dsimp only; omega) dX0_init_51 (fun H hP hS => ?_)
  have hP : fw_P D vwCl B (n + 6) (fw_up (fw_up (fw_up (fw_up (fw_up (fw_up (fw_up (w) (n) (.inr (1, [.long (0), .long (0), .long (0), .long (0), .int (iI (((0 : Nat) : Int)))]))) (h0) (.inr (0, [.ref (n), .ref (n + 1), .int (iI (((2 * ulim z : Nat) : Int))), .ref (n + 3), .null, .null, .int (iI (((0 : Nat) : Int))), .int (bI (false))]))) (n + 1) (.inr (2, [.ref (n + 2), .int (iI (((0 : Nat) : Int)))]))) (n + 2) (.inl (ta 0, 200, .inl (fun _ => (0 : Int32))))) (n + 3) (.inr (4, [.ref (n + 4), .int (iI (((0 : Nat) : Int)))]))) (n + 4) (.inl (ta 3, ((ulim z)), .inr (.inr (.inr (.inr (fun _ => (none : Option Nat)))))))) (n + 5) (.inr (4, [.null, .int (iI (((0 : Nat) : Int)))]))) H := hP
  refine lv_dup hx hb dX0_init_54 rfl ?_
  refine lv_iload_n hx hb dX0_init_55 rfl (lv_at hl 0 rfl) ?_
  refine lv_aload_n hx hb dX0_init_56 rfl (lv_at hl 1 rfl) ?_
  refine fw_get (ci := 0) (fs := [.ref (n), .ref (n + 1), .int (iI (((2 * ulim z : Nat) : Int))), .ref (n + 3), .null, .null, .int (iI (((0 : Nat) : Int))), .int (bI (false))]) (k := 2) (v := .int (iI (((2 * ulim z : Nat) : Int)))) (C := RX0) (T := TX0) (N := 8) hx hb hts inFX0 hown hK hP (fw_at (by omega) (fw_at (by omega) (fw_at (by omega) (fw_at (by omega) (fw_at (by omega) (fw_same _ _ _)))))) rfl (by decide) mFX0_27 rfl dX0_init_57 ?_
  refine fn_iadd (x := ((ulim z : Nat) : Int)) (y := ((2 * ulim z : Nat) : Int)) hx hb dX0_init_60 ?_
  refine fn_topz (y := ((ulim z + (2 * ulim z) : Nat) : Int)) (by omega) ?_
  refine fn_topz (y := ((3 * ulim z : Nat) : Int)) (by omega) ?_
  refine fw_callI (b := n + 5) (As := [.int (iI ((((3 * ulim z) : Nat) : Int)))]) (rest := [.ref (n + 5), .ref (h0)]) hx hb hml hown hts hK hG hP hS hl mM_X4_init mV_X4_init rfl mLX0_33 (cm_Pile_init l D ta B (n + 6) (fw_up (fw_up (fw_up (fw_up (fw_up (fw_up (fw_up (w) (n) (.inr (1, [.long (0), .long (0), .long (0), .long (0), .int (iI (((0 : Nat) : Int)))]))) (h0) (.inr (0, [.ref (n), .ref (n + 1), .int (iI (((2 * ulim z : Nat) : Int))), .ref (n + 3), .null, .null, .int (iI (((0 : Nat) : Int))), .int (bI (false))]))) (n + 1) (.inr (2, [.ref (n + 2), .int (iI (((0 : Nat) : Int)))]))) (n + 2) (.inl (ta 0, 200, .inl (fun _ => (0 : Int32))))) (n + 3) (.inr (4, [.ref (n + 4), .int (iI (((0 : Nat) : Int)))]))) (n + 4) (.inl (ta 3, ((ulim z)), .inr (.inr (.inr (.inr (fun _ => (none : Option Nat)))))))) (n + 5) (.inr (4, [.null, .int (iI (((0 : Nat) : Int)))]))) (n + 5) (3 * ulim z) (fw_same _ _ _) (by omega)) rfl rfl (Nat.le_of_ble_eq_true rfl) ⟨Nat.le_of_ble_eq_true rfl, Nat.le_of_ble_eq_true rfl⟩ ⟨Nat.le_of_ble_eq_true rfl, by dsimp only; omega⟩ dX0_init_61 (fun r w5 n1 H locs hq hP hS => ?_)
  obtain ⟨rfl, hw1, hn1⟩ := hq
  replace hw1 := hw1.symm; replace hn1 := hn1.symm; subst hw1; subst hn1
  refine W.eq (g2 := F0 m 64 ls [.ref (n + 5), .ref (h0)]) rfl ?_
  have hP : fw_P D vwCl B (n + 7) (fw_up (fw_up (fw_up (fw_up (fw_up (fw_up (fw_up (fw_up (w) (n) (.inr (1, [.long (0), .long (0), .long (0), .long (0), .int (iI (((0 : Nat) : Int)))]))) (h0) (.inr (0, [.ref (n), .ref (n + 1), .int (iI (((2 * ulim z : Nat) : Int))), .ref (n + 3), .null, .null, .int (iI (((0 : Nat) : Int))), .int (bI (false))]))) (n + 1) (.inr (2, [.ref (n + 2), .int (iI (((0 : Nat) : Int)))]))) (n + 2) (.inl (ta 0, 200, .inl (fun _ => (0 : Int32))))) (n + 3) (.inr (4, [.ref (n + 4), .int (iI (((0 : Nat) : Int)))]))) (n + 4) (.inl (ta 3, ((ulim z)), .inr (.inr (.inr (.inr (fun _ => (none : Option Nat)))))))) (n + 5) (.inr (4, [.ref (n + 6), .int (iI (((0 : Nat) : Int)))]))) (n + 6) (.inl (ta 3, ((3 * ulim z)), .inr (.inr (.inr (.inr (fun _ => (none : Option Nat)))))))) H := fw_P.eqw (fw_swap (by omega) (fw_twice _ _ _ _)) hP
  refine fw_putF (ci := 0) (fs := [.ref (n), .ref (n + 1), .int (iI (((2 * ulim z : Nat) : Int))), .ref (n + 3), .null, .null, .int (iI (((0 : Nat) : Int))), .int (bI (false))]) (k := 4) (v := .ref (n + 5)) (C := RX0) (T := TX0) (N := 8) hx hb hts inFX0 tyX0 tyX0_ok nmX0 hown hin hK hP hS (fw_at (by omega) (fw_at (by omega) (fw_at (by omega) (fw_at (by omega) (fw_at (by omega) (fw_at (by omega) (fw_same _ _ _))))))) rfl (by decide) mFX0_40 rfl rfl rfl rfl rfl (Nat.le_of_ble_eq_true rfl) dX0_init_64 (fun H locs hP hS => ?_)
  have hP : fw_P D vwCl B (n + 7) (fw_up (fw_up (fw_up (fw_up (fw_up (fw_up (fw_up (fw_up (w) (n) (.inr (1, [.long (0), .long (0), .long (0), .long (0), .int (iI (((0 : Nat) : Int)))]))) (h0) (.inr (0, [.ref (n), .ref (n + 1), .int (iI (((2 * ulim z : Nat) : Int))), .ref (n + 3), .ref (n + 5), .null, .int (iI (((0 : Nat) : Int))), .int (bI (false))]))) (n + 1) (.inr (2, [.ref (n + 2), .int (iI (((0 : Nat) : Int)))]))) (n + 2) (.inl (ta 0, 200, .inl (fun _ => (0 : Int32))))) (n + 3) (.inr (4, [.ref (n + 4), .int (iI (((0 : Nat) : Int)))]))) (n + 4) (.inl (ta 3, ((ulim z)), .inr (.inr (.inr (.inr (fun _ => (none : Option Nat)))))))) (n + 5) (.inr (4, [.ref (n + 6), .int (iI (((0 : Nat) : Int)))]))) (n + 6) (.inl (ta 3, ((3 * ulim z)), .inr (.inr (.inr (.inr (fun _ => (none : Option Nat)))))))) H := fw_P.eqw (fw_swap (by omega) (fw_swap (by omega) (fw_swap (by omega) (fw_swap (by omega) (fw_swap (by omega) (fw_swap (by omega) (fw_twice _ _ _ _))))))) hP
  refine lv_aload_n hx hb dX0_init_67 rfl (lv_at hl 1 rfl) ?_
  refine fw_new (ci := 5) (fs := [.null, .null, .null, .int (iI (((0 : Nat) : Int))), .int (iI (((0 : Nat) : Int))), .int (iI (((0 : Nat) : Int)))]) (C := RX5) (T := TX5) (N := 6) hx hb hts inFX5 tyX5 tyX5_ok hown mKX0_43 mIX5 mZX5 hK hP hS rfl (by decide +kernel) (Nat.le_of_ble_eq_true rfl) (by dsimp only; omega) dX0_init_68 (fun H hP hS => ?_)
  have hP : fw_P D vwCl B (n + 8) (fw_up (fw_up (fw_up (fw_up (fw_up (fw_up (fw_up (fw_up (fw_up (w) (n) (.inr (1, [.long (0), .long (0), .long (0), .long (0), .int (iI (((0 : Nat) : Int)))]))) (h0) (.inr (0, [.ref (n), .ref (n + 1), .int (iI (((2 * ulim z : Nat) : Int))), .ref (n + 3), .ref (n + 5), .null, .int (iI (((0 : Nat) : Int))), .int (bI (false))]))) (n + 1) (.inr (2, [.ref (n + 2), .int (iI (((0 : Nat) : Int)))]))) (n + 2) (.inl (ta 0, 200, .inl (fun _ => (0 : Int32))))) (n + 3) (.inr (4, [.ref (n + 4), .int (iI (((0 : Nat) : Int)))]))) (n + 4) (.inl (ta 3, ((ulim z)), .inr (.inr (.inr (.inr (fun _ => (none : Option Nat)))))))) (n + 5) (.inr (4, [.ref (n + 6), .int (iI (((0 : Nat) : Int)))]))) (n + 6) (.inl (ta 3, ((3 * ulim z)), .inr (.inr (.inr (.inr (fun _ => (none : Option Nat)))))))) (n + 7) (.inr (5, [.null, .null, .null, .int (iI (((0 : Nat) : Int))), .int (iI (((0 : Nat) : Int))), .int (iI (((0 : Nat) : Int)))]))) H := hP
  refine lv_dup hx hb dX0_init_71 rfl ?_
  refine lv_iload_n hx hb dX0_init_72 rfl (lv_at hl 0 rfl) ?_
  refine lv_iconst (v := (iI (((2 : Nat) : Int)))) hx hb dX0_init_73 rfl ?_
  refine lv_aload_n hx hb dX0_init_74 rfl (lv_at hl 1 rfl) ?_
  refine fw_get (ci := 0) (fs := [.ref (n), .ref (n + 1), .int (iI (((2 * ulim z : Nat) : Int))), .ref (n + 3), .ref (n + 5), .null, .int (iI (((0 : Nat) : Int))), .int (bI (false))]) (k := 2) (v := .int (iI (((2 * ulim z : Nat) : Int)))) (C := RX0) (T := TX0) (N := 8) hx hb hts inFX0 hown hK hP (fw_at (by omega) (fw_at (by omega) (fw_at (by omega) (fw_at (by omega) (fw_at (by omega) (fw_at (by omega) (fw_at (by omega) (fw_same _ _ _)))))))) rfl (by decide) mFX0_27 rfl dX0_init_75 ?_
  refine fn_imul (x := ((2 : Nat) : Int)) (y := ((2 * ulim z : Nat) : Int)) hx hb dX0_init_78 ?_
  refine fn_topz (y := (((2) * (2 * ulim z) : Nat) : Int)) (by omega) ?_
  refine fn_topz (y := ((4 * ulim z : Nat) : Int)) (by omega) ?_
  refine fn_iadd (x := ((ulim z : Nat) : Int)) (y := ((4 * ulim z : Nat) : Int)) hx hb dX0_init_79 ?_
  refine fn_topz (y := ((ulim z + (4 * ulim z) : Nat) : Int)) (by omega) ?_
  refine fn_topz (y := ((5 * ulim z : Nat) : Int)) (by omega) ?_
  refine fw_callI (b := n + 7) (As := [.int (iI ((((5 * ulim z) : Nat) : Int)))]) (rest := [.ref (n + 7), .ref (h0)]) hx hb hml hown hts hK hG hP hS hl mM_X5_init mV_X5_init rfl mLX0_45 (cm_Jrn_init l D ta B (n + 8) (fw_up (fw_up (fw_up (fw_up (fw_up (fw_up (fw_up (fw_up (fw_up (w) (n) (.inr (1, [.long (0), .long (0), .long (0), .long (0), .int (iI (((0 : Nat) : Int)))]))) (h0) (.inr (0, [.ref (n), .ref (n + 1), .int (iI (((2 * ulim z : Nat) : Int))), .ref (n + 3), .ref (n + 5), .null, .int (iI (((0 : Nat) : Int))), .int (bI (false))]))) (n + 1) (.inr (2, [.ref (n + 2), .int (iI (((0 : Nat) : Int)))]))) (n + 2) (.inl (ta 0, 200, .inl (fun _ => (0 : Int32))))) (n + 3) (.inr (4, [.ref (n + 4), .int (iI (((0 : Nat) : Int)))]))) (n + 4) (.inl (ta 3, ((ulim z)), .inr (.inr (.inr (.inr (fun _ => (none : Option Nat)))))))) (n + 5) (.inr (4, [.ref (n + 6), .int (iI (((0 : Nat) : Int)))]))) (n + 6) (.inl (ta 3, ((3 * ulim z)), .inr (.inr (.inr (.inr (fun _ => (none : Option Nat)))))))) (n + 7) (.inr (5, [.null, .null, .null, .int (iI (((0 : Nat) : Int))), .int (iI (((0 : Nat) : Int))), .int (iI (((0 : Nat) : Int)))]))) (n + 7) (5 * ulim z) (fw_same _ _ _) (by omega)) rfl rfl (Nat.le_of_ble_eq_true rfl) ⟨Nat.le_of_ble_eq_true rfl, Nat.le_of_ble_eq_true rfl⟩ ⟨Nat.le_of_ble_eq_true rfl, by dsimp only; omega⟩ dX0_init_80 (fun r w6 n1 H locs hq hP hS => ?_)
  obtain ⟨rfl, hw1, hn1⟩ := hq
  replace hw1 := hw1.symm; replace hn1 := hn1.symm; subst hw1; subst hn1
  refine W.eq (g2 := F0 m 83 ls [.ref (n + 7), .ref (h0)]) rfl ?_
  have hP : fw_P D vwCl B (n + 11) (fw_up (fw_up (fw_up (fw_up (fw_up (fw_up (fw_up (fw_up (fw_up (fw_up (fw_up (fw_up (w) (n) (.inr (1, [.long (0), .long (0), .long (0), .long (0), .int (iI (((0 : Nat) : Int)))]))) (h0) (.inr (0, [.ref (n), .ref (n + 1), .int (iI (((2 * ulim z : Nat) : Int))), .ref (n + 3), .ref (n + 5), .null, .int (iI (((0 : Nat) : Int))), .int (bI (false))]))) (n + 1) (.inr (2, [.ref (n + 2), .int (iI (((0 : Nat) : Int)))]))) (n + 2) (.inl (ta 0, 200, .inl (fun _ => (0 : Int32))))) (n + 3) (.inr (4, [.ref (n + 4), .int (iI (((0 : Nat) : Int)))]))) (n + 4) (.inl (ta 3, ((ulim z)), .inr (.inr (.inr (.inr (fun _ => (none : Option Nat)))))))) (n + 5) (.inr (4, [.ref (n + 6), .int (iI (((0 : Nat) : Int)))]))) (n + 6) (.inl (ta 3, ((3 * ulim z)), .inr (.inr (.inr (.inr (fun _ => (none : Option Nat)))))))) (n + 7) (.inr (5, [.ref (n + 9), .ref (n + 10), .ref (n + 8), .int (iI (((0 : Nat) : Int))), .int (iI (((0 : Nat) : Int))), .int (iI (((0 : Nat) : Int)))]))) (n + 8) (.inl (ta 1, 64, .inl (fun z_ => iI (((fun _ => 0) z_ : Nat) : Int))))) (n + 9) (.inl (ta 3, ((5 * ulim z)), .inr (.inr (.inr (.inr (fun _ => (none : Option Nat)))))))) (n + 10) (.inl (ta 2, ((5 * ulim z)), .inl (fun z_ => bI ((fun _ => false) z_))))) H := fw_P.eqw (fw_under (fw_under (fw_swap (by omega) (fw_twice _ _ _ _)) _ _) _ _) hP
  refine fw_putF (ci := 0) (fs := [.ref (n), .ref (n + 1), .int (iI (((2 * ulim z : Nat) : Int))), .ref (n + 3), .ref (n + 5), .null, .int (iI (((0 : Nat) : Int))), .int (bI (false))]) (k := 5) (v := .ref (n + 7)) (C := RX0) (T := TX0) (N := 8) hx hb hts inFX0 tyX0 tyX0_ok nmX0 hown hin hK hP hS (fw_at (by omega) (fw_at (by omega) (fw_at (by omega) (fw_at (by omega) (fw_at (by omega) (fw_at (by omega) (fw_at (by omega) (fw_at (by omega) (fw_at (by omega) (fw_at (by omega) (fw_same _ _ _))))))))))) rfl (by decide) mFX0_46 rfl rfl rfl rfl rfl (Nat.le_of_ble_eq_true rfl) dX0_init_83 (fun H locs hP hS => ?_)
  have hP : fw_P D vwCl B (n + 11) (fw_up (fw_up (fw_up (fw_up (fw_up (fw_up (fw_up (fw_up (fw_up (fw_up (fw_up (fw_up (w) (n) (.inr (1, [.long (0), .long (0), .long (0), .long (0), .int (iI (((0 : Nat) : Int)))]))) (h0) (.inr (0, [.ref (n), .ref (n + 1), .int (iI (((2 * ulim z : Nat) : Int))), .ref (n + 3), .ref (n + 5), .ref (n + 7), .int (iI (((0 : Nat) : Int))), .int (bI (false))]))) (n + 1) (.inr (2, [.ref (n + 2), .int (iI (((0 : Nat) : Int)))]))) (n + 2) (.inl (ta 0, 200, .inl (fun _ => (0 : Int32))))) (n + 3) (.inr (4, [.ref (n + 4), .int (iI (((0 : Nat) : Int)))]))) (n + 4) (.inl (ta 3, ((ulim z)), .inr (.inr (.inr (.inr (fun _ => (none : Option Nat)))))))) (n + 5) (.inr (4, [.ref (n + 6), .int (iI (((0 : Nat) : Int)))]))) (n + 6) (.inl (ta 3, ((3 * ulim z)), .inr (.inr (.inr (.inr (fun _ => (none : Option Nat)))))))) (n + 7) (.inr (5, [.ref (n + 9), .ref (n + 10), .ref (n + 8), .int (iI (((0 : Nat) : Int))), .int (iI (((0 : Nat) : Int))), .int (iI (((0 : Nat) : Int)))]))) (n + 8) (.inl (ta 1, 64, .inl (fun z_ => iI (((fun _ => 0) z_ : Nat) : Int))))) (n + 9) (.inl (ta 3, ((5 * ulim z)), .inr (.inr (.inr (.inr (fun _ => (none : Option Nat)))))))) (n + 10) (.inl (ta 2, ((5 * ulim z)), .inl (fun z_ => bI ((fun _ => false) z_))))) H := fw_P.eqw (fw_swap (by omega) (fw_swap (by omega) (fw_swap (by omega) (fw_swap (by omega) (fw_swap (by omega) (fw_swap (by omega) (fw_swap (by omega) (fw_swap (by omega) (fw_swap (by omega) (fw_swap (by omega) (fw_twice _ _ _ _))))))))))) hP
  exact fw_vret hx hb hr hlocks hP hS dX0_init_86 (Nat.le_of_ble_eq_true rfl) (by dsimp only; omega) ⟨rfl, rfl, rfl⟩
set_option maxHeartbeats 4000000 in
set_option maxRecDepth 100000 in
theorem cm_Desk_key (l : Launch) (D : va_G) (ta : Nat → ClassId) (B n : Nat) (w : fw_W) (h0 : Nat) (U : Nat) (ht : Int) (k : cKey) (op : Bool) (k2 : cKey) (e0 : w (h0) = some (.inr (0, [.ref (h0 + 1), .ref (h0 + 2), .int (iI (((2 * U : Nat) : Int))), .ref (h0 + 4), .ref (h0 + 6), .ref (h0 + 8), .int (iI (ht)), .int (bI (op))]))) (e1 : w (h0 + 1) = some (.inr (1, [.long (k.1), .long (k.2.1), .long (k.2.2.1), .long (k.2.2.2.1), .int (k.2.2.2.2)])))  : fw_C l D vwCl (tyL ta) B yX0_key cX0_key 10 none ({ frames := 1, cells := 0, slots := 0, locals := 29 } : Room) [.ref (h0), .long (k2.1), .long (k2.2.1), .long (k2.2.2.1), .long (k2.2.2.2.1), .int (k2.2.2.2.2)] n w (fun r w1 n1 => r = none ∧ w1 = fw_up (w) (h0 + 1) (.inr (1, [.long (k2.1), .long (k2.2.1), .long (k2.2.2.1), .long (k2.2.2.2.1), .int (k2.2.2.2.2)])) ∧ n1 = n) := by
  refine fw_enter (by decide) (Nat.le_of_ble_eq_true rfl) ?_
  intro p e s m below meth c hx hb hr hml hown hlocks hin hG hts hK H locs hP hS ls hl
  have hown : s.vm.findClass RX0 = some m.cls := hown
  replace hl : lv_has ls 10 [(0, .ref (h0)), (1, .long (k2.1)), (3, .long (k2.2.1)), (5, .long (k2.2.2.1)), (7, .long (k2.2.2.2.1)), (9, .int (k2.2.2.2.2))] := hl
  have lt_e0 := hP.lt e0
  have lt_e1 := hP.lt e1
  refine lv_aload_n hx hb dX0_key_0 rfl (lv_at hl 0 rfl) ?_
  refine fw_get (ci := 0) (fs := [.ref (h0 + 1), .ref (h0 + 2), .int (iI (((2 * U : Nat) : Int))), .ref (h0 + 4), .ref (h0 + 6), .ref (h0 + 8), .int (iI (ht)), .int (bI (op))]) (k := 0) (v := .ref (h0 + 1)) (C := RX0) (T := TX0) (N := 8) hx hb hts inFX0 hown hK hP e0 rfl (by decide) mFX0_10 rfl dX0_key_1 ?_
  refine lv_lload_n hx hb dX0_key_4 rfl (lv_at hl 1 rfl) ?_
  refine lv_lload_n hx hb dX0_key_5 rfl (lv_at hl 2 rfl) ?_
  refine lv_lload hx hb dX0_key_6 (lv_at hl 3 rfl) ?_
  refine lv_lload hx hb dX0_key_8 (lv_at hl 4 rfl) ?_
  refine lv_iload hx hb dX0_key_10 (lv_at hl 5 rfl) ?_
  refine fw_callV (ci := 1) (fs := [.long (k.1), .long (k.2.1), .long (k.2.2.1), .long (k.2.2.2.1), .int (k.2.2.2.2)]) (T := TX1) (N := 5) (b := h0 + 1) (As := [.long (k2.1), .long (k2.2.1), .long (k2.2.2.1), .long (k2.2.2.2.1), .int (k2.2.2.2.2)]) (rest := []) hx hb hml hown hts hK hG hP hS hl mM_X1_tell mV_X1_tell mLX0_50 (cm_Key_tell l D ta B (n) (w) (h0 + 1) (k) (k2) e1 ) e1 rfl rfl rfl (Nat.le_of_ble_eq_true rfl) ⟨Nat.le_of_ble_eq_true rfl, Nat.le_of_ble_eq_true rfl⟩ ⟨Nat.le_of_ble_eq_true rfl, Nat.le_of_ble_eq_true rfl⟩ dX0_key_12 (fun r w1 n1 H locs hq hP hS => ?_)
  obtain ⟨rfl, hw1, hn1⟩ := hq
  replace hw1 := hw1.symm; replace hn1 := hn1.symm; subst hw1; subst hn1
  refine W.eq (g2 := F0 m 15 ls []) rfl ?_
  have hP : fw_P D vwCl B (n) (fw_up (w) (h0 + 1) (.inr (1, [.long (k2.1), .long (k2.2.1), .long (k2.2.2.1), .long (k2.2.2.2.1), .int (k2.2.2.2.2)]))) H := hP
  exact fw_vret hx hb hr hlocks hP hS dX0_key_15 (Nat.le_of_ble_eq_true rfl) (Nat.le_of_ble_eq_true rfl) ⟨rfl, rfl, rfl⟩
set_option maxHeartbeats 4000000 in
set_option maxRecDepth 100000 in
theorem cm_Desk_empty (l : Launch) (D : va_G) (ta : Nat → ClassId) (B n : Nat) (w : fw_W) (h0 : Nat) (U : Nat) (ht : Int) (L : Nat) (op : Bool) (e0 : w (h0) = some (.inr (0, [.ref (h0 + 1), .ref (h0 + 2), .int (iI (((2 * U : Nat) : Int))), .ref (h0 + 4), .ref (h0 + 6), .ref (h0 + 8), .int (iI (ht)), .int (bI (op))]))) (e2 : w (h0 + 2) = some (.inr (2, [.ref (h0 + 3), .int (iI (((L : Nat) : Int)))])))  : fw_C l D vwCl (tyL ta) B yX0_empty cX0_empty 1 none ({ frames := 1, cells := 0, slots := 0, locals := 20 } : Room) [.ref (h0)] n w (fun r w1 n1 => r = none ∧ w1 = fw_up (w) (h0 + 2) (.inr (2, [.ref (h0 + 3), .int (iI (((0 : Nat) : Int)))])) ∧ n1 = n) := by
  refine fw_enter (by decide) (Nat.le_of_ble_eq_true rfl) ?_
  intro p e s m below meth c hx hb hr hml hown hlocks hin hG hts hK H locs hP hS ls hl
  have hown : s.vm.findClass RX0 = some m.cls := hown
  replace hl : lv_has ls 1 [(0, .ref (h0))] := hl
  have lt_e0 := hP.lt e0
  have lt_e2 := hP.lt e2
  refine lv_aload_n hx hb dX0_empty_0 rfl (lv_at hl 0 rfl) ?_
  refine fw_get (ci := 0) (fs := [.ref (h0 + 1), .ref (h0 + 2), .int (iI (((2 * U : Nat) : Int))), .ref (h0 + 4), .ref (h0 + 6), .ref (h0 + 8), .int (iI (ht)), .int (bI (op))]) (k := 1) (v := .ref (h0 + 2)) (C := RX0) (T := TX0) (N := 8) hx hb hts inFX0 hown hK hP e0 rfl (by decide) mFX0_19 rfl dX0_empty_1 ?_
  refine fw_callV (ci := 2) (fs := [.ref (h0 + 3), .int (iI (((L : Nat) : Int)))]) (T := TX2) (N := 2) (b := h0 + 2) (As := []) (rest := []) hx hb hml hown hts hK hG hP hS hl mM_X2_clear mV_X2_clear mLX0_54 (cm_Script_clear l D ta B (n) (w) (h0 + 2) (h0 + 3) (L) e2 ) e2 rfl rfl rfl (Nat.le_of_ble_eq_true rfl) ⟨Nat.le_of_ble_eq_true rfl, Nat.le_of_ble_eq_true rfl⟩ ⟨Nat.le_of_ble_eq_true rfl, Nat.le_of_ble_eq_true rfl⟩ dX0_empty_4 (fun r w1 n1 H locs hq hP hS => ?_)
  obtain ⟨rfl, hw1, hn1⟩ := hq
  replace hw1 := hw1.symm; replace hn1 := hn1.symm; subst hw1; subst hn1
  refine W.eq (g2 := F0 m 7 ls []) rfl ?_
  have hP : fw_P D vwCl B (n) (fw_up (w) (h0 + 2) (.inr (2, [.ref (h0 + 3), .int (iI (((0 : Nat) : Int)))]))) H := hP
  exact fw_vret hx hb hr hlocks hP hS dX0_empty_7 (Nat.le_of_ble_eq_true rfl) (Nat.le_of_ble_eq_true rfl) ⟨rfl, rfl, rfl⟩
set_option maxHeartbeats 4000000 in
set_option maxRecDepth 100000 in
theorem cm_Desk_put_no (l : Launch) (D : va_G) (ta : Nat → ClassId) (B n : Nat) (w : fw_W) (h0 : Nat) (U : Nat) (ht : Int) (L : Nat) (f : Nat → Int32) (op : Bool) (v : Int64) (z : Int) (e0 : w (h0) = some (.inr (0, [.ref (h0 + 1), .ref (h0 + 2), .int (iI (((2 * U : Nat) : Int))), .ref (h0 + 4), .ref (h0 + 6), .ref (h0 + 8), .int (iI (ht)), .int (bI (op))]))) (e2 : w (h0 + 2) = some (.inr (2, [.ref (h0 + 3), .int (iI (((L : Nat) : Int)))]))) (e3 : w (h0 + 3) = some (.inl (ta 0, 200, .inl (f)))) (hL : L ≤ 200) (hz : iK z) (hno : ¬ (1 ≤ z ∧ z ≤ 8 ∧ z + ((L : Nat) : Int) ≤ 200)) : fw_C l D vwCl (tyL ta) B yX0_put cX0_put 5 (some .boolean) ({ frames := 1, cells := 0, slots := 0, locals := 21 } : Room) [.ref (h0), .long (v), .int (iI (z))] n w (fun r w1 n1 => r = some (.int (bI (false))) ∧ w1 = w ∧ n1 = n) := by
  refine fw_enter (by decide) (Nat.le_of_ble_eq_true rfl) ?_
  intro p e s m below meth c hx hb hr hml hown hlocks hin hG hts hK H locs hP hS ls hl
  have hown : s.vm.findClass RX0 = some m.cls := hown
  replace hl : lv_has ls 5 [(0, .ref (h0)), (1, .long (v)), (3, .int (iI (z)))] := hl
  have lt_e0 := hP.lt e0
  have lt_e2 := hP.lt e2
  have lt_e3 := hP.lt e3
  obtain ⟨hz1, hz2⟩ := hz
  refine lv_iload_n hx hb dX0_put_0 rfl (lv_at hl 2 rfl) ?_
  refine lv_iconst (v := (iI (((1 : Nat) : Int)))) hx hb dX0_put_1 rfl ?_
  refine fn_icmp_lt (x := z) (y := ((1 : Nat) : Int)) (tgt := 22) hx hb dX0_put_2 (by decide) ⟨by omega, by omega⟩ ⟨by omega, by omega⟩ (fun c1 => ?_) (fun c1 => ?_)
  · refine lv_iconst (v := (iI (((0 : Nat) : Int)))) hx hb dX0_put_22 rfl ?_
    exact fw_zret hx hb hr hlocks hP hS dX0_put_23 (Or.inl rfl) (Nat.le_of_ble_eq_true rfl) (Nat.le_of_ble_eq_true rfl) ⟨rfl, rfl, rfl⟩
  · refine lv_iload_n hx hb dX0_put_5 rfl (lv_at hl 2 rfl) ?_
    refine lv_bipush (v := (iI (((8 : Nat) : Int)))) hx hb dX0_put_6 (by decide) ?_
    refine fn_icmp_gt (x := z) (y := ((8 : Nat) : Int)) (tgt := 22) hx hb dX0_put_8 (by decide) ⟨by omega, by omega⟩ ⟨by omega, by omega⟩ (fun c2 => ?_) (fun c2 => ?_)
    · refine lv_iconst (v := (iI (((0 : Nat) : Int)))) hx hb dX0_put_22 rfl ?_
      exact fw_zret hx hb hr hlocks hP hS dX0_put_23 (Or.inl rfl) (Nat.le_of_ble_eq_true rfl) (Nat.le_of_ble_eq_true rfl) ⟨rfl, rfl, rfl⟩
    · refine lv_iload_n hx hb dX0_put_11 rfl (lv_at hl 2 rfl) ?_
      refine lv_aload_n hx hb dX0_put_12 rfl (lv_at hl 0 rfl) ?_
      refine fw_get (ci := 0) (fs := [.ref (h0 + 1), .ref (h0 + 2), .int (iI (((2 * U : Nat) : Int))), .ref (h0 + 4), .ref (h0 + 6), .ref (h0 + 8), .int (iI (ht)), .int (bI (op))]) (k := 1) (v := .ref (h0 + 2)) (C := RX0) (T := TX0) (N := 8) hx hb hts inFX0 hown hK hP e0 rfl (by decide) mFX0_19 rfl dX0_put_13 ?_
      refine fw_callV (ci := 2) (fs := [.ref (h0 + 3), .int (iI (((L : Nat) : Int)))]) (T := TX2) (N := 2) (b := h0 + 2) (As := []) (rest := [.int (iI (z))]) hx hb hml hown hts hK hG hP hS hl mM_X2_room mV_X2_room mLX0_57 (cm_Script_room l D ta B (n) (w) (h0 + 2) (h0 + 3) (L) (f) e2 e3 (by omega)) e2 rfl rfl rfl (Nat.le_of_ble_eq_true rfl) ⟨Nat.le_of_ble_eq_true rfl, Nat.le_of_ble_eq_true rfl⟩ ⟨Nat.le_of_ble_eq_true rfl, Nat.le_of_ble_eq_true rfl⟩ dX0_put_16 (fun r w3 n1 H locs hq hP hS => ?_)
      obtain ⟨rfl, hw1, hn1⟩ := hq
      replace hw1 := hw1.symm; replace hn1 := hn1.symm; subst hw1; subst hn1
      refine W.eq (g2 := F0 m 19 ls [.int (iI (((200 - L : Nat) : Int))), .int (iI (z))]) rfl ?_
      refine fn_icmp_le (x := z) (y := ((200 - L : Nat) : Int)) (tgt := 24) hx hb dX0_put_19 (by decide) ⟨by omega, by omega⟩ ⟨by omega, by omega⟩ (fun c4 => False.elim (by omega)) (fun c4 => ?_)
      refine lv_iconst (v := (iI (((0 : Nat) : Int)))) hx hb dX0_put_22 rfl ?_
      exact fw_zret hx hb hr hlocks hP hS dX0_put_23 (Or.inl rfl) (Nat.le_of_ble_eq_true rfl) (Nat.le_of_ble_eq_true rfl) ⟨rfl, rfl, rfl⟩
set_option maxHeartbeats 4000000 in
set_option maxRecDepth 100000 in
theorem cm_Desk_put_ok (l : Launch) (D : va_G) (ta : Nat → ClassId) (B n : Nat) (w : fw_W) (h0 : Nat) (U : Nat) (ht : Int) (L : Nat) (f : Nat → Int32) (op : Bool) (v : Int64) (m_ : Nat) (e0 : w (h0) = some (.inr (0, [.ref (h0 + 1), .ref (h0 + 2), .int (iI (((2 * U : Nat) : Int))), .ref (h0 + 4), .ref (h0 + 6), .ref (h0 + 8), .int (iI (ht)), .int (bI (op))]))) (e2 : w (h0 + 2) = some (.inr (2, [.ref (h0 + 3), .int (iI (((L : Nat) : Int)))]))) (e3 : w (h0 + 3) = some (.inl (ta 0, 200, .inl (f)))) (hm1 : 1 ≤ m_) (hm8 : m_ ≤ 8) (hmL : m_ + L ≤ 200) : fw_C l D vwCl (tyL ta) B yX0_put cX0_put 5 (some .boolean) ({ frames := 1, cells := 0, slots := 0, locals := 21 } : Room) [.ref (h0), .long (v), .int (iI (((m_ : Nat) : Int)))] n w (fun r w1 n1 => ∃ f2 : Nat → Int32, (∀ j, j < L → f2 j = f j) ∧ (∀ t, t < m_ → f2 (L + t) = pbyte v (m_ - 1 - t)) ∧ r = some (.int (bI (true))) ∧ w1 = fw_up (fw_up (w) (h0 + 3) (.inl (ta 0, 200, .inl (f2)))) (h0 + 2) (.inr (2, [.ref (h0 + 3), .int (iI (((L + m_ : Nat) : Int)))])) ∧ n1 = n) := by
  refine fw_enter (by decide) (Nat.le_of_ble_eq_true rfl) ?_
  intro p e s m below meth c hx hb hr hml hown hlocks hin hG hts hK H locs hP hS ls hl
  have hown : s.vm.findClass RX0 = some m.cls := hown
  replace hl : lv_has ls 5 [(0, .ref (h0)), (1, .long (v)), (3, .int (iI (((m_ : Nat) : Int))))] := hl
  have lt_e0 := hP.lt e0
  have lt_e2 := hP.lt e2
  have lt_e3 := hP.lt e3
  refine lv_iload_n hx hb dX0_put_0 rfl (lv_at hl 2 rfl) ?_
  refine lv_iconst (v := (iI (((1 : Nat) : Int)))) hx hb dX0_put_1 rfl ?_
  refine fn_icmp_lt (x := ((m_ : Nat) : Int)) (y := ((1 : Nat) : Int)) (tgt := 22) hx hb dX0_put_2 (by decide) ⟨by omega, by omega⟩ ⟨by omega, by omega⟩ (fun c1 => False.elim (by omega)) (fun c1 => ?_)
  refine lv_iload_n hx hb dX0_put_5 rfl (lv_at hl 2 rfl) ?_
  refine lv_bipush (v := (iI (((8 : Nat) : Int)))) hx hb dX0_put_6 (by decide) ?_
  refine fn_icmp_gt (x := ((m_ : Nat) : Int)) (y := ((8 : Nat) : Int)) (tgt := 22) hx hb dX0_put_8 (by decide) ⟨by omega, by omega⟩ ⟨by omega, by omega⟩ (fun c2 => False.elim (by omega)) (fun c2 => ?_)
  refine lv_iload_n hx hb dX0_put_11 rfl (lv_at hl 2 rfl) ?_
  refine lv_aload_n hx hb dX0_put_12 rfl (lv_at hl 0 rfl) ?_
  refine fw_get (ci := 0) (fs := [.ref (h0 + 1), .ref (h0 + 2), .int (iI (((2 * U : Nat) : Int))), .ref (h0 + 4), .ref (h0 + 6), .ref (h0 + 8), .int (iI (ht)), .int (bI (op))]) (k := 1) (v := .ref (h0 + 2)) (C := RX0) (T := TX0) (N := 8) hx hb hts inFX0 hown hK hP e0 rfl (by decide) mFX0_19 rfl dX0_put_13 ?_
  refine fw_callV (ci := 2) (fs := [.ref (h0 + 3), .int (iI (((L : Nat) : Int)))]) (T := TX2) (N := 2) (b := h0 + 2) (As := []) (rest := [.int (iI (((m_ : Nat) : Int)))]) hx hb hml hown hts hK hG hP hS hl mM_X2_room mV_X2_room mLX0_57 (cm_Script_room l D ta B (n) (w) (h0 + 2) (h0 + 3) (L) (f) e2 e3 (by omega)) e2 rfl rfl rfl (Nat.le_of_ble_eq_true rfl) ⟨Nat.le_of_ble_eq_true rfl, Nat.le_of_ble_eq_true rfl⟩ ⟨Nat.le_of_ble_eq_true rfl, Nat.le_of_ble_eq_true rfl⟩ dX0_put_16 (fun r w3 n1 H locs hq hP hS => ?_)
  obtain ⟨rfl, hw1, hn1⟩ := hq
  replace hw1 := hw1.symm; replace hn1 := hn1.symm; subst hw1; subst hn1
  refine W.eq (g2 := F0 m 19 ls [.int (iI (((200 - L : Nat) : Int))), .int (iI (((m_ : Nat) : Int)))]) rfl ?_
  refine fn_icmp_le (x := ((m_ : Nat) : Int)) (y := ((200 - L : Nat) : Int)) (tgt := 24) hx hb dX0_put_19 (by decide) ⟨by omega, by omega⟩ ⟨by omega, by omega⟩ (fun c4 => ?_) (fun c4 => False.elim (by omega))
  refine lv_iload_n hx hb dX0_put_24 rfl (lv_at hl 2 rfl) ?_
  refine lv_iconst (v := (iI (((1 : Nat) : Int)))) hx hb dX0_put_25 rfl ?_
  refine fn_isub (x := ((m_ : Nat) : Int)) (y := ((1 : Nat) : Int)) hx hb dX0_put_26 ?_
  refine lv_istore (lv' := [(4, .int (iI (((m_ : Nat) : Int) - ((1 : Nat) : Int)))), (0, .ref (h0)), (1, .long (v)), (3, .int (iI (((m_ : Nat) : Int))))]) hx hb dX0_put_27 hl (by decide) rfl (fun ls hl => ?_)
  have lp5 : ∀ (t : Nat) (f2 : Nat → Int32) (H : Heap) (locs : List Loc) (ls : Array Slot), t ≤ m_ → (∀ j, j < L → f2 j = f j) → (∀ j, j < t → f2 (L + j) = pbyte v (m_ - 1 - j)) → lv_has ls 5 [(4, .int (iI (((m_ : Nat) : Int) - 1 - ((t : Nat) : Int)))), (0, .ref (h0)), (1, .long (v)), (3, .int (iI (((m_ : Nat) : Int))))] → fw_P D vwCl B (n) (fw_up (fw_up (w) (h0 + 3) (.inl (ta 0, 200, .inl (f2)))) (h0 + 2) (.inr (2, [.ref (h0 + 3), .int (iI (((L + t : Nat) : Int)))]))) H → fw_S B s.heap H locs → fw_K p l e ({ frames := 1, cells := 0, slots := 0, locals := 21 } : Room) s m [.ref (h0), .long (v), .int (iI (((m_ : Nat) : Int)))] below meth c D vwCl B (fun r w1 n1 => ∃ f2 : Nat → Int32, (∀ j, j < L → f2 j = f j) ∧ (∀ t, t < m_ → f2 (L + t) = pbyte v (m_ - 1 - t)) ∧ r = some (.int (bI (true))) ∧ w1 = fw_up (fw_up (w) (h0 + 3) (.inl (ta 0, 200, .inl (f2)))) (h0 + 2) (.inr (2, [.ref (h0 + 3), .int (iI (((L + m_ : Nat) : Int)))])) ∧ n1 = n) H locs (0) (0) (F0 m 29 ls []) := by
    refine fw_loop (fun t : Nat => m_ - t) ?_
    intro t ih29 f2 H locs ls ht1 hf hg hl hP hS
    refine lv_iload hx hb dX0_put_29 (lv_at hl 0 rfl) ?_
    refine fn_if_lt (x := ((m_ : Nat) : Int) - 1 - ((t : Nat) : Int)) (tgt := 56) hx hb dX0_put_31 (by decide) ⟨by omega, by omega⟩ (fun c6 => ?_) (fun c6 => ?_)
    · refine lv_iconst (v := (iI (((1 : Nat) : Int)))) hx hb dX0_put_56 rfl ?_
      exact fw_zret hx hb hr hlocks hP hS dX0_put_57 (Or.inr rfl) (Nat.le_of_ble_eq_true rfl) (Nat.le_of_ble_eq_true rfl) (by
        obtain rfl : t = m_ := by omega
        exact ⟨f2, hf, hg, rfl, rfl, rfl⟩)
    · refine lv_aload_n hx hb dX0_put_34 rfl (lv_at hl 1 rfl) ?_
      refine fw_get (ci := 0) (fs := [.ref (h0 + 1), .ref (h0 + 2), .int (iI (((2 * U : Nat) : Int))), .ref (h0 + 4), .ref (h0 + 6), .ref (h0 + 8), .int (iI (ht)), .int (bI (op))]) (k := 1) (v := .ref (h0 + 2)) (C := RX0) (T := TX0) (N := 8) hx hb hts inFX0 hown hK hP (fw_at (by omega) (fw_at (by omega) e0)) rfl (by decide) mFX0_19 rfl dX0_put_35 ?_
      refine lv_lload_n hx hb dX0_put_38 rfl (lv_at hl 2 rfl) ?_
      refine lv_bipush (v := (iI (((8 : Nat) : Int)))) hx hb dX0_put_39 (by decide) ?_
      refine lv_iload hx hb dX0_put_41 (lv_at hl 0 rfl) ?_
      refine fn_imul (x := ((8 : Nat) : Int)) (y := ((m_ : Nat) : Int) - 1 - ((t : Nat) : Int)) hx hb dX0_put_43 ?_
      refine fn_topz (y := ((8 * (m_ - 1 - t) : Nat) : Int)) (by omega) ?_
      refine lv_lushr (v := ((v).toUInt64 >>> (((iI (((8 * (m_ - 1 - t) : Nat) : Int)))).toInt64.toUInt64 &&& Int64.toUInt64 63)).toInt64) hx hb dX0_put_44 rfl ?_
      refine lv_l2i (v := (((v).toUInt64 >>> (((iI (((8 * (m_ - 1 - t) : Nat) : Int)))).toInt64.toUInt64 &&& Int64.toUInt64 63)).toInt64).toInt32) hx hb dX0_put_45 rfl ?_
      refine lv_i2b (v := (((((v).toUInt64 >>> (((iI (((8 * (m_ - 1 - t) : Nat) : Int)))).toInt64.toUInt64 &&& Int64.toUInt64 63)).toInt64).toInt32)).toInt8.toInt32) hx hb dX0_put_46 rfl ?_
      refine fn_topi (y := (pbyte v (m_ - 1 - t))) rfl ?_
      refine fw_callV (ci := 2) (fs := [.ref (h0 + 3), .int (iI (((L + t : Nat) : Int)))]) (T := TX2) (N := 2) (b := h0 + 2) (As := [.int ((pbyte v (m_ - 1 - t)))]) (rest := []) hx hb hml hown hts hK hG hP hS hl mM_X2_append mV_X2_append mLX0_61 (cm_Script_append l D ta B (n) (fw_up (fw_up (w) (h0 + 3) (.inl (ta 0, 200, .inl (f2)))) (h0 + 2) (.inr (2, [.ref (h0 + 3), .int (iI (((L + t : Nat) : Int)))]))) (h0 + 2) (h0 + 3) (L + t) (f2) ((pbyte v (m_ - 1 - t))) (fw_same _ _ _) (fw_at (by omega) (fw_same _ _ _)) (by omega) (pbyte_nar v _)) (fw_same _ _ _) rfl rfl rfl (Nat.le_of_ble_eq_true rfl) ⟨Nat.le_of_ble_eq_true rfl, Nat.le_of_ble_eq_true rfl⟩ ⟨Nat.le_of_ble_eq_true rfl, Nat.le_of_ble_eq_true rfl⟩ dX0_put_47 (fun r w7 n1 H locs hq hP hS => ?_)
      obtain ⟨rfl, hw1, hn1⟩ := hq
      replace hw1 := hw1.symm; replace hn1 := hn1.symm; subst hw1; subst hn1
      refine W.eq (g2 := F0 m 50 ls []) rfl ?_
      have hP : fw_P D vwCl B (n) (fw_up (fw_up (w) (h0 + 3) (.inl (ta 0, 200, .inl (upd (f2) ((L + t)) ((pbyte v (m_ - 1 - t))))))) (h0 + 2) (.inr (2, [.ref (h0 + 3), .int (iI ((((L + t) + 1 : Nat) : Int)))]))) H := fw_P.eqw ((fw_under (fw_swap (by omega) (fw_twice _ _ _ _)) _ _).trans (fw_twice _ _ _ _)) hP
      refine lv_iinc (k := 0) (v := (iI ((((m_ : Nat) : Int) - 1 - ((t : Nat) : Int)) + (-1)))) (lv' := [(4, .int (iI ((((m_ : Nat) : Int) - 1 - ((t : Nat) : Int)) + (-1)))), (0, .ref (h0)), (1, .long (v)), (3, .int (iI (((m_ : Nat) : Int))))]) hx hb dX0_put_50 hl rfl (iI_add _ _) (by decide) rfl (fun ls hl => ?_)
      refine lv_goto (tgt := 29) hx hb dX0_put_53 (by decide) ?_
      replace hl : lv_has ls 5 [(4, .int (iI (((m_ : Nat) : Int) - 1 - ((t + 1 : Nat) : Int)))), (0, .ref (h0)), (1, .long (v)), (3, .int (iI (((m_ : Nat) : Int))))] := by
        refine ⟨hl.1, hl.2.1, fun q hq => hl.2.2 q ?_⟩
        rw [(show (((m_ : Nat) : Int) - 1 - ((t : Nat) : Int)) + (-1) = ((m_ : Nat) : Int) - 1 - ((t + 1 : Nat) : Int) from (by omega))]
        simp only [List.mem_cons, List.not_mem_nil, or_false] at hq
        rcases hq with rfl | rfl | rfl | rfl
        · exact List.mem_of_getElem? (i := 0) rfl
        · exact List.mem_of_getElem? (i := 1) rfl
        · exact List.mem_of_getElem? (i := 2) rfl
        · exact List.mem_of_getElem? (i := 3) rfl
      exact ih29 (t + 1) (by omega) (upd f2 (L + t) (pbyte v (m_ - 1 - t))) H locs ls (by omega) (fun j hj => by simp only [upd, if_neg (show ¬ j = L + t by omega)]; exact hf j hj) (fun j hj => if hq : j = t then by (subst hq; simp [upd]) else by (simp only [upd, if_neg (show ¬ L + j = L + t by omega)]; exact hg j (by omega))) hl hP hS
  replace hl : lv_has ls 5 [(4, .int (iI (((m_ : Nat) : Int) - 1 - ((0 : Nat) : Int)))), (0, .ref (h0)), (1, .long (v)), (3, .int (iI (((m_ : Nat) : Int))))] := by
    refine ⟨hl.1, hl.2.1, fun q hq => hl.2.2 q ?_⟩
    rw [(show ((m_ : Nat) : Int) - ((1 : Nat) : Int) = ((m_ : Nat) : Int) - 1 - ((0 : Nat) : Int) from (by omega))]
    simp only [List.mem_cons, List.not_mem_nil, or_false] at hq
    rcases hq with rfl | rfl | rfl | rfl
    · exact List.mem_of_getElem? (i := 0) rfl
    · exact List.mem_of_getElem? (i := 1) rfl
    · exact List.mem_of_getElem? (i := 2) rfl
    · exact List.mem_of_getElem? (i := 3) rfl
  have hP : fw_P D vwCl B (n) (fw_up (w) (h0 + 3) (.inl (ta 0, 200, .inl (f)))) H := fw_P.eqw (fw_id e3).symm hP
  have hP : fw_P D vwCl B (n) (fw_up (fw_up (w) (h0 + 3) (.inl (ta 0, 200, .inl (f)))) (h0 + 2) (.inr (2, [.ref (h0 + 3), .int (iI (((L : Nat) : Int)))]))) H := fw_P.eqw (fw_id (fw_at (by omega) e2)).symm hP
  exact lp5 (0) (f) H locs ls (by omega) (fun j hj => rfl) (fun j hj => absurd hj (by omega)) hl hP hS
set_option maxHeartbeats 4000000 in
set_option maxRecDepth 100000 in
theorem cm_Desk_begin_twice (l : Launch) (D : va_G) (ta : Nat → ClassId) (B n : Nat) (w : fw_W) (h0 : Nat) (U : Nat) (ht : Int) (e0 : w (h0) = some (.inr (0, [.ref (h0 + 1), .ref (h0 + 2), .int (iI (((2 * U : Nat) : Int))), .ref (h0 + 4), .ref (h0 + 6), .ref (h0 + 8), .int (iI (ht)), .int (bI (true))])))  : fw_C l D vwCl (tyL ta) B yX0_begin cX0_begin 1 (some .boolean) ({ frames := 1, cells := 0, slots := 0, locals := 20 } : Room) [.ref (h0)] n w (fun r w1 n1 => r = some (.int (bI (false))) ∧ w1 = w ∧ n1 = n) := by
  refine fw_enter (by decide) (Nat.le_of_ble_eq_true rfl) ?_
  intro p e s m below meth c hx hb hr hml hown hlocks hin hG hts hK H locs hP hS ls hl
  have hown : s.vm.findClass RX0 = some m.cls := hown
  replace hl : lv_has ls 1 [(0, .ref (h0))] := hl
  have lt_e0 := hP.lt e0
  refine lv_aload_n hx hb dX0_begin_0 rfl (lv_at hl 0 rfl) ?_
  refine fw_get (ci := 0) (fs := [.ref (h0 + 1), .ref (h0 + 2), .int (iI (((2 * U : Nat) : Int))), .ref (h0 + 4), .ref (h0 + 6), .ref (h0 + 8), .int (iI (ht)), .int (bI (true))]) (k := 7) (v := .int (bI (true))) (C := RX0) (T := TX0) (N := 8) hx hb hts inFX0 hown hK hP e0 rfl (by decide) mFX0_65 rfl dX0_begin_1 ?_
  refine fn_bif_ne (x := true) (tgt := 17) hx hb dX0_begin_4 (by decide) (fun c1 => ?_) (fun c1 => False.elim (by cases c1))
  refine lv_iconst (v := (iI (((0 : Nat) : Int)))) hx hb dX0_begin_17 rfl ?_
  exact fw_zret hx hb hr hlocks hP hS dX0_begin_18 (Or.inl rfl) (Nat.le_of_ble_eq_true rfl) (Nat.le_of_ble_eq_true rfl) ⟨rfl, rfl, rfl⟩
set_option maxHeartbeats 4000000 in
set_option maxRecDepth 100000 in
theorem cm_Desk_begin_full (l : Launch) (D : va_G) (ta : Nat → ClassId) (B n : Nat) (w : fw_W) (h0 : Nat) (U : Nat) (ht : Int) (nj : Nat) (nr : Nat) (ns : Nat) (lf : Nat → Nat) (e0 : w (h0) = some (.inr (0, [.ref (h0 + 1), .ref (h0 + 2), .int (iI (((2 * U : Nat) : Int))), .ref (h0 + 4), .ref (h0 + 6), .ref (h0 + 8), .int (iI (ht)), .int (bI (false))]))) (e8 : w (h0 + 8) = some (.inr (5, [.ref (h0 + 10), .ref (h0 + 11), .ref (h0 + 9), .int (iI (((nj : Nat) : Int))), .int (iI (((nr : Nat) : Int))), .int (iI (((ns : Nat) : Int)))]))) (e9 : w (h0 + 9) = some (.inl (ta 1, 64, .inl (fun z_ => iI (((lf) z_ : Nat) : Int))))) (hrc : nr ≤ 64) (hfl : 64 ≤ nr) : fw_C l D vwCl (tyL ta) B yX0_begin cX0_begin 1 (some .boolean) ({ frames := 1, cells := 0, slots := 0, locals := 20 } : Room) [.ref (h0)] n w (fun r w1 n1 => r = some (.int (bI (false))) ∧ w1 = w ∧ n1 = n) := by
  refine fw_enter (by decide) (Nat.le_of_ble_eq_true rfl) ?_
  intro p e s m below meth c hx hb hr hml hown hlocks hin hG hts hK H locs hP hS ls hl
  have hown : s.vm.findClass RX0 = some m.cls := hown
  replace hl : lv_has ls 1 [(0, .ref (h0))] := hl
  have lt_e0 := hP.lt e0
  have lt_e8 := hP.lt e8
  have lt_e9 := hP.lt e9
  refine lv_aload_n hx hb dX0_begin_0 rfl (lv_at hl 0 rfl) ?_
  refine fw_get (ci := 0) (fs := [.ref (h0 + 1), .ref (h0 + 2), .int (iI (((2 * U : Nat) : Int))), .ref (h0 + 4), .ref (h0 + 6), .ref (h0 + 8), .int (iI (ht)), .int (bI (false))]) (k := 7) (v := .int (bI (false))) (C := RX0) (T := TX0) (N := 8) hx hb hts inFX0 hown hK hP e0 rfl (by decide) mFX0_65 rfl dX0_begin_1 ?_
  refine fn_bif_ne (x := false) (tgt := 17) hx hb dX0_begin_4 (by decide) (fun c1 => False.elim (by cases c1)) (fun c1 => ?_)
  refine lv_aload_n hx hb dX0_begin_7 rfl (lv_at hl 0 rfl) ?_
  refine fw_get (ci := 0) (fs := [.ref (h0 + 1), .ref (h0 + 2), .int (iI (((2 * U : Nat) : Int))), .ref (h0 + 4), .ref (h0 + 6), .ref (h0 + 8), .int (iI (ht)), .int (bI (false))]) (k := 5) (v := .ref (h0 + 8)) (C := RX0) (T := TX0) (N := 8) hx hb hts inFX0 hown hK hP e0 rfl (by decide) mFX0_46 rfl dX0_begin_8 ?_
  refine fw_callV (ci := 5) (fs := [.ref (h0 + 10), .ref (h0 + 11), .ref (h0 + 9), .int (iI (((nj : Nat) : Int))), .int (iI (((nr : Nat) : Int))), .int (iI (((ns : Nat) : Int)))]) (T := TX5) (N := 6) (b := h0 + 8) (As := []) (rest := []) hx hb hml hown hts hK hG hP hS hl mM_X5_isFull mV_X5_isFull mLX0_69 (cm_Jrn_isFull l D ta B (n) (w) (h0 + 8) (h0 + 10) (h0 + 11) (h0 + 9) (nj) (nr) (ns) (lf) e8 e9 (by omega)) e8 rfl rfl rfl (Nat.le_of_ble_eq_true rfl) ⟨Nat.le_of_ble_eq_true rfl, Nat.le_of_ble_eq_true rfl⟩ ⟨Nat.le_of_ble_eq_true rfl, Nat.le_of_ble_eq_true rfl⟩ dX0_begin_11 (fun r w2 n1 H locs hq hP hS => ?_)
  obtain ⟨rfl, hw1, hn1⟩ := hq
  replace hw1 := hw1.symm; replace hn1 := hn1.symm; subst hw1; subst hn1
  refine W.eq (g2 := F0 m 14 ls [.int (bI (decide (64 ≤ nr)))]) rfl ?_
  refine fn_bif_eq (x := decide (64 ≤ nr)) (tgt := 19) hx hb dX0_begin_14 (by decide) (fun c3 => False.elim (by have q := of_decide_eq_false c3; omega)) (fun c3 => ?_)
  refine lv_iconst (v := (iI (((0 : Nat) : Int)))) hx hb dX0_begin_17 rfl ?_
  exact fw_zret hx hb hr hlocks hP hS dX0_begin_18 (Or.inl rfl) (Nat.le_of_ble_eq_true rfl) (Nat.le_of_ble_eq_true rfl) ⟨rfl, rfl, rfl⟩
set_option maxHeartbeats 4000000 in
set_option maxRecDepth 100000 in
theorem cm_Desk_begin_ok (l : Launch) (D : va_G) (ta : Nat → ClassId) (B n : Nat) (w : fw_W) (h0 : Nat) (U : Nat) (ht : Int) (nj : Nat) (nr : Nat) (ns : Nat) (lf : Nat → Nat) (e0 : w (h0) = some (.inr (0, [.ref (h0 + 1), .ref (h0 + 2), .int (iI (((2 * U : Nat) : Int))), .ref (h0 + 4), .ref (h0 + 6), .ref (h0 + 8), .int (iI (ht)), .int (bI (false))]))) (e8 : w (h0 + 8) = some (.inr (5, [.ref (h0 + 10), .ref (h0 + 11), .ref (h0 + 9), .int (iI (((nj : Nat) : Int))), .int (iI (((nr : Nat) : Int))), .int (iI (((ns : Nat) : Int)))]))) (e9 : w (h0 + 9) = some (.inl (ta 1, 64, .inl (fun z_ => iI (((lf) z_ : Nat) : Int))))) (hrl : nr < 64) : fw_C l D vwCl (tyL ta) B yX0_begin cX0_begin 1 (some .boolean) ({ frames := 1, cells := 0, slots := 0, locals := 20 } : Room) [.ref (h0)] n w (fun r w1 n1 => r = some (.int (bI (true))) ∧ w1 = fw_up (fw_up (fw_up (w) (h0 + 9) (.inl (ta 1, 64, .inl (fun z_ => iI (((gup (lf) (nr) (0)) z_ : Nat) : Int))))) (h0 + 8) (.inr (5, [.ref (h0 + 10), .ref (h0 + 11), .ref (h0 + 9), .int (iI (((nj : Nat) : Int))), .int (iI (((nr + 1 : Nat) : Int))), .int (iI (((ns : Nat) : Int)))]))) (h0) (.inr (0, [.ref (h0 + 1), .ref (h0 + 2), .int (iI (((2 * U : Nat) : Int))), .ref (h0 + 4), .ref (h0 + 6), .ref (h0 + 8), .int (iI (ht)), .int (bI (true))])) ∧ n1 = n) := by
  refine fw_enter (by decide) (Nat.le_of_ble_eq_true rfl) ?_
  intro p e s m below meth c hx hb hr hml hown hlocks hin hG hts hK H locs hP hS ls hl
  have hown : s.vm.findClass RX0 = some m.cls := hown
  replace hl : lv_has ls 1 [(0, .ref (h0))] := hl
  have lt_e0 := hP.lt e0
  have lt_e8 := hP.lt e8
  have lt_e9 := hP.lt e9
  refine lv_aload_n hx hb dX0_begin_0 rfl (lv_at hl 0 rfl) ?_
  refine fw_get (ci := 0) (fs := [.ref (h0 + 1), .ref (h0 + 2), .int (iI (((2 * U : Nat) : Int))), .ref (h0 + 4), .ref (h0 + 6), .ref (h0 + 8), .int (iI (ht)), .int (bI (false))]) (k := 7) (v := .int (bI (false))) (C := RX0) (T := TX0) (N := 8) hx hb hts inFX0 hown hK hP e0 rfl (by decide) mFX0_65 rfl dX0_begin_1 ?_
  refine fn_bif_ne (x := false) (tgt := 17) hx hb dX0_begin_4 (by decide) (fun c1 => False.elim (by cases c1)) (fun c1 => ?_)
  refine lv_aload_n hx hb dX0_begin_7 rfl (lv_at hl 0 rfl) ?_
  refine fw_get (ci := 0) (fs := [.ref (h0 + 1), .ref (h0 + 2), .int (iI (((2 * U : Nat) : Int))), .ref (h0 + 4), .ref (h0 + 6), .ref (h0 + 8), .int (iI (ht)), .int (bI (false))]) (k := 5) (v := .ref (h0 + 8)) (C := RX0) (T := TX0) (N := 8) hx hb hts inFX0 hown hK hP e0 rfl (by decide) mFX0_46 rfl dX0_begin_8 ?_
  refine fw_callV (ci := 5) (fs := [.ref (h0 + 10), .ref (h0 + 11), .ref (h0 + 9), .int (iI (((nj : Nat) : Int))), .int (iI (((nr : Nat) : Int))), .int (iI (((ns : Nat) : Int)))]) (T := TX5) (N := 6) (b := h0 + 8) (As := []) (rest := []) hx hb hml hown hts hK hG hP hS hl mM_X5_isFull mV_X5_isFull mLX0_69 (cm_Jrn_isFull l D ta B (n) (w) (h0 + 8) (h0 + 10) (h0 + 11) (h0 + 9) (nj) (nr) (ns) (lf) e8 e9 (by omega)) e8 rfl rfl rfl (Nat.le_of_ble_eq_true rfl) ⟨Nat.le_of_ble_eq_true rfl, Nat.le_of_ble_eq_true rfl⟩ ⟨Nat.le_of_ble_eq_true rfl, Nat.le_of_ble_eq_true rfl⟩ dX0_begin_11 (fun r w2 n1 H locs hq hP hS => ?_)
  obtain ⟨rfl, hw1, hn1⟩ := hq
  replace hw1 := hw1.symm; replace hn1 := hn1.symm; subst hw1; subst hn1
  refine W.eq (g2 := F0 m 14 ls [.int (bI (decide (64 ≤ nr)))]) rfl ?_
  refine fn_bif_eq (x := decide (64 ≤ nr)) (tgt := 19) hx hb dX0_begin_14 (by decide) (fun c3 => ?_) (fun c3 => False.elim (by have q := of_decide_eq_true c3; omega))
  refine lv_aload_n hx hb dX0_begin_19 rfl (lv_at hl 0 rfl) ?_
  refine fw_get (ci := 0) (fs := [.ref (h0 + 1), .ref (h0 + 2), .int (iI (((2 * U : Nat) : Int))), .ref (h0 + 4), .ref (h0 + 6), .ref (h0 + 8), .int (iI (ht)), .int (bI (false))]) (k := 5) (v := .ref (h0 + 8)) (C := RX0) (T := TX0) (N := 8) hx hb hts inFX0 hown hK hP e0 rfl (by decide) mFX0_46 rfl dX0_begin_20 ?_
  refine fw_callV (ci := 5) (fs := [.ref (h0 + 10), .ref (h0 + 11), .ref (h0 + 9), .int (iI (((nj : Nat) : Int))), .int (iI (((nr : Nat) : Int))), .int (iI (((ns : Nat) : Int)))]) (T := TX5) (N := 6) (b := h0 + 8) (As := []) (rest := []) hx hb hml hown hts hK hG hP hS hl mM_X5_addRecord mV_X5_addRecord mLX0_73 (cm_Jrn_addRecord l D ta B (n) (w) (h0 + 8) (h0 + 10) (h0 + 11) (h0 + 9) (nj) (nr) (ns) (lf) e8 e9 (by omega)) e8 rfl rfl rfl (Nat.le_of_ble_eq_true rfl) ⟨Nat.le_of_ble_eq_true rfl, Nat.le_of_ble_eq_true rfl⟩ ⟨Nat.le_of_ble_eq_true rfl, Nat.le_of_ble_eq_true rfl⟩ dX0_begin_23 (fun r w4 n1 H locs hq hP hS => ?_)
  obtain ⟨rfl, hw1, hn1⟩ := hq
  replace hw1 := hw1.symm; replace hn1 := hn1.symm; subst hw1; subst hn1
  refine W.eq (g2 := F0 m 26 ls []) rfl ?_
  have hP : fw_P D vwCl B (n) (fw_up (fw_up (w) (h0 + 9) (.inl (ta 1, 64, .inl (fun z_ => iI (((gup (lf) (nr) (0)) z_ : Nat) : Int))))) (h0 + 8) (.inr (5, [.ref (h0 + 10), .ref (h0 + 11), .ref (h0 + 9), .int (iI (((nj : Nat) : Int))), .int (iI (((nr + 1 : Nat) : Int))), .int (iI (((ns : Nat) : Int)))]))) H := hP
  refine lv_aload_n hx hb dX0_begin_26 rfl (lv_at hl 0 rfl) ?_
  refine lv_iconst (v := (iI (((1 : Nat) : Int)))) hx hb dX0_begin_27 rfl ?_
  refine fw_put (ci := 0) (fs := [.ref (h0 + 1), .ref (h0 + 2), .int (iI (((2 * U : Nat) : Int))), .ref (h0 + 4), .ref (h0 + 6), .ref (h0 + 8), .int (iI (ht)), .int (bI (false))]) (k := 7) (v := .int (bI (true))) (C := RX0) (T := TX0) (N := 8) hx hb hts inFX0 tyX0 tyX0_ok nmX0 hown hK hP hS (fw_at (by omega) (fw_at (by omega) e0)) rfl (by decide) mFX0_65 rfl rfl (bI_narrow _) (bI_fits _) (Nat.le_of_ble_eq_true rfl) dX0_begin_28 (fun H locs hP hS => ?_)
  have hP : fw_P D vwCl B (n) (fw_up (fw_up (fw_up (w) (h0 + 9) (.inl (ta 1, 64, .inl (fun z_ => iI (((gup (lf) (nr) (0)) z_ : Nat) : Int))))) (h0 + 8) (.inr (5, [.ref (h0 + 10), .ref (h0 + 11), .ref (h0 + 9), .int (iI (((nj : Nat) : Int))), .int (iI (((nr + 1 : Nat) : Int))), .int (iI (((ns : Nat) : Int)))]))) (h0) (.inr (0, [.ref (h0 + 1), .ref (h0 + 2), .int (iI (((2 * U : Nat) : Int))), .ref (h0 + 4), .ref (h0 + 6), .ref (h0 + 8), .int (iI (ht)), .int (bI (true))]))) H := hP
  refine lv_iconst (v := (iI (((1 : Nat) : Int)))) hx hb dX0_begin_31 rfl ?_
  exact fw_zret hx hb hr hlocks hP hS dX0_begin_32 (Or.inr rfl) (Nat.le_of_ble_eq_true rfl) (Nat.le_of_ble_eq_true rfl) ⟨rfl, rfl, rfl⟩
set_option maxHeartbeats 4000000 in
set_option maxRecDepth 100000 in
theorem cm_inHand_hit (l : Launch) (D : va_G) (ta : Nat → ClassId) (B n : Nat) (w : fw_W) (h0 : Nat) (U : Nat) (ht : Int) (k : cKey) (nu : Nat) (uf : Nat → Option Nat) (op : Bool) (ca : Nat → Nat) (cx : Nat → cCoin) (j : Nat) (e0 : w (h0) = some (.inr (0, [.ref (h0 + 1), .ref (h0 + 2), .int (iI (((2 * U : Nat) : Int))), .ref (h0 + 4), .ref (h0 + 6), .ref (h0 + 8), .int (iI (ht)), .int (bI (op))]))) (e1 : w (h0 + 1) = some (.inr (1, [.long (k.1), .long (k.2.1), .long (k.2.2.1), .long (k.2.2.2.1), .int (k.2.2.2.2)]))) (e4 : w (h0 + 4) = some (.inr (4, [.ref (h0 + 5), .int (iI (((nu : Nat) : Int)))]))) (e5 : w (h0 + 5) = some (.inl (ta 3, U, .inr (.inr (.inr (.inr (uf))))))) (hU : U ≤ 200) (hu : nu ≤ U) (hc : ∀ j, j < nu → uf j = some (ca j) ∧ cn_at ta w (ca j) (cx j)) (hj : j < nu) (hkj : (cx j).1 = k) (huq : ∀ i, i < nu → (cx i).1 = k → i = j) : fw_C l D vwCl (tyL ta) B yX0_coinInHand cX0_coinInHand 1 (some (.object "CoinDesk$Coin")) ({ frames := 3, cells := 0, slots := 0, locals := 66 } : Room) [.ref (h0)] n w (fun r w1 n1 => r = some (.ref (ca j)) ∧ w1 = w ∧ n1 = n) := by
  refine fw_enter (by decide) (Nat.le_of_ble_eq_true rfl) ?_
  intro p e s m below meth c hx hb hr hml hown hlocks hin hG hts hK H locs hP hS ls hl
  have hown : s.vm.findClass RX0 = some m.cls := hown
  replace hl : lv_has ls 1 [(0, .ref (h0))] := hl
  have lt_e0 := hP.lt e0
  have lt_e1 := hP.lt e1
  have lt_e4 := hP.lt e4
  have lt_e5 := hP.lt e5
  refine lv_aload_n hx hb dX0_coinInHand_0 rfl (lv_at hl 0 rfl) ?_
  refine fw_get (ci := 0) (fs := [.ref (h0 + 1), .ref (h0 + 2), .int (iI (((2 * U : Nat) : Int))), .ref (h0 + 4), .ref (h0 + 6), .ref (h0 + 8), .int (iI (ht)), .int (bI (op))]) (k := 3) (v := .ref (h0 + 4)) (C := RX0) (T := TX0) (N := 8) hx hb hts inFX0 hown hK hP e0 rfl (by decide) mFX0_36 rfl dX0_coinInHand_1 ?_
  refine lv_aload_n hx hb dX0_coinInHand_4 rfl (lv_at hl 0 rfl) ?_
  refine fw_get (ci := 0) (fs := [.ref (h0 + 1), .ref (h0 + 2), .int (iI (((2 * U : Nat) : Int))), .ref (h0 + 4), .ref (h0 + 6), .ref (h0 + 8), .int (iI (ht)), .int (bI (op))]) (k := 0) (v := .ref (h0 + 1)) (C := RX0) (T := TX0) (N := 8) hx hb hts inFX0 hown hK hP e0 rfl (by decide) mFX0_10 rfl dX0_coinInHand_5 ?_
  refine fw_callV (ci := 4) (fs := [.ref (h0 + 5), .int (iI (((nu : Nat) : Int)))]) (T := TX4) (N := 2) (b := h0 + 4) (As := [.ref (h0 + 1)]) (rest := []) hx hb hml hown hts hK hG hP hS hl mM_X4_find mV_X4_find mLX0_158 (cm_Pile_find_hit l D ta B (n) (w) (h0 + 4) (h0 + 5) (nu) (U) (uf) (h0 + 1) (k) (ca) (cx) (j) e4 e5 e1 (by omega) (by omega) (fun j hj => ⟨(hc j hj).1, (hc j hj).2⟩) hj hkj huq) e4 rfl rfl rfl (Nat.le_of_ble_eq_true rfl) ⟨Nat.le_of_ble_eq_true rfl, Nat.le_of_ble_eq_true rfl⟩ ⟨Nat.le_of_ble_eq_true rfl, Nat.le_of_ble_eq_true rfl⟩ dX0_coinInHand_8 (fun r w1 n1 H locs hq hP hS => ?_)
  obtain ⟨rfl, hw1, hn1⟩ := hq
  replace hw1 := hw1.symm; replace hn1 := hn1.symm; subst hw1; subst hn1
  refine W.eq (g2 := F0 m 11 ls [.ref (ca j)]) rfl ?_
  exact fw_aret hx hb hr hlocks hP hS dX0_coinInHand_11 (Or.inr ⟨_, rfl⟩) (Nat.le_of_ble_eq_true rfl) (Nat.le_of_ble_eq_true rfl) ⟨rfl, rfl, rfl⟩
set_option maxHeartbeats 4000000 in
set_option maxRecDepth 100000 in
theorem cm_inHand_miss (l : Launch) (D : va_G) (ta : Nat → ClassId) (B n : Nat) (w : fw_W) (h0 : Nat) (U : Nat) (ht : Int) (k : cKey) (nu : Nat) (uf : Nat → Option Nat) (op : Bool) (ca : Nat → Nat) (cx : Nat → cCoin) (e0 : w (h0) = some (.inr (0, [.ref (h0 + 1), .ref (h0 + 2), .int (iI (((2 * U : Nat) : Int))), .ref (h0 + 4), .ref (h0 + 6), .ref (h0 + 8), .int (iI (ht)), .int (bI (op))]))) (e1 : w (h0 + 1) = some (.inr (1, [.long (k.1), .long (k.2.1), .long (k.2.2.1), .long (k.2.2.2.1), .int (k.2.2.2.2)]))) (e4 : w (h0 + 4) = some (.inr (4, [.ref (h0 + 5), .int (iI (((nu : Nat) : Int)))]))) (e5 : w (h0 + 5) = some (.inl (ta 3, U, .inr (.inr (.inr (.inr (uf))))))) (hU : U ≤ 200) (hu : nu ≤ U) (hc : ∀ j, j < nu → uf j = some (ca j) ∧ cn_at ta w (ca j) (cx j)) (hms : ∀ j, j < nu → (cx j).1 ≠ k) : fw_C l D vwCl (tyL ta) B yX0_coinInHand cX0_coinInHand 1 (some (.object "CoinDesk$Coin")) ({ frames := 3, cells := 0, slots := 0, locals := 66 } : Room) [.ref (h0)] n w (fun r w1 n1 => r = some (.null) ∧ w1 = w ∧ n1 = n) := by
  refine fw_enter (by decide) (Nat.le_of_ble_eq_true rfl) ?_
  intro p e s m below meth c hx hb hr hml hown hlocks hin hG hts hK H locs hP hS ls hl
  have hown : s.vm.findClass RX0 = some m.cls := hown
  replace hl : lv_has ls 1 [(0, .ref (h0))] := hl
  have lt_e0 := hP.lt e0
  have lt_e1 := hP.lt e1
  have lt_e4 := hP.lt e4
  have lt_e5 := hP.lt e5
  refine lv_aload_n hx hb dX0_coinInHand_0 rfl (lv_at hl 0 rfl) ?_
  refine fw_get (ci := 0) (fs := [.ref (h0 + 1), .ref (h0 + 2), .int (iI (((2 * U : Nat) : Int))), .ref (h0 + 4), .ref (h0 + 6), .ref (h0 + 8), .int (iI (ht)), .int (bI (op))]) (k := 3) (v := .ref (h0 + 4)) (C := RX0) (T := TX0) (N := 8) hx hb hts inFX0 hown hK hP e0 rfl (by decide) mFX0_36 rfl dX0_coinInHand_1 ?_
  refine lv_aload_n hx hb dX0_coinInHand_4 rfl (lv_at hl 0 rfl) ?_
  refine fw_get (ci := 0) (fs := [.ref (h0 + 1), .ref (h0 + 2), .int (iI (((2 * U : Nat) : Int))), .ref (h0 + 4), .ref (h0 + 6), .ref (h0 + 8), .int (iI (ht)), .int (bI (op))]) (k := 0) (v := .ref (h0 + 1)) (C := RX0) (T := TX0) (N := 8) hx hb hts inFX0 hown hK hP e0 rfl (by decide) mFX0_10 rfl dX0_coinInHand_5 ?_
  refine fw_callV (ci := 4) (fs := [.ref (h0 + 5), .int (iI (((nu : Nat) : Int)))]) (T := TX4) (N := 2) (b := h0 + 4) (As := [.ref (h0 + 1)]) (rest := []) hx hb hml hown hts hK hG hP hS hl mM_X4_find mV_X4_find mLX0_158 (cm_Pile_find_miss l D ta B (n) (w) (h0 + 4) (h0 + 5) (nu) (U) (uf) (h0 + 1) (k) (ca) (cx) e4 e5 e1 (by omega) (by omega) (fun j hj => ⟨(hc j hj).1, (hc j hj).2⟩) hms) e4 rfl rfl rfl (Nat.le_of_ble_eq_true rfl) ⟨Nat.le_of_ble_eq_true rfl, Nat.le_of_ble_eq_true rfl⟩ ⟨Nat.le_of_ble_eq_true rfl, Nat.le_of_ble_eq_true rfl⟩ dX0_coinInHand_8 (fun r w1 n1 H locs hq hP hS => ?_)
  obtain ⟨rfl, hw1, hn1⟩ := hq
  replace hw1 := hw1.symm; replace hn1 := hn1.symm; subst hw1; subst hn1
  refine W.eq (g2 := F0 m 11 ls [.null]) rfl ?_
  exact fw_aret hx hb hr hlocks hP hS dX0_coinInHand_11 (Or.inl rfl) (Nat.le_of_ble_eq_true rfl) (Nat.le_of_ble_eq_true rfl) ⟨rfl, rfl, rfl⟩
set_option maxHeartbeats 4000000 in
set_option maxRecDepth 100000 in
theorem cm_make_closed (l : Launch) (D : va_G) (ta : Nat → ClassId) (B n : Nat) (w : fw_W) (h0 : Nat) (U : Nat) (ht : Int) (v : Int64) (fi : Bool) (e0 : w (h0) = some (.inr (0, [.ref (h0 + 1), .ref (h0 + 2), .int (iI (((2 * U : Nat) : Int))), .ref (h0 + 4), .ref (h0 + 6), .ref (h0 + 8), .int (iI (ht)), .int (bI (false))])))  : fw_C l D vwCl (tyL ta) B yX0_make cX0_make 5 (some .int) ({ frames := 4, cells := 4, slots := 212, locals := 86 } : Room) [.ref (h0), .long (v), .int (bI (fi))] n w (fun r w1 n1 => r = some (.int (iI (((1 : Nat) : Int)))) ∧ w1 = w ∧ n1 = n) := by
  refine fw_enter (by decide) (Nat.le_of_ble_eq_true rfl) ?_
  intro p e s m below meth c hx hb hr hml hown hlocks hin hG hts hK H locs hP hS ls hl
  have hown : s.vm.findClass RX0 = some m.cls := hown
  replace hl : lv_has ls 5 [(0, .ref (h0)), (1, .long (v)), (3, .int (bI (fi)))] := hl
  have lt_e0 := hP.lt e0
  refine lv_aload_n hx hb dX0_make_0 rfl (lv_at hl 0 rfl) ?_
  refine fw_get (ci := 0) (fs := [.ref (h0 + 1), .ref (h0 + 2), .int (iI (((2 * U : Nat) : Int))), .ref (h0 + 4), .ref (h0 + 6), .ref (h0 + 8), .int (iI (ht)), .int (bI (false))]) (k := 7) (v := .int (bI (false))) (C := RX0) (T := TX0) (N := 8) hx hb hts inFX0 hown hK hP e0 rfl (by decide) mFX0_65 rfl dX0_make_1 ?_
  refine fn_bif_ne (x := false) (tgt := 9) hx hb dX0_make_4 (by decide) (fun c1 => False.elim (by cases c1)) (fun c1 => ?_)
  refine lv_iconst (v := (iI (((1 : Nat) : Int)))) hx hb dX0_make_7 rfl ?_
  exact fw_iret hx hb hr hlocks hP hS dX0_make_8 (Nat.le_of_ble_eq_true rfl) (Nat.le_of_ble_eq_true rfl) ⟨rfl, rfl, rfl⟩
set_option maxHeartbeats 4000000 in
set_option maxRecDepth 100000 in
theorem cm_make_dup (l : Launch) (D : va_G) (ta : Nat → ClassId) (B n : Nat) (w : fw_W) (h0 : Nat) (U : Nat) (ht : Int) (k : cKey) (nu : Nat) (uf : Nat → Option Nat) (v : Int64) (fi : Bool) (ca : Nat → Nat) (cx : Nat → cCoin) (j : Nat) (e0 : w (h0) = some (.inr (0, [.ref (h0 + 1), .ref (h0 + 2), .int (iI (((2 * U : Nat) : Int))), .ref (h0 + 4), .ref (h0 + 6), .ref (h0 + 8), .int (iI (ht)), .int (bI (true))]))) (e1 : w (h0 + 1) = some (.inr (1, [.long (k.1), .long (k.2.1), .long (k.2.2.1), .long (k.2.2.2.1), .int (k.2.2.2.2)]))) (e4 : w (h0 + 4) = some (.inr (4, [.ref (h0 + 5), .int (iI (((nu : Nat) : Int)))]))) (e5 : w (h0 + 5) = some (.inl (ta 3, U, .inr (.inr (.inr (.inr (uf))))))) (hU : U ≤ 200) (hu : nu ≤ U) (hc : ∀ j, j < nu → uf j = some (ca j) ∧ cn_at ta w (ca j) (cx j)) (hj : j < nu) (hkj : (cx j).1 = k) (huq : ∀ i, i < nu → (cx i).1 = k → i = j) : fw_C l D vwCl (tyL ta) B yX0_make cX0_make 5 (some .int) ({ frames := 4, cells := 4, slots := 212, locals := 86 } : Room) [.ref (h0), .long (v), .int (bI (fi))] n w (fun r w1 n1 => r = some (.int (iI (((2 : Nat) : Int)))) ∧ w1 = w ∧ n1 = n) := by
  refine fw_enter (by decide) (Nat.le_of_ble_eq_true rfl) ?_
  intro p e s m below meth c hx hb hr hml hown hlocks hin hG hts hK H locs hP hS ls hl
  have hown : s.vm.findClass RX0 = some m.cls := hown
  replace hl : lv_has ls 5 [(0, .ref (h0)), (1, .long (v)), (3, .int (bI (fi)))] := hl
  have lt_e0 := hP.lt e0
  have lt_e1 := hP.lt e1
  have lt_e4 := hP.lt e4
  have lt_e5 := hP.lt e5
  refine lv_aload_n hx hb dX0_make_0 rfl (lv_at hl 0 rfl) ?_
  refine fw_get (ci := 0) (fs := [.ref (h0 + 1), .ref (h0 + 2), .int (iI (((2 * U : Nat) : Int))), .ref (h0 + 4), .ref (h0 + 6), .ref (h0 + 8), .int (iI (ht)), .int (bI (true))]) (k := 7) (v := .int (bI (true))) (C := RX0) (T := TX0) (N := 8) hx hb hts inFX0 hown hK hP e0 rfl (by decide) mFX0_65 rfl dX0_make_1 ?_
  refine fn_bif_ne (x := true) (tgt := 9) hx hb dX0_make_4 (by decide) (fun c1 => ?_) (fun c1 => False.elim (by cases c1))
  refine lv_aload_n hx hb dX0_make_9 rfl (lv_at hl 0 rfl) ?_
  refine fw_callV (ci := 0) (fs := [.ref (h0 + 1), .ref (h0 + 2), .int (iI (((2 * U : Nat) : Int))), .ref (h0 + 4), .ref (h0 + 6), .ref (h0 + 8), .int (iI (ht)), .int (bI (true))]) (T := TX0) (N := 8) (b := h0) (As := []) (rest := []) hx hb hml hown hts hK hG hP hS hl mM_X0_coinInHand mV_X0_coinInHand mLX0_76 (cm_inHand_hit l D ta B (n) (w) (h0) (U) (ht) (k) (nu) (uf) (true) (ca) (cx) (j) e0 e1 e4 e5 (by omega) (by omega) (fun j hj => ⟨(hc j hj).1, (hc j hj).2⟩) hj hkj huq) e0 rfl rfl rfl (Nat.le_of_ble_eq_true rfl) ⟨Nat.le_of_ble_eq_true rfl, Nat.le_of_ble_eq_true rfl⟩ ⟨Nat.le_of_ble_eq_true rfl, Nat.le_of_ble_eq_true rfl⟩ dX0_make_10 (fun r w2 n1 H locs hq hP hS => ?_)
  obtain ⟨rfl, hw1, hn1⟩ := hq
  replace hw1 := hw1.symm; replace hn1 := hn1.symm; subst hw1; subst hn1
  refine W.eq (g2 := F0 m 13 ls [.ref (ca j)]) rfl ?_
  refine lv_ifnull hx hb dX0_make_13 ?_
  refine lv_iconst (v := (iI (((2 : Nat) : Int)))) hx hb dX0_make_16 rfl ?_
  exact fw_iret hx hb hr hlocks hP hS dX0_make_17 (Nat.le_of_ble_eq_true rfl) (Nat.le_of_ble_eq_true rfl) ⟨rfl, rfl, rfl⟩
set_option maxHeartbeats 4000000 in
set_option maxRecDepth 100000 in
theorem cm_make_full (l : Launch) (D : va_G) (ta : Nat → ClassId) (B n : Nat) (w : fw_W) (h0 : Nat) (U : Nat) (ht : Int) (k : cKey) (nu : Nat) (uf : Nat → Option Nat) (v : Int64) (fi : Bool) (ca : Nat → Nat) (cx : Nat → cCoin) (e0 : w (h0) = some (.inr (0, [.ref (h0 + 1), .ref (h0 + 2), .int (iI (((2 * U : Nat) : Int))), .ref (h0 + 4), .ref (h0 + 6), .ref (h0 + 8), .int (iI (ht)), .int (bI (true))]))) (e1 : w (h0 + 1) = some (.inr (1, [.long (k.1), .long (k.2.1), .long (k.2.2.1), .long (k.2.2.2.1), .int (k.2.2.2.2)]))) (e4 : w (h0 + 4) = some (.inr (4, [.ref (h0 + 5), .int (iI (((nu : Nat) : Int)))]))) (e5 : w (h0 + 5) = some (.inl (ta 3, U, .inr (.inr (.inr (.inr (uf))))))) (hU : U ≤ 200) (hu : nu ≤ U) (hc : ∀ j, j < nu → uf j = some (ca j) ∧ cn_at ta w (ca j) (cx j)) (hms : ∀ j, j < nu → (cx j).1 ≠ k) (hfu : U ≤ nu) : fw_C l D vwCl (tyL ta) B yX0_make cX0_make 5 (some .int) ({ frames := 4, cells := 4, slots := 212, locals := 86 } : Room) [.ref (h0), .long (v), .int (bI (fi))] n w (fun r w1 n1 => r = some (.int (iI (((3 : Nat) : Int)))) ∧ w1 = w ∧ n1 = n) := by
  refine fw_enter (by decide) (Nat.le_of_ble_eq_true rfl) ?_
  intro p e s m below meth c hx hb hr hml hown hlocks hin hG hts hK H locs hP hS ls hl
  have hown : s.vm.findClass RX0 = some m.cls := hown
  replace hl : lv_has ls 5 [(0, .ref (h0)), (1, .long (v)), (3, .int (bI (fi)))] := hl
  have lt_e0 := hP.lt e0
  have lt_e1 := hP.lt e1
  have lt_e4 := hP.lt e4
  have lt_e5 := hP.lt e5
  refine lv_aload_n hx hb dX0_make_0 rfl (lv_at hl 0 rfl) ?_
  refine fw_get (ci := 0) (fs := [.ref (h0 + 1), .ref (h0 + 2), .int (iI (((2 * U : Nat) : Int))), .ref (h0 + 4), .ref (h0 + 6), .ref (h0 + 8), .int (iI (ht)), .int (bI (true))]) (k := 7) (v := .int (bI (true))) (C := RX0) (T := TX0) (N := 8) hx hb hts inFX0 hown hK hP e0 rfl (by decide) mFX0_65 rfl dX0_make_1 ?_
  refine fn_bif_ne (x := true) (tgt := 9) hx hb dX0_make_4 (by decide) (fun c1 => ?_) (fun c1 => False.elim (by cases c1))
  refine lv_aload_n hx hb dX0_make_9 rfl (lv_at hl 0 rfl) ?_
  refine fw_callV (ci := 0) (fs := [.ref (h0 + 1), .ref (h0 + 2), .int (iI (((2 * U : Nat) : Int))), .ref (h0 + 4), .ref (h0 + 6), .ref (h0 + 8), .int (iI (ht)), .int (bI (true))]) (T := TX0) (N := 8) (b := h0) (As := []) (rest := []) hx hb hml hown hts hK hG hP hS hl mM_X0_coinInHand mV_X0_coinInHand mLX0_76 (cm_inHand_miss l D ta B (n) (w) (h0) (U) (ht) (k) (nu) (uf) (true) (ca) (cx) e0 e1 e4 e5 (by omega) (by omega) (fun j hj => ⟨(hc j hj).1, (hc j hj).2⟩) hms) e0 rfl rfl rfl (Nat.le_of_ble_eq_true rfl) ⟨Nat.le_of_ble_eq_true rfl, Nat.le_of_ble_eq_true rfl⟩ ⟨Nat.le_of_ble_eq_true rfl, Nat.le_of_ble_eq_true rfl⟩ dX0_make_10 (fun r w2 n1 H locs hq hP hS => ?_)
  obtain ⟨rfl, hw1, hn1⟩ := hq
  replace hw1 := hw1.symm; replace hn1 := hn1.symm; subst hw1; subst hn1
  refine W.eq (g2 := F0 m 13 ls [.null]) rfl ?_
  refine lv_ifnullN (tgt := 18) hx hb dX0_make_13 (by decide) ?_
  refine lv_aload_n hx hb dX0_make_18 rfl (lv_at hl 0 rfl) ?_
  refine fw_get (ci := 0) (fs := [.ref (h0 + 1), .ref (h0 + 2), .int (iI (((2 * U : Nat) : Int))), .ref (h0 + 4), .ref (h0 + 6), .ref (h0 + 8), .int (iI (ht)), .int (bI (true))]) (k := 3) (v := .ref (h0 + 4)) (C := RX0) (T := TX0) (N := 8) hx hb hts inFX0 hown hK hP e0 rfl (by decide) mFX0_36 rfl dX0_make_19 ?_
  refine fw_callV (ci := 4) (fs := [.ref (h0 + 5), .int (iI (((nu : Nat) : Int)))]) (T := TX4) (N := 2) (b := h0 + 4) (As := []) (rest := []) hx hb hml hown hts hK hG hP hS hl mM_X4_isFull mV_X4_isFull mLX0_80 (cm_Pile_isFull l D ta B (n) (w) (h0 + 4) (h0 + 5) (nu) (U) (uf) e4 e5 (by omega) (by omega)) e4 rfl rfl rfl (Nat.le_of_ble_eq_true rfl) ⟨Nat.le_of_ble_eq_true rfl, Nat.le_of_ble_eq_true rfl⟩ ⟨Nat.le_of_ble_eq_true rfl, Nat.le_of_ble_eq_true rfl⟩ dX0_make_22 (fun r w3 n1 H locs hq hP hS => ?_)
  obtain ⟨rfl, hw1, hn1⟩ := hq
  replace hw1 := hw1.symm; replace hn1 := hn1.symm; subst hw1; subst hn1
  refine W.eq (g2 := F0 m 25 ls [.int (bI (decide (U ≤ nu)))]) rfl ?_
  refine fn_bif_eq (x := decide (U ≤ nu)) (tgt := 30) hx hb dX0_make_25 (by decide) (fun c4 => False.elim (by have q := of_decide_eq_false c4; omega)) (fun c4 => ?_)
  refine lv_iconst (v := (iI (((3 : Nat) : Int)))) hx hb dX0_make_28 rfl ?_
  exact fw_iret hx hb hr hlocks hP hS dX0_make_29 (Nat.le_of_ble_eq_true rfl) (Nat.le_of_ble_eq_true rfl) ⟨rfl, rfl, rfl⟩
set_option maxHeartbeats 4000000 in
set_option maxRecDepth 100000 in
theorem cm_blank_reuse (l : Launch) (D : va_G) (ta : Nat → ClassId) (B n : Nat) (w : fw_W) (h0 : Nat) (U : Nat) (ht : Int) (nb : Nat) (bf : Nat → Option Nat) (op : Bool) (a : Nat) (e0 : w (h0) = some (.inr (0, [.ref (h0 + 1), .ref (h0 + 2), .int (iI (((2 * U : Nat) : Int))), .ref (h0 + 4), .ref (h0 + 6), .ref (h0 + 8), .int (iI (ht)), .int (bI (op))]))) (e6 : w (h0 + 6) = some (.inr (4, [.ref (h0 + 7), .int (iI (((nb : Nat) : Int)))]))) (e7 : w (h0 + 7) = some (.inl (ta 3, (3 * U), .inr (.inr (.inr (.inr (bf))))))) (hU : U ≤ 200) (hb1 : 1 ≤ nb) (hb2 : nb ≤ 3 * U) (hba : bf (nb - 1) = some a) : fw_C l D vwCl (tyL ta) B yX0_blankCoin cX0_blankCoin 2 (some (.object "CoinDesk$Coin")) ({ frames := 3, cells := 4, slots := 212, locals := 60 } : Room) [.ref (h0)] n w (fun r w1 n1 => r = some (.ref (a)) ∧ w1 = fw_up (w) (h0 + 6) (.inr (4, [.ref (h0 + 7), .int (iI (((nb - 1 : Nat) : Int)))])) ∧ n1 = n) := by
  refine fw_enter (by decide) (Nat.le_of_ble_eq_true rfl) ?_
  intro p e s m below meth c hx hb hr hml hown hlocks hin hG hts hK H locs hP hS ls hl
  have hown : s.vm.findClass RX0 = some m.cls := hown
  replace hl : lv_has ls 2 [(0, .ref (h0))] := hl
  have lt_e0 := hP.lt e0
  have lt_e6 := hP.lt e6
  have lt_e7 := hP.lt e7
  refine lv_aload_n hx hb dX0_blankCoin_0 rfl (lv_at hl 0 rfl) ?_
  refine fw_get (ci := 0) (fs := [.ref (h0 + 1), .ref (h0 + 2), .int (iI (((2 * U : Nat) : Int))), .ref (h0 + 4), .ref (h0 + 6), .ref (h0 + 8), .int (iI (ht)), .int (bI (op))]) (k := 4) (v := .ref (h0 + 6)) (C := RX0) (T := TX0) (N := 8) hx hb hts inFX0 hown hK hP e0 rfl (by decide) mFX0_40 rfl dX0_blankCoin_1 ?_
  refine fw_callV (ci := 4) (fs := [.ref (h0 + 7), .int (iI (((nb : Nat) : Int)))]) (T := TX4) (N := 2) (b := h0 + 6) (As := []) (rest := []) hx hb hml hown hts hK hG hP hS hl mM_X4_takeLast mV_X4_takeLast mLX0_162 (cm_Pile_takeLast l D ta B (n) (w) (h0 + 6) (h0 + 7) (nb) (3 * U) (bf) (a) e6 e7 (by omega) (by omega) (by omega) hba) e6 rfl rfl rfl (Nat.le_of_ble_eq_true rfl) ⟨Nat.le_of_ble_eq_true rfl, Nat.le_of_ble_eq_true rfl⟩ ⟨Nat.le_of_ble_eq_true rfl, Nat.le_of_ble_eq_true rfl⟩ dX0_blankCoin_4 (fun r w1 n1 H locs hq hP hS => ?_)
  obtain ⟨rfl, hw1, hn1⟩ := hq
  replace hw1 := hw1.symm; replace hn1 := hn1.symm; subst hw1; subst hn1
  refine W.eq (g2 := F0 m 7 ls [.ref (a)]) rfl ?_
  have hP : fw_P D vwCl B (n) (fw_up (w) (h0 + 6) (.inr (4, [.ref (h0 + 7), .int (iI (((nb - 1 : Nat) : Int)))]))) H := hP
  refine lv_astore_n (lv' := [(1, .ref (a)), (0, .ref (h0))]) hx hb dX0_blankCoin_7 rfl hl (by decide) rfl (fun ls hl => ?_)
  refine lv_aload_n hx hb dX0_blankCoin_8 rfl (lv_at hl 0 rfl) ?_
  refine lv_ifnonnull (tgt := 22) hx hb dX0_blankCoin_9 (by decide) ?_
  refine lv_aload_n hx hb dX0_blankCoin_22 rfl (lv_at hl 0 rfl) ?_
  exact fw_aret hx hb hr hlocks hP hS dX0_blankCoin_23 (Or.inr ⟨_, rfl⟩) (Nat.le_of_ble_eq_true rfl) (Nat.le_of_ble_eq_true rfl) ⟨rfl, rfl, rfl⟩
set_option maxHeartbeats 4000000 in
set_option maxRecDepth 100000 in
theorem cm_blank_fresh (l : Launch) (D : va_G) (ta : Nat → ClassId) (B n : Nat) (w : fw_W) (h0 : Nat) (U : Nat) (ht : Int) (nb : Nat) (bf : Nat → Option Nat) (op : Bool) (e0 : w (h0) = some (.inr (0, [.ref (h0 + 1), .ref (h0 + 2), .int (iI (((2 * U : Nat) : Int))), .ref (h0 + 4), .ref (h0 + 6), .ref (h0 + 8), .int (iI (ht)), .int (bI (op))]))) (e6 : w (h0 + 6) = some (.inr (4, [.ref (h0 + 7), .int (iI (((nb : Nat) : Int)))]))) (e7 : w (h0 + 7) = some (.inl (ta 3, (3 * U), .inr (.inr (.inr (.inr (bf))))))) (hU : U ≤ 200) (hb0 : nb = 0) : fw_C l D vwCl (tyL ta) B yX0_blankCoin cX0_blankCoin 2 (some (.object "CoinDesk$Coin")) ({ frames := 3, cells := 4, slots := 212, locals := 60 } : Room) [.ref (h0)] n w (fun r w1 n1 => r = some (.ref (n)) ∧ w1 = fw_up (fw_up (fw_up (fw_up (w) (n) (.inr (3, [.ref (n + 1), .ref (n + 2), .long (0), .int (iI (((0 : Nat) : Int))), .int (bI (false))]))) (n + 1) (.inr (1, [.long (0), .long (0), .long (0), .long (0), .int (iI (((0 : Nat) : Int)))]))) (n + 2) (.inr (2, [.ref (n + 3), .int (iI (((0 : Nat) : Int)))]))) (n + 3) (.inl (ta 0, 200, .inl (fun _ => (0 : Int32)))) ∧ n1 = n + 4) := by
  refine fw_enter (by decide) (Nat.le_of_ble_eq_true rfl) ?_
  intro p e s m below meth c hx hb hr hml hown hlocks hin hG hts hK H locs hP hS ls hl
  have hown : s.vm.findClass RX0 = some m.cls := hown
  replace hl : lv_has ls 2 [(0, .ref (h0))] := hl
  have lt_e0 := hP.lt e0
  have lt_e6 := hP.lt e6
  have lt_e7 := hP.lt e7
  refine lv_aload_n hx hb dX0_blankCoin_0 rfl (lv_at hl 0 rfl) ?_
  refine fw_get (ci := 0) (fs := [.ref (h0 + 1), .ref (h0 + 2), .int (iI (((2 * U : Nat) : Int))), .ref (h0 + 4), .ref (h0 + 6), .ref (h0 + 8), .int (iI (ht)), .int (bI (op))]) (k := 4) (v := .ref (h0 + 6)) (C := RX0) (T := TX0) (N := 8) hx hb hts inFX0 hown hK hP e0 rfl (by decide) mFX0_40 rfl dX0_blankCoin_1 ?_
  refine fw_callV (ci := 4) (fs := [.ref (h0 + 7), .int (iI (((nb : Nat) : Int)))]) (T := TX4) (N := 2) (b := h0 + 6) (As := []) (rest := []) hx hb hml hown hts hK hG hP hS hl mM_X4_takeLast mV_X4_takeLast mLX0_162 (cm_Pile_takeNone l D ta B (n) (w) (h0 + 6) (h0 + 7) (nb) (3 * U) (bf) e6 e7 (by omega) (by omega) (by omega)) e6 rfl rfl rfl (Nat.le_of_ble_eq_true rfl) ⟨Nat.le_of_ble_eq_true rfl, Nat.le_of_ble_eq_true rfl⟩ ⟨Nat.le_of_ble_eq_true rfl, Nat.le_of_ble_eq_true rfl⟩ dX0_blankCoin_4 (fun r w1 n1 H locs hq hP hS => ?_)
  obtain ⟨rfl, hw1, hn1⟩ := hq
  replace hw1 := hw1.symm; replace hn1 := hn1.symm; subst hw1; subst hn1
  refine W.eq (g2 := F0 m 7 ls [.null]) rfl ?_
  refine lv_astore_nN (lv' := [(1, .null), (0, .ref (h0))]) hx hb dX0_blankCoin_7 rfl hl (by decide) rfl (fun ls hl => ?_)
  refine lv_aload_nN hx hb dX0_blankCoin_8 rfl (lv_at hl 0 rfl) ?_
  refine lv_ifnonnullN hx hb dX0_blankCoin_9 ?_
  refine fw_new (ci := 3) (fs := [.null, .null, .long (0), .int (iI (((0 : Nat) : Int))), .int (bI (false))]) (C := RX3) (T := TX3) (N := 5) hx hb hts inFX3 tyX3 tyX3_ok hown mKX0_88 mIX3 mZX3 hK hP hS rfl (by decide +kernel) (by decide) (by decide) dX0_blankCoin_12 (fun H hP hS => ?_)
  have hP : fw_P D vwCl B (n + 1) (fw_up (w) (n) (.inr (3, [.null, .null, .long (0), .int (iI (((0 : Nat) : Int))), .int (bI (false))]))) H := hP
  refine lv_dup hx hb dX0_blankCoin_15 rfl ?_
  refine fw_callIN (b := n) (As := []) (rest := [.ref (n)]) hx hb hml hown hts hK hG hP hS hl mM_X3_init mV_X3_init rfl mNX0_165 (cm_Coin_init l D ta B (n + 1) (fw_up (w) (n) (.inr (3, [.null, .null, .long (0), .int (iI (((0 : Nat) : Int))), .int (bI (false))]))) (n) (fw_same _ _ _) ) rfl rfl (Nat.le_of_ble_eq_true rfl) ⟨Nat.le_of_ble_eq_true rfl, Nat.le_of_ble_eq_true rfl⟩ ⟨Nat.le_of_ble_eq_true rfl, Nat.le_of_ble_eq_true rfl⟩ dX0_blankCoin_16 (fun r w2 n1 H locs hq hP hS => ?_)
  obtain ⟨rfl, hw1, hn1⟩ := hq
  replace hw1 := hw1.symm; replace hn1 := hn1.symm; subst hw1; subst hn1
  refine W.eq (g2 := F0 m 19 ls [.ref (n)]) rfl ?_
  have hP : fw_P D vwCl B (n + 4) (fw_up (fw_up (fw_up (fw_up (w) (n) (.inr (3, [.ref (n + 1), .ref (n + 2), .long (0), .int (iI (((0 : Nat) : Int))), .int (bI (false))]))) (n + 1) (.inr (1, [.long (0), .long (0), .long (0), .long (0), .int (iI (((0 : Nat) : Int)))]))) (n + 2) (.inr (2, [.ref (n + 3), .int (iI (((0 : Nat) : Int)))]))) (n + 3) (.inl (ta 0, 200, .inl (fun _ => (0 : Int32))))) H := fw_P.eqw (fw_under (fw_under (fw_swap (by omega) (fw_twice _ _ _ _)) _ _) _ _) hP
  refine lv_goto (tgt := 23) hx hb dX0_blankCoin_19 (by decide) ?_
  exact fw_aret hx hb hr hlocks hP hS dX0_blankCoin_23 (Or.inr ⟨_, rfl⟩) (Nat.le_of_ble_eq_true rfl) (Nat.le_of_ble_eq_true rfl) ⟨rfl, rfl, rfl⟩
