set_option maxHeartbeats 4000000 in
set_option maxRecDepth 100000 in
theorem cm_Key_init (l : Launch) (D : va_G) (ta : Nat → ClassId) (B n : Nat) (w : fw_W) (h0 : Nat)   : fw_C l D vwCl (tyL ta) B yX1_init cX1_init 1 none ({ frames := 1, cells := 0, slots := 0, locals := 20 } : Room) [.ref (h0)] n w (fun r w1 n1 => r = none ∧ w1 = w ∧ n1 = n) := by
  refine fw_enter (by decide) (Nat.le_of_ble_eq_true rfl) ?_
  intro p e s m below meth c hx hb hr hml hown hlocks hin hG hts hK H locs hP hS ls hl
  have hown : s.vm.findClass RX1 = some m.cls := hown
  replace hl : lv_has ls 1 [(0, .ref (h0))] := hl
  refine lv_aload_n hx hb dX1_init_0 rfl (lv_at hl 0 rfl) ?_
  refine W.objInit hx hb hown (hts _ mLX1_1) (hts _ mI_obj) (hts _ mC_obj) rfl (by rw [hml]; exact hl.1) rfl dX1_init_1 (Nat.le_of_ble_eq_true rfl) (Nat.le_of_ble_eq_true rfl) ?_
  refine W.eq (g2 := F0 m 4 ls []) rfl ?_
  exact fw_vret hx hb hr hlocks hP hS dX1_init_4 (Nat.le_of_ble_eq_true rfl) (Nat.le_of_ble_eq_true rfl) ⟨rfl, rfl, rfl⟩
set_option maxHeartbeats 4000000 in
set_option maxRecDepth 100000 in
theorem cm_Key_tell (l : Launch) (D : va_G) (ta : Nat → ClassId) (B n : Nat) (w : fw_W) (h0 : Nat) (k : cKey) (k2 : cKey) (e0 : w (h0) = some (.inr (1, [.long (k.1), .long (k.2.1), .long (k.2.2.1), .long (k.2.2.2.1), .int (k.2.2.2.2)])))  : fw_C l D vwCl (tyL ta) B yX1_tell cX1_tell 10 none ({ frames := 0, cells := 0, slots := 0, locals := 0 } : Room) [.ref (h0), .long (k2.1), .long (k2.2.1), .long (k2.2.2.1), .long (k2.2.2.2.1), .int (k2.2.2.2.2)] n w (fun r w1 n1 => r = none ∧ w1 = fw_up (w) (h0) (.inr (1, [.long (k2.1), .long (k2.2.1), .long (k2.2.2.1), .long (k2.2.2.2.1), .int (k2.2.2.2.2)])) ∧ n1 = n) := by
  refine fw_enter (by decide) (Nat.le_of_ble_eq_true rfl) ?_
  intro p e s m below meth c hx hb hr hml hown hlocks hin hG hts hK H locs hP hS ls hl
  have hown : s.vm.findClass RX1 = some m.cls := hown
  replace hl : lv_has ls 10 [(0, .ref (h0)), (1, .long (k2.1)), (3, .long (k2.2.1)), (5, .long (k2.2.2.1)), (7, .long (k2.2.2.2.1)), (9, .int (k2.2.2.2.2))] := hl
  have lt_e0 := hP.lt e0
  refine lv_aload_n hx hb dX1_tell_0 rfl (lv_at hl 0 rfl) ?_
  refine lv_lload_n hx hb dX1_tell_1 rfl (lv_at hl 1 rfl) ?_
  refine fw_put (ci := 1) (fs := [.long (k.1), .long (k.2.1), .long (k.2.2.1), .long (k.2.2.2.1), .int (k.2.2.2.2)]) (k := 0) (v := .long (k2.1)) (C := RX1) (T := TX1) (N := 5) hx hb hts inFX1 tyX1 tyX1_ok nmX1 hown hK hP hS e0 rfl (by decide) mFX1_7 rfl rfl rfl rfl (Nat.le_of_ble_eq_true rfl) dX1_tell_2 (fun H locs hP hS => ?_)
  have hP : fw_P D vwCl B (n) (fw_up (w) (h0) (.inr (1, [.long (k2.1), .long (k.2.1), .long (k.2.2.1), .long (k.2.2.2.1), .int (k.2.2.2.2)]))) H := hP
  refine lv_aload_n hx hb dX1_tell_5 rfl (lv_at hl 0 rfl) ?_
  refine lv_lload_n hx hb dX1_tell_6 rfl (lv_at hl 2 rfl) ?_
  refine fw_put (ci := 1) (fs := [.long (k2.1), .long (k.2.1), .long (k.2.2.1), .long (k.2.2.2.1), .int (k.2.2.2.2)]) (k := 1) (v := .long (k2.2.1)) (C := RX1) (T := TX1) (N := 5) hx hb hts inFX1 tyX1 tyX1_ok nmX1 hown hK hP hS (fw_same _ _ _) rfl (by decide) mFX1_13 rfl rfl rfl rfl (Nat.le_of_ble_eq_true rfl) dX1_tell_7 (fun H locs hP hS => ?_)
  have hP : fw_P D vwCl B (n) (fw_up (w) (h0) (.inr (1, [.long (k2.1), .long (k2.2.1), .long (k.2.2.1), .long (k.2.2.2.1), .int (k.2.2.2.2)]))) H := fw_P.eqw (fw_twice _ _ _ _) hP
  refine lv_aload_n hx hb dX1_tell_10 rfl (lv_at hl 0 rfl) ?_
  refine lv_lload hx hb dX1_tell_11 (lv_at hl 3 rfl) ?_
  refine fw_put (ci := 1) (fs := [.long (k2.1), .long (k2.2.1), .long (k.2.2.1), .long (k.2.2.2.1), .int (k.2.2.2.2)]) (k := 2) (v := .long (k2.2.2.1)) (C := RX1) (T := TX1) (N := 5) hx hb hts inFX1 tyX1 tyX1_ok nmX1 hown hK hP hS (fw_same _ _ _) rfl (by decide) mFX1_16 rfl rfl rfl rfl (Nat.le_of_ble_eq_true rfl) dX1_tell_13 (fun H locs hP hS => ?_)
  have hP : fw_P D vwCl B (n) (fw_up (w) (h0) (.inr (1, [.long (k2.1), .long (k2.2.1), .long (k2.2.2.1), .long (k.2.2.2.1), .int (k.2.2.2.2)]))) H := fw_P.eqw (fw_twice _ _ _ _) hP
  refine lv_aload_n hx hb dX1_tell_16 rfl (lv_at hl 0 rfl) ?_
  refine lv_lload hx hb dX1_tell_17 (lv_at hl 4 rfl) ?_
  refine fw_put (ci := 1) (fs := [.long (k2.1), .long (k2.2.1), .long (k2.2.2.1), .long (k.2.2.2.1), .int (k.2.2.2.2)]) (k := 3) (v := .long (k2.2.2.2.1)) (C := RX1) (T := TX1) (N := 5) hx hb hts inFX1 tyX1 tyX1_ok nmX1 hown hK hP hS (fw_same _ _ _) rfl (by decide) mFX1_19 rfl rfl rfl rfl (Nat.le_of_ble_eq_true rfl) dX1_tell_19 (fun H locs hP hS => ?_)
  have hP : fw_P D vwCl B (n) (fw_up (w) (h0) (.inr (1, [.long (k2.1), .long (k2.2.1), .long (k2.2.2.1), .long (k2.2.2.2.1), .int (k.2.2.2.2)]))) H := fw_P.eqw (fw_twice _ _ _ _) hP
  refine lv_aload_n hx hb dX1_tell_22 rfl (lv_at hl 0 rfl) ?_
  refine lv_iload hx hb dX1_tell_23 (lv_at hl 5 rfl) ?_
  refine fw_put (ci := 1) (fs := [.long (k2.1), .long (k2.2.1), .long (k2.2.2.1), .long (k2.2.2.2.1), .int (k.2.2.2.2)]) (k := 4) (v := .int (k2.2.2.2.2)) (C := RX1) (T := TX1) (N := 5) hx hb hts inFX1 tyX1 tyX1_ok nmX1 hown hK hP hS (fw_same _ _ _) rfl (by decide) mFX1_22 rfl rfl rfl rfl (Nat.le_of_ble_eq_true rfl) dX1_tell_25 (fun H locs hP hS => ?_)
  have hP : fw_P D vwCl B (n) (fw_up (w) (h0) (.inr (1, [.long (k2.1), .long (k2.2.1), .long (k2.2.2.1), .long (k2.2.2.2.1), .int (k2.2.2.2.2)]))) H := fw_P.eqw (fw_twice _ _ _ _) hP
  exact fw_vret hx hb hr hlocks hP hS dX1_tell_28 (Nat.le_of_ble_eq_true rfl) (Nat.le_of_ble_eq_true rfl) ⟨rfl, rfl, rfl⟩
set_option maxHeartbeats 4000000 in
set_option maxRecDepth 100000 in
theorem cm_Key_copy (l : Launch) (D : va_G) (ta : Nat → ClassId) (B n : Nat) (w : fw_W) (h0 : Nat) (h1 : Nat) (k : cKey) (k2 : cKey) (e0 : w (h0) = some (.inr (1, [.long (k.1), .long (k.2.1), .long (k.2.2.1), .long (k.2.2.2.1), .int (k.2.2.2.2)]))) (e1 : w (h1) = some (.inr (1, [.long (k2.1), .long (k2.2.1), .long (k2.2.2.1), .long (k2.2.2.2.1), .int (k2.2.2.2.2)]))) (hne : h0 ≠ h1) : fw_C l D vwCl (tyL ta) B yX1_copy cX1_copy 2 none ({ frames := 1, cells := 0, slots := 0, locals := 29 } : Room) [.ref (h0), .ref (h1)] n w (fun r w1 n1 => r = none ∧ w1 = fw_up (w) (h0) (.inr (1, [.long (k2.1), .long (k2.2.1), .long (k2.2.2.1), .long (k2.2.2.2.1), .int (k2.2.2.2.2)])) ∧ n1 = n) := by
  refine fw_enter (by decide) (Nat.le_of_ble_eq_true rfl) ?_
  intro p e s m below meth c hx hb hr hml hown hlocks hin hG hts hK H locs hP hS ls hl
  have hown : s.vm.findClass RX1 = some m.cls := hown
  replace hl : lv_has ls 2 [(0, .ref (h0)), (1, .ref (h1))] := hl
  have lt_e0 := hP.lt e0
  have lt_e1 := hP.lt e1
  have n_e0_e1 : (h0 : Nat) ≠ h1 := hne
  refine lv_aload_n hx hb dX1_copy_0 rfl (lv_at hl 0 rfl) ?_
  refine lv_aload_n hx hb dX1_copy_1 rfl (lv_at hl 1 rfl) ?_
  refine fw_get (ci := 1) (fs := [.long (k2.1), .long (k2.2.1), .long (k2.2.2.1), .long (k2.2.2.2.1), .int (k2.2.2.2.2)]) (k := 0) (v := .long (k2.1)) (C := RX1) (T := TX1) (N := 5) hx hb hts inFX1 hown hK hP e1 rfl (by decide) mFX1_7 rfl dX1_copy_2 ?_
  refine lv_aload_n hx hb dX1_copy_5 rfl (lv_at hl 1 rfl) ?_
  refine fw_get (ci := 1) (fs := [.long (k2.1), .long (k2.2.1), .long (k2.2.2.1), .long (k2.2.2.2.1), .int (k2.2.2.2.2)]) (k := 1) (v := .long (k2.2.1)) (C := RX1) (T := TX1) (N := 5) hx hb hts inFX1 hown hK hP e1 rfl (by decide) mFX1_13 rfl dX1_copy_6 ?_
  refine lv_aload_n hx hb dX1_copy_9 rfl (lv_at hl 1 rfl) ?_
  refine fw_get (ci := 1) (fs := [.long (k2.1), .long (k2.2.1), .long (k2.2.2.1), .long (k2.2.2.2.1), .int (k2.2.2.2.2)]) (k := 2) (v := .long (k2.2.2.1)) (C := RX1) (T := TX1) (N := 5) hx hb hts inFX1 hown hK hP e1 rfl (by decide) mFX1_16 rfl dX1_copy_10 ?_
  refine lv_aload_n hx hb dX1_copy_13 rfl (lv_at hl 1 rfl) ?_
  refine fw_get (ci := 1) (fs := [.long (k2.1), .long (k2.2.1), .long (k2.2.2.1), .long (k2.2.2.2.1), .int (k2.2.2.2.2)]) (k := 3) (v := .long (k2.2.2.2.1)) (C := RX1) (T := TX1) (N := 5) hx hb hts inFX1 hown hK hP e1 rfl (by decide) mFX1_19 rfl dX1_copy_14 ?_
  refine lv_aload_n hx hb dX1_copy_17 rfl (lv_at hl 1 rfl) ?_
  refine fw_get (ci := 1) (fs := [.long (k2.1), .long (k2.2.1), .long (k2.2.2.1), .long (k2.2.2.2.1), .int (k2.2.2.2.2)]) (k := 4) (v := .int (k2.2.2.2.2)) (C := RX1) (T := TX1) (N := 5) hx hb hts inFX1 hown hK hP e1 rfl (by decide) mFX1_22 rfl dX1_copy_18 ?_
  refine fw_callV (ci := 1) (fs := [.long (k.1), .long (k.2.1), .long (k.2.2.1), .long (k.2.2.2.1), .int (k.2.2.2.2)]) (T := TX1) (N := 5) (b := h0) (As := [.long (k2.1), .long (k2.2.1), .long (k2.2.2.1), .long (k2.2.2.2.1), .int (k2.2.2.2.2)]) (rest := []) hx hb hml hown hts hK hG hP hS hl mM_X1_tell mV_X1_tell mLX1_26 (cm_Key_tell l D ta B (n) (w) (h0) (k) (k2) e0 ) e0 rfl rfl rfl (Nat.le_of_ble_eq_true rfl) ⟨Nat.le_of_ble_eq_true rfl, Nat.le_of_ble_eq_true rfl⟩ ⟨Nat.le_of_ble_eq_true rfl, Nat.le_of_ble_eq_true rfl⟩ dX1_copy_21 (fun r w1 n1 H locs hq hP hS => ?_)
  obtain ⟨rfl, hw1, hn1⟩ := hq
  replace hw1 := hw1.symm; replace hn1 := hn1.symm; subst hw1; subst hn1
  refine W.eq (g2 := F0 m 24 ls []) rfl ?_
  have hP : fw_P D vwCl B (n) (fw_up (w) (h0) (.inr (1, [.long (k2.1), .long (k2.2.1), .long (k2.2.2.1), .long (k2.2.2.2.1), .int (k2.2.2.2.2)]))) H := hP
  exact fw_vret hx hb hr hlocks hP hS dX1_copy_24 (Nat.le_of_ble_eq_true rfl) (Nat.le_of_ble_eq_true rfl) ⟨rfl, rfl, rfl⟩
set_option maxHeartbeats 4000000 in
set_option maxRecDepth 100000 in
theorem cm_Key_same (l : Launch) (D : va_G) (ta : Nat → ClassId) (B n : Nat) (w : fw_W) (h0 : Nat) (h1 : Nat) (k : cKey) (k2 : cKey) (e0 : w (h0) = some (.inr (1, [.long (k.1), .long (k.2.1), .long (k.2.2.1), .long (k.2.2.2.1), .int (k.2.2.2.2)]))) (e1 : w (h1) = some (.inr (1, [.long (k2.1), .long (k2.2.1), .long (k2.2.2.1), .long (k2.2.2.2.1), .int (k2.2.2.2.2)])))  : fw_C l D vwCl (tyL ta) B yX1_same cX1_same 2 (some .boolean) ({ frames := 0, cells := 0, slots := 0, locals := 0 } : Room) [.ref (h0), .ref (h1)] n w (fun r w1 n1 => r = some (.int (bI (decide (k = k2)))) ∧ w1 = w ∧ n1 = n) := by
  refine fw_enter (by decide) (Nat.le_of_ble_eq_true rfl) ?_
  intro p e s m below meth c hx hb hr hml hown hlocks hin hG hts hK H locs hP hS ls hl
  have hown : s.vm.findClass RX1 = some m.cls := hown
  replace hl : lv_has ls 2 [(0, .ref (h0)), (1, .ref (h1))] := hl
  have lt_e0 := hP.lt e0
  have lt_e1 := hP.lt e1
  refine lv_aload_n hx hb dX1_same_0 rfl (lv_at hl 0 rfl) ?_
  refine fw_get (ci := 1) (fs := [.long (k.1), .long (k.2.1), .long (k.2.2.1), .long (k.2.2.2.1), .int (k.2.2.2.2)]) (k := 0) (v := .long (k.1)) (C := RX1) (T := TX1) (N := 5) hx hb hts inFX1 hown hK hP e0 rfl (by decide) mFX1_7 rfl dX1_same_1 ?_
  refine lv_aload_n hx hb dX1_same_4 rfl (lv_at hl 1 rfl) ?_
  refine fw_get (ci := 1) (fs := [.long (k2.1), .long (k2.2.1), .long (k2.2.2.1), .long (k2.2.2.2.1), .int (k2.2.2.2.2)]) (k := 0) (v := .long (k2.1)) (C := RX1) (T := TX1) (N := 5) hx hb hts inFX1 hown hK hP e1 rfl (by decide) mFX1_7 rfl dX1_same_5 ?_
  refine W.lcmp hx hb dX1_same_8 ?_
  refine fn_lif_ne (tgt := 63) hx hb dX1_same_9 (by decide) (fun c1 => ?_) (fun c1 => ?_)
  · refine lv_iconst (v := (iI (((0 : Nat) : Int)))) hx hb dX1_same_63 rfl ?_
    exact fw_zret hx hb hr hlocks hP hS dX1_same_64 (Or.inl rfl) (Nat.le_of_ble_eq_true rfl) (Nat.le_of_ble_eq_true rfl) ⟨bI_F (fun q => c1 (by rw [q])), rfl, rfl⟩
  · refine lv_aload_n hx hb dX1_same_12 rfl (lv_at hl 0 rfl) ?_
    refine fw_get (ci := 1) (fs := [.long (k.1), .long (k.2.1), .long (k.2.2.1), .long (k.2.2.2.1), .int (k.2.2.2.2)]) (k := 1) (v := .long (k.2.1)) (C := RX1) (T := TX1) (N := 5) hx hb hts inFX1 hown hK hP e0 rfl (by decide) mFX1_13 rfl dX1_same_13 ?_
    refine lv_aload_n hx hb dX1_same_16 rfl (lv_at hl 1 rfl) ?_
    refine fw_get (ci := 1) (fs := [.long (k2.1), .long (k2.2.1), .long (k2.2.2.1), .long (k2.2.2.2.1), .int (k2.2.2.2.2)]) (k := 1) (v := .long (k2.2.1)) (C := RX1) (T := TX1) (N := 5) hx hb hts inFX1 hown hK hP e1 rfl (by decide) mFX1_13 rfl dX1_same_17 ?_
    refine W.lcmp hx hb dX1_same_20 ?_
    refine fn_lif_ne (tgt := 63) hx hb dX1_same_21 (by decide) (fun c2 => ?_) (fun c2 => ?_)
    · refine lv_iconst (v := (iI (((0 : Nat) : Int)))) hx hb dX1_same_63 rfl ?_
      exact fw_zret hx hb hr hlocks hP hS dX1_same_64 (Or.inl rfl) (Nat.le_of_ble_eq_true rfl) (Nat.le_of_ble_eq_true rfl) ⟨bI_F (fun q => c2 (by rw [q])), rfl, rfl⟩
    · refine lv_aload_n hx hb dX1_same_24 rfl (lv_at hl 0 rfl) ?_
      refine fw_get (ci := 1) (fs := [.long (k.1), .long (k.2.1), .long (k.2.2.1), .long (k.2.2.2.1), .int (k.2.2.2.2)]) (k := 2) (v := .long (k.2.2.1)) (C := RX1) (T := TX1) (N := 5) hx hb hts inFX1 hown hK hP e0 rfl (by decide) mFX1_16 rfl dX1_same_25 ?_
      refine lv_aload_n hx hb dX1_same_28 rfl (lv_at hl 1 rfl) ?_
      refine fw_get (ci := 1) (fs := [.long (k2.1), .long (k2.2.1), .long (k2.2.2.1), .long (k2.2.2.2.1), .int (k2.2.2.2.2)]) (k := 2) (v := .long (k2.2.2.1)) (C := RX1) (T := TX1) (N := 5) hx hb hts inFX1 hown hK hP e1 rfl (by decide) mFX1_16 rfl dX1_same_29 ?_
      refine W.lcmp hx hb dX1_same_32 ?_
      refine fn_lif_ne (tgt := 63) hx hb dX1_same_33 (by decide) (fun c3 => ?_) (fun c3 => ?_)
      · refine lv_iconst (v := (iI (((0 : Nat) : Int)))) hx hb dX1_same_63 rfl ?_
        exact fw_zret hx hb hr hlocks hP hS dX1_same_64 (Or.inl rfl) (Nat.le_of_ble_eq_true rfl) (Nat.le_of_ble_eq_true rfl) ⟨bI_F (fun q => c3 (by rw [q])), rfl, rfl⟩
      · refine lv_aload_n hx hb dX1_same_36 rfl (lv_at hl 0 rfl) ?_
        refine fw_get (ci := 1) (fs := [.long (k.1), .long (k.2.1), .long (k.2.2.1), .long (k.2.2.2.1), .int (k.2.2.2.2)]) (k := 3) (v := .long (k.2.2.2.1)) (C := RX1) (T := TX1) (N := 5) hx hb hts inFX1 hown hK hP e0 rfl (by decide) mFX1_19 rfl dX1_same_37 ?_
        refine lv_aload_n hx hb dX1_same_40 rfl (lv_at hl 1 rfl) ?_
        refine fw_get (ci := 1) (fs := [.long (k2.1), .long (k2.2.1), .long (k2.2.2.1), .long (k2.2.2.2.1), .int (k2.2.2.2.2)]) (k := 3) (v := .long (k2.2.2.2.1)) (C := RX1) (T := TX1) (N := 5) hx hb hts inFX1 hown hK hP e1 rfl (by decide) mFX1_19 rfl dX1_same_41 ?_
        refine W.lcmp hx hb dX1_same_44 ?_
        refine fn_lif_ne (tgt := 63) hx hb dX1_same_45 (by decide) (fun c4 => ?_) (fun c4 => ?_)
        · refine lv_iconst (v := (iI (((0 : Nat) : Int)))) hx hb dX1_same_63 rfl ?_
          exact fw_zret hx hb hr hlocks hP hS dX1_same_64 (Or.inl rfl) (Nat.le_of_ble_eq_true rfl) (Nat.le_of_ble_eq_true rfl) ⟨bI_F (fun q => c4 (by rw [q])), rfl, rfl⟩
        · refine lv_aload_n hx hb dX1_same_48 rfl (lv_at hl 0 rfl) ?_
          refine fw_get (ci := 1) (fs := [.long (k.1), .long (k.2.1), .long (k.2.2.1), .long (k.2.2.2.1), .int (k.2.2.2.2)]) (k := 4) (v := .int (k.2.2.2.2)) (C := RX1) (T := TX1) (N := 5) hx hb hts inFX1 hown hK hP e0 rfl (by decide) mFX1_22 rfl dX1_same_49 ?_
          refine lv_aload_n hx hb dX1_same_52 rfl (lv_at hl 1 rfl) ?_
          refine fw_get (ci := 1) (fs := [.long (k2.1), .long (k2.2.1), .long (k2.2.2.1), .long (k2.2.2.2.1), .int (k2.2.2.2.2)]) (k := 4) (v := .int (k2.2.2.2.2)) (C := RX1) (T := TX1) (N := 5) hx hb hts inFX1 hown hK hP e1 rfl (by decide) mFX1_22 rfl dX1_same_53 ?_
          refine lv_icmp_ne (x := (k.2.2.2.2)) (y := (k2.2.2.2.2)) (tgt := 63) hx hb dX1_same_56 (by decide) (fun c5 => ?_) (fun c5 => ?_)
          · refine lv_iconst (v := (iI (((0 : Nat) : Int)))) hx hb dX1_same_63 rfl ?_
            exact fw_zret hx hb hr hlocks hP hS dX1_same_64 (Or.inl rfl) (Nat.le_of_ble_eq_true rfl) (Nat.le_of_ble_eq_true rfl) ⟨bI_F (fun q => c5 (by rw [q])), rfl, rfl⟩
          · refine lv_iconst (v := (iI (((1 : Nat) : Int)))) hx hb dX1_same_59 rfl ?_
            refine lv_goto (tgt := 64) hx hb dX1_same_60 (by decide) ?_
            exact fw_zret hx hb hr hlocks hP hS dX1_same_64 (Or.inr rfl) (Nat.le_of_ble_eq_true rfl) (Nat.le_of_ble_eq_true rfl) ⟨bI_T (Prod.ext c1 (Prod.ext c2 (Prod.ext c3 (Prod.ext c4 c5)))), rfl, rfl⟩
