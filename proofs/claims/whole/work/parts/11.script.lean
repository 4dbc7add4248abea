set_option maxHeartbeats 4000000 in
set_option maxRecDepth 100000 in
theorem cm_Script_init (l : Launch) (D : va_G) (ta : Nat → ClassId) (B n : Nat) (w : fw_W) (h0 : Nat) (e0 : w (h0) = some (.inr (2, [.null, .int (iI (((0 : Nat) : Int)))])))  : fw_C l D vwCl (tyL ta) B yX2_init cX2_init 1 none ({ frames := 1, cells := 1, slots := 200, locals := 20 } : Room) [.ref (h0)] n w (fun r w1 n1 => r = none ∧ w1 = fw_up (fw_up (w) (n) (.inl (ta 0, 200, .inl (fun _ => (0 : Int32))))) (h0) (.inr (2, [.ref (n), .int (iI (((0 : Nat) : Int)))])) ∧ n1 = n + 1) := by
  refine fw_enter (by decide) (Nat.le_of_ble_eq_true rfl) ?_
  intro p e s m below meth c hx hb hr hml hown hlocks hin hG hts hK H locs hP hS ls hl
  have hown : s.vm.findClass RX2 = some m.cls := hown
  replace hl : lv_has ls 1 [(0, .ref (h0))] := hl
  have lt_e0 := hP.lt e0
  refine lv_aload_n hx hb dX2_init_0 rfl (lv_at hl 0 rfl) ?_
  refine W.objInit hx hb hown (hts _ mLX2_3) (hts _ mI_obj) (hts _ mC_obj) rfl (by rw [hml]; exact hl.1) rfl dX2_init_1 (Nat.le_of_ble_eq_true rfl) (Nat.le_of_ble_eq_true rfl) ?_
  refine W.eq (g2 := F0 m 4 ls []) rfl ?_
  refine lv_aload_n hx hb dX2_init_4 rfl (lv_at hl 0 rfl) ?_
  refine lv_sipush (v := (iI (((200 : Nat) : Int)))) hx hb dX2_init_5 (by decide) ?_
  refine fw_newa (atype := .byte) (ty := .byte) (N := 200) (a0 := (200, .inl (fun _ => (0 : Int32)))) hx hb hts mA_byte rfl hK hP hS 0 rfl (fun h => h) rfl (by decide) (by decide) (by decide) (by decide) (by decide) dX2_init_8 (fun H hP hS => ?_)
  have hP : fw_P D vwCl B (n + 1) (fw_up (w) (n) (.inl (ta 0, 200, .inl (fun _ => (0 : Int32))))) H := hP
  refine fw_putF (ci := 2) (fs := [.null, .int (iI (((0 : Nat) : Int)))]) (k := 0) (v := .ref (n)) (C := RX2) (T := TX2) (N := 2) hx hb hts inFX2 tyX2 tyX2_ok nmX2 hown hin hK hP hS (fw_at (by omega) e0) rfl (by decide) mFX2_9 rfl rfl rfl rfl rfl (Nat.le_of_ble_eq_true rfl) dX2_init_10 (fun H locs hP hS => ?_)
  have hP : fw_P D vwCl B (n + 1) (fw_up (fw_up (w) (n) (.inl (ta 0, 200, .inl (fun _ => (0 : Int32))))) (h0) (.inr (2, [.ref (n), .int (iI (((0 : Nat) : Int)))]))) H := hP
  exact fw_vret hx hb hr hlocks hP hS dX2_init_13 (Nat.le_of_ble_eq_true rfl) (Nat.le_of_ble_eq_true rfl) ⟨rfl, rfl, rfl⟩
set_option maxHeartbeats 4000000 in
set_option maxRecDepth 100000 in
theorem cm_Script_length (l : Launch) (D : va_G) (ta : Nat → ClassId) (B n : Nat) (w : fw_W) (h0 : Nat) (h1 : Nat) (L : Nat) (e0 : w (h0) = some (.inr (2, [.ref (h1), .int (iI (((L : Nat) : Int)))])))  : fw_C l D vwCl (tyL ta) B yX2_length cX2_length 1 (some .int) ({ frames := 0, cells := 0, slots := 0, locals := 0 } : Room) [.ref (h0)] n w (fun r w1 n1 => r = some (.int (iI (((L : Nat) : Int)))) ∧ w1 = w ∧ n1 = n) := by
  refine fw_enter (by decide) (Nat.le_of_ble_eq_true rfl) ?_
  intro p e s m below meth c hx hb hr hml hown hlocks hin hG hts hK H locs hP hS ls hl
  have hown : s.vm.findClass RX2 = some m.cls := hown
  replace hl : lv_has ls 1 [(0, .ref (h0))] := hl
  have lt_e0 := hP.lt e0
  refine lv_aload_n hx hb dX2_length_0 rfl (lv_at hl 0 rfl) ?_
  refine fw_get (ci := 2) (fs := [.ref (h1), .int (iI (((L : Nat) : Int)))]) (k := 1) (v := .int (iI (((L : Nat) : Int)))) (C := RX2) (T := TX2) (N := 2) hx hb hts inFX2 hown hK hP e0 rfl (by decide) mFX2_15 rfl dX2_length_1 ?_
  exact fw_iret hx hb hr hlocks hP hS dX2_length_4 (Nat.le_of_ble_eq_true rfl) (Nat.le_of_ble_eq_true rfl) ⟨rfl, rfl, rfl⟩
set_option maxHeartbeats 4000000 in
set_option maxRecDepth 100000 in
theorem cm_Script_room (l : Launch) (D : va_G) (ta : Nat → ClassId) (B n : Nat) (w : fw_W) (h0 : Nat) (h1 : Nat) (L : Nat) (f : Nat → Int32) (e0 : w (h0) = some (.inr (2, [.ref (h1), .int (iI (((L : Nat) : Int)))]))) (e1 : w (h1) = some (.inl (ta 0, 200, .inl (f)))) (hL : L ≤ 200) : fw_C l D vwCl (tyL ta) B yX2_room cX2_room 1 (some .int) ({ frames := 0, cells := 0, slots := 0, locals := 0 } : Room) [.ref (h0)] n w (fun r w1 n1 => r = some (.int (iI (((200 - L : Nat) : Int)))) ∧ w1 = w ∧ n1 = n) := by
  refine fw_enter (by decide) (Nat.le_of_ble_eq_true rfl) ?_
  intro p e s m below meth c hx hb hr hml hown hlocks hin hG hts hK H locs hP hS ls hl
  have hown : s.vm.findClass RX2 = some m.cls := hown
  replace hl : lv_has ls 1 [(0, .ref (h0))] := hl
  have lt_e0 := hP.lt e0
  have lt_e1 := hP.lt e1
  have n_e0_e1 : (h0 : Nat) ≠ h1 := (fw_nio e1 e0).symm
  refine lv_aload_n hx hb dX2_room_0 rfl (lv_at hl 0 rfl) ?_
  refine fw_get (ci := 2) (fs := [.ref (h1), .int (iI (((L : Nat) : Int)))]) (k := 0) (v := .ref (h1)) (C := RX2) (T := TX2) (N := 2) hx hb hts inFX2 hown hK hP e0 rfl (by decide) mFX2_9 rfl dX2_room_1 ?_
  refine fn_alen hx hb hK hP 0 e1 rfl dX2_room_4 ?_
  refine lv_aload_n hx hb dX2_room_5 rfl (lv_at hl 0 rfl) ?_
  refine fw_get (ci := 2) (fs := [.ref (h1), .int (iI (((L : Nat) : Int)))]) (k := 1) (v := .int (iI (((L : Nat) : Int)))) (C := RX2) (T := TX2) (N := 2) hx hb hts inFX2 hown hK hP e0 rfl (by decide) mFX2_15 rfl dX2_room_6 ?_
  refine fn_isub (x := ((200 : Nat) : Int)) (y := ((L : Nat) : Int)) hx hb dX2_room_9 ?_
  refine fn_topz (y := ((200 - L : Nat) : Int)) (by omega) ?_
  exact fw_iret hx hb hr hlocks hP hS dX2_room_10 (Nat.le_of_ble_eq_true rfl) (Nat.le_of_ble_eq_true rfl) ⟨rfl, rfl, rfl⟩
set_option maxHeartbeats 4000000 in
set_option maxRecDepth 100000 in
theorem cm_Script_clear (l : Launch) (D : va_G) (ta : Nat → ClassId) (B n : Nat) (w : fw_W) (h0 : Nat) (h1 : Nat) (L : Nat) (e0 : w (h0) = some (.inr (2, [.ref (h1), .int (iI (((L : Nat) : Int)))])))  : fw_C l D vwCl (tyL ta) B yX2_clear cX2_clear 1 none ({ frames := 0, cells := 0, slots := 0, locals := 0 } : Room) [.ref (h0)] n w (fun r w1 n1 => r = none ∧ w1 = fw_up (w) (h0) (.inr (2, [.ref (h1), .int (iI (((0 : Nat) : Int)))])) ∧ n1 = n) := by
  refine fw_enter (by decide) (Nat.le_of_ble_eq_true rfl) ?_
  intro p e s m below meth c hx hb hr hml hown hlocks hin hG hts hK H locs hP hS ls hl
  have hown : s.vm.findClass RX2 = some m.cls := hown
  replace hl : lv_has ls 1 [(0, .ref (h0))] := hl
  have lt_e0 := hP.lt e0
  refine lv_aload_n hx hb dX2_clear_0 rfl (lv_at hl 0 rfl) ?_
  refine lv_iconst (v := (iI (((0 : Nat) : Int)))) hx hb dX2_clear_1 rfl ?_
  refine fw_put (ci := 2) (fs := [.ref (h1), .int (iI (((L : Nat) : Int)))]) (k := 1) (v := .int (iI (((0 : Nat) : Int)))) (C := RX2) (T := TX2) (N := 2) hx hb hts inFX2 tyX2 tyX2_ok nmX2 hown hK hP hS e0 rfl (by decide) mFX2_15 rfl rfl rfl rfl (Nat.le_of_ble_eq_true rfl) dX2_clear_2 (fun H locs hP hS => ?_)
  have hP : fw_P D vwCl B (n) (fw_up (w) (h0) (.inr (2, [.ref (h1), .int (iI (((0 : Nat) : Int)))]))) H := hP
  exact fw_vret hx hb hr hlocks hP hS dX2_clear_5 (Nat.le_of_ble_eq_true rfl) (Nat.le_of_ble_eq_true rfl) ⟨rfl, rfl, rfl⟩
set_option maxHeartbeats 4000000 in
set_option maxRecDepth 100000 in
theorem cm_Script_append (l : Launch) (D : va_G) (ta : Nat → ClassId) (B n : Nat) (w : fw_W) (h0 : Nat) (h1 : Nat) (L : Nat) (f : Nat → Int32) (x : Int32) (e0 : w (h0) = some (.inr (2, [.ref (h1), .int (iI (((L : Nat) : Int)))]))) (e1 : w (h1) = some (.inl (ta 0, 200, .inl (f)))) (hL : L < 200) (hx2 : vp_nar .byte x = x) : fw_C l D vwCl (tyL ta) B yX2_append cX2_append 2 none ({ frames := 0, cells := 0, slots := 0, locals := 0 } : Room) [.ref (h0), .int (x)] n w (fun r w1 n1 => r = none ∧ w1 = fw_up (fw_up (w) (h1) (.inl (ta 0, 200, .inl (upd (f) (L) (x))))) (h0) (.inr (2, [.ref (h1), .int (iI (((L + 1 : Nat) : Int)))])) ∧ n1 = n) := by
  refine fw_enter (by decide) (Nat.le_of_ble_eq_true rfl) ?_
  intro p e s m below meth c hx hb hr hml hown hlocks hin hG hts hK H locs hP hS ls hl
  have hown : s.vm.findClass RX2 = some m.cls := hown
  replace hl : lv_has ls 2 [(0, .ref (h0)), (1, .int (x))] := hl
  have lt_e0 := hP.lt e0
  have lt_e1 := hP.lt e1
  have n_e0_e1 : (h0 : Nat) ≠ h1 := (fw_nio e1 e0).symm
  refine lv_aload_n hx hb dX2_append_0 rfl (lv_at hl 0 rfl) ?_
  refine fw_get (ci := 2) (fs := [.ref (h1), .int (iI (((L : Nat) : Int)))]) (k := 1) (v := .int (iI (((L : Nat) : Int)))) (C := RX2) (T := TX2) (N := 2) hx hb hts inFX2 hown hK hP e0 rfl (by decide) mFX2_15 rfl dX2_append_1 ?_
  refine fn_if_lt (x := ((L : Nat) : Int)) (tgt := 39) hx hb dX2_append_4 (by decide) ⟨by omega, by omega⟩ (fun c1 => False.elim (by omega)) (fun c1 => ?_)
  refine lv_aload_n hx hb dX2_append_7 rfl (lv_at hl 0 rfl) ?_
  refine fw_get (ci := 2) (fs := [.ref (h1), .int (iI (((L : Nat) : Int)))]) (k := 1) (v := .int (iI (((L : Nat) : Int)))) (C := RX2) (T := TX2) (N := 2) hx hb hts inFX2 hown hK hP e0 rfl (by decide) mFX2_15 rfl dX2_append_8 ?_
  refine lv_aload_n hx hb dX2_append_11 rfl (lv_at hl 0 rfl) ?_
  refine fw_get (ci := 2) (fs := [.ref (h1), .int (iI (((L : Nat) : Int)))]) (k := 0) (v := .ref (h1)) (C := RX2) (T := TX2) (N := 2) hx hb hts inFX2 hown hK hP e0 rfl (by decide) mFX2_9 rfl dX2_append_12 ?_
  refine fn_alen hx hb hK hP 0 e1 rfl dX2_append_15 ?_
  refine fn_icmp_ge (x := ((L : Nat) : Int)) (y := ((200 : Nat) : Int)) (tgt := 39) hx hb dX2_append_16 (by decide) ⟨by omega, by omega⟩ ⟨by omega, by omega⟩ (fun c2 => False.elim (by omega)) (fun c2 => ?_)
  refine lv_aload_n hx hb dX2_append_19 rfl (lv_at hl 0 rfl) ?_
  refine fw_get (ci := 2) (fs := [.ref (h1), .int (iI (((L : Nat) : Int)))]) (k := 0) (v := .ref (h1)) (C := RX2) (T := TX2) (N := 2) hx hb hts inFX2 hown hK hP e0 rfl (by decide) mFX2_9 rfl dX2_append_20 ?_
  refine lv_aload_n hx hb dX2_append_23 rfl (lv_at hl 0 rfl) ?_
  refine fw_get (ci := 2) (fs := [.ref (h1), .int (iI (((L : Nat) : Int)))]) (k := 1) (v := .int (iI (((L : Nat) : Int)))) (C := RX2) (T := TX2) (N := 2) hx hb hts inFX2 hown hK hP e0 rfl (by decide) mFX2_15 rfl dX2_append_24 ?_
  refine lv_iload_n hx hb dX2_append_27 rfl (lv_at hl 1 rfl) ?_
  refine fn_bast (x := (x)) (k := L) hx hb hK hP hS 0 e1 rfl (by omega) (by omega) hx2 dX2_append_28 (fun H locs hP hS => ?_)
  have hP : fw_P D vwCl B (n) (fw_up (w) (h1) (.inl (ta 0, 200, .inl (upd (f) (L) (x))))) H := hP
  refine lv_aload_n hx hb dX2_append_29 rfl (lv_at hl 0 rfl) ?_
  refine lv_dup hx hb dX2_append_30 rfl ?_
  refine fw_get (ci := 2) (fs := [.ref (h1), .int (iI (((L : Nat) : Int)))]) (k := 1) (v := .int (iI (((L : Nat) : Int)))) (C := RX2) (T := TX2) (N := 2) hx hb hts inFX2 hown hK hP (fw_at n_e0_e1 e0) rfl (by decide) mFX2_15 rfl dX2_append_31 ?_
  refine lv_iconst (v := (iI (((1 : Nat) : Int)))) hx hb dX2_append_34 rfl ?_
  refine fn_iadd (x := ((L : Nat) : Int)) (y := ((1 : Nat) : Int)) hx hb dX2_append_35 ?_
  refine fn_topz (y := ((L + 1 : Nat) : Int)) (by omega) ?_
  refine fw_put (ci := 2) (fs := [.ref (h1), .int (iI (((L : Nat) : Int)))]) (k := 1) (v := .int (iI (((L + 1 : Nat) : Int)))) (C := RX2) (T := TX2) (N := 2) hx hb hts inFX2 tyX2 tyX2_ok nmX2 hown hK hP hS (fw_at n_e0_e1 e0) rfl (by decide) mFX2_15 rfl rfl rfl rfl (Nat.le_of_ble_eq_true rfl) dX2_append_36 (fun H locs hP hS => ?_)
  have hP : fw_P D vwCl B (n) (fw_up (fw_up (w) (h1) (.inl (ta 0, 200, .inl (upd (f) (L) (x))))) (h0) (.inr (2, [.ref (h1), .int (iI (((L + 1 : Nat) : Int)))]))) H := hP
  exact fw_vret hx hb hr hlocks hP hS dX2_append_39 (Nat.le_of_ble_eq_true rfl) (Nat.le_of_ble_eq_true rfl) ⟨rfl, rfl, rfl⟩
set_option maxHeartbeats 4000000 in
set_option maxRecDepth 100000 in
theorem cm_Script_copy (l : Launch) (D : va_G) (ta : Nat → ClassId) (B n : Nat) (w : fw_W) (h0 : Nat) (b0 : Nat) (h1 : Nat) (b1 : Nat) (L0 : Nat) (L : Nat) (f : Nat → Int32) (g : Nat → Int32) (e0 : w (h0) = some (.inr (2, [.ref (b0), .int (iI (((L0 : Nat) : Int)))]))) (e1 : w (b0) = some (.inl (ta 0, 200, .inl (f)))) (e2 : w (h1) = some (.inr (2, [.ref (b1), .int (iI (((L : Nat) : Int)))]))) (e3 : w (b1) = some (.inl (ta 0, 200, .inl (g)))) (hne : h0 ≠ h1) (hneb : b0 ≠ b1) (hL : L ≤ 200) (hg : ∀ j, j < L → vp_nar .byte (g j) = g j) : fw_C l D vwCl (tyL ta) B yX2_copy cX2_copy 3 none ({ frames := 1, cells := 0, slots := 0, locals := 21 } : Room) [.ref (h0), .ref (h1)] n w (fun r w1 n1 => ∃ f2 : Nat → Int32, (∀ j, j < L → f2 j = g j) ∧ r = none ∧ w1 = fw_up (fw_up (w) (h0) (.inr (2, [.ref (b0), .int (iI (((L : Nat) : Int)))]))) (b0) (.inl (ta 0, 200, .inl (f2))) ∧ n1 = n) := by
  refine fw_enter (by decide) (Nat.le_of_ble_eq_true rfl) ?_
  intro p e s m below meth c hx hb hr hml hown hlocks hin hG hts hK H locs hP hS ls hl
  have hown : s.vm.findClass RX2 = some m.cls := hown
  replace hl : lv_has ls 3 [(0, .ref (h0)), (1, .ref (h1))] := hl
  have lt_e0 := hP.lt e0
  have lt_e1 := hP.lt e1
  have lt_e2 := hP.lt e2
  have lt_e3 := hP.lt e3
  have n_e0_e1 : (h0 : Nat) ≠ b0 := (fw_nio e1 e0).symm
  have n_e0_e2 : (h0 : Nat) ≠ h1 := hne
  have n_e0_e3 : (h0 : Nat) ≠ b1 := (fw_nio e3 e0).symm
  have n_e1_e2 : (b0 : Nat) ≠ h1 := fw_nio e1 e2
  have n_e1_e3 : (b0 : Nat) ≠ b1 := hneb
  have n_e2_e3 : (h1 : Nat) ≠ b1 := (fw_nio e3 e2).symm
  refine lv_aload_n hx hb dX2_copy_0 rfl (lv_at hl 0 rfl) ?_
  refine fw_callV (ci := 2) (fs := [.ref (b0), .int (iI (((L0 : Nat) : Int)))]) (T := TX2) (N := 2) (b := h0) (As := []) (rest := []) hx hb hml hown hts hK hG hP hS hl mM_X2_clear mV_X2_clear mLX2_19 (cm_Script_clear l D ta B (n) (w) (h0) (b0) (L0) e0 ) e0 rfl rfl rfl (Nat.le_of_ble_eq_true rfl) ⟨Nat.le_of_ble_eq_true rfl, Nat.le_of_ble_eq_true rfl⟩ ⟨Nat.le_of_ble_eq_true rfl, Nat.le_of_ble_eq_true rfl⟩ dX2_copy_1 (fun r w1 n1 H locs hq hP hS => ?_)
  obtain ⟨rfl, hw1, hn1⟩ := hq
  replace hw1 := hw1.symm; replace hn1 := hn1.symm; subst hw1; subst hn1
  refine W.eq (g2 := F0 m 4 ls []) rfl ?_
  have hP : fw_P D vwCl B (n) (fw_up (w) (h0) (.inr (2, [.ref (b0), .int (iI (((0 : Nat) : Int)))]))) H := hP
  refine lv_iconst (v := (iI (((0 : Nat) : Int)))) hx hb dX2_copy_4 rfl ?_
  refine lv_istore_n (lv' := [(2, .int (iI (((0 : Nat) : Int)))), (0, .ref (h0)), (1, .ref (h1))]) hx hb dX2_copy_5 rfl hl (by decide) rfl (fun ls hl => ?_)
  have lp2 : ∀ (i : Nat) (f2 : Nat → Int32) (H : Heap) (locs : List Loc) (ls : Array Slot), i ≤ L → (∀ j, j < i → f2 j = g j) → lv_has ls 3 [(2, .int (iI (((i : Nat) : Int)))), (0, .ref (h0)), (1, .ref (h1))] → fw_P D vwCl B (n) (fw_up (fw_up (w) (h0) (.inr (2, [.ref (b0), .int (iI (((i : Nat) : Int)))]))) (b0) (.inl (ta 0, 200, .inl (f2)))) H → fw_S B s.heap H locs → fw_K p l e ({ frames := 1, cells := 0, slots := 0, locals := 21 } : Room) s m [.ref (h0), .ref (h1)] below meth c D vwCl B (fun r w1 n1 => ∃ f2 : Nat → Int32, (∀ j, j < L → f2 j = g j) ∧ r = none ∧ w1 = fw_up (fw_up (w) (h0) (.inr (2, [.ref (b0), .int (iI (((L : Nat) : Int)))]))) (b0) (.inl (ta 0, 200, .inl (f2))) ∧ n1 = n) H locs (0) (0) (F0 m 6 ls []) := by
    refine fw_loop (fun i : Nat => L - i) ?_
    intro i ih6 f2 H locs ls hi hf hl hP hS
    refine lv_iload_n hx hb dX2_copy_6 rfl (lv_at hl 0 rfl) ?_
    refine lv_aload_n hx hb dX2_copy_7 rfl (lv_at hl 2 rfl) ?_
    refine fw_get (ci := 2) (fs := [.ref (b1), .int (iI (((L : Nat) : Int)))]) (k := 1) (v := .int (iI (((L : Nat) : Int)))) (C := RX2) (T := TX2) (N := 2) hx hb hts inFX2 hown hK hP (fw_at n_e1_e2.symm (fw_at n_e0_e2.symm e2)) rfl (by decide) mFX2_15 rfl dX2_copy_8 ?_
    refine fn_icmp_ge (x := ((i : Nat) : Int)) (y := ((L : Nat) : Int)) (tgt := 39) hx hb dX2_copy_11 (by decide) ⟨by omega, by omega⟩ ⟨by omega, by omega⟩ (fun c3 => ?_) (fun c3 => ?_)
    · exact fw_vret hx hb hr hlocks hP hS dX2_copy_39 (Nat.le_of_ble_eq_true rfl) (Nat.le_of_ble_eq_true rfl) (by
        obtain rfl : i = L := by omega
        exact ⟨f2, hf, rfl, rfl, rfl⟩)
    · refine lv_iload_n hx hb dX2_copy_14 rfl (lv_at hl 0 rfl) ?_
      refine lv_aload_n hx hb dX2_copy_15 rfl (lv_at hl 2 rfl) ?_
      refine fw_get (ci := 2) (fs := [.ref (b1), .int (iI (((L : Nat) : Int)))]) (k := 0) (v := .ref (b1)) (C := RX2) (T := TX2) (N := 2) hx hb hts inFX2 hown hK hP (fw_at n_e1_e2.symm (fw_at n_e0_e2.symm e2)) rfl (by decide) mFX2_9 rfl dX2_copy_16 ?_
      refine fn_alen hx hb hK hP 0 (fw_at n_e1_e3.symm (fw_at n_e0_e3.symm e3)) rfl dX2_copy_19 ?_
      refine fn_icmp_ge (x := ((i : Nat) : Int)) (y := ((200 : Nat) : Int)) (tgt := 39) hx hb dX2_copy_20 (by decide) ⟨by omega, by omega⟩ ⟨by omega, by omega⟩ (fun c4 => False.elim (by omega)) (fun c4 => ?_)
      refine lv_aload_n hx hb dX2_copy_23 rfl (lv_at hl 1 rfl) ?_
      refine lv_aload_n hx hb dX2_copy_24 rfl (lv_at hl 2 rfl) ?_
      refine fw_get (ci := 2) (fs := [.ref (b1), .int (iI (((L : Nat) : Int)))]) (k := 0) (v := .ref (b1)) (C := RX2) (T := TX2) (N := 2) hx hb hts inFX2 hown hK hP (fw_at n_e1_e2.symm (fw_at n_e0_e2.symm e2)) rfl (by decide) mFX2_9 rfl dX2_copy_25 ?_
      refine lv_iload_n hx hb dX2_copy_28 rfl (lv_at hl 0 rfl) ?_
      refine fn_bald (k := i) hx hb hK hP 0 (fw_at n_e1_e3.symm (fw_at n_e0_e3.symm e3)) rfl (by omega) (by omega) dX2_copy_29 ?_
      refine fw_callV (ci := 2) (fs := [.ref (b0), .int (iI (((i : Nat) : Int)))]) (T := TX2) (N := 2) (b := h0) (As := [.int ((g i))]) (rest := []) hx hb hml hown hts hK hG hP hS hl mM_X2_append mV_X2_append mLX2_22 (cm_Script_append l D ta B (n) (fw_up (fw_up (w) (h0) (.inr (2, [.ref (b0), .int (iI (((i : Nat) : Int)))]))) (b0) (.inl (ta 0, 200, .inl (f2)))) (h0) (b0) (i) (f2) ((g i)) (fw_at n_e0_e1 (fw_same _ _ _)) (fw_same _ _ _) (by omega) (hg i (by omega))) (fw_at n_e0_e1 (fw_same _ _ _)) rfl rfl rfl (Nat.le_of_ble_eq_true rfl) ⟨Nat.le_of_ble_eq_true rfl, Nat.le_of_ble_eq_true rfl⟩ ⟨Nat.le_of_ble_eq_true rfl, Nat.le_of_ble_eq_true rfl⟩ dX2_copy_30 (fun r w5 n1 H locs hq hP hS => ?_)
      obtain ⟨rfl, hw1, hn1⟩ := hq
      replace hw1 := hw1.symm; replace hn1 := hn1.symm; subst hw1; subst hn1
      refine W.eq (g2 := F0 m 33 ls []) rfl ?_
      have hP : fw_P D vwCl B (n) (fw_up (fw_up (w) (h0) (.inr (2, [.ref (b0), .int (iI (((i + 1 : Nat) : Int)))]))) (b0) (.inl (ta 0, 200, .inl (upd (f2) (i) ((g i)))))) H := fw_P.eqw ((fw_under (fw_twice _ _ _ _) _ _).trans (fw_swap n_e0_e1.symm (fw_twice _ _ _ _))) hP
      refine lv_iinc (k := 0) (v := (iI (((i + 1 : Nat) : Int)))) (lv' := [(2, .int (iI (((i + 1 : Nat) : Int)))), (0, .ref (h0)), (1, .ref (h1))]) hx hb dX2_copy_33 hl rfl (iI_inc _ 1) (by decide) rfl (fun ls hl => ?_)
      refine lv_goto (tgt := 6) hx hb dX2_copy_36 (by decide) ?_
      exact ih6 (i + 1) (by omega) (upd f2 i (g i)) H locs ls (by omega) (fun j hj => if hq : j = i then by (subst hq; simp [upd]) else by (simp only [upd, if_neg hq]; exact hf j (by omega))) hl hP hS
  have hP : fw_P D vwCl B (n) (fw_up (fw_up (w) (h0) (.inr (2, [.ref (b0), .int (iI (((0 : Nat) : Int)))]))) (b0) (.inl (ta 0, 200, .inl (f)))) H := fw_P.eqw (fw_id (fw_at n_e0_e1.symm e1)).symm hP
  exact lp2 (0) (f) H locs ls (by omega) (fun j hj => absurd hj (by omega)) hl hP hS
set_option maxHeartbeats 4000000 in
set_option maxRecDepth 100000 in
theorem cm_Script_byteAt (l : Launch) (D : va_G) (ta : Nat → ClassId) (B n : Nat) (w : fw_W) (h0 : Nat) (h1 : Nat) (L : Nat) (f : Nat → Int32) (z : Int) (e0 : w (h0) = some (.inr (2, [.ref (h1), .int (iI (((L : Nat) : Int)))]))) (e1 : w (h1) = some (.inl (ta 0, 200, .inl (f)))) (hL : L ≤ 200) (hz : iK z) : fw_C l D vwCl (tyL ta) B yX2_byteAt cX2_byteAt 2 (some .int) ({ frames := 0, cells := 0, slots := 0, locals := 0 } : Room) [.ref (h0), .int (iI (z))] n w (fun r w1 n1 => r = some (.int (if 0 ≤ z ∧ z < ((L : Nat) : Int) then f z.toNat &&& iI ((255 : Nat) : Int) else iI (-1))) ∧ w1 = w ∧ n1 = n) := by
  refine fw_enter (by decide) (Nat.le_of_ble_eq_true rfl) ?_
  intro p e s m below meth c hx hb hr hml hown hlocks hin hG hts hK H locs hP hS ls hl
  have hown : s.vm.findClass RX2 = some m.cls := hown
  replace hl : lv_has ls 2 [(0, .ref (h0)), (1, .int (iI (z)))] := hl
  have lt_e0 := hP.lt e0
  have lt_e1 := hP.lt e1
  have n_e0_e1 : (h0 : Nat) ≠ h1 := (fw_nio e1 e0).symm
  obtain ⟨hz1, hz2⟩ := hz
  refine lv_iload_n hx hb dX2_byteAt_0 rfl (lv_at hl 1 rfl) ?_
  refine fn_if_lt (x := z) (tgt := 21) hx hb dX2_byteAt_1 (by decide) ⟨by omega, by omega⟩ (fun c1 => ?_) (fun c1 => ?_)
  · refine lv_iconst (v := (iI ((-1)))) hx hb dX2_byteAt_21 rfl ?_
    exact fw_iret hx hb hr hlocks hP hS dX2_byteAt_22 (Nat.le_of_ble_eq_true rfl) (Nat.le_of_ble_eq_true rfl) ⟨by rw [if_neg (by omega)], rfl, rfl⟩
  · refine lv_iload_n hx hb dX2_byteAt_4 rfl (lv_at hl 1 rfl) ?_
    refine lv_aload_n hx hb dX2_byteAt_5 rfl (lv_at hl 0 rfl) ?_
    refine fw_get (ci := 2) (fs := [.ref (h1), .int (iI (((L : Nat) : Int)))]) (k := 1) (v := .int (iI (((L : Nat) : Int)))) (C := RX2) (T := TX2) (N := 2) hx hb hts inFX2 hown hK hP e0 rfl (by decide) mFX2_15 rfl dX2_byteAt_6 ?_
    refine fn_icmp_ge (x := z) (y := ((L : Nat) : Int)) (tgt := 21) hx hb dX2_byteAt_9 (by decide) ⟨by omega, by omega⟩ ⟨by omega, by omega⟩ (fun c2 => ?_) (fun c2 => ?_)
    · refine lv_iconst (v := (iI ((-1)))) hx hb dX2_byteAt_21 rfl ?_
      exact fw_iret hx hb hr hlocks hP hS dX2_byteAt_22 (Nat.le_of_ble_eq_true rfl) (Nat.le_of_ble_eq_true rfl) ⟨by rw [if_neg (by omega)], rfl, rfl⟩
    · refine lv_iload_n hx hb dX2_byteAt_12 rfl (lv_at hl 1 rfl) ?_
      refine lv_aload_n hx hb dX2_byteAt_13 rfl (lv_at hl 0 rfl) ?_
      refine fw_get (ci := 2) (fs := [.ref (h1), .int (iI (((L : Nat) : Int)))]) (k := 0) (v := .ref (h1)) (C := RX2) (T := TX2) (N := 2) hx hb hts inFX2 hown hK hP e0 rfl (by decide) mFX2_9 rfl dX2_byteAt_14 ?_
      refine fn_alen hx hb hK hP 0 e1 rfl dX2_byteAt_17 ?_
      refine fn_icmp_lt (x := z) (y := ((200 : Nat) : Int)) (tgt := 23) hx hb dX2_byteAt_18 (by decide) ⟨by omega, by omega⟩ ⟨by omega, by omega⟩ (fun c3 => ?_) (fun c3 => ?_)
      · refine lv_aload_n hx hb dX2_byteAt_23 rfl (lv_at hl 0 rfl) ?_
        refine fw_get (ci := 2) (fs := [.ref (h1), .int (iI (((L : Nat) : Int)))]) (k := 0) (v := .ref (h1)) (C := RX2) (T := TX2) (N := 2) hx hb hts inFX2 hown hK hP e0 rfl (by decide) mFX2_9 rfl dX2_byteAt_24 ?_
        refine lv_iload_n hx hb dX2_byteAt_27 rfl (lv_at hl 1 rfl) ?_
        refine fn_topz (y := ((z.toNat : Nat) : Int)) (by omega) ?_
        refine fn_bald (k := z.toNat) hx hb hK hP 0 e1 rfl (by omega) (by omega) dX2_byteAt_28 ?_
        refine lv_sipush (v := (iI (((255 : Nat) : Int)))) hx hb dX2_byteAt_29 (by decide) ?_
        refine lv_iand hx hb dX2_byteAt_32 ?_
        exact fw_iret hx hb hr hlocks hP hS dX2_byteAt_33 (Nat.le_of_ble_eq_true rfl) (Nat.le_of_ble_eq_true rfl) ⟨by rw [if_pos ⟨by omega, by omega⟩], rfl, rfl⟩
      · refine lv_iconst (v := (iI ((-1)))) hx hb dX2_byteAt_21 rfl ?_
        exact fw_iret hx hb hr hlocks hP hS dX2_byteAt_22 (Nat.le_of_ble_eq_true rfl) (Nat.le_of_ble_eq_true rfl) ⟨by rw [if_neg (by omega)], rfl, rfl⟩
