set_option maxHeartbeats 4000000 in
set_option maxRecDepth 100000 in
theorem cm_Jrn_init (l : Launch) (D : va_G) (ta : Nat → ClassId) (B n : Nat) (w : fw_W) (h0 : Nat) (N : Nat) (e0 : w (h0) = some (.inr (5, [.null, .null, .null, .int (iI (((0 : Nat) : Int))), .int (iI (((0 : Nat) : Int))), .int (iI (((0 : Nat) : Int)))]))) (hN : N < 100000) : fw_C l D vwCl (tyL ta) B yX5_init cX5_init 2 none ({ frames := 1, cells := 3, slots := 64 + N + N, locals := 21 } : Room) [.ref (h0), .int (iI (((N : Nat) : Int)))] n w (fun r w1 n1 => r = none ∧ w1 = fw_up (fw_up (fw_up (fw_up (w) (n) (.inl (ta 1, 64, .inl (fun z_ => iI (((fun _ => 0) z_ : Nat) : Int))))) (h0) (.inr (5, [.ref (n + 1), .ref (n + 2), .ref (n), .int (iI (((0 : Nat) : Int))), .int (iI (((0 : Nat) : Int))), .int (iI (((0 : Nat) : Int)))]))) (n + 1) (.inl (ta 3, N, .inr (.inr (.inr (.inr (fun _ => (none : Option Nat)))))))) (n + 2) (.inl (ta 2, N, .inl (fun z_ => bI ((fun _ => false) z_)))) ∧ n1 = n + 3) := by
  refine fw_enter (by decide) (Nat.le_of_ble_eq_true rfl) ?_
  intro p e s m below meth c hx hb hr hml hown hlocks hin hG hts hK H locs hP hS ls hl
  have hown : s.vm.findClass RX5 = some m.cls := hown
  replace hl : lv_has ls 2 [(0, .ref (h0)), (1, .int (iI (((N : Nat) : Int))))] := hl
  have lt_e0 := hP.lt e0
  refine lv_aload_n hx hb dX5_init_0 rfl (lv_at hl 0 rfl) ?_
  refine W.objInit hx hb hown (hts _ mLX5_3) (hts _ mI_obj) (hts _ mC_obj) rfl (by rw [hml]; exact hl.1) rfl dX5_init_1 (Nat.le_of_ble_eq_true rfl) (Nat.le_of_ble_eq_true rfl) ?_
  refine W.eq (g2 := F0 m 4 ls []) rfl ?_
  refine lv_aload_n hx hb dX5_init_4 rfl (lv_at hl 0 rfl) ?_
  refine lv_bipush (v := (iI (((64 : Nat) : Int)))) hx hb dX5_init_5 (by decide) ?_
  refine fw_newa (atype := .int) (ty := .int) (N := 64) (a0 := (64, .inl (fun z_ => iI (((fun _ => 0) z_ : Nat) : Int)))) hx hb hts mA_int rfl hK hP hS 1 rfl (fun h => h) rfl (by decide) (by decide) (by decide) (Nat.le_of_ble_eq_true rfl) (by show 0 + 64 ≤ 64 + N + N; omega) dX5_init_7 (fun H hP hS => ?_)
  have hP : fw_P D vwCl B (n + 1) (fw_up (w) (n) (.inl (ta 1, 64, .inl (fun z_ => iI (((fun _ => 0) z_ : Nat) : Int))))) H := hP
  refine fw_putF (ci := 5) (fs := [.null, .null, .null, .int (iI (((0 : Nat) : Int))), .int (iI (((0 : Nat) : Int))), .int (iI (((0 : Nat) : Int)))]) (k := 2) (v := .ref (n)) (C := RX5) (T := TX5) (N := 6) hx hb hts inFX5 tyX5 tyX5_ok nmX5 hown hin hK hP hS (fw_at (by omega) e0) rfl (by decide) mFX5_9 rfl rfl rfl rfl rfl (Nat.le_of_ble_eq_true rfl) dX5_init_9 (fun H locs hP hS => ?_)
  have hP : fw_P D vwCl B (n + 1) (fw_up (fw_up (w) (n) (.inl (ta 1, 64, .inl (fun z_ => iI (((fun _ => 0) z_ : Nat) : Int))))) (h0) (.inr (5, [.null, .null, .ref (n), .int (iI (((0 : Nat) : Int))), .int (iI (((0 : Nat) : Int))), .int (iI (((0 : Nat) : Int)))]))) H := hP
  refine lv_aload_n hx hb dX5_init_12 rfl (lv_at hl 0 rfl) ?_
  refine lv_iload_n hx hb dX5_init_13 rfl (lv_at hl 1 rfl) ?_
  refine lv_iconst (v := (iI (((0 : Nat) : Int)))) hx hb dX5_init_14 rfl ?_
  refine va_mmax hx hb (by rw [hml]; exact hl.1.symm) hown (hts _ mLX5_15) (hts _ mS_max) (hts _ mZ_math) (hts _ mC_max) (Nat.le_of_ble_eq_true rfl) (Nat.le_of_ble_eq_true rfl) (Nat.le_of_ble_eq_true rfl) (by show 0 + 64 ≤ 64 + N + N; omega) dX5_init_15 ?_
  refine fn_topi (y := (iI (((N : Nat) : Int)))) (iI_max0 (by omega)) ?_
  refine fw_newq (N := N) hx hb hts hown mKX5_21 mOX3 hK hP hS 3 rfl (iI_nneg (by omega)) (iI_clamp (by omega)) (by omega) (Nat.le_of_ble_eq_true rfl) (by show 0 + 64 + N ≤ 64 + N + N; omega) dX5_init_18 (fun H hP hS => ?_)
  have hP : fw_P D vwCl B (n + 2) (fw_up (fw_up (fw_up (w) (n) (.inl (ta 1, 64, .inl (fun z_ => iI (((fun _ => 0) z_ : Nat) : Int))))) (h0) (.inr (5, [.null, .null, .ref (n), .int (iI (((0 : Nat) : Int))), .int (iI (((0 : Nat) : Int))), .int (iI (((0 : Nat) : Int)))]))) (n + 1) (.inl (ta 3, N, .inr (.inr (.inr (.inr (fun _ => (none : Option Nat)))))))) H := hP
  refine fw_putF (ci := 5) (fs := [.null, .null, .ref (n), .int (iI (((0 : Nat) : Int))), .int (iI (((0 : Nat) : Int))), .int (iI (((0 : Nat) : Int)))]) (k := 0) (v := .ref (n + 1)) (C := RX5) (T := TX5) (N := 6) hx hb hts inFX5 tyX5 tyX5_ok nmX5 hown hin hK hP hS (fw_at (by omega) (fw_same _ _ _)) rfl (by decide) mFX5_23 rfl rfl rfl rfl rfl (Nat.le_of_ble_eq_true rfl) dX5_init_21 (fun H locs hP hS => ?_)
  have hP : fw_P D vwCl B (n + 2) (fw_up (fw_up (fw_up (w) (n) (.inl (ta 1, 64, .inl (fun z_ => iI (((fun _ => 0) z_ : Nat) : Int))))) (h0) (.inr (5, [.ref (n + 1), .null, .ref (n), .int (iI (((0 : Nat) : Int))), .int (iI (((0 : Nat) : Int))), .int (iI (((0 : Nat) : Int)))]))) (n + 1) (.inl (ta 3, N, .inr (.inr (.inr (.inr (fun _ => (none : Option Nat)))))))) H := fw_P.eqw (fw_swap (by omega) (fw_twice _ _ _ _)) hP
  refine lv_aload_n hx hb dX5_init_24 rfl (lv_at hl 0 rfl) ?_
  refine lv_iload_n hx hb dX5_init_25 rfl (lv_at hl 1 rfl) ?_
  refine lv_iconst (v := (iI (((0 : Nat) : Int)))) hx hb dX5_init_26 rfl ?_
  refine va_mmax hx hb (by rw [hml]; exact hl.1.symm) hown (hts _ mLX5_15) (hts _ mS_max) (hts _ mZ_math) (hts _ mC_max) (Nat.le_of_ble_eq_true rfl) (Nat.le_of_ble_eq_true rfl) (Nat.le_of_ble_eq_true rfl) (by show 0 + 64 + N ≤ 64 + N + N; omega) dX5_init_27 ?_
  refine fn_topi (y := (iI (((N : Nat) : Int)))) (iI_max0 (by omega)) ?_
  refine fw_newa (atype := .boolean) (ty := .boolean) (N := N) (a0 := (N, .inl (fun z_ => bI ((fun _ => false) z_)))) hx hb hts mA_boolean rfl hK hP hS 2 rfl (fun h => h) rfl (iI_nneg (by omega)) (iI_clamp (by omega)) (by show N * 1 ≤ 536870912; omega) (Nat.le_of_ble_eq_true rfl) (by show 0 + 64 + N + N ≤ 64 + N + N; omega) dX5_init_30 (fun H hP hS => ?_)
  have hP : fw_P D vwCl B (n + 3) (fw_up (fw_up (fw_up (fw_up (w) (n) (.inl (ta 1, 64, .inl (fun z_ => iI (((fun _ => 0) z_ : Nat) : Int))))) (h0) (.inr (5, [.ref (n + 1), .null, .ref (n), .int (iI (((0 : Nat) : Int))), .int (iI (((0 : Nat) : Int))), .int (iI (((0 : Nat) : Int)))]))) (n + 1) (.inl (ta 3, N, .inr (.inr (.inr (.inr (fun _ => (none : Option Nat)))))))) (n + 2) (.inl (ta 2, N, .inl (fun z_ => bI ((fun _ => false) z_))))) H := hP
  refine fw_putF (ci := 5) (fs := [.ref (n + 1), .null, .ref (n), .int (iI (((0 : Nat) : Int))), .int (iI (((0 : Nat) : Int))), .int (iI (((0 : Nat) : Int)))]) (k := 1) (v := .ref (n + 2)) (C := RX5) (T := TX5) (N := 6) hx hb hts inFX5 tyX5 tyX5_ok nmX5 hown hin hK hP hS (fw_at (by omega) (fw_at (by omega) (fw_same _ _ _))) rfl (by decide) mFX5_27 rfl rfl rfl rfl rfl (Nat.le_of_ble_eq_true rfl) dX5_init_32 (fun H locs hP hS => ?_)
  have hP : fw_P D vwCl B (n + 3) (fw_up (fw_up (fw_up (fw_up (w) (n) (.inl (ta 1, 64, .inl (fun z_ => iI (((fun _ => 0) z_ : Nat) : Int))))) (h0) (.inr (5, [.ref (n + 1), .ref (n + 2), .ref (n), .int (iI (((0 : Nat) : Int))), .int (iI (((0 : Nat) : Int))), .int (iI (((0 : Nat) : Int)))]))) (n + 1) (.inl (ta 3, N, .inr (.inr (.inr (.inr (fun _ => (none : Option Nat)))))))) (n + 2) (.inl (ta 2, N, .inl (fun z_ => bI ((fun _ => false) z_))))) H := fw_P.eqw (fw_swap (by omega) (fw_swap (by omega) (fw_twice _ _ _ _))) hP
  exact fw_vret hx hb hr hlocks hP hS dX5_init_35 (Nat.le_of_ble_eq_true rfl) (by show 0 + 64 + N + N ≤ 64 + N + N; omega) ⟨rfl, rfl, rfl⟩
set_option maxHeartbeats 4000000 in
set_option maxRecDepth 100000 in
theorem cm_Jrn_records (l : Launch) (D : va_G) (ta : Nat → ClassId) (B n : Nat) (w : fw_W) (h0 : Nat) (jc : Nat) (js : Nat) (jl : Nat) (sz : Nat) (rc : Nat) (sp : Nat) (e0 : w (h0) = some (.inr (5, [.ref (jc), .ref (js), .ref (jl), .int (iI (((sz : Nat) : Int))), .int (iI (((rc : Nat) : Int))), .int (iI (((sp : Nat) : Int)))])))  : fw_C l D vwCl (tyL ta) B yX5_records cX5_records 1 (some .int) ({ frames := 0, cells := 0, slots := 0, locals := 0 } : Room) [.ref (h0)] n w (fun r w1 n1 => r = some (.int (iI (((rc : Nat) : Int)))) ∧ w1 = w ∧ n1 = n) := by
  refine fw_enter (by decide) (Nat.le_of_ble_eq_true rfl) ?_
  intro p e s m below meth c hx hb hr hml hown hlocks hin hG hts hK H locs hP hS ls hl
  have hown : s.vm.findClass RX5 = some m.cls := hown
  replace hl : lv_has ls 1 [(0, .ref (h0))] := hl
  have lt_e0 := hP.lt e0
  refine lv_aload_n hx hb dX5_records_0 rfl (lv_at hl 0 rfl) ?_
  refine fw_get (ci := 5) (fs := [.ref (jc), .ref (js), .ref (jl), .int (iI (((sz : Nat) : Int))), .int (iI (((rc : Nat) : Int))), .int (iI (((sp : Nat) : Int)))]) (k := 4) (v := .int (iI (((rc : Nat) : Int)))) (C := RX5) (T := TX5) (N := 6) hx hb hts inFX5 hown hK hP e0 rfl (by decide) mFX5_31 rfl dX5_records_1 ?_
  exact fw_iret hx hb hr hlocks hP hS dX5_records_4 (Nat.le_of_ble_eq_true rfl) (Nat.le_of_ble_eq_true rfl) ⟨rfl, rfl, rfl⟩
set_option maxHeartbeats 4000000 in
set_option maxRecDepth 100000 in
theorem cm_Jrn_spent (l : Launch) (D : va_G) (ta : Nat → ClassId) (B n : Nat) (w : fw_W) (h0 : Nat) (jc : Nat) (js : Nat) (jl : Nat) (sz : Nat) (rc : Nat) (sp : Nat) (e0 : w (h0) = some (.inr (5, [.ref (jc), .ref (js), .ref (jl), .int (iI (((sz : Nat) : Int))), .int (iI (((rc : Nat) : Int))), .int (iI (((sp : Nat) : Int)))])))  : fw_C l D vwCl (tyL ta) B yX5_spent cX5_spent 1 (some .int) ({ frames := 0, cells := 0, slots := 0, locals := 0 } : Room) [.ref (h0)] n w (fun r w1 n1 => r = some (.int (iI (((sp : Nat) : Int)))) ∧ w1 = w ∧ n1 = n) := by
  refine fw_enter (by decide) (Nat.le_of_ble_eq_true rfl) ?_
  intro p e s m below meth c hx hb hr hml hown hlocks hin hG hts hK H locs hP hS ls hl
  have hown : s.vm.findClass RX5 = some m.cls := hown
  replace hl : lv_has ls 1 [(0, .ref (h0))] := hl
  have lt_e0 := hP.lt e0
  refine lv_aload_n hx hb dX5_spent_0 rfl (lv_at hl 0 rfl) ?_
  refine fw_get (ci := 5) (fs := [.ref (jc), .ref (js), .ref (jl), .int (iI (((sz : Nat) : Int))), .int (iI (((rc : Nat) : Int))), .int (iI (((sp : Nat) : Int)))]) (k := 5) (v := .int (iI (((sp : Nat) : Int)))) (C := RX5) (T := TX5) (N := 6) hx hb hts inFX5 hown hK hP e0 rfl (by decide) mFX5_35 rfl dX5_spent_1 ?_
  exact fw_iret hx hb hr hlocks hP hS dX5_spent_4 (Nat.le_of_ble_eq_true rfl) (Nat.le_of_ble_eq_true rfl) ⟨rfl, rfl, rfl⟩
set_option maxHeartbeats 4000000 in
set_option maxRecDepth 100000 in
theorem cm_Jrn_isFull (l : Launch) (D : va_G) (ta : Nat → ClassId) (B n : Nat) (w : fw_W) (h0 : Nat) (jc : Nat) (js : Nat) (jl : Nat) (sz : Nat) (rc : Nat) (sp : Nat) (lf : Nat → Nat) (e0 : w (h0) = some (.inr (5, [.ref (jc), .ref (js), .ref (jl), .int (iI (((sz : Nat) : Int))), .int (iI (((rc : Nat) : Int))), .int (iI (((sp : Nat) : Int)))]))) (e3 : w (jl) = some (.inl (ta 1, 64, .inl (fun z_ => iI (((lf) z_ : Nat) : Int))))) (hrc : rc ≤ 64) : fw_C l D vwCl (tyL ta) B yX5_isFull cX5_isFull 1 (some .boolean) ({ frames := 0, cells := 0, slots := 0, locals := 0 } : Room) [.ref (h0)] n w (fun r w1 n1 => r = some (.int (bI (decide (64 ≤ rc)))) ∧ w1 = w ∧ n1 = n) := by
  refine fw_enter (by decide) (Nat.le_of_ble_eq_true rfl) ?_
  intro p e s m below meth c hx hb hr hml hown hlocks hin hG hts hK H locs hP hS ls hl
  have hown : s.vm.findClass RX5 = some m.cls := hown
  replace hl : lv_has ls 1 [(0, .ref (h0))] := hl
  have lt_e0 := hP.lt e0
  have lt_e3 := hP.lt e3
  have n_e0_e3 : (h0 : Nat) ≠ jl := (fw_nio e3 e0).symm
  refine lv_aload_n hx hb dX5_isFull_0 rfl (lv_at hl 0 rfl) ?_
  refine fw_get (ci := 5) (fs := [.ref (jc), .ref (js), .ref (jl), .int (iI (((sz : Nat) : Int))), .int (iI (((rc : Nat) : Int))), .int (iI (((sp : Nat) : Int)))]) (k := 4) (v := .int (iI (((rc : Nat) : Int)))) (C := RX5) (T := TX5) (N := 6) hx hb hts inFX5 hown hK hP e0 rfl (by decide) mFX5_31 rfl dX5_isFull_1 ?_
  refine lv_aload_n hx hb dX5_isFull_4 rfl (lv_at hl 0 rfl) ?_
  refine fw_get (ci := 5) (fs := [.ref (jc), .ref (js), .ref (jl), .int (iI (((sz : Nat) : Int))), .int (iI (((rc : Nat) : Int))), .int (iI (((sp : Nat) : Int)))]) (k := 2) (v := .ref (jl)) (C := RX5) (T := TX5) (N := 6) hx hb hts inFX5 hown hK hP e0 rfl (by decide) mFX5_9 rfl dX5_isFull_5 ?_
  refine fn_alen hx hb hK hP 1 e3 rfl dX5_isFull_8 ?_
  refine fn_icmp_lt (x := ((rc : Nat) : Int)) (y := ((64 : Nat) : Int)) (tgt := 16) hx hb dX5_isFull_9 (by decide) ⟨by omega, by omega⟩ ⟨by omega, by omega⟩ (fun c1 => ?_) (fun c1 => ?_)
  · refine lv_iconst (v := (iI (((0 : Nat) : Int)))) hx hb dX5_isFull_16 rfl ?_
    exact fw_zret hx hb hr hlocks hP hS dX5_isFull_17 (Or.inl rfl) (Nat.le_of_ble_eq_true rfl) (Nat.le_of_ble_eq_true rfl) ⟨bI_F (by omega), rfl, rfl⟩
  · refine lv_iconst (v := (iI (((1 : Nat) : Int)))) hx hb dX5_isFull_12 rfl ?_
    refine lv_goto (tgt := 17) hx hb dX5_isFull_13 (by decide) ?_
    exact fw_zret hx hb hr hlocks hP hS dX5_isFull_17 (Or.inr rfl) (Nat.le_of_ble_eq_true rfl) (Nat.le_of_ble_eq_true rfl) ⟨bI_T (by omega), rfl, rfl⟩
set_option maxHeartbeats 4000000 in
set_option maxRecDepth 100000 in
theorem cm_Jrn_addRecord (l : Launch) (D : va_G) (ta : Nat → ClassId) (B n : Nat) (w : fw_W) (h0 : Nat) (jc : Nat) (js : Nat) (jl : Nat) (sz : Nat) (rc : Nat) (sp : Nat) (lf : Nat → Nat) (e0 : w (h0) = some (.inr (5, [.ref (jc), .ref (js), .ref (jl), .int (iI (((sz : Nat) : Int))), .int (iI (((rc : Nat) : Int))), .int (iI (((sp : Nat) : Int)))]))) (e3 : w (jl) = some (.inl (ta 1, 64, .inl (fun z_ => iI (((lf) z_ : Nat) : Int))))) (hrl : rc < 64) : fw_C l D vwCl (tyL ta) B yX5_addRecord cX5_addRecord 1 none ({ frames := 0, cells := 0, slots := 0, locals := 0 } : Room) [.ref (h0)] n w (fun r w1 n1 => r = none ∧ w1 = fw_up (fw_up (w) (jl) (.inl (ta 1, 64, .inl (fun z_ => iI (((gup (lf) (rc) (0)) z_ : Nat) : Int))))) (h0) (.inr (5, [.ref (jc), .ref (js), .ref (jl), .int (iI (((sz : Nat) : Int))), .int (iI (((rc + 1 : Nat) : Int))), .int (iI (((sp : Nat) : Int)))])) ∧ n1 = n) := by
  refine fw_enter (by decide) (Nat.le_of_ble_eq_true rfl) ?_
  intro p e s m below meth c hx hb hr hml hown hlocks hin hG hts hK H locs hP hS ls hl
  have hown : s.vm.findClass RX5 = some m.cls := hown
  replace hl : lv_has ls 1 [(0, .ref (h0))] := hl
  have lt_e0 := hP.lt e0
  have lt_e3 := hP.lt e3
  have n_e0_e3 : (h0 : Nat) ≠ jl := (fw_nio e3 e0).symm
  refine lv_aload_n hx hb dX5_addRecord_0 rfl (lv_at hl 0 rfl) ?_
  refine fw_get (ci := 5) (fs := [.ref (jc), .ref (js), .ref (jl), .int (iI (((sz : Nat) : Int))), .int (iI (((rc : Nat) : Int))), .int (iI (((sp : Nat) : Int)))]) (k := 4) (v := .int (iI (((rc : Nat) : Int)))) (C := RX5) (T := TX5) (N := 6) hx hb hts inFX5 hown hK hP e0 rfl (by decide) mFX5_31 rfl dX5_addRecord_1 ?_
  refine fn_if_lt (x := ((rc : Nat) : Int)) (tgt := 39) hx hb dX5_addRecord_4 (by decide) ⟨by omega, by omega⟩ (fun c1 => False.elim (by omega)) (fun c1 => ?_)
  refine lv_aload_n hx hb dX5_addRecord_7 rfl (lv_at hl 0 rfl) ?_
  refine fw_get (ci := 5) (fs := [.ref (jc), .ref (js), .ref (jl), .int (iI (((sz : Nat) : Int))), .int (iI (((rc : Nat) : Int))), .int (iI (((sp : Nat) : Int)))]) (k := 4) (v := .int (iI (((rc : Nat) : Int)))) (C := RX5) (T := TX5) (N := 6) hx hb hts inFX5 hown hK hP e0 rfl (by decide) mFX5_31 rfl dX5_addRecord_8 ?_
  refine lv_aload_n hx hb dX5_addRecord_11 rfl (lv_at hl 0 rfl) ?_
  refine fw_get (ci := 5) (fs := [.ref (jc), .ref (js), .ref (jl), .int (iI (((sz : Nat) : Int))), .int (iI (((rc : Nat) : Int))), .int (iI (((sp : Nat) : Int)))]) (k := 2) (v := .ref (jl)) (C := RX5) (T := TX5) (N := 6) hx hb hts inFX5 hown hK hP e0 rfl (by decide) mFX5_9 rfl dX5_addRecord_12 ?_
  refine fn_alen hx hb hK hP 1 e3 rfl dX5_addRecord_15 ?_
  refine fn_icmp_ge (x := ((rc : Nat) : Int)) (y := ((64 : Nat) : Int)) (tgt := 39) hx hb dX5_addRecord_16 (by decide) ⟨by omega, by omega⟩ ⟨by omega, by omega⟩ (fun c2 => False.elim (by omega)) (fun c2 => ?_)
  refine lv_aload_n hx hb dX5_addRecord_19 rfl (lv_at hl 0 rfl) ?_
  refine fw_get (ci := 5) (fs := [.ref (jc), .ref (js), .ref (jl), .int (iI (((sz : Nat) : Int))), .int (iI (((rc : Nat) : Int))), .int (iI (((sp : Nat) : Int)))]) (k := 2) (v := .ref (jl)) (C := RX5) (T := TX5) (N := 6) hx hb hts inFX5 hown hK hP e0 rfl (by decide) mFX5_9 rfl dX5_addRecord_20 ?_
  refine lv_aload_n hx hb dX5_addRecord_23 rfl (lv_at hl 0 rfl) ?_
  refine fw_get (ci := 5) (fs := [.ref (jc), .ref (js), .ref (jl), .int (iI (((sz : Nat) : Int))), .int (iI (((rc : Nat) : Int))), .int (iI (((sp : Nat) : Int)))]) (k := 4) (v := .int (iI (((rc : Nat) : Int)))) (C := RX5) (T := TX5) (N := 6) hx hb hts inFX5 hown hK hP e0 rfl (by decide) mFX5_31 rfl dX5_addRecord_24 ?_
  refine lv_iconst (v := (iI (((0 : Nat) : Int)))) hx hb dX5_addRecord_27 rfl ?_
  refine fn_iastN (g := lf) (x := 0) (k := rc) hx hb hK hP hS 1 e3 rfl (by omega) (by omega) dX5_addRecord_28 (fun H locs hP hS => ?_)
  have hP : fw_P D vwCl B (n) (fw_up (w) (jl) (.inl (ta 1, 64, .inl (fun z_ => iI (((gup (lf) (rc) (0)) z_ : Nat) : Int))))) H := hP
  refine lv_aload_n hx hb dX5_addRecord_29 rfl (lv_at hl 0 rfl) ?_
  refine lv_dup hx hb dX5_addRecord_30 rfl ?_
  refine fw_get (ci := 5) (fs := [.ref (jc), .ref (js), .ref (jl), .int (iI (((sz : Nat) : Int))), .int (iI (((rc : Nat) : Int))), .int (iI (((sp : Nat) : Int)))]) (k := 4) (v := .int (iI (((rc : Nat) : Int)))) (C := RX5) (T := TX5) (N := 6) hx hb hts inFX5 hown hK hP (fw_at n_e0_e3 e0) rfl (by decide) mFX5_31 rfl dX5_addRecord_31 ?_
  refine lv_iconst (v := (iI (((1 : Nat) : Int)))) hx hb dX5_addRecord_34 rfl ?_
  refine fn_iadd (x := ((rc : Nat) : Int)) (y := ((1 : Nat) : Int)) hx hb dX5_addRecord_35 ?_
  refine fn_topz (y := ((rc + 1 : Nat) : Int)) (by omega) ?_
  refine fw_put (ci := 5) (fs := [.ref (jc), .ref (js), .ref (jl), .int (iI (((sz : Nat) : Int))), .int (iI (((rc : Nat) : Int))), .int (iI (((sp : Nat) : Int)))]) (k := 4) (v := .int (iI (((rc + 1 : Nat) : Int)))) (C := RX5) (T := TX5) (N := 6) hx hb hts inFX5 tyX5 tyX5_ok nmX5 hown hK hP hS (fw_at n_e0_e3 e0) rfl (by decide) mFX5_31 rfl rfl rfl rfl (Nat.le_of_ble_eq_true rfl) dX5_addRecord_36 (fun H locs hP hS => ?_)
  have hP : fw_P D vwCl B (n) (fw_up (fw_up (w) (jl) (.inl (ta 1, 64, .inl (fun z_ => iI (((gup (lf) (rc) (0)) z_ : Nat) : Int))))) (h0) (.inr (5, [.ref (jc), .ref (js), .ref (jl), .int (iI (((sz : Nat) : Int))), .int (iI (((rc + 1 : Nat) : Int))), .int (iI (((sp : Nat) : Int)))]))) H := hP
  exact fw_vret hx hb hr hlocks hP hS dX5_addRecord_39 (Nat.le_of_ble_eq_true rfl) (Nat.le_of_ble_eq_true rfl) ⟨rfl, rfl, rfl⟩
set_option maxHeartbeats 4000000 in
set_option maxRecDepth 100000 in
theorem cm_Jrn_hasRecord (l : Launch) (D : va_G) (ta : Nat → ClassId) (B n : Nat) (w : fw_W) (h0 : Nat) (jc : Nat) (js : Nat) (jl : Nat) (sz : Nat) (rc : Nat) (sp : Nat) (lf : Nat → Nat) (z : Int) (e0 : w (h0) = some (.inr (5, [.ref (jc), .ref (js), .ref (jl), .int (iI (((sz : Nat) : Int))), .int (iI (((rc : Nat) : Int))), .int (iI (((sp : Nat) : Int)))]))) (e3 : w (jl) = some (.inl (ta 1, 64, .inl (fun z_ => iI (((lf) z_ : Nat) : Int))))) (hrc : rc ≤ 64) (hz : iK z) : fw_C l D vwCl (tyL ta) B yX5_hasRecord cX5_hasRecord 2 (some .boolean) ({ frames := 0, cells := 0, slots := 0, locals := 0 } : Room) [.ref (h0), .int (iI (z))] n w (fun r w1 n1 => r = some (.int (bI (decide (0 ≤ z ∧ z < ((rc : Nat) : Int))))) ∧ w1 = w ∧ n1 = n) := by
  refine fw_enter (by decide) (Nat.le_of_ble_eq_true rfl) ?_
  intro p e s m below meth c hx hb hr hml hown hlocks hin hG hts hK H locs hP hS ls hl
  have hown : s.vm.findClass RX5 = some m.cls := hown
  replace hl : lv_has ls 2 [(0, .ref (h0)), (1, .int (iI (z)))] := hl
  have lt_e0 := hP.lt e0
  have lt_e3 := hP.lt e3
  have n_e0_e3 : (h0 : Nat) ≠ jl := (fw_nio e3 e0).symm
  obtain ⟨hz1, hz2⟩ := hz
  refine lv_iload_n hx hb dX5_hasRecord_0 rfl (lv_at hl 1 rfl) ?_
  refine fn_if_lt (x := z) (tgt := 25) hx hb dX5_hasRecord_1 (by decide) ⟨by omega, by omega⟩ (fun c1 => ?_) (fun c1 => ?_)
  · refine lv_iconst (v := (iI (((0 : Nat) : Int)))) hx hb dX5_hasRecord_25 rfl ?_
    exact fw_zret hx hb hr hlocks hP hS dX5_hasRecord_26 (Or.inl rfl) (Nat.le_of_ble_eq_true rfl) (Nat.le_of_ble_eq_true rfl) ⟨bI_F (by omega), rfl, rfl⟩
  · refine lv_iload_n hx hb dX5_hasRecord_4 rfl (lv_at hl 1 rfl) ?_
    refine lv_aload_n hx hb dX5_hasRecord_5 rfl (lv_at hl 0 rfl) ?_
    refine fw_get (ci := 5) (fs := [.ref (jc), .ref (js), .ref (jl), .int (iI (((sz : Nat) : Int))), .int (iI (((rc : Nat) : Int))), .int (iI (((sp : Nat) : Int)))]) (k := 4) (v := .int (iI (((rc : Nat) : Int)))) (C := RX5) (T := TX5) (N := 6) hx hb hts inFX5 hown hK hP e0 rfl (by decide) mFX5_31 rfl dX5_hasRecord_6 ?_
    refine fn_icmp_ge (x := z) (y := ((rc : Nat) : Int)) (tgt := 25) hx hb dX5_hasRecord_9 (by decide) ⟨by omega, by omega⟩ ⟨by omega, by omega⟩ (fun c2 => ?_) (fun c2 => ?_)
    · refine lv_iconst (v := (iI (((0 : Nat) : Int)))) hx hb dX5_hasRecord_25 rfl ?_
      exact fw_zret hx hb hr hlocks hP hS dX5_hasRecord_26 (Or.inl rfl) (Nat.le_of_ble_eq_true rfl) (Nat.le_of_ble_eq_true rfl) ⟨bI_F (by omega), rfl, rfl⟩
    · refine lv_iload_n hx hb dX5_hasRecord_12 rfl (lv_at hl 1 rfl) ?_
      refine lv_aload_n hx hb dX5_hasRecord_13 rfl (lv_at hl 0 rfl) ?_
      refine fw_get (ci := 5) (fs := [.ref (jc), .ref (js), .ref (jl), .int (iI (((sz : Nat) : Int))), .int (iI (((rc : Nat) : Int))), .int (iI (((sp : Nat) : Int)))]) (k := 2) (v := .ref (jl)) (C := RX5) (T := TX5) (N := 6) hx hb hts inFX5 hown hK hP e0 rfl (by decide) mFX5_9 rfl dX5_hasRecord_14 ?_
      refine fn_alen hx hb hK hP 1 e3 rfl dX5_hasRecord_17 ?_
      refine fn_icmp_ge (x := z) (y := ((64 : Nat) : Int)) (tgt := 25) hx hb dX5_hasRecord_18 (by decide) ⟨by omega, by omega⟩ ⟨by omega, by omega⟩ (fun c3 => ?_) (fun c3 => ?_)
      · refine lv_iconst (v := (iI (((0 : Nat) : Int)))) hx hb dX5_hasRecord_25 rfl ?_
        exact fw_zret hx hb hr hlocks hP hS dX5_hasRecord_26 (Or.inl rfl) (Nat.le_of_ble_eq_true rfl) (Nat.le_of_ble_eq_true rfl) ⟨bI_F (by omega), rfl, rfl⟩
      · refine lv_iconst (v := (iI (((1 : Nat) : Int)))) hx hb dX5_hasRecord_21 rfl ?_
        refine lv_goto (tgt := 26) hx hb dX5_hasRecord_22 (by decide) ?_
        exact fw_zret hx hb hr hlocks hP hS dX5_hasRecord_26 (Or.inr rfl) (Nat.le_of_ble_eq_true rfl) (Nat.le_of_ble_eq_true rfl) ⟨bI_T (by omega), rfl, rfl⟩
set_option maxHeartbeats 4000000 in
set_option maxRecDepth 100000 in
theorem cm_Jrn_hasRoomAt (l : Launch) (D : va_G) (ta : Nat → ClassId) (B n : Nat) (w : fw_W) (h0 : Nat) (jc : Nat) (js : Nat) (jl : Nat) (sz : Nat) (rc : Nat) (sp : Nat) (N : Nat) (cf : Nat → Option Nat) (sb : Nat → Bool) (z : Int) (e0 : w (h0) = some (.inr (5, [.ref (jc), .ref (js), .ref (jl), .int (iI (((sz : Nat) : Int))), .int (iI (((rc : Nat) : Int))), .int (iI (((sp : Nat) : Int)))]))) (e1 : w (jc) = some (.inl (ta 3, N, .inr (.inr (.inr (.inr (cf))))))) (e2 : w (js) = some (.inl (ta 2, N, .inl (fun z_ => bI ((sb) z_))))) (hN : N < 2147483648) (hz : iK z) : fw_C l D vwCl (tyL ta) B yX5_hasRoomAt cX5_hasRoomAt 2 (some .boolean) ({ frames := 0, cells := 0, slots := 0, locals := 0 } : Room) [.ref (h0), .int (iI (z))] n w (fun r w1 n1 => r = some (.int (bI (decide (0 ≤ z ∧ z < ((N : Nat) : Int))))) ∧ w1 = w ∧ n1 = n) := by
  refine fw_enter (by decide) (Nat.le_of_ble_eq_true rfl) ?_
  intro p e s m below meth c hx hb hr hml hown hlocks hin hG hts hK H locs hP hS ls hl
  have hown : s.vm.findClass RX5 = some m.cls := hown
  replace hl : lv_has ls 2 [(0, .ref (h0)), (1, .int (iI (z)))] := hl
  have lt_e0 := hP.lt e0
  have lt_e1 := hP.lt e1
  have lt_e2 := hP.lt e2
  have n_e0_e1 : (h0 : Nat) ≠ jc := (fw_nio e1 e0).symm
  have n_e0_e2 : (h0 : Nat) ≠ js := (fw_nio e2 e0).symm
  have n_e1_e2 : (jc : Nat) ≠ js := (fw_niq e2 e1).symm
  obtain ⟨hz1, hz2⟩ := hz
  refine lv_iload_n hx hb dX5_hasRoomAt_0 rfl (lv_at hl 1 rfl) ?_
  refine fn_if_lt (x := z) (tgt := 26) hx hb dX5_hasRoomAt_1 (by decide) ⟨by omega, by omega⟩ (fun c1 => ?_) (fun c1 => ?_)
  · refine lv_iconst (v := (iI (((0 : Nat) : Int)))) hx hb dX5_hasRoomAt_26 rfl ?_
    exact fw_zret hx hb hr hlocks hP hS dX5_hasRoomAt_27 (Or.inl rfl) (Nat.le_of_ble_eq_true rfl) (Nat.le_of_ble_eq_true rfl) ⟨bI_F (by omega), rfl, rfl⟩
  · refine lv_iload_n hx hb dX5_hasRoomAt_4 rfl (lv_at hl 1 rfl) ?_
    refine lv_aload_n hx hb dX5_hasRoomAt_5 rfl (lv_at hl 0 rfl) ?_
    refine fw_get (ci := 5) (fs := [.ref (jc), .ref (js), .ref (jl), .int (iI (((sz : Nat) : Int))), .int (iI (((rc : Nat) : Int))), .int (iI (((sp : Nat) : Int)))]) (k := 0) (v := .ref (jc)) (C := RX5) (T := TX5) (N := 6) hx hb hts inFX5 hown hK hP e0 rfl (by decide) mFX5_23 rfl dX5_hasRoomAt_6 ?_
    refine fn_alen hx hb hK hP 3 e1 rfl dX5_hasRoomAt_9 ?_
    refine fn_icmp_ge (x := z) (y := ((N : Nat) : Int)) (tgt := 26) hx hb dX5_hasRoomAt_10 (by decide) ⟨by omega, by omega⟩ ⟨by omega, by omega⟩ (fun c2 => ?_) (fun c2 => ?_)
    · refine lv_iconst (v := (iI (((0 : Nat) : Int)))) hx hb dX5_hasRoomAt_26 rfl ?_
      exact fw_zret hx hb hr hlocks hP hS dX5_hasRoomAt_27 (Or.inl rfl) (Nat.le_of_ble_eq_true rfl) (Nat.le_of_ble_eq_true rfl) ⟨bI_F (by omega), rfl, rfl⟩
    · refine lv_iload_n hx hb dX5_hasRoomAt_13 rfl (lv_at hl 1 rfl) ?_
      refine lv_aload_n hx hb dX5_hasRoomAt_14 rfl (lv_at hl 0 rfl) ?_
      refine fw_get (ci := 5) (fs := [.ref (jc), .ref (js), .ref (jl), .int (iI (((sz : Nat) : Int))), .int (iI (((rc : Nat) : Int))), .int (iI (((sp : Nat) : Int)))]) (k := 1) (v := .ref (js)) (C := RX5) (T := TX5) (N := 6) hx hb hts inFX5 hown hK hP e0 rfl (by decide) mFX5_27 rfl dX5_hasRoomAt_15 ?_
      refine fn_alen hx hb hK hP 2 e2 rfl dX5_hasRoomAt_18 ?_
      refine fn_icmp_ge (x := z) (y := ((N : Nat) : Int)) (tgt := 26) hx hb dX5_hasRoomAt_19 (by decide) ⟨by omega, by omega⟩ ⟨by omega, by omega⟩ (fun c3 => ?_) (fun c3 => ?_)
      · refine lv_iconst (v := (iI (((0 : Nat) : Int)))) hx hb dX5_hasRoomAt_26 rfl ?_
        exact fw_zret hx hb hr hlocks hP hS dX5_hasRoomAt_27 (Or.inl rfl) (Nat.le_of_ble_eq_true rfl) (Nat.le_of_ble_eq_true rfl) ⟨bI_F (by omega), rfl, rfl⟩
      · refine lv_iconst (v := (iI (((1 : Nat) : Int)))) hx hb dX5_hasRoomAt_22 rfl ?_
        refine lv_goto (tgt := 27) hx hb dX5_hasRoomAt_23 (by decide) ?_
        exact fw_zret hx hb hr hlocks hP hS dX5_hasRoomAt_27 (Or.inr rfl) (Nat.le_of_ble_eq_true rfl) (Nat.le_of_ble_eq_true rfl) ⟨bI_T (by omega), rfl, rfl⟩
set_option maxHeartbeats 4000000 in
set_option maxRecDepth 100000 in
theorem cm_Jrn_latestLength (l : Launch) (D : va_G) (ta : Nat → ClassId) (B n : Nat) (w : fw_W) (h0 : Nat) (jc : Nat) (js : Nat) (jl : Nat) (sz : Nat) (rc : Nat) (sp : Nat) (lf : Nat → Nat) (e0 : w (h0) = some (.inr (5, [.ref (jc), .ref (js), .ref (jl), .int (iI (((sz : Nat) : Int))), .int (iI (((rc : Nat) : Int))), .int (iI (((sp : Nat) : Int)))]))) (e3 : w (jl) = some (.inl (ta 1, 64, .inl (fun z_ => iI (((lf) z_ : Nat) : Int))))) (hrc : rc ≤ 64) (h1r : 1 ≤ rc) : fw_C l D vwCl (tyL ta) B yX5_latestLength cX5_latestLength 1 (some .int) ({ frames := 1, cells := 0, slots := 0, locals := 21 } : Room) [.ref (h0)] n w (fun r w1 n1 => r = some (.int (iI (((lf (rc - 1) : Nat) : Int)))) ∧ w1 = w ∧ n1 = n) := by
  refine fw_enter (by decide) (Nat.le_of_ble_eq_true rfl) ?_
  intro p e s m below meth c hx hb hr hml hown hlocks hin hG hts hK H locs hP hS ls hl
  have hown : s.vm.findClass RX5 = some m.cls := hown
  replace hl : lv_has ls 1 [(0, .ref (h0))] := hl
  have lt_e0 := hP.lt e0
  have lt_e3 := hP.lt e3
  have n_e0_e3 : (h0 : Nat) ≠ jl := (fw_nio e3 e0).symm
  refine lv_aload_n hx hb dX5_latestLength_0 rfl (lv_at hl 0 rfl) ?_
  refine lv_aload_n hx hb dX5_latestLength_1 rfl (lv_at hl 0 rfl) ?_
  refine fw_get (ci := 5) (fs := [.ref (jc), .ref (js), .ref (jl), .int (iI (((sz : Nat) : Int))), .int (iI (((rc : Nat) : Int))), .int (iI (((sp : Nat) : Int)))]) (k := 4) (v := .int (iI (((rc : Nat) : Int)))) (C := RX5) (T := TX5) (N := 6) hx hb hts inFX5 hown hK hP e0 rfl (by decide) mFX5_31 rfl dX5_latestLength_2 ?_
  refine lv_iconst (v := (iI (((1 : Nat) : Int)))) hx hb dX5_latestLength_5 rfl ?_
  refine fn_isub (x := ((rc : Nat) : Int)) (y := ((1 : Nat) : Int)) hx hb dX5_latestLength_6 ?_
  refine fw_callV (ci := 5) (fs := [.ref (jc), .ref (js), .ref (jl), .int (iI (((sz : Nat) : Int))), .int (iI (((rc : Nat) : Int))), .int (iI (((sp : Nat) : Int)))]) (T := TX5) (N := 6) (b := h0) (As := [.int (iI ((((rc : Nat) : Int) - ((1 : Nat) : Int))))]) (rest := []) hx hb hml hown hts hK hG hP hS hl mM_X5_hasRecord mV_X5_hasRecord mLX5_38 (cm_Jrn_hasRecord l D ta B (n) (w) (h0) (jc) (js) (jl) (sz) (rc) (sp) (lf) (((rc : Nat) : Int) - ((1 : Nat) : Int)) e0 e3 (by omega) ⟨by omega, by omega⟩) e0 rfl rfl rfl (Nat.le_of_ble_eq_true rfl) ⟨Nat.le_of_ble_eq_true rfl, Nat.le_of_ble_eq_true rfl⟩ ⟨Nat.le_of_ble_eq_true rfl, Nat.le_of_ble_eq_true rfl⟩ dX5_latestLength_7 (fun r w1 n1 H locs hq hP hS => ?_)
  obtain ⟨rfl, hw1, hn1⟩ := hq
  replace hw1 := hw1.symm; replace hn1 := hn1.symm; subst hw1; subst hn1
  refine W.eq (g2 := F0 m 10 ls [.int (bI (decide (0 ≤ (((rc : Nat) : Int) - ((1 : Nat) : Int)) ∧ (((rc : Nat) : Int) - ((1 : Nat) : Int)) < ((rc : Nat) : Int))))]) rfl ?_
  refine fn_bif_eq (x := decide (0 ≤ (((rc : Nat) : Int) - ((1 : Nat) : Int)) ∧ (((rc : Nat) : Int) - ((1 : Nat) : Int)) < ((rc : Nat) : Int))) (tgt := 27) hx hb dX5_latestLength_10 (by decide) (fun c2 => False.elim (by have q := of_decide_eq_false c2; omega)) (fun c2 => ?_)
  refine lv_aload_n hx hb dX5_latestLength_13 rfl (lv_at hl 0 rfl) ?_
  refine fw_get (ci := 5) (fs := [.ref (jc), .ref (js), .ref (jl), .int (iI (((sz : Nat) : Int))), .int (iI (((rc : Nat) : Int))), .int (iI (((sp : Nat) : Int)))]) (k := 2) (v := .ref (jl)) (C := RX5) (T := TX5) (N := 6) hx hb hts inFX5 hown hK hP e0 rfl (by decide) mFX5_9 rfl dX5_latestLength_14 ?_
  refine lv_aload_n hx hb dX5_latestLength_17 rfl (lv_at hl 0 rfl) ?_
  refine fw_get (ci := 5) (fs := [.ref (jc), .ref (js), .ref (jl), .int (iI (((sz : Nat) : Int))), .int (iI (((rc : Nat) : Int))), .int (iI (((sp : Nat) : Int)))]) (k := 4) (v := .int (iI (((rc : Nat) : Int)))) (C := RX5) (T := TX5) (N := 6) hx hb hts inFX5 hown hK hP e0 rfl (by decide) mFX5_31 rfl dX5_latestLength_18 ?_
  refine lv_iconst (v := (iI (((1 : Nat) : Int)))) hx hb dX5_latestLength_21 rfl ?_
  refine fn_isub (x := ((rc : Nat) : Int)) (y := ((1 : Nat) : Int)) hx hb dX5_latestLength_22 ?_
  refine fn_topz (y := ((rc - 1 : Nat) : Int)) (by omega) ?_
  refine fn_ialdN (g := lf) (k := rc - 1) hx hb hK hP 1 e3 rfl (by omega) (by omega) dX5_latestLength_23 ?_
  refine lv_goto (tgt := 28) hx hb dX5_latestLength_24 (by decide) ?_
  exact fw_iret hx hb hr hlocks hP hS dX5_latestLength_28 (Nat.le_of_ble_eq_true rfl) (Nat.le_of_ble_eq_true rfl) ⟨rfl, rfl, rfl⟩
set_option maxHeartbeats 4000000 in
set_option maxRecDepth 100000 in
theorem cm_Jrn_note_mk (l : Launch) (D : va_G) (ta : Nat → ClassId) (B n : Nat) (w : fw_W) (h0 : Nat) (jc : Nat) (js : Nat) (jl : Nat) (sz : Nat) (rc : Nat) (sp : Nat) (N : Nat) (cf : Nat → Option Nat) (sb : Nat → Bool) (lf : Nat → Nat) (a : Nat) (ka : Nat) (sa : Nat) (v : Int64) (ht : Int32) (fi : Bool) (e0 : w (h0) = some (.inr (5, [.ref (jc), .ref (js), .ref (jl), .int (iI (((sz : Nat) : Int))), .int (iI (((rc : Nat) : Int))), .int (iI (((sp : Nat) : Int)))]))) (e1 : w (jc) = some (.inl (ta 3, N, .inr (.inr (.inr (.inr (cf))))))) (e2 : w (js) = some (.inl (ta 2, N, .inl (fun z_ => bI ((sb) z_))))) (e3 : w (jl) = some (.inl (ta 1, 64, .inl (fun z_ => iI (((lf) z_ : Nat) : Int))))) (e4 : w (a) = some (.inr (3, [.ref (ka), .ref (sa), .long (v), .int (ht), .int (bI (fi))]))) (hsl : js ≠ jl) (hN : N < 2147483648) (hrc : rc ≤ 64) (h1r : 1 ≤ rc) (hzl : sz < N) : fw_C l D vwCl (tyL ta) B yX5_note cX5_note 3 none ({ frames := 1, cells := 0, slots := 0, locals := 21 } : Room) [.ref (h0), .ref (a), .int (bI (false))] n w (fun r w1 n1 => r = none ∧ w1 = fw_up (fw_up (fw_up (fw_up (w) (jc) (.inl (ta 3, N, .inr (.inr (.inr (.inr (va_up (cf) (sz) (some (a))))))))) (js) (.inl (ta 2, N, .inl (fun z_ => bI ((gup (sb) (sz) (false)) z_))))) (h0) (.inr (5, [.ref (jc), .ref (js), .ref (jl), .int (iI (((sz + 1 : Nat) : Int))), .int (iI (((rc : Nat) : Int))), .int (iI (((sp : Nat) : Int)))]))) (jl) (.inl (ta 1, 64, .inl (fun z_ => iI (((gup (lf) (rc - 1) (lf (rc - 1) + 1)) z_ : Nat) : Int)))) ∧ n1 = n) := by
  refine fw_enter (by decide) (Nat.le_of_ble_eq_true rfl) ?_
  intro p e s m below meth c hx hb hr hml hown hlocks hin hG hts hK H locs hP hS ls hl
  have hown : s.vm.findClass RX5 = some m.cls := hown
  replace hl : lv_has ls 3 [(0, .ref (h0)), (1, .ref (a)), (2, .int (bI (false)))] := hl
  have lt_e0 := hP.lt e0
  have lt_e1 := hP.lt e1
  have lt_e2 := hP.lt e2
  have lt_e3 := hP.lt e3
  have lt_e4 := hP.lt e4
  have n_e0_e1 : (h0 : Nat) ≠ jc := (fw_nio e1 e0).symm
  have n_e0_e2 : (h0 : Nat) ≠ js := (fw_nio e2 e0).symm
  have n_e0_e3 : (h0 : Nat) ≠ jl := (fw_nio e3 e0).symm
  have n_e0_e4 : (h0 : Nat) ≠ a := fw_noo e0 e4 (by decide)
  have n_e1_e2 : (jc : Nat) ≠ js := (fw_niq e2 e1).symm
  have n_e1_e3 : (jc : Nat) ≠ jl := (fw_niq e3 e1).symm
  have n_e1_e4 : (jc : Nat) ≠ a := fw_nio e1 e4
  have n_e2_e3 : (js : Nat) ≠ jl := hsl
  have n_e2_e4 : (js : Nat) ≠ a := fw_nio e2 e4
  have n_e3_e4 : (jl : Nat) ≠ a := fw_nio e3 e4
  refine lv_aload_n hx hb dX5_note_0 rfl (lv_at hl 0 rfl) ?_
  refine lv_aload_n hx hb dX5_note_1 rfl (lv_at hl 0 rfl) ?_
  refine fw_get (ci := 5) (fs := [.ref (jc), .ref (js), .ref (jl), .int (iI (((sz : Nat) : Int))), .int (iI (((rc : Nat) : Int))), .int (iI (((sp : Nat) : Int)))]) (k := 4) (v := .int (iI (((rc : Nat) : Int)))) (C := RX5) (T := TX5) (N := 6) hx hb hts inFX5 hown hK hP e0 rfl (by decide) mFX5_31 rfl dX5_note_2 ?_
  refine lv_iconst (v := (iI (((1 : Nat) : Int)))) hx hb dX5_note_5 rfl ?_
  refine fn_isub (x := ((rc : Nat) : Int)) (y := ((1 : Nat) : Int)) hx hb dX5_note_6 ?_
  refine fw_callV (ci := 5) (fs := [.ref (jc), .ref (js), .ref (jl), .int (iI (((sz : Nat) : Int))), .int (iI (((rc : Nat) : Int))), .int (iI (((sp : Nat) : Int)))]) (T := TX5) (N := 6) (b := h0) (As := [.int (iI ((((rc : Nat) : Int) - ((1 : Nat) : Int))))]) (rest := []) hx hb hml hown hts hK hG hP hS hl mM_X5_hasRecord mV_X5_hasRecord mLX5_38 (cm_Jrn_hasRecord l D ta B (n) (w) (h0) (jc) (js) (jl) (sz) (rc) (sp) (lf) (((rc : Nat) : Int) - ((1 : Nat) : Int)) e0 e3 (by omega) ⟨by omega, by omega⟩) e0 rfl rfl rfl (Nat.le_of_ble_eq_true rfl) ⟨Nat.le_of_ble_eq_true rfl, Nat.le_of_ble_eq_true rfl⟩ ⟨Nat.le_of_ble_eq_true rfl, Nat.le_of_ble_eq_true rfl⟩ dX5_note_7 (fun r w1 n1 H locs hq hP hS => ?_)
  obtain ⟨rfl, hw1, hn1⟩ := hq
  replace hw1 := hw1.symm; replace hn1 := hn1.symm; subst hw1; subst hn1
  refine W.eq (g2 := F0 m 10 ls [.int (bI (decide (0 ≤ (((rc : Nat) : Int) - ((1 : Nat) : Int)) ∧ (((rc : Nat) : Int) - ((1 : Nat) : Int)) < ((rc : Nat) : Int))))]) rfl ?_
  refine fn_bif_eq (x := decide (0 ≤ (((rc : Nat) : Int) - ((1 : Nat) : Int)) ∧ (((rc : Nat) : Int) - ((1 : Nat) : Int)) < ((rc : Nat) : Int))) (tgt := 24) hx hb dX5_note_10 (by decide) (fun c2 => False.elim (by have q := of_decide_eq_false c2; omega)) (fun c2 => ?_)
  refine lv_aload_n hx hb dX5_note_13 rfl (lv_at hl 0 rfl) ?_
  refine lv_aload_n hx hb dX5_note_14 rfl (lv_at hl 0 rfl) ?_
  refine fw_get (ci := 5) (fs := [.ref (jc), .ref (js), .ref (jl), .int (iI (((sz : Nat) : Int))), .int (iI (((rc : Nat) : Int))), .int (iI (((sp : Nat) : Int)))]) (k := 3) (v := .int (iI (((sz : Nat) : Int)))) (C := RX5) (T := TX5) (N := 6) hx hb hts inFX5 hown hK hP e0 rfl (by decide) mFX5_42 rfl dX5_note_15 ?_
  refine fw_callV (ci := 5) (fs := [.ref (jc), .ref (js), .ref (jl), .int (iI (((sz : Nat) : Int))), .int (iI (((rc : Nat) : Int))), .int (iI (((sp : Nat) : Int)))]) (T := TX5) (N := 6) (b := h0) (As := [.int (iI (((sz : Nat) : Int)))]) (rest := []) hx hb hml hown hts hK hG hP hS hl mM_X5_hasRoomAt mV_X5_hasRoomAt mLX5_45 (cm_Jrn_hasRoomAt l D ta B (n) (w) (h0) (jc) (js) (jl) (sz) (rc) (sp) (N) (cf) (sb) (((sz : Nat) : Int)) e0 e1 e2 (by omega) ⟨by omega, by omega⟩) e0 rfl rfl rfl (Nat.le_of_ble_eq_true rfl) ⟨Nat.le_of_ble_eq_true rfl, Nat.le_of_ble_eq_true rfl⟩ ⟨Nat.le_of_ble_eq_true rfl, Nat.le_of_ble_eq_true rfl⟩ dX5_note_18 (fun r w3 n1 H locs hq hP hS => ?_)
  obtain ⟨rfl, hw1, hn1⟩ := hq
  replace hw1 := hw1.symm; replace hn1 := hn1.symm; subst hw1; subst hn1
  refine W.eq (g2 := F0 m 21 ls [.int (bI (decide (0 ≤ ((sz : Nat) : Int) ∧ ((sz : Nat) : Int) < ((N : Nat) : Int))))]) rfl ?_
  refine fn_bif_ne (x := decide (0 ≤ ((sz : Nat) : Int) ∧ ((sz : Nat) : Int) < ((N : Nat) : Int))) (tgt := 25) hx hb dX5_note_21 (by decide) (fun c4 => ?_) (fun c4 => False.elim (by have q := of_decide_eq_false c4; omega))
  refine lv_aload_n hx hb dX5_note_25 rfl (lv_at hl 0 rfl) ?_
  refine fw_get (ci := 5) (fs := [.ref (jc), .ref (js), .ref (jl), .int (iI (((sz : Nat) : Int))), .int (iI (((rc : Nat) : Int))), .int (iI (((sp : Nat) : Int)))]) (k := 0) (v := .ref (jc)) (C := RX5) (T := TX5) (N := 6) hx hb hts inFX5 hown hK hP e0 rfl (by decide) mFX5_23 rfl dX5_note_26 ?_
  refine lv_aload_n hx hb dX5_note_29 rfl (lv_at hl 0 rfl) ?_
  refine fw_get (ci := 5) (fs := [.ref (jc), .ref (js), .ref (jl), .int (iI (((sz : Nat) : Int))), .int (iI (((rc : Nat) : Int))), .int (iI (((sp : Nat) : Int)))]) (k := 3) (v := .int (iI (((sz : Nat) : Int)))) (C := RX5) (T := TX5) (N := 6) hx hb hts inFX5 hown hK hP e0 rfl (by decide) mFX5_42 rfl dX5_note_30 ?_
  refine lv_aload_n hx hb dX5_note_33 rfl (lv_at hl 1 rfl) ?_
  refine fn_aast (k := sz) hx hb hK hP hS 3 3 e1 rfl e4 (show vwCl[3]? = some (RX3, TX3, 5) from rfl) (by omega) (by omega) dX5_note_34 (fun H locs hP hS => ?_)
  have hP : fw_P D vwCl B (n) (fw_up (w) (jc) (.inl (ta 3, N, .inr (.inr (.inr (.inr (va_up (cf) (sz) (some (a))))))))) H := hP
  refine lv_aload_n hx hb dX5_note_35 rfl (lv_at hl 0 rfl) ?_
  refine fw_get (ci := 5) (fs := [.ref (jc), .ref (js), .ref (jl), .int (iI (((sz : Nat) : Int))), .int (iI (((rc : Nat) : Int))), .int (iI (((sp : Nat) : Int)))]) (k := 1) (v := .ref (js)) (C := RX5) (T := TX5) (N := 6) hx hb hts inFX5 hown hK hP (fw_at n_e0_e1 e0) rfl (by decide) mFX5_27 rfl dX5_note_36 ?_
  refine lv_aload_n hx hb dX5_note_39 rfl (lv_at hl 0 rfl) ?_
  refine fw_get (ci := 5) (fs := [.ref (jc), .ref (js), .ref (jl), .int (iI (((sz : Nat) : Int))), .int (iI (((rc : Nat) : Int))), .int (iI (((sp : Nat) : Int)))]) (k := 3) (v := .int (iI (((sz : Nat) : Int)))) (C := RX5) (T := TX5) (N := 6) hx hb hts inFX5 hown hK hP (fw_at n_e0_e1 e0) rfl (by decide) mFX5_42 rfl dX5_note_40 ?_
  refine lv_iload_n hx hb dX5_note_43 rfl (lv_at hl 2 rfl) ?_
  refine fn_zastB (sb := sb) (x := false) (k := sz) hx hb hK hP hS 2 (fw_at n_e1_e2.symm e2) rfl (by omega) (by omega) dX5_note_44 (fun H locs hP hS => ?_)
  have hP : fw_P D vwCl B (n) (fw_up (fw_up (w) (jc) (.inl (ta 3, N, .inr (.inr (.inr (.inr (va_up (cf) (sz) (some (a))))))))) (js) (.inl (ta 2, N, .inl (fun z_ => bI ((gup (sb) (sz) (false)) z_))))) H := hP
  refine lv_aload_n hx hb dX5_note_45 rfl (lv_at hl 0 rfl) ?_
  refine lv_dup hx hb dX5_note_46 rfl ?_
  refine fw_get (ci := 5) (fs := [.ref (jc), .ref (js), .ref (jl), .int (iI (((sz : Nat) : Int))), .int (iI (((rc : Nat) : Int))), .int (iI (((sp : Nat) : Int)))]) (k := 3) (v := .int (iI (((sz : Nat) : Int)))) (C := RX5) (T := TX5) (N := 6) hx hb hts inFX5 hown hK hP (fw_at n_e0_e2 (fw_at n_e0_e1 e0)) rfl (by decide) mFX5_42 rfl dX5_note_47 ?_
  refine lv_iconst (v := (iI (((1 : Nat) : Int)))) hx hb dX5_note_50 rfl ?_
  refine fn_iadd (x := ((sz : Nat) : Int)) (y := ((1 : Nat) : Int)) hx hb dX5_note_51 ?_
  refine fn_topz (y := ((sz + 1 : Nat) : Int)) (by omega) ?_
  refine fw_put (ci := 5) (fs := [.ref (jc), .ref (js), .ref (jl), .int (iI (((sz : Nat) : Int))), .int (iI (((rc : Nat) : Int))), .int (iI (((sp : Nat) : Int)))]) (k := 3) (v := .int (iI (((sz + 1 : Nat) : Int)))) (C := RX5) (T := TX5) (N := 6) hx hb hts inFX5 tyX5 tyX5_ok nmX5 hown hK hP hS (fw_at n_e0_e2 (fw_at n_e0_e1 e0)) rfl (by decide) mFX5_42 rfl rfl rfl rfl (Nat.le_of_ble_eq_true rfl) dX5_note_52 (fun H locs hP hS => ?_)
  have hP : fw_P D vwCl B (n) (fw_up (fw_up (fw_up (w) (jc) (.inl (ta 3, N, .inr (.inr (.inr (.inr (va_up (cf) (sz) (some (a))))))))) (js) (.inl (ta 2, N, .inl (fun z_ => bI ((gup (sb) (sz) (false)) z_))))) (h0) (.inr (5, [.ref (jc), .ref (js), .ref (jl), .int (iI (((sz + 1 : Nat) : Int))), .int (iI (((rc : Nat) : Int))), .int (iI (((sp : Nat) : Int)))]))) H := hP
  refine lv_aload_n hx hb dX5_note_55 rfl (lv_at hl 0 rfl) ?_
  refine fw_get (ci := 5) (fs := [.ref (jc), .ref (js), .ref (jl), .int (iI (((sz + 1 : Nat) : Int))), .int (iI (((rc : Nat) : Int))), .int (iI (((sp : Nat) : Int)))]) (k := 2) (v := .ref (jl)) (C := RX5) (T := TX5) (N := 6) hx hb hts inFX5 hown hK hP (fw_same _ _ _) rfl (by decide) mFX5_9 rfl dX5_note_56 ?_
  refine lv_aload_n hx hb dX5_note_59 rfl (lv_at hl 0 rfl) ?_
  refine fw_get (ci := 5) (fs := [.ref (jc), .ref (js), .ref (jl), .int (iI (((sz + 1 : Nat) : Int))), .int (iI (((rc : Nat) : Int))), .int (iI (((sp : Nat) : Int)))]) (k := 4) (v := .int (iI (((rc : Nat) : Int)))) (C := RX5) (T := TX5) (N := 6) hx hb hts inFX5 hown hK hP (fw_same _ _ _) rfl (by decide) mFX5_31 rfl dX5_note_60 ?_
  refine lv_iconst (v := (iI (((1 : Nat) : Int)))) hx hb dX5_note_63 rfl ?_
  refine fn_isub (x := ((rc : Nat) : Int)) (y := ((1 : Nat) : Int)) hx hb dX5_note_64 ?_
  refine fn_topz (y := ((rc - 1 : Nat) : Int)) (by omega) ?_
  refine lv_dup2_11 hx hb dX5_note_65 rfl rfl ?_
  refine fn_ialdN (g := lf) (k := rc - 1) hx hb hK hP 1 (fw_at n_e0_e3.symm (fw_at n_e2_e3.symm (fw_at n_e1_e3.symm e3))) rfl (by omega) (by omega) dX5_note_66 ?_
  refine lv_iconst (v := (iI (((1 : Nat) : Int)))) hx hb dX5_note_67 rfl ?_
  refine fn_iadd (x := ((lf (rc - 1) : Nat) : Int)) (y := ((1 : Nat) : Int)) hx hb dX5_note_68 ?_
  refine fn_topz (y := ((lf (rc - 1) + 1 : Nat) : Int)) (by omega) ?_
  refine fn_iastN (g := lf) (x := lf (rc - 1) + 1) (k := rc - 1) hx hb hK hP hS 1 (fw_at n_e0_e3.symm (fw_at n_e2_e3.symm (fw_at n_e1_e3.symm e3))) rfl (by omega) (by omega) dX5_note_69 (fun H locs hP hS => ?_)
  have hP : fw_P D vwCl B (n) (fw_up (fw_up (fw_up (fw_up (w) (jc) (.inl (ta 3, N, .inr (.inr (.inr (.inr (va_up (cf) (sz) (some (a))))))))) (js) (.inl (ta 2, N, .inl (fun z_ => bI ((gup (sb) (sz) (false)) z_))))) (h0) (.inr (5, [.ref (jc), .ref (js), .ref (jl), .int (iI (((sz + 1 : Nat) : Int))), .int (iI (((rc : Nat) : Int))), .int (iI (((sp : Nat) : Int)))]))) (jl) (.inl (ta 1, 64, .inl (fun z_ => iI (((gup (lf) (rc - 1) (lf (rc - 1) + 1)) z_ : Nat) : Int))))) H := hP
  refine lv_iload_n hx hb dX5_note_70 rfl (lv_at hl 2 rfl) ?_
  refine fn_bif_eq (x := false) (tgt := 84) hx hb dX5_note_71 (by decide) (fun c5 => ?_) (fun c5 => False.elim (by cases c5))
  exact fw_vret hx hb hr hlocks hP hS dX5_note_84 (Nat.le_of_ble_eq_true rfl) (Nat.le_of_ble_eq_true rfl) ⟨rfl, rfl, rfl⟩
set_option maxHeartbeats 4000000 in
set_option maxRecDepth 100000 in
theorem cm_Jrn_note_sp (l : Launch) (D : va_G) (ta : Nat → ClassId) (B n : Nat) (w : fw_W) (h0 : Nat) (jc : Nat) (js : Nat) (jl : Nat) (sz : Nat) (rc : Nat) (sp : Nat) (N : Nat) (cf : Nat → Option Nat) (sb : Nat → Bool) (lf : Nat → Nat) (a : Nat) (ka : Nat) (sa : Nat) (v : Int64) (ht : Int32) (fi : Bool) (e0 : w (h0) = some (.inr (5, [.ref (jc), .ref (js), .ref (jl), .int (iI (((sz : Nat) : Int))), .int (iI (((rc : Nat) : Int))), .int (iI (((sp : Nat) : Int)))]))) (e1 : w (jc) = some (.inl (ta 3, N, .inr (.inr (.inr (.inr (cf))))))) (e2 : w (js) = some (.inl (ta 2, N, .inl (fun z_ => bI ((sb) z_))))) (e3 : w (jl) = some (.inl (ta 1, 64, .inl (fun z_ => iI (((lf) z_ : Nat) : Int))))) (e4 : w (a) = some (.inr (3, [.ref (ka), .ref (sa), .long (v), .int (ht), .int (bI (fi))]))) (hsl : js ≠ jl) (hN : N < 2147483648) (hrc : rc ≤ 64) (h1r : 1 ≤ rc) (hzl : sz < N) : fw_C l D vwCl (tyL ta) B yX5_note cX5_note 3 none ({ frames := 1, cells := 0, slots := 0, locals := 21 } : Room) [.ref (h0), .ref (a), .int (bI (true))] n w (fun r w1 n1 => r = none ∧ w1 = fw_up (fw_up (fw_up (fw_up (w) (jc) (.inl (ta 3, N, .inr (.inr (.inr (.inr (va_up (cf) (sz) (some (a))))))))) (js) (.inl (ta 2, N, .inl (fun z_ => bI ((gup (sb) (sz) (true)) z_))))) (h0) (.inr (5, [.ref (jc), .ref (js), .ref (jl), .int (iI (((sz + 1 : Nat) : Int))), .int (iI (((rc : Nat) : Int))), .int (iI (((sp + 1 : Nat) : Int)))]))) (jl) (.inl (ta 1, 64, .inl (fun z_ => iI (((gup (lf) (rc - 1) (lf (rc - 1) + 1)) z_ : Nat) : Int)))) ∧ n1 = n) := by
  refine fw_enter (by decide) (Nat.le_of_ble_eq_true rfl) ?_
  intro p e s m below meth c hx hb hr hml hown hlocks hin hG hts hK H locs hP hS ls hl
  have hown : s.vm.findClass RX5 = some m.cls := hown
  replace hl : lv_has ls 3 [(0, .ref (h0)), (1, .ref (a)), (2, .int (bI (true)))] := hl
  have lt_e0 := hP.lt e0
  have lt_e1 := hP.lt e1
  have lt_e2 := hP.lt e2
  have lt_e3 := hP.lt e3
  have lt_e4 := hP.lt e4
  have n_e0_e1 : (h0 : Nat) ≠ jc := (fw_nio e1 e0).symm
  have n_e0_e2 : (h0 : Nat) ≠ js := (fw_nio e2 e0).symm
  have n_e0_e3 : (h0 : Nat) ≠ jl := (fw_nio e3 e0).symm
  have n_e0_e4 : (h0 : Nat) ≠ a := fw_noo e0 e4 (by decide)
  have n_e1_e2 : (jc : Nat) ≠ js := (fw_niq e2 e1).symm
  have n_e1_e3 : (jc : Nat) ≠ jl := (fw_niq e3 e1).symm
  have n_e1_e4 : (jc : Nat) ≠ a := fw_nio e1 e4
  have n_e2_e3 : (js : Nat) ≠ jl := hsl
  have n_e2_e4 : (js : Nat) ≠ a := fw_nio e2 e4
  have n_e3_e4 : (jl : Nat) ≠ a := fw_nio e3 e4
  refine lv_aload_n hx hb dX5_note_0 rfl (lv_at hl 0 rfl) ?_
  refine lv_aload_n hx hb dX5_note_1 rfl (lv_at hl 0 rfl) ?_
  refine fw_get (ci := 5) (fs := [.ref (jc), .ref (js), .ref (jl), .int (iI (((sz : Nat) : Int))), .int (iI (((rc : Nat) : Int))), .int (iI (((sp : Nat) : Int)))]) (k := 4) (v := .int (iI (((rc : Nat) : Int)))) (C := RX5) (T := TX5) (N := 6) hx hb hts inFX5 hown hK hP e0 rfl (by decide) mFX5_31 rfl dX5_note_2 ?_
  refine lv_iconst (v := (iI (((1 : Nat) : Int)))) hx hb dX5_note_5 rfl ?_
  refine fn_isub (x := ((rc : Nat) : Int)) (y := ((1 : Nat) : Int)) hx hb dX5_note_6 ?_
  refine fw_callV (ci := 5) (fs := [.ref (jc), .ref (js), .ref (jl), .int (iI (((sz : Nat) : Int))), .int (iI (((rc : Nat) : Int))), .int (iI (((sp : Nat) : Int)))]) (T := TX5) (N := 6) (b := h0) (As := [.int (iI ((((rc : Nat) : Int) - ((1 : Nat) : Int))))]) (rest := []) hx hb hml hown hts hK hG hP hS hl mM_X5_hasRecord mV_X5_hasRecord mLX5_38 (cm_Jrn_hasRecord l D ta B (n) (w) (h0) (jc) (js) (jl) (sz) (rc) (sp) (lf) (((rc : Nat) : Int) - ((1 : Nat) : Int)) e0 e3 (by omega) ⟨by omega, by omega⟩) e0 rfl rfl rfl (Nat.le_of_ble_eq_true rfl) ⟨Nat.le_of_ble_eq_true rfl, Nat.le_of_ble_eq_true rfl⟩ ⟨Nat.le_of_ble_eq_true rfl, Nat.le_of_ble_eq_true rfl⟩ dX5_note_7 (fun r w1 n1 H locs hq hP hS => ?_)
  obtain ⟨rfl, hw1, hn1⟩ := hq
  replace hw1 := hw1.symm; replace hn1 := hn1.symm; subst hw1; subst hn1
  refine W.eq (g2 := F0 m 10 ls [.int (bI (decide (0 ≤ (((rc : Nat) : Int) - ((1 : Nat) : Int)) ∧ (((rc : Nat) : Int) - ((1 : Nat) : Int)) < ((rc : Nat) : Int))))]) rfl ?_
  refine fn_bif_eq (x := decide (0 ≤ (((rc : Nat) : Int) - ((1 : Nat) : Int)) ∧ (((rc : Nat) : Int) - ((1 : Nat) : Int)) < ((rc : Nat) : Int))) (tgt := 24) hx hb dX5_note_10 (by decide) (fun c2 => False.elim (by have q := of_decide_eq_false c2; omega)) (fun c2 => ?_)
  refine lv_aload_n hx hb dX5_note_13 rfl (lv_at hl 0 rfl) ?_
  refine lv_aload_n hx hb dX5_note_14 rfl (lv_at hl 0 rfl) ?_
  refine fw_get (ci := 5) (fs := [.ref (jc), .ref (js), .ref (jl), .int (iI (((sz : Nat) : Int))), .int (iI (((rc : Nat) : Int))), .int (iI (((sp : Nat) : Int)))]) (k := 3) (v := .int (iI (((sz : Nat) : Int)))) (C := RX5) (T := TX5) (N := 6) hx hb hts inFX5 hown hK hP e0 rfl (by decide) mFX5_42 rfl dX5_note_15 ?_
  refine fw_callV (ci := 5) (fs := [.ref (jc), .ref (js), .ref (jl), .int (iI (((sz : Nat) : Int))), .int (iI (((rc : Nat) : Int))), .int (iI (((sp : Nat) : Int)))]) (T := TX5) (N := 6) (b := h0) (As := [.int (iI (((sz : Nat) : Int)))]) (rest := []) hx hb hml hown hts hK hG hP hS hl mM_X5_hasRoomAt mV_X5_hasRoomAt mLX5_45 (cm_Jrn_hasRoomAt l D ta B (n) (w) (h0) (jc) (js) (jl) (sz) (rc) (sp) (N) (cf) (sb) (((sz : Nat) : Int)) e0 e1 e2 (by omega) ⟨by omega, by omega⟩) e0 rfl rfl rfl (Nat.le_of_ble_eq_true rfl) ⟨Nat.le_of_ble_eq_true rfl, Nat.le_of_ble_eq_true rfl⟩ ⟨Nat.le_of_ble_eq_true rfl, Nat.le_of_ble_eq_true rfl⟩ dX5_note_18 (fun r w3 n1 H locs hq hP hS => ?_)
  obtain ⟨rfl, hw1, hn1⟩ := hq
  replace hw1 := hw1.symm; replace hn1 := hn1.symm; subst hw1; subst hn1
  refine W.eq (g2 := F0 m 21 ls [.int (bI (decide (0 ≤ ((sz : Nat) : Int) ∧ ((sz : Nat) : Int) < ((N : Nat) : Int))))]) rfl ?_
  refine fn_bif_ne (x := decide (0 ≤ ((sz : Nat) : Int) ∧ ((sz : Nat) : Int) < ((N : Nat) : Int))) (tgt := 25) hx hb dX5_note_21 (by decide) (fun c4 => ?_) (fun c4 => False.elim (by have q := of_decide_eq_false c4; omega))
  refine lv_aload_n hx hb dX5_note_25 rfl (lv_at hl 0 rfl) ?_
  refine fw_get (ci := 5) (fs := [.ref (jc), .ref (js), .ref (jl), .int (iI (((sz : Nat) : Int))), .int (iI (((rc : Nat) : Int))), .int (iI (((sp : Nat) : Int)))]) (k := 0) (v := .ref (jc)) (C := RX5) (T := TX5) (N := 6) hx hb hts inFX5 hown hK hP e0 rfl (by decide) mFX5_23 rfl dX5_note_26 ?_
  refine lv_aload_n hx hb dX5_note_29 rfl (lv_at hl 0 rfl) ?_
  refine fw_get (ci := 5) (fs := [.ref (jc), .ref (js), .ref (jl), .int (iI (((sz : Nat) : Int))), .int (iI (((rc : Nat) : Int))), .int (iI (((sp : Nat) : Int)))]) (k := 3) (v := .int (iI (((sz : Nat) : Int)))) (C := RX5) (T := TX5) (N := 6) hx hb hts inFX5 hown hK hP e0 rfl (by decide) mFX5_42 rfl dX5_note_30 ?_
  refine lv_aload_n hx hb dX5_note_33 rfl (lv_at hl 1 rfl) ?_
  refine fn_aast (k := sz) hx hb hK hP hS 3 3 e1 rfl e4 (show vwCl[3]? = some (RX3, TX3, 5) from rfl) (by omega) (by omega) dX5_note_34 (fun H locs hP hS => ?_)
  have hP : fw_P D vwCl B (n) (fw_up (w) (jc) (.inl (ta 3, N, .inr (.inr (.inr (.inr (va_up (cf) (sz) (some (a))))))))) H := hP
  refine lv_aload_n hx hb dX5_note_35 rfl (lv_at hl 0 rfl) ?_
  refine fw_get (ci := 5) (fs := [.ref (jc), .ref (js), .ref (jl), .int (iI (((sz : Nat) : Int))), .int (iI (((rc : Nat) : Int))), .int (iI (((sp : Nat) : Int)))]) (k := 1) (v := .ref (js)) (C := RX5) (T := TX5) (N := 6) hx hb hts inFX5 hown hK hP (fw_at n_e0_e1 e0) rfl (by decide) mFX5_27 rfl dX5_note_36 ?_
  refine lv_aload_n hx hb dX5_note_39 rfl (lv_at hl 0 rfl) ?_
  refine fw_get (ci := 5) (fs := [.ref (jc), .ref (js), .ref (jl), .int (iI (((sz : Nat) : Int))), .int (iI (((rc : Nat) : Int))), .int (iI (((sp : Nat) : Int)))]) (k := 3) (v := .int (iI (((sz : Nat) : Int)))) (C := RX5) (T := TX5) (N := 6) hx hb hts inFX5 hown hK hP (fw_at n_e0_e1 e0) rfl (by decide) mFX5_42 rfl dX5_note_40 ?_
  refine lv_iload_n hx hb dX5_note_43 rfl (lv_at hl 2 rfl) ?_
  refine fn_zastB (sb := sb) (x := true) (k := sz) hx hb hK hP hS 2 (fw_at n_e1_e2.symm e2) rfl (by omega) (by omega) dX5_note_44 (fun H locs hP hS => ?_)
  have hP : fw_P D vwCl B (n) (fw_up (fw_up (w) (jc) (.inl (ta 3, N, .inr (.inr (.inr (.inr (va_up (cf) (sz) (some (a))))))))) (js) (.inl (ta 2, N, .inl (fun z_ => bI ((gup (sb) (sz) (true)) z_))))) H := hP
  refine lv_aload_n hx hb dX5_note_45 rfl (lv_at hl 0 rfl) ?_
  refine lv_dup hx hb dX5_note_46 rfl ?_
  refine fw_get (ci := 5) (fs := [.ref (jc), .ref (js), .ref (jl), .int (iI (((sz : Nat) : Int))), .int (iI (((rc : Nat) : Int))), .int (iI (((sp : Nat) : Int)))]) (k := 3) (v := .int (iI (((sz : Nat) : Int)))) (C := RX5) (T := TX5) (N := 6) hx hb hts inFX5 hown hK hP (fw_at n_e0_e2 (fw_at n_e0_e1 e0)) rfl (by decide) mFX5_42 rfl dX5_note_47 ?_
  refine lv_iconst (v := (iI (((1 : Nat) : Int)))) hx hb dX5_note_50 rfl ?_
  refine fn_iadd (x := ((sz : Nat) : Int)) (y := ((1 : Nat) : Int)) hx hb dX5_note_51 ?_
  refine fn_topz (y := ((sz + 1 : Nat) : Int)) (by omega) ?_
  refine fw_put (ci := 5) (fs := [.ref (jc), .ref (js), .ref (jl), .int (iI (((sz : Nat) : Int))), .int (iI (((rc : Nat) : Int))), .int (iI (((sp : Nat) : Int)))]) (k := 3) (v := .int (iI (((sz + 1 : Nat) : Int)))) (C := RX5) (T := TX5) (N := 6) hx hb hts inFX5 tyX5 tyX5_ok nmX5 hown hK hP hS (fw_at n_e0_e2 (fw_at n_e0_e1 e0)) rfl (by decide) mFX5_42 rfl rfl rfl rfl (Nat.le_of_ble_eq_true rfl) dX5_note_52 (fun H locs hP hS => ?_)
  have hP : fw_P D vwCl B (n) (fw_up (fw_up (fw_up (w) (jc) (.inl (ta 3, N, .inr (.inr (.inr (.inr (va_up (cf) (sz) (some (a))))))))) (js) (.inl (ta 2, N, .inl (fun z_ => bI ((gup (sb) (sz) (true)) z_))))) (h0) (.inr (5, [.ref (jc), .ref (js), .ref (jl), .int (iI (((sz + 1 : Nat) : Int))), .int (iI (((rc : Nat) : Int))), .int (iI (((sp : Nat) : Int)))]))) H := hP
  refine lv_aload_n hx hb dX5_note_55 rfl (lv_at hl 0 rfl) ?_
  refine fw_get (ci := 5) (fs := [.ref (jc), .ref (js), .ref (jl), .int (iI (((sz + 1 : Nat) : Int))), .int (iI (((rc : Nat) : Int))), .int (iI (((sp : Nat) : Int)))]) (k := 2) (v := .ref (jl)) (C := RX5) (T := TX5) (N := 6) hx hb hts inFX5 hown hK hP (fw_same _ _ _) rfl (by decide) mFX5_9 rfl dX5_note_56 ?_
  refine lv_aload_n hx hb dX5_note_59 rfl (lv_at hl 0 rfl) ?_
  refine fw_get (ci := 5) (fs := [.ref (jc), .ref (js), .ref (jl), .int (iI (((sz + 1 : Nat) : Int))), .int (iI (((rc : Nat) : Int))), .int (iI (((sp : Nat) : Int)))]) (k := 4) (v := .int (iI (((rc : Nat) : Int)))) (C := RX5) (T := TX5) (N := 6) hx hb hts inFX5 hown hK hP (fw_same _ _ _) rfl (by decide) mFX5_31 rfl dX5_note_60 ?_
  refine lv_iconst (v := (iI (((1 : Nat) : Int)))) hx hb dX5_note_63 rfl ?_
  refine fn_isub (x := ((rc : Nat) : Int)) (y := ((1 : Nat) : Int)) hx hb dX5_note_64 ?_
  refine fn_topz (y := ((rc - 1 : Nat) : Int)) (by omega) ?_
  refine lv_dup2_11 hx hb dX5_note_65 rfl rfl ?_
  refine fn_ialdN (g := lf) (k := rc - 1) hx hb hK hP 1 (fw_at n_e0_e3.symm (fw_at n_e2_e3.symm (fw_at n_e1_e3.symm e3))) rfl (by omega) (by omega) dX5_note_66 ?_
  refine lv_iconst (v := (iI (((1 : Nat) : Int)))) hx hb dX5_note_67 rfl ?_
  refine fn_iadd (x := ((lf (rc - 1) : Nat) : Int)) (y := ((1 : Nat) : Int)) hx hb dX5_note_68 ?_
  refine fn_topz (y := ((lf (rc - 1) + 1 : Nat) : Int)) (by omega) ?_
  refine fn_iastN (g := lf) (x := lf (rc - 1) + 1) (k := rc - 1) hx hb hK hP hS 1 (fw_at n_e0_e3.symm (fw_at n_e2_e3.symm (fw_at n_e1_e3.symm e3))) rfl (by omega) (by omega) dX5_note_69 (fun H locs hP hS => ?_)
  have hP : fw_P D vwCl B (n) (fw_up (fw_up (fw_up (fw_up (w) (jc) (.inl (ta 3, N, .inr (.inr (.inr (.inr (va_up (cf) (sz) (some (a))))))))) (js) (.inl (ta 2, N, .inl (fun z_ => bI ((gup (sb) (sz) (true)) z_))))) (h0) (.inr (5, [.ref (jc), .ref (js), .ref (jl), .int (iI (((sz + 1 : Nat) : Int))), .int (iI (((rc : Nat) : Int))), .int (iI (((sp : Nat) : Int)))]))) (jl) (.inl (ta 1, 64, .inl (fun z_ => iI (((gup (lf) (rc - 1) (lf (rc - 1) + 1)) z_ : Nat) : Int))))) H := hP
  refine lv_iload_n hx hb dX5_note_70 rfl (lv_at hl 2 rfl) ?_
  refine fn_bif_eq (x := true) (tgt := 84) hx hb dX5_note_71 (by decide) (fun c5 => False.elim (by cases c5)) (fun c5 => ?_)
  refine lv_aload_n hx hb dX5_note_74 rfl (lv_at hl 0 rfl) ?_
  refine lv_dup hx hb dX5_note_75 rfl ?_
  refine fw_get (ci := 5) (fs := [.ref (jc), .ref (js), .ref (jl), .int (iI (((sz + 1 : Nat) : Int))), .int (iI (((rc : Nat) : Int))), .int (iI (((sp : Nat) : Int)))]) (k := 5) (v := .int (iI (((sp : Nat) : Int)))) (C := RX5) (T := TX5) (N := 6) hx hb hts inFX5 hown hK hP (fw_at n_e0_e3 (fw_same _ _ _)) rfl (by decide) mFX5_35 rfl dX5_note_76 ?_
  refine lv_iconst (v := (iI (((1 : Nat) : Int)))) hx hb dX5_note_79 rfl ?_
  refine fn_iadd (x := ((sp : Nat) : Int)) (y := ((1 : Nat) : Int)) hx hb dX5_note_80 ?_
  refine fn_topz (y := ((sp + 1 : Nat) : Int)) (by omega) ?_
  refine fw_put (ci := 5) (fs := [.ref (jc), .ref (js), .ref (jl), .int (iI (((sz + 1 : Nat) : Int))), .int (iI (((rc : Nat) : Int))), .int (iI (((sp : Nat) : Int)))]) (k := 5) (v := .int (iI (((sp + 1 : Nat) : Int)))) (C := RX5) (T := TX5) (N := 6) hx hb hts inFX5 tyX5 tyX5_ok nmX5 hown hK hP hS (fw_at n_e0_e3 (fw_same _ _ _)) rfl (by decide) mFX5_35 rfl rfl rfl rfl (Nat.le_of_ble_eq_true rfl) dX5_note_81 (fun H locs hP hS => ?_)
  have hP : fw_P D vwCl B (n) (fw_up (fw_up (fw_up (fw_up (w) (jc) (.inl (ta 3, N, .inr (.inr (.inr (.inr (va_up (cf) (sz) (some (a))))))))) (js) (.inl (ta 2, N, .inl (fun z_ => bI ((gup (sb) (sz) (true)) z_))))) (h0) (.inr (5, [.ref (jc), .ref (js), .ref (jl), .int (iI (((sz + 1 : Nat) : Int))), .int (iI (((rc : Nat) : Int))), .int (iI (((sp + 1 : Nat) : Int)))]))) (jl) (.inl (ta 1, 64, .inl (fun z_ => iI (((gup (lf) (rc - 1) (lf (rc - 1) + 1)) z_ : Nat) : Int))))) H := fw_P.eqw (fw_swap n_e0_e3.symm (fw_twice _ _ _ _)) hP
  exact fw_vret hx hb hr hlocks hP hS dX5_note_84 (Nat.le_of_ble_eq_true rfl) (Nat.le_of_ble_eq_true rfl) ⟨rfl, rfl, rfl⟩
set_option maxHeartbeats 4000000 in
set_option maxRecDepth 100000 in
theorem cm_Jrn_latestIsSpending (l : Launch) (D : va_G) (ta : Nat → ClassId) (B n : Nat) (w : fw_W) (h0 : Nat) (jc : Nat) (js : Nat) (jl : Nat) (sz : Nat) (rc : Nat) (sp : Nat) (N : Nat) (cf : Nat → Option Nat) (sb : Nat → Bool) (e0 : w (h0) = some (.inr (5, [.ref (jc), .ref (js), .ref (jl), .int (iI (((sz : Nat) : Int))), .int (iI (((rc : Nat) : Int))), .int (iI (((sp : Nat) : Int)))]))) (e1 : w (jc) = some (.inl (ta 3, N, .inr (.inr (.inr (.inr (cf))))))) (e2 : w (js) = some (.inl (ta 2, N, .inl (fun z_ => bI ((sb) z_))))) (hN : N < 2147483648) (h1z : 1 ≤ sz) (hsz : sz ≤ N) : fw_C l D vwCl (tyL ta) B yX5_latestIsSpending cX5_latestIsSpending 1 (some .boolean) ({ frames := 1, cells := 0, slots := 0, locals := 21 } : Room) [.ref (h0)] n w (fun r w1 n1 => r = some (.int (bI (sb (sz - 1)))) ∧ w1 = w ∧ n1 = n) := by
  refine fw_enter (by decide) (Nat.le_of_ble_eq_true rfl) ?_
  intro p e s m below meth c hx hb hr hml hown hlocks hin hG hts hK H locs hP hS ls hl
  have hown : s.vm.findClass RX5 = some m.cls := hown
  replace hl : lv_has ls 1 [(0, .ref (h0))] := hl
  have lt_e0 := hP.lt e0
  have lt_e1 := hP.lt e1
  have lt_e2 := hP.lt e2
  have n_e0_e1 : (h0 : Nat) ≠ jc := (fw_nio e1 e0).symm
  have n_e0_e2 : (h0 : Nat) ≠ js := (fw_nio e2 e0).symm
  have n_e1_e2 : (jc : Nat) ≠ js := (fw_niq e2 e1).symm
  refine lv_aload_n hx hb dX5_latestIsSpending_0 rfl (lv_at hl 0 rfl) ?_
  refine lv_aload_n hx hb dX5_latestIsSpending_1 rfl (lv_at hl 0 rfl) ?_
  refine fw_get (ci := 5) (fs := [.ref (jc), .ref (js), .ref (jl), .int (iI (((sz : Nat) : Int))), .int (iI (((rc : Nat) : Int))), .int (iI (((sp : Nat) : Int)))]) (k := 3) (v := .int (iI (((sz : Nat) : Int)))) (C := RX5) (T := TX5) (N := 6) hx hb hts inFX5 hown hK hP e0 rfl (by decide) mFX5_42 rfl dX5_latestIsSpending_2 ?_
  refine lv_iconst (v := (iI (((1 : Nat) : Int)))) hx hb dX5_latestIsSpending_5 rfl ?_
  refine fn_isub (x := ((sz : Nat) : Int)) (y := ((1 : Nat) : Int)) hx hb dX5_latestIsSpending_6 ?_
  refine fw_callV (ci := 5) (fs := [.ref (jc), .ref (js), .ref (jl), .int (iI (((sz : Nat) : Int))), .int (iI (((rc : Nat) : Int))), .int (iI (((sp : Nat) : Int)))]) (T := TX5) (N := 6) (b := h0) (As := [.int (iI ((((sz : Nat) : Int) - ((1 : Nat) : Int))))]) (rest := []) hx hb hml hown hts hK hG hP hS hl mM_X5_hasRoomAt mV_X5_hasRoomAt mLX5_45 (cm_Jrn_hasRoomAt l D ta B (n) (w) (h0) (jc) (js) (jl) (sz) (rc) (sp) (N) (cf) (sb) (((sz : Nat) : Int) - ((1 : Nat) : Int)) e0 e1 e2 (by omega) ⟨by omega, by omega⟩) e0 rfl rfl rfl (Nat.le_of_ble_eq_true rfl) ⟨Nat.le_of_ble_eq_true rfl, Nat.le_of_ble_eq_true rfl⟩ ⟨Nat.le_of_ble_eq_true rfl, Nat.le_of_ble_eq_true rfl⟩ dX5_latestIsSpending_7 (fun r w1 n1 H locs hq hP hS => ?_)
  obtain ⟨rfl, hw1, hn1⟩ := hq
  replace hw1 := hw1.symm; replace hn1 := hn1.symm; subst hw1; subst hn1
  refine W.eq (g2 := F0 m 10 ls [.int (bI (decide (0 ≤ (((sz : Nat) : Int) - ((1 : Nat) : Int)) ∧ (((sz : Nat) : Int) - ((1 : Nat) : Int)) < ((N : Nat) : Int))))]) rfl ?_
  refine fn_bif_eq (x := decide (0 ≤ (((sz : Nat) : Int) - ((1 : Nat) : Int)) ∧ (((sz : Nat) : Int) - ((1 : Nat) : Int)) < ((N : Nat) : Int))) (tgt := 31) hx hb dX5_latestIsSpending_10 (by decide) (fun c2 => False.elim (by have q := of_decide_eq_false c2; omega)) (fun c2 => ?_)
  refine lv_aload_n hx hb dX5_latestIsSpending_13 rfl (lv_at hl 0 rfl) ?_
  refine fw_get (ci := 5) (fs := [.ref (jc), .ref (js), .ref (jl), .int (iI (((sz : Nat) : Int))), .int (iI (((rc : Nat) : Int))), .int (iI (((sp : Nat) : Int)))]) (k := 1) (v := .ref (js)) (C := RX5) (T := TX5) (N := 6) hx hb hts inFX5 hown hK hP e0 rfl (by decide) mFX5_27 rfl dX5_latestIsSpending_14 ?_
  refine lv_aload_n hx hb dX5_latestIsSpending_17 rfl (lv_at hl 0 rfl) ?_
  refine fw_get (ci := 5) (fs := [.ref (jc), .ref (js), .ref (jl), .int (iI (((sz : Nat) : Int))), .int (iI (((rc : Nat) : Int))), .int (iI (((sp : Nat) : Int)))]) (k := 3) (v := .int (iI (((sz : Nat) : Int)))) (C := RX5) (T := TX5) (N := 6) hx hb hts inFX5 hown hK hP e0 rfl (by decide) mFX5_42 rfl dX5_latestIsSpending_18 ?_
  refine lv_iconst (v := (iI (((1 : Nat) : Int)))) hx hb dX5_latestIsSpending_21 rfl ?_
  refine fn_isub (x := ((sz : Nat) : Int)) (y := ((1 : Nat) : Int)) hx hb dX5_latestIsSpending_22 ?_
  refine fn_topz (y := ((sz - 1 : Nat) : Int)) (by omega) ?_
  refine fn_zaldB (sb := sb) (k := sz - 1) hx hb hK hP 2 e2 rfl (by omega) (by omega) dX5_latestIsSpending_23 ?_
  refine fn_bif_eq (x := sb (sz - 1)) (tgt := 31) hx hb dX5_latestIsSpending_24 (by decide) (fun c3 => ?_) (fun c3 => ?_)
  · refine lv_iconst (v := (iI (((0 : Nat) : Int)))) hx hb dX5_latestIsSpending_31 rfl ?_
    exact fw_zret hx hb hr hlocks hP hS dX5_latestIsSpending_32 (Or.inl rfl) (Nat.le_of_ble_eq_true rfl) (Nat.le_of_ble_eq_true rfl) ⟨by rw [c3]; rfl, rfl, rfl⟩
  · refine lv_iconst (v := (iI (((1 : Nat) : Int)))) hx hb dX5_latestIsSpending_27 rfl ?_
    refine lv_goto (tgt := 32) hx hb dX5_latestIsSpending_28 (by decide) ?_
    exact fw_zret hx hb hr hlocks hP hS dX5_latestIsSpending_32 (Or.inr rfl) (Nat.le_of_ble_eq_true rfl) (Nat.le_of_ble_eq_true rfl) ⟨by rw [c3]; rfl, rfl, rfl⟩
set_option maxHeartbeats 4000000 in
set_option maxRecDepth 100000 in
theorem cm_Jrn_takeLatest_mk (l : Launch) (D : va_G) (ta : Nat → ClassId) (B n : Nat) (w : fw_W) (h0 : Nat) (jc : Nat) (js : Nat) (jl : Nat) (sz : Nat) (rc : Nat) (sp : Nat) (N : Nat) (cf : Nat → Option Nat) (sb : Nat → Bool) (a : Nat) (e0 : w (h0) = some (.inr (5, [.ref (jc), .ref (js), .ref (jl), .int (iI (((sz : Nat) : Int))), .int (iI (((rc : Nat) : Int))), .int (iI (((sp : Nat) : Int)))]))) (e1 : w (jc) = some (.inl (ta 3, N, .inr (.inr (.inr (.inr (cf))))))) (e2 : w (js) = some (.inl (ta 2, N, .inl (fun z_ => bI ((sb) z_))))) (hN : N < 2147483648) (h1z : 1 ≤ sz) (hsz : sz ≤ N) (hca : cf (sz - 1) = some a) (hsb : sb (sz - 1) = false) : fw_C l D vwCl (tyL ta) B yX5_takeLatest cX5_takeLatest 1 (some (.object "CoinDesk$Coin")) ({ frames := 2, cells := 0, slots := 0, locals := 41 } : Room) [.ref (h0)] n w (fun r w1 n1 => r = some (.ref (a)) ∧ w1 = fw_up (w) (h0) (.inr (5, [.ref (jc), .ref (js), .ref (jl), .int (iI (((sz - 1 : Nat) : Int))), .int (iI (((rc : Nat) : Int))), .int (iI (((sp : Nat) : Int)))])) ∧ n1 = n) := by
  refine fw_enter (by decide) (Nat.le_of_ble_eq_true rfl) ?_
  intro p e s m below meth c hx hb hr hml hown hlocks hin hG hts hK H locs hP hS ls hl
  have hown : s.vm.findClass RX5 = some m.cls := hown
  replace hl : lv_has ls 1 [(0, .ref (h0))] := hl
  have lt_e0 := hP.lt e0
  have lt_e1 := hP.lt e1
  have lt_e2 := hP.lt e2
  have n_e0_e1 : (h0 : Nat) ≠ jc := (fw_nio e1 e0).symm
  have n_e0_e2 : (h0 : Nat) ≠ js := (fw_nio e2 e0).symm
  have n_e1_e2 : (jc : Nat) ≠ js := (fw_niq e2 e1).symm
  refine lv_aload_n hx hb dX5_takeLatest_0 rfl (lv_at hl 0 rfl) ?_
  refine lv_aload_n hx hb dX5_takeLatest_1 rfl (lv_at hl 0 rfl) ?_
  refine fw_get (ci := 5) (fs := [.ref (jc), .ref (js), .ref (jl), .int (iI (((sz : Nat) : Int))), .int (iI (((rc : Nat) : Int))), .int (iI (((sp : Nat) : Int)))]) (k := 3) (v := .int (iI (((sz : Nat) : Int)))) (C := RX5) (T := TX5) (N := 6) hx hb hts inFX5 hown hK hP e0 rfl (by decide) mFX5_42 rfl dX5_takeLatest_2 ?_
  refine lv_iconst (v := (iI (((1 : Nat) : Int)))) hx hb dX5_takeLatest_5 rfl ?_
  refine fn_isub (x := ((sz : Nat) : Int)) (y := ((1 : Nat) : Int)) hx hb dX5_takeLatest_6 ?_
  refine fw_callV (ci := 5) (fs := [.ref (jc), .ref (js), .ref (jl), .int (iI (((sz : Nat) : Int))), .int (iI (((rc : Nat) : Int))), .int (iI (((sp : Nat) : Int)))]) (T := TX5) (N := 6) (b := h0) (As := [.int (iI ((((sz : Nat) : Int) - ((1 : Nat) : Int))))]) (rest := []) hx hb hml hown hts hK hG hP hS hl mM_X5_hasRoomAt mV_X5_hasRoomAt mLX5_45 (cm_Jrn_hasRoomAt l D ta B (n) (w) (h0) (jc) (js) (jl) (sz) (rc) (sp) (N) (cf) (sb) (((sz : Nat) : Int) - ((1 : Nat) : Int)) e0 e1 e2 (by omega) ⟨by omega, by omega⟩) e0 rfl rfl rfl (Nat.le_of_ble_eq_true rfl) ⟨Nat.le_of_ble_eq_true rfl, Nat.le_of_ble_eq_true rfl⟩ ⟨Nat.le_of_ble_eq_true rfl, Nat.le_of_ble_eq_true rfl⟩ dX5_takeLatest_7 (fun r w1 n1 H locs hq hP hS => ?_)
  obtain ⟨rfl, hw1, hn1⟩ := hq
  replace hw1 := hw1.symm; replace hn1 := hn1.symm; subst hw1; subst hn1
  refine W.eq (g2 := F0 m 10 ls [.int (bI (decide (0 ≤ (((sz : Nat) : Int) - ((1 : Nat) : Int)) ∧ (((sz : Nat) : Int) - ((1 : Nat) : Int)) < ((N : Nat) : Int))))]) rfl ?_
  refine fn_bif_ne (x := decide (0 ≤ (((sz : Nat) : Int) - ((1 : Nat) : Int)) ∧ (((sz : Nat) : Int) - ((1 : Nat) : Int)) < ((N : Nat) : Int))) (tgt := 15) hx hb dX5_takeLatest_10 (by decide) (fun c2 => ?_) (fun c2 => False.elim (by have q := of_decide_eq_false c2; omega))
  refine lv_aload_n hx hb dX5_takeLatest_15 rfl (lv_at hl 0 rfl) ?_
  refine fw_callV (ci := 5) (fs := [.ref (jc), .ref (js), .ref (jl), .int (iI (((sz : Nat) : Int))), .int (iI (((rc : Nat) : Int))), .int (iI (((sp : Nat) : Int)))]) (T := TX5) (N := 6) (b := h0) (As := []) (rest := []) hx hb hml hown hts hK hG hP hS hl mM_X5_latestIsSpending mV_X5_latestIsSpending mLX5_48 (cm_Jrn_latestIsSpending l D ta B (n) (w) (h0) (jc) (js) (jl) (sz) (rc) (sp) (N) (cf) (sb) e0 e1 e2 (by omega) (by omega) (by omega)) e0 rfl rfl rfl (Nat.le_of_ble_eq_true rfl) ⟨Nat.le_of_ble_eq_true rfl, Nat.le_of_ble_eq_true rfl⟩ ⟨Nat.le_of_ble_eq_true rfl, Nat.le_of_ble_eq_true rfl⟩ dX5_takeLatest_16 (fun r w3 n1 H locs hq hP hS => ?_)
  obtain ⟨rfl, hw1, hn1⟩ := hq
  replace hw1 := hw1.symm; replace hn1 := hn1.symm; subst hw1; subst hn1
  refine W.eq (g2 := F0 m 19 ls [.int (bI (sb (sz - 1)))]) rfl ?_
  refine fn_bif_eq (x := sb (sz - 1)) (tgt := 32) hx hb dX5_takeLatest_19 (by decide) (fun c4 => ?_) (fun c4 => False.elim (by rw [hsb] at c4; cases c4))
  refine lv_aload_n hx hb dX5_takeLatest_32 rfl (lv_at hl 0 rfl) ?_
  refine lv_dup hx hb dX5_takeLatest_33 rfl ?_
  refine fw_get (ci := 5) (fs := [.ref (jc), .ref (js), .ref (jl), .int (iI (((sz : Nat) : Int))), .int (iI (((rc : Nat) : Int))), .int (iI (((sp : Nat) : Int)))]) (k := 3) (v := .int (iI (((sz : Nat) : Int)))) (C := RX5) (T := TX5) (N := 6) hx hb hts inFX5 hown hK hP e0 rfl (by decide) mFX5_42 rfl dX5_takeLatest_34 ?_
  refine lv_iconst (v := (iI (((1 : Nat) : Int)))) hx hb dX5_takeLatest_37 rfl ?_
  refine fn_isub (x := ((sz : Nat) : Int)) (y := ((1 : Nat) : Int)) hx hb dX5_takeLatest_38 ?_
  refine fn_topz (y := ((sz - 1 : Nat) : Int)) (by omega) ?_
  refine fw_put (ci := 5) (fs := [.ref (jc), .ref (js), .ref (jl), .int (iI (((sz : Nat) : Int))), .int (iI (((rc : Nat) : Int))), .int (iI (((sp : Nat) : Int)))]) (k := 3) (v := .int (iI (((sz - 1 : Nat) : Int)))) (C := RX5) (T := TX5) (N := 6) hx hb hts inFX5 tyX5 tyX5_ok nmX5 hown hK hP hS e0 rfl (by decide) mFX5_42 rfl rfl rfl rfl (Nat.le_of_ble_eq_true rfl) dX5_takeLatest_39 (fun H locs hP hS => ?_)
  have hP : fw_P D vwCl B (n) (fw_up (w) (h0) (.inr (5, [.ref (jc), .ref (js), .ref (jl), .int (iI (((sz - 1 : Nat) : Int))), .int (iI (((rc : Nat) : Int))), .int (iI (((sp : Nat) : Int)))]))) H := hP
  refine lv_aload_n hx hb dX5_takeLatest_42 rfl (lv_at hl 0 rfl) ?_
  refine fw_get (ci := 5) (fs := [.ref (jc), .ref (js), .ref (jl), .int (iI (((sz - 1 : Nat) : Int))), .int (iI (((rc : Nat) : Int))), .int (iI (((sp : Nat) : Int)))]) (k := 0) (v := .ref (jc)) (C := RX5) (T := TX5) (N := 6) hx hb hts inFX5 hown hK hP (fw_same _ _ _) rfl (by decide) mFX5_23 rfl dX5_takeLatest_43 ?_
  refine lv_aload_n hx hb dX5_takeLatest_46 rfl (lv_at hl 0 rfl) ?_
  refine fw_get (ci := 5) (fs := [.ref (jc), .ref (js), .ref (jl), .int (iI (((sz - 1 : Nat) : Int))), .int (iI (((rc : Nat) : Int))), .int (iI (((sp : Nat) : Int)))]) (k := 3) (v := .int (iI (((sz - 1 : Nat) : Int)))) (C := RX5) (T := TX5) (N := 6) hx hb hts inFX5 hown hK hP (fw_same _ _ _) rfl (by decide) mFX5_42 rfl dX5_takeLatest_47 ?_
  refine fn_aald (k := sz - 1) hx hb hK hP 3 (fw_at n_e0_e1.symm e1) rfl (by omega) (by omega) dX5_takeLatest_50 ?_
  refine fn_topq (x := a) hca ?_
  exact fw_aret hx hb hr hlocks hP hS dX5_takeLatest_51 (Or.inr ⟨_, rfl⟩) (Nat.le_of_ble_eq_true rfl) (Nat.le_of_ble_eq_true rfl) ⟨rfl, rfl, rfl⟩
set_option maxHeartbeats 4000000 in
set_option maxRecDepth 100000 in
theorem cm_Jrn_takeLatest_sp (l : Launch) (D : va_G) (ta : Nat → ClassId) (B n : Nat) (w : fw_W) (h0 : Nat) (jc : Nat) (js : Nat) (jl : Nat) (sz : Nat) (rc : Nat) (sp : Nat) (N : Nat) (cf : Nat → Option Nat) (sb : Nat → Bool) (a : Nat) (e0 : w (h0) = some (.inr (5, [.ref (jc), .ref (js), .ref (jl), .int (iI (((sz : Nat) : Int))), .int (iI (((rc : Nat) : Int))), .int (iI (((sp : Nat) : Int)))]))) (e1 : w (jc) = some (.inl (ta 3, N, .inr (.inr (.inr (.inr (cf))))))) (e2 : w (js) = some (.inl (ta 2, N, .inl (fun z_ => bI ((sb) z_))))) (hN : N < 2147483648) (h1z : 1 ≤ sz) (hsz : sz ≤ N) (hca : cf (sz - 1) = some a) (hsb : sb (sz - 1) = true) (h1s : 1 ≤ sp) : fw_C l D vwCl (tyL ta) B yX5_takeLatest cX5_takeLatest 1 (some (.object "CoinDesk$Coin")) ({ frames := 2, cells := 0, slots := 0, locals := 41 } : Room) [.ref (h0)] n w (fun r w1 n1 => r = some (.ref (a)) ∧ w1 = fw_up (w) (h0) (.inr (5, [.ref (jc), .ref (js), .ref (jl), .int (iI (((sz - 1 : Nat) : Int))), .int (iI (((rc : Nat) : Int))), .int (iI (((sp - 1 : Nat) : Int)))])) ∧ n1 = n) := by
  refine fw_enter (by decide) (Nat.le_of_ble_eq_true rfl) ?_
  intro p e s m below meth c hx hb hr hml hown hlocks hin hG hts hK H locs hP hS ls hl
  have hown : s.vm.findClass RX5 = some m.cls := hown
  replace hl : lv_has ls 1 [(0, .ref (h0))] := hl
  have lt_e0 := hP.lt e0
  have lt_e1 := hP.lt e1
  have lt_e2 := hP.lt e2
  have n_e0_e1 : (h0 : Nat) ≠ jc := (fw_nio e1 e0).symm
  have n_e0_e2 : (h0 : Nat) ≠ js := (fw_nio e2 e0).symm
  have n_e1_e2 : (jc : Nat) ≠ js := (fw_niq e2 e1).symm
  refine lv_aload_n hx hb dX5_takeLatest_0 rfl (lv_at hl 0 rfl) ?_
  refine lv_aload_n hx hb dX5_takeLatest_1 rfl (lv_at hl 0 rfl) ?_
  refine fw_get (ci := 5) (fs := [.ref (jc), .ref (js), .ref (jl), .int (iI (((sz : Nat) : Int))), .int (iI (((rc : Nat) : Int))), .int (iI (((sp : Nat) : Int)))]) (k := 3) (v := .int (iI (((sz : Nat) : Int)))) (C := RX5) (T := TX5) (N := 6) hx hb hts inFX5 hown hK hP e0 rfl (by decide) mFX5_42 rfl dX5_takeLatest_2 ?_
  refine lv_iconst (v := (iI (((1 : Nat) : Int)))) hx hb dX5_takeLatest_5 rfl ?_
  refine fn_isub (x := ((sz : Nat) : Int)) (y := ((1 : Nat) : Int)) hx hb dX5_takeLatest_6 ?_
  refine fw_callV (ci := 5) (fs := [.ref (jc), .ref (js), .ref (jl), .int (iI (((sz : Nat) : Int))), .int (iI (((rc : Nat) : Int))), .int (iI (((sp : Nat) : Int)))]) (T := TX5) (N := 6) (b := h0) (As := [.int (iI ((((sz : Nat) : Int) - ((1 : Nat) : Int))))]) (rest := []) hx hb hml hown hts hK hG hP hS hl mM_X5_hasRoomAt mV_X5_hasRoomAt mLX5_45 (cm_Jrn_hasRoomAt l D ta B (n) (w) (h0) (jc) (js) (jl) (sz) (rc) (sp) (N) (cf) (sb) (((sz : Nat) : Int) - ((1 : Nat) : Int)) e0 e1 e2 (by omega) ⟨by omega, by omega⟩) e0 rfl rfl rfl (Nat.le_of_ble_eq_true rfl) ⟨Nat.le_of_ble_eq_true rfl, Nat.le_of_ble_eq_true rfl⟩ ⟨Nat.le_of_ble_eq_true rfl, Nat.le_of_ble_eq_true rfl⟩ dX5_takeLatest_7 (fun r w1 n1 H locs hq hP hS => ?_)
  obtain ⟨rfl, hw1, hn1⟩ := hq
  replace hw1 := hw1.symm; replace hn1 := hn1.symm; subst hw1; subst hn1
  refine W.eq (g2 := F0 m 10 ls [.int (bI (decide (0 ≤ (((sz : Nat) : Int) - ((1 : Nat) : Int)) ∧ (((sz : Nat) : Int) - ((1 : Nat) : Int)) < ((N : Nat) : Int))))]) rfl ?_
  refine fn_bif_ne (x := decide (0 ≤ (((sz : Nat) : Int) - ((1 : Nat) : Int)) ∧ (((sz : Nat) : Int) - ((1 : Nat) : Int)) < ((N : Nat) : Int))) (tgt := 15) hx hb dX5_takeLatest_10 (by decide) (fun c2 => ?_) (fun c2 => False.elim (by have q := of_decide_eq_false c2; omega))
  refine lv_aload_n hx hb dX5_takeLatest_15 rfl (lv_at hl 0 rfl) ?_
  refine fw_callV (ci := 5) (fs := [.ref (jc), .ref (js), .ref (jl), .int (iI (((sz : Nat) : Int))), .int (iI (((rc : Nat) : Int))), .int (iI (((sp : Nat) : Int)))]) (T := TX5) (N := 6) (b := h0) (As := []) (rest := []) hx hb hml hown hts hK hG hP hS hl mM_X5_latestIsSpending mV_X5_latestIsSpending mLX5_48 (cm_Jrn_latestIsSpending l D ta B (n) (w) (h0) (jc) (js) (jl) (sz) (rc) (sp) (N) (cf) (sb) e0 e1 e2 (by omega) (by omega) (by omega)) e0 rfl rfl rfl (Nat.le_of_ble_eq_true rfl) ⟨Nat.le_of_ble_eq_true rfl, Nat.le_of_ble_eq_true rfl⟩ ⟨Nat.le_of_ble_eq_true rfl, Nat.le_of_ble_eq_true rfl⟩ dX5_takeLatest_16 (fun r w3 n1 H locs hq hP hS => ?_)
  obtain ⟨rfl, hw1, hn1⟩ := hq
  replace hw1 := hw1.symm; replace hn1 := hn1.symm; subst hw1; subst hn1
  refine W.eq (g2 := F0 m 19 ls [.int (bI (sb (sz - 1)))]) rfl ?_
  refine fn_bif_eq (x := sb (sz - 1)) (tgt := 32) hx hb dX5_takeLatest_19 (by decide) (fun c4 => False.elim (by rw [hsb] at c4; cases c4)) (fun c4 => ?_)
  refine lv_aload_n hx hb dX5_takeLatest_22 rfl (lv_at hl 0 rfl) ?_
  refine lv_dup hx hb dX5_takeLatest_23 rfl ?_
  refine fw_get (ci := 5) (fs := [.ref (jc), .ref (js), .ref (jl), .int (iI (((sz : Nat) : Int))), .int (iI (((rc : Nat) : Int))), .int (iI (((sp : Nat) : Int)))]) (k := 5) (v := .int (iI (((sp : Nat) : Int)))) (C := RX5) (T := TX5) (N := 6) hx hb hts inFX5 hown hK hP e0 rfl (by decide) mFX5_35 rfl dX5_takeLatest_24 ?_
  refine lv_iconst (v := (iI (((1 : Nat) : Int)))) hx hb dX5_takeLatest_27 rfl ?_
  refine fn_isub (x := ((sp : Nat) : Int)) (y := ((1 : Nat) : Int)) hx hb dX5_takeLatest_28 ?_
  refine fn_topz (y := ((sp - 1 : Nat) : Int)) (by omega) ?_
  refine fw_put (ci := 5) (fs := [.ref (jc), .ref (js), .ref (jl), .int (iI (((sz : Nat) : Int))), .int (iI (((rc : Nat) : Int))), .int (iI (((sp : Nat) : Int)))]) (k := 5) (v := .int (iI (((sp - 1 : Nat) : Int)))) (C := RX5) (T := TX5) (N := 6) hx hb hts inFX5 tyX5 tyX5_ok nmX5 hown hK hP hS e0 rfl (by decide) mFX5_35 rfl rfl rfl rfl (Nat.le_of_ble_eq_true rfl) dX5_takeLatest_29 (fun H locs hP hS => ?_)
  have hP : fw_P D vwCl B (n) (fw_up (w) (h0) (.inr (5, [.ref (jc), .ref (js), .ref (jl), .int (iI (((sz : Nat) : Int))), .int (iI (((rc : Nat) : Int))), .int (iI (((sp - 1 : Nat) : Int)))]))) H := hP
  refine lv_aload_n hx hb dX5_takeLatest_32 rfl (lv_at hl 0 rfl) ?_
  refine lv_dup hx hb dX5_takeLatest_33 rfl ?_
  refine fw_get (ci := 5) (fs := [.ref (jc), .ref (js), .ref (jl), .int (iI (((sz : Nat) : Int))), .int (iI (((rc : Nat) : Int))), .int (iI (((sp - 1 : Nat) : Int)))]) (k := 3) (v := .int (iI (((sz : Nat) : Int)))) (C := RX5) (T := TX5) (N := 6) hx hb hts inFX5 hown hK hP (fw_same _ _ _) rfl (by decide) mFX5_42 rfl dX5_takeLatest_34 ?_
  refine lv_iconst (v := (iI (((1 : Nat) : Int)))) hx hb dX5_takeLatest_37 rfl ?_
  refine fn_isub (x := ((sz : Nat) : Int)) (y := ((1 : Nat) : Int)) hx hb dX5_takeLatest_38 ?_
  refine fn_topz (y := ((sz - 1 : Nat) : Int)) (by omega) ?_
  refine fw_put (ci := 5) (fs := [.ref (jc), .ref (js), .ref (jl), .int (iI (((sz : Nat) : Int))), .int (iI (((rc : Nat) : Int))), .int (iI (((sp - 1 : Nat) : Int)))]) (k := 3) (v := .int (iI (((sz - 1 : Nat) : Int)))) (C := RX5) (T := TX5) (N := 6) hx hb hts inFX5 tyX5 tyX5_ok nmX5 hown hK hP hS (fw_same _ _ _) rfl (by decide) mFX5_42 rfl rfl rfl rfl (Nat.le_of_ble_eq_true rfl) dX5_takeLatest_39 (fun H locs hP hS => ?_)
  have hP : fw_P D vwCl B (n) (fw_up (w) (h0) (.inr (5, [.ref (jc), .ref (js), .ref (jl), .int (iI (((sz - 1 : Nat) : Int))), .int (iI (((rc : Nat) : Int))), .int (iI (((sp - 1 : Nat) : Int)))]))) H := fw_P.eqw (fw_twice _ _ _ _) hP
  refine lv_aload_n hx hb dX5_takeLatest_42 rfl (lv_at hl 0 rfl) ?_
  refine fw_get (ci := 5) (fs := [.ref (jc), .ref (js), .ref (jl), .int (iI (((sz - 1 : Nat) : Int))), .int (iI (((rc : Nat) : Int))), .int (iI (((sp - 1 : Nat) : Int)))]) (k := 0) (v := .ref (jc)) (C := RX5) (T := TX5) (N := 6) hx hb hts inFX5 hown hK hP (fw_same _ _ _) rfl (by decide) mFX5_23 rfl dX5_takeLatest_43 ?_
  refine lv_aload_n hx hb dX5_takeLatest_46 rfl (lv_at hl 0 rfl) ?_
  refine fw_get (ci := 5) (fs := [.ref (jc), .ref (js), .ref (jl), .int (iI (((sz - 1 : Nat) : Int))), .int (iI (((rc : Nat) : Int))), .int (iI (((sp - 1 : Nat) : Int)))]) (k := 3) (v := .int (iI (((sz - 1 : Nat) : Int)))) (C := RX5) (T := TX5) (N := 6) hx hb hts inFX5 hown hK hP (fw_same _ _ _) rfl (by decide) mFX5_42 rfl dX5_takeLatest_47 ?_
  refine fn_aald (k := sz - 1) hx hb hK hP 3 (fw_at n_e0_e1.symm e1) rfl (by omega) (by omega) dX5_takeLatest_50 ?_
  refine fn_topq (x := a) hca ?_
  exact fw_aret hx hb hr hlocks hP hS dX5_takeLatest_51 (Or.inr ⟨_, rfl⟩) (Nat.le_of_ble_eq_true rfl) (Nat.le_of_ble_eq_true rfl) ⟨rfl, rfl, rfl⟩
set_option maxHeartbeats 4000000 in
set_option maxRecDepth 100000 in
theorem cm_Jrn_dropLatest (l : Launch) (D : va_G) (ta : Nat → ClassId) (B n : Nat) (w : fw_W) (h0 : Nat) (jc : Nat) (js : Nat) (jl : Nat) (sz : Nat) (rc : Nat) (sp : Nat) (e0 : w (h0) = some (.inr (5, [.ref (jc), .ref (js), .ref (jl), .int (iI (((sz : Nat) : Int))), .int (iI (((rc : Nat) : Int))), .int (iI (((sp : Nat) : Int)))]))) (h1r : 1 ≤ rc) (hrc : rc ≤ 64) : fw_C l D vwCl (tyL ta) B yX5_dropLatestRecord cX5_dropLatestRecord 1 none ({ frames := 0, cells := 0, slots := 0, locals := 0 } : Room) [.ref (h0)] n w (fun r w1 n1 => r = none ∧ w1 = fw_up (w) (h0) (.inr (5, [.ref (jc), .ref (js), .ref (jl), .int (iI (((sz : Nat) : Int))), .int (iI (((rc - 1 : Nat) : Int))), .int (iI (((sp : Nat) : Int)))])) ∧ n1 = n) := by
  refine fw_enter (by decide) (Nat.le_of_ble_eq_true rfl) ?_
  intro p e s m below meth c hx hb hr hml hown hlocks hin hG hts hK H locs hP hS ls hl
  have hown : s.vm.findClass RX5 = some m.cls := hown
  replace hl : lv_has ls 1 [(0, .ref (h0))] := hl
  have lt_e0 := hP.lt e0
  refine lv_aload_n hx hb dX5_dropLatestRecord_0 rfl (lv_at hl 0 rfl) ?_
  refine fw_get (ci := 5) (fs := [.ref (jc), .ref (js), .ref (jl), .int (iI (((sz : Nat) : Int))), .int (iI (((rc : Nat) : Int))), .int (iI (((sp : Nat) : Int)))]) (k := 4) (v := .int (iI (((rc : Nat) : Int)))) (C := RX5) (T := TX5) (N := 6) hx hb hts inFX5 hown hK hP e0 rfl (by decide) mFX5_31 rfl dX5_dropLatestRecord_1 ?_
  refine fn_if_le (x := ((rc : Nat) : Int)) (tgt := 17) hx hb dX5_dropLatestRecord_4 (by decide) ⟨by omega, by omega⟩ (fun c1 => False.elim (by omega)) (fun c1 => ?_)
  refine lv_aload_n hx hb dX5_dropLatestRecord_7 rfl (lv_at hl 0 rfl) ?_
  refine lv_dup hx hb dX5_dropLatestRecord_8 rfl ?_
  refine fw_get (ci := 5) (fs := [.ref (jc), .ref (js), .ref (jl), .int (iI (((sz : Nat) : Int))), .int (iI (((rc : Nat) : Int))), .int (iI (((sp : Nat) : Int)))]) (k := 4) (v := .int (iI (((rc : Nat) : Int)))) (C := RX5) (T := TX5) (N := 6) hx hb hts inFX5 hown hK hP e0 rfl (by decide) mFX5_31 rfl dX5_dropLatestRecord_9 ?_
  refine lv_iconst (v := (iI (((1 : Nat) : Int)))) hx hb dX5_dropLatestRecord_12 rfl ?_
  refine fn_isub (x := ((rc : Nat) : Int)) (y := ((1 : Nat) : Int)) hx hb dX5_dropLatestRecord_13 ?_
  refine fn_topz (y := ((rc - 1 : Nat) : Int)) (by omega) ?_
  refine fw_put (ci := 5) (fs := [.ref (jc), .ref (js), .ref (jl), .int (iI (((sz : Nat) : Int))), .int (iI (((rc : Nat) : Int))), .int (iI (((sp : Nat) : Int)))]) (k := 4) (v := .int (iI (((rc - 1 : Nat) : Int)))) (C := RX5) (T := TX5) (N := 6) hx hb hts inFX5 tyX5 tyX5_ok nmX5 hown hK hP hS e0 rfl (by decide) mFX5_31 rfl rfl rfl rfl (Nat.le_of_ble_eq_true rfl) dX5_dropLatestRecord_14 (fun H locs hP hS => ?_)
  have hP : fw_P D vwCl B (n) (fw_up (w) (h0) (.inr (5, [.ref (jc), .ref (js), .ref (jl), .int (iI (((sz : Nat) : Int))), .int (iI (((rc - 1 : Nat) : Int))), .int (iI (((sp : Nat) : Int)))]))) H := hP
  exact fw_vret hx hb hr hlocks hP hS dX5_dropLatestRecord_17 (Nat.le_of_ble_eq_true rfl) (Nat.le_of_ble_eq_true rfl) ⟨rfl, rfl, rfl⟩
