set_option maxHeartbeats 4000000 in
set_option maxRecDepth 100000 in
theorem cm_Pile_init (l : Launch) (D : va_G) (ta : Nat → ClassId) (B n : Nat) (w : fw_W) (h0 : Nat) (N : Nat) (e0 : w (h0) = some (.inr (4, [.null, .int (iI (((0 : Nat) : Int)))]))) (hN : N < 100000) : fw_C l D vwCl (tyL ta) B yX4_init cX4_init 2 none ({ frames := 1, cells := 1, slots := N, locals := 21 } : Room) [.ref (h0), .int (iI (((N : Nat) : Int)))] n w (fun r w1 n1 => r = none ∧ w1 = fw_up (fw_up (w) (n) (.inl (ta 3, N, .inr (.inr (.inr (.inr (fun _ => (none : Option Nat)))))))) (h0) (.inr (4, [.ref (n), .int (iI (((0 : Nat) : Int)))])) ∧ n1 = n + 1) := by
  refine fw_enter (by decide) (Nat.le_of_ble_eq_true rfl) ?_
  intro p e s m below meth c hx hb hr hml hown hlocks hin hG hts hK H locs hP hS ls hl
  have hown : s.vm.findClass RX4 = some m.cls := hown
  replace hl : lv_has ls 2 [(0, .ref (h0)), (1, .int (iI (((N : Nat) : Int))))] := hl
  have lt_e0 := hP.lt e0
  refine lv_aload_n hx hb dX4_init_0 rfl (lv_at hl 0 rfl) ?_
  refine W.objInit hx hb hown (hts _ mLX4_3) (hts _ mI_obj) (hts _ mC_obj) rfl (by rw [hml]; exact hl.1) rfl dX4_init_1 (Nat.le_of_ble_eq_true rfl) (Nat.le_of_ble_eq_true rfl) ?_
  refine W.eq (g2 := F0 m 4 ls []) rfl ?_
  refine lv_aload_n hx hb dX4_init_4 rfl (lv_at hl 0 rfl) ?_
  refine lv_iload_n hx hb dX4_init_5 rfl (lv_at hl 1 rfl) ?_
  refine lv_iconst (v := (iI (((0 : Nat) : Int)))) hx hb dX4_init_6 rfl ?_
  refine va_mmax hx hb (by rw [hml]; exact hl.1.symm) hown (hts _ mLX4_9) (hts _ mS_max) (hts _ mZ_math) (hts _ mC_max) (Nat.le_of_ble_eq_true rfl) (Nat.le_of_ble_eq_true rfl) (Nat.le_of_ble_eq_true rfl) (Nat.zero_le _) dX4_init_7 ?_
  refine fn_topi (y := (iI (((N : Nat) : Int)))) (iI_max0 (by omega)) ?_
  refine fw_newq (N := N) hx hb hts hown mKX4_15 mOX3 hK hP hS 3 rfl (iI_nneg (by omega)) (iI_clamp (by omega)) (by omega) (Nat.le_of_ble_eq_true rfl) (by show 0 + N ≤ N; omega) dX4_init_10 (fun H hP hS => ?_)
  have hP : fw_P D vwCl B (n + 1) (fw_up (w) (n) (.inl (ta 3, N, .inr (.inr (.inr (.inr (fun _ => (none : Option Nat)))))))) H := hP
  refine fw_putF (ci := 4) (fs := [.null, .int (iI (((0 : Nat) : Int)))]) (k := 0) (v := .ref (n)) (C := RX4) (T := TX4) (N := 2) hx hb hts inFX4 tyX4 tyX4_ok nmX4 hown hin hK hP hS (fw_at (by omega) e0) rfl (by decide) mFX4_17 rfl rfl rfl rfl rfl (Nat.le_of_ble_eq_true rfl) dX4_init_13 (fun H locs hP hS => ?_)
  have hP : fw_P D vwCl B (n + 1) (fw_up (fw_up (w) (n) (.inl (ta 3, N, .inr (.inr (.inr (.inr (fun _ => (none : Option Nat)))))))) (h0) (.inr (4, [.ref (n), .int (iI (((0 : Nat) : Int)))]))) H := hP
  exact fw_vret hx hb hr hlocks hP hS dX4_init_16 (Nat.le_of_ble_eq_true rfl) (by show 0 + N ≤ N; omega) ⟨rfl, rfl, rfl⟩
set_option maxHeartbeats 4000000 in
set_option maxRecDepth 100000 in
theorem cm_Pile_size (l : Launch) (D : va_G) (ta : Nat → ClassId) (B n : Nat) (w : fw_W) (h0 : Nat) (h1 : Nat) (sz : Nat) (e0 : w (h0) = some (.inr (4, [.ref (h1), .int (iI (((sz : Nat) : Int)))])))  : fw_C l D vwCl (tyL ta) B yX4_size cX4_size 1 (some .int) ({ frames := 0, cells := 0, slots := 0, locals := 0 } : Room) [.ref (h0)] n w (fun r w1 n1 => r = some (.int (iI (((sz : Nat) : Int)))) ∧ w1 = w ∧ n1 = n) := by
  refine fw_enter (by decide) (Nat.le_of_ble_eq_true rfl) ?_
  intro p e s m below meth c hx hb hr hml hown hlocks hin hG hts hK H locs hP hS ls hl
  have hown : s.vm.findClass RX4 = some m.cls := hown
  replace hl : lv_has ls 1 [(0, .ref (h0))] := hl
  have lt_e0 := hP.lt e0
  refine lv_aload_n hx hb dX4_size_0 rfl (lv_at hl 0 rfl) ?_
  refine fw_get (ci := 4) (fs := [.ref (h1), .int (iI (((sz : Nat) : Int)))]) (k := 1) (v := .int (iI (((sz : Nat) : Int)))) (C := RX4) (T := TX4) (N := 2) hx hb hts inFX4 hown hK hP e0 rfl (by decide) mFX4_23 rfl dX4_size_1 ?_
  exact fw_iret hx hb hr hlocks hP hS dX4_size_4 (Nat.le_of_ble_eq_true rfl) (Nat.le_of_ble_eq_true rfl) ⟨rfl, rfl, rfl⟩
set_option maxHeartbeats 4000000 in
set_option maxRecDepth 100000 in
theorem cm_Pile_isFull (l : Launch) (D : va_G) (ta : Nat → ClassId) (B n : Nat) (w : fw_W) (h0 : Nat) (h1 : Nat) (sz : Nat) (N : Nat) (cf : Nat → Option Nat) (e0 : w (h0) = some (.inr (4, [.ref (h1), .int (iI (((sz : Nat) : Int)))]))) (e1 : w (h1) = some (.inl (ta 3, N, .inr (.inr (.inr (.inr (cf))))))) (hN : N < 2147483648) (hsz : sz ≤ N) : fw_C l D vwCl (tyL ta) B yX4_isFull cX4_isFull 1 (some .boolean) ({ frames := 0, cells := 0, slots := 0, locals := 0 } : Room) [.ref (h0)] n w (fun r w1 n1 => r = some (.int (bI (decide (N ≤ sz)))) ∧ w1 = w ∧ n1 = n) := by
  refine fw_enter (by decide) (Nat.le_of_ble_eq_true rfl) ?_
  intro p e s m below meth c hx hb hr hml hown hlocks hin hG hts hK H locs hP hS ls hl
  have hown : s.vm.findClass RX4 = some m.cls := hown
  replace hl : lv_has ls 1 [(0, .ref (h0))] := hl
  have lt_e0 := hP.lt e0
  have lt_e1 := hP.lt e1
  have n_e0_e1 : (h0 : Nat) ≠ h1 := (fw_nio e1 e0).symm
  refine lv_aload_n hx hb dX4_isFull_0 rfl (lv_at hl 0 rfl) ?_
  refine fw_get (ci := 4) (fs := [.ref (h1), .int (iI (((sz : Nat) : Int)))]) (k := 1) (v := .int (iI (((sz : Nat) : Int)))) (C := RX4) (T := TX4) (N := 2) hx hb hts inFX4 hown hK hP e0 rfl (by decide) mFX4_23 rfl dX4_isFull_1 ?_
  refine lv_aload_n hx hb dX4_isFull_4 rfl (lv_at hl 0 rfl) ?_
  refine fw_get (ci := 4) (fs := [.ref (h1), .int (iI (((sz : Nat) : Int)))]) (k := 0) (v := .ref (h1)) (C := RX4) (T := TX4) (N := 2) hx hb hts inFX4 hown hK hP e0 rfl (by decide) mFX4_17 rfl dX4_isFull_5 ?_
  refine fn_alen hx hb hK hP 3 e1 rfl dX4_isFull_8 ?_
  refine fn_icmp_lt (x := ((sz : Nat) : Int)) (y := ((N : Nat) : Int)) (tgt := 16) hx hb dX4_isFull_9 (by decide) ⟨by omega, by omega⟩ ⟨by omega, by omega⟩ (fun c1 => ?_) (fun c1 => ?_)
  · refine lv_iconst (v := (iI (((0 : Nat) : Int)))) hx hb dX4_isFull_16 rfl ?_
    exact fw_zret hx hb hr hlocks hP hS dX4_isFull_17 (Or.inl rfl) (Nat.le_of_ble_eq_true rfl) (Nat.le_of_ble_eq_true rfl) ⟨bI_F (by omega), rfl, rfl⟩
  · refine lv_iconst (v := (iI (((1 : Nat) : Int)))) hx hb dX4_isFull_12 rfl ?_
    refine lv_goto (tgt := 17) hx hb dX4_isFull_13 (by decide) ?_
    exact fw_zret hx hb hr hlocks hP hS dX4_isFull_17 (Or.inr rfl) (Nat.le_of_ble_eq_true rfl) (Nat.le_of_ble_eq_true rfl) ⟨bI_T (by omega), rfl, rfl⟩
set_option maxHeartbeats 4000000 in
set_option maxRecDepth 100000 in
theorem cm_Pile_add (l : Launch) (D : va_G) (ta : Nat → ClassId) (B n : Nat) (w : fw_W) (h0 : Nat) (h1 : Nat) (sz : Nat) (N : Nat) (cf : Nat → Option Nat) (a : Nat) (ka : Nat) (sa : Nat) (v : Int64) (ht : Int32) (fi : Bool) (e0 : w (h0) = some (.inr (4, [.ref (h1), .int (iI (((sz : Nat) : Int)))]))) (e1 : w (h1) = some (.inl (ta 3, N, .inr (.inr (.inr (.inr (cf))))))) (e2 : w (a) = some (.inr (3, [.ref (ka), .ref (sa), .long (v), .int (ht), .int (bI (fi))]))) (hN : N < 2147483648) (hlt : sz < N) : fw_C l D vwCl (tyL ta) B yX4_add cX4_add 2 none ({ frames := 0, cells := 0, slots := 0, locals := 0 } : Room) [.ref (h0), .ref (a)] n w (fun r w1 n1 => r = none ∧ w1 = fw_up (fw_up (w) (h1) (.inl (ta 3, N, .inr (.inr (.inr (.inr (va_up (cf) (sz) (some (a))))))))) (h0) (.inr (4, [.ref (h1), .int (iI (((sz + 1 : Nat) : Int)))])) ∧ n1 = n) := by
  refine fw_enter (by decide) (Nat.le_of_ble_eq_true rfl) ?_
  intro p e s m below meth c hx hb hr hml hown hlocks hin hG hts hK H locs hP hS ls hl
  have hown : s.vm.findClass RX4 = some m.cls := hown
  replace hl : lv_has ls 2 [(0, .ref (h0)), (1, .ref (a))] := hl
  have lt_e0 := hP.lt e0
  have lt_e1 := hP.lt e1
  have lt_e2 := hP.lt e2
  have n_e0_e1 : (h0 : Nat) ≠ h1 := (fw_nio e1 e0).symm
  have n_e0_e2 : (h0 : Nat) ≠ a := fw_noo e0 e2 (by decide)
  have n_e1_e2 : (h1 : Nat) ≠ a := fw_nio e1 e2
  refine lv_aload_n hx hb dX4_add_0 rfl (lv_at hl 0 rfl) ?_
  refine fw_get (ci := 4) (fs := [.ref (h1), .int (iI (((sz : Nat) : Int)))]) (k := 1) (v := .int (iI (((sz : Nat) : Int)))) (C := RX4) (T := TX4) (N := 2) hx hb hts inFX4 hown hK hP e0 rfl (by decide) mFX4_23 rfl dX4_add_1 ?_
  refine fn_if_lt (x := ((sz : Nat) : Int)) (tgt := 39) hx hb dX4_add_4 (by decide) ⟨by omega, by omega⟩ (fun c1 => False.elim (by omega)) (fun c1 => ?_)
  refine lv_aload_n hx hb dX4_add_7 rfl (lv_at hl 0 rfl) ?_
  refine fw_get (ci := 4) (fs := [.ref (h1), .int (iI (((sz : Nat) : Int)))]) (k := 1) (v := .int (iI (((sz : Nat) : Int)))) (C := RX4) (T := TX4) (N := 2) hx hb hts inFX4 hown hK hP e0 rfl (by decide) mFX4_23 rfl dX4_add_8 ?_
  refine lv_aload_n hx hb dX4_add_11 rfl (lv_at hl 0 rfl) ?_
  refine fw_get (ci := 4) (fs := [.ref (h1), .int (iI (((sz : Nat) : Int)))]) (k := 0) (v := .ref (h1)) (C := RX4) (T := TX4) (N := 2) hx hb hts inFX4 hown hK hP e0 rfl (by decide) mFX4_17 rfl dX4_add_12 ?_
  refine fn_alen hx hb hK hP 3 e1 rfl dX4_add_15 ?_
  refine fn_icmp_ge (x := ((sz : Nat) : Int)) (y := ((N : Nat) : Int)) (tgt := 39) hx hb dX4_add_16 (by decide) ⟨by omega, by omega⟩ ⟨by omega, by omega⟩ (fun c2 => False.elim (by omega)) (fun c2 => ?_)
  refine lv_aload_n hx hb dX4_add_19 rfl (lv_at hl 0 rfl) ?_
  refine fw_get (ci := 4) (fs := [.ref (h1), .int (iI (((sz : Nat) : Int)))]) (k := 0) (v := .ref (h1)) (C := RX4) (T := TX4) (N := 2) hx hb hts inFX4 hown hK hP e0 rfl (by decide) mFX4_17 rfl dX4_add_20 ?_
  refine lv_aload_n hx hb dX4_add_23 rfl (lv_at hl 0 rfl) ?_
  refine fw_get (ci := 4) (fs := [.ref (h1), .int (iI (((sz : Nat) : Int)))]) (k := 1) (v := .int (iI (((sz : Nat) : Int)))) (C := RX4) (T := TX4) (N := 2) hx hb hts inFX4 hown hK hP e0 rfl (by decide) mFX4_23 rfl dX4_add_24 ?_
  refine lv_aload_n hx hb dX4_add_27 rfl (lv_at hl 1 rfl) ?_
  refine fn_aast (k := sz) hx hb hK hP hS 3 3 e1 rfl e2 (show vwCl[3]? = some (RX3, TX3, 5) from rfl) (by omega) (by omega) dX4_add_28 (fun H locs hP hS => ?_)
  have hP : fw_P D vwCl B (n) (fw_up (w) (h1) (.inl (ta 3, N, .inr (.inr (.inr (.inr (va_up (cf) (sz) (some (a))))))))) H := hP
  refine lv_aload_n hx hb dX4_add_29 rfl (lv_at hl 0 rfl) ?_
  refine lv_dup hx hb dX4_add_30 rfl ?_
  refine fw_get (ci := 4) (fs := [.ref (h1), .int (iI (((sz : Nat) : Int)))]) (k := 1) (v := .int (iI (((sz : Nat) : Int)))) (C := RX4) (T := TX4) (N := 2) hx hb hts inFX4 hown hK hP (fw_at n_e0_e1 e0) rfl (by decide) mFX4_23 rfl dX4_add_31 ?_
  refine lv_iconst (v := (iI (((1 : Nat) : Int)))) hx hb dX4_add_34 rfl ?_
  refine fn_iadd (x := ((sz : Nat) : Int)) (y := ((1 : Nat) : Int)) hx hb dX4_add_35 ?_
  refine fn_topz (y := ((sz + 1 : Nat) : Int)) (by omega) ?_
  refine fw_put (ci := 4) (fs := [.ref (h1), .int (iI (((sz : Nat) : Int)))]) (k := 1) (v := .int (iI (((sz + 1 : Nat) : Int)))) (C := RX4) (T := TX4) (N := 2) hx hb hts inFX4 tyX4 tyX4_ok nmX4 hown hK hP hS (fw_at n_e0_e1 e0) rfl (by decide) mFX4_23 rfl rfl rfl rfl (Nat.le_of_ble_eq_true rfl) dX4_add_36 (fun H locs hP hS => ?_)
  have hP : fw_P D vwCl B (n) (fw_up (fw_up (w) (h1) (.inl (ta 3, N, .inr (.inr (.inr (.inr (va_up (cf) (sz) (some (a))))))))) (h0) (.inr (4, [.ref (h1), .int (iI (((sz + 1 : Nat) : Int)))]))) H := hP
  exact fw_vret hx hb hr hlocks hP hS dX4_add_39 (Nat.le_of_ble_eq_true rfl) (Nat.le_of_ble_eq_true rfl) ⟨rfl, rfl, rfl⟩
set_option maxHeartbeats 4000000 in
set_option maxRecDepth 100000 in
theorem cm_Pile_holds (l : Launch) (D : va_G) (ta : Nat → ClassId) (B n : Nat) (w : fw_W) (h0 : Nat) (h1 : Nat) (sz : Nat) (N : Nat) (cf : Nat → Option Nat) (z : Int) (e0 : w (h0) = some (.inr (4, [.ref (h1), .int (iI (((sz : Nat) : Int)))]))) (e1 : w (h1) = some (.inl (ta 3, N, .inr (.inr (.inr (.inr (cf))))))) (hN : N < 2147483648) (hsz : sz ≤ N) (hz : iK z) : fw_C l D vwCl (tyL ta) B yX4_holds cX4_holds 2 (some .boolean) ({ frames := 0, cells := 0, slots := 0, locals := 0 } : Room) [.ref (h0), .int (iI (z))] n w (fun r w1 n1 => r = some (.int (bI (decide (0 ≤ z ∧ z < ((sz : Nat) : Int))))) ∧ w1 = w ∧ n1 = n) := by
  refine fw_enter (by decide) (Nat.le_of_ble_eq_true rfl) ?_
  intro p e s m below meth c hx hb hr hml hown hlocks hin hG hts hK H locs hP hS ls hl
  have hown : s.vm.findClass RX4 = some m.cls := hown
  replace hl : lv_has ls 2 [(0, .ref (h0)), (1, .int (iI (z)))] := hl
  have lt_e0 := hP.lt e0
  have lt_e1 := hP.lt e1
  have n_e0_e1 : (h0 : Nat) ≠ h1 := (fw_nio e1 e0).symm
  obtain ⟨hz1, hz2⟩ := hz
  refine lv_iload_n hx hb dX4_holds_0 rfl (lv_at hl 1 rfl) ?_
  refine fn_if_lt (x := z) (tgt := 25) hx hb dX4_holds_1 (by decide) ⟨by omega, by omega⟩ (fun c1 => ?_) (fun c1 => ?_)
  · refine lv_iconst (v := (iI (((0 : Nat) : Int)))) hx hb dX4_holds_25 rfl ?_
    exact fw_zret hx hb hr hlocks hP hS dX4_holds_26 (Or.inl rfl) (Nat.le_of_ble_eq_true rfl) (Nat.le_of_ble_eq_true rfl) ⟨bI_F (by omega), rfl, rfl⟩
  · refine lv_iload_n hx hb dX4_holds_4 rfl (lv_at hl 1 rfl) ?_
    refine lv_aload_n hx hb dX4_holds_5 rfl (lv_at hl 0 rfl) ?_
    refine fw_get (ci := 4) (fs := [.ref (h1), .int (iI (((sz : Nat) : Int)))]) (k := 1) (v := .int (iI (((sz : Nat) : Int)))) (C := RX4) (T := TX4) (N := 2) hx hb hts inFX4 hown hK hP e0 rfl (by decide) mFX4_23 rfl dX4_holds_6 ?_
    refine fn_icmp_ge (x := z) (y := ((sz : Nat) : Int)) (tgt := 25) hx hb dX4_holds_9 (by decide) ⟨by omega, by omega⟩ ⟨by omega, by omega⟩ (fun c2 => ?_) (fun c2 => ?_)
    · refine lv_iconst (v := (iI (((0 : Nat) : Int)))) hx hb dX4_holds_25 rfl ?_
      exact fw_zret hx hb hr hlocks hP hS dX4_holds_26 (Or.inl rfl) (Nat.le_of_ble_eq_true rfl) (Nat.le_of_ble_eq_true rfl) ⟨bI_F (by omega), rfl, rfl⟩
    · refine lv_iload_n hx hb dX4_holds_12 rfl (lv_at hl 1 rfl) ?_
      refine lv_aload_n hx hb dX4_holds_13 rfl (lv_at hl 0 rfl) ?_
      refine fw_get (ci := 4) (fs := [.ref (h1), .int (iI (((sz : Nat) : Int)))]) (k := 0) (v := .ref (h1)) (C := RX4) (T := TX4) (N := 2) hx hb hts inFX4 hown hK hP e0 rfl (by decide) mFX4_17 rfl dX4_holds_14 ?_
      refine fn_alen hx hb hK hP 3 e1 rfl dX4_holds_17 ?_
      refine fn_icmp_ge (x := z) (y := ((N : Nat) : Int)) (tgt := 25) hx hb dX4_holds_18 (by decide) ⟨by omega, by omega⟩ ⟨by omega, by omega⟩ (fun c3 => ?_) (fun c3 => ?_)
      · refine lv_iconst (v := (iI (((0 : Nat) : Int)))) hx hb dX4_holds_25 rfl ?_
        exact fw_zret hx hb hr hlocks hP hS dX4_holds_26 (Or.inl rfl) (Nat.le_of_ble_eq_true rfl) (Nat.le_of_ble_eq_true rfl) ⟨bI_F (by omega), rfl, rfl⟩
      · refine lv_iconst (v := (iI (((1 : Nat) : Int)))) hx hb dX4_holds_21 rfl ?_
        refine lv_goto (tgt := 26) hx hb dX4_holds_22 (by decide) ?_
        exact fw_zret hx hb hr hlocks hP hS dX4_holds_26 (Or.inr rfl) (Nat.le_of_ble_eq_true rfl) (Nat.le_of_ble_eq_true rfl) ⟨bI_T (by omega), rfl, rfl⟩
set_option maxHeartbeats 4000000 in
set_option maxRecDepth 100000 in
theorem cm_Pile_placeOf_hit (l : Launch) (D : va_G) (ta : Nat → ClassId) (B n : Nat) (w : fw_W) (h0 : Nat) (h1 : Nat) (sz : Nat) (N : Nat) (cf : Nat → Option Nat) (h2 : Nat) (k2 : cKey) (ca : Nat → Nat) (cx : Nat → cCoin) (j : Nat) (e0 : w (h0) = some (.inr (4, [.ref (h1), .int (iI (((sz : Nat) : Int)))]))) (e1 : w (h1) = some (.inl (ta 3, N, .inr (.inr (.inr (.inr (cf))))))) (e2 : w (h2) = some (.inr (1, [.long (k2.1), .long (k2.2.1), .long (k2.2.2.1), .long (k2.2.2.2.1), .int (k2.2.2.2.2)]))) (hN : N < 2147483648) (hsz : sz ≤ N) (hc : ∀ j, j < sz → cf j = some (ca j) ∧ cn_at ta w (ca j) (cx j)) (hj : j < sz) (hkj : (cx j).1 = k2) (huq : ∀ i, i < sz → (cx i).1 = k2 → i = j) : fw_C l D vwCl (tyL ta) B yX4_placeOf cX4_placeOf 4 (some .int) ({ frames := 1, cells := 0, slots := 0, locals := 21 } : Room) [.ref (h0), .ref (h2)] n w (fun r w1 n1 => r = some (.int (iI (((j : Nat) : Int)))) ∧ w1 = w ∧ n1 = n) := by
  refine fw_enter (by decide) (Nat.le_of_ble_eq_true rfl) ?_
  intro p e s m below meth c hx hb hr hml hown hlocks hin hG hts hK H locs hP hS ls hl
  have hown : s.vm.findClass RX4 = some m.cls := hown
  replace hl : lv_has ls 4 [(0, .ref (h0)), (1, .ref (h2))] := hl
  have lt_e0 := hP.lt e0
  have lt_e1 := hP.lt e1
  have lt_e2 := hP.lt e2
  have n_e0_e1 : (h0 : Nat) ≠ h1 := (fw_nio e1 e0).symm
  have n_e0_e2 : (h0 : Nat) ≠ h2 := fw_noo e0 e2 (by decide)
  have n_e1_e2 : (h1 : Nat) ≠ h2 := fw_nio e1 e2
  refine lv_iconst (v := (iI (((0 : Nat) : Int)))) hx hb dX4_placeOf_0 rfl ?_
  refine lv_istore_n (lv' := [(2, .int (iI (((0 : Nat) : Int)))), (0, .ref (h0)), (1, .ref (h2))]) hx hb dX4_placeOf_1 rfl hl (by decide) rfl (fun ls hl => ?_)
  have lp1 : ∀ (i : Nat)  (H : Heap) (locs : List Loc) (ls : Array Slot), i ≤ j → lv_has ls 4 [(2, .int (iI (((i : Nat) : Int)))), (0, .ref (h0)), (1, .ref (h2))] → fw_P D vwCl B (n) (w) H → fw_S B s.heap H locs → fw_K p l e ({ frames := 1, cells := 0, slots := 0, locals := 21 } : Room) s m [.ref (h0), .ref (h2)] below meth c D vwCl B (fun r w1 n1 => r = some (.int (iI (((j : Nat) : Int)))) ∧ w1 = w ∧ n1 = n) H locs (0) (0) (F0 m 2 ls []) := by
    refine fw_loop (fun i : Nat => sz - i) ?_
    intro i ih2  H locs ls hi hl hP hS
    refine lv_iload_n hx hb dX4_placeOf_2 rfl (lv_at hl 0 rfl) ?_
    refine lv_aload_n hx hb dX4_placeOf_3 rfl (lv_at hl 1 rfl) ?_
    refine fw_get (ci := 4) (fs := [.ref (h1), .int (iI (((sz : Nat) : Int)))]) (k := 1) (v := .int (iI (((sz : Nat) : Int)))) (C := RX4) (T := TX4) (N := 2) hx hb hts inFX4 hown hK hP e0 rfl (by decide) mFX4_23 rfl dX4_placeOf_4 ?_
    refine fn_icmp_ge (x := ((i : Nat) : Int)) (y := ((sz : Nat) : Int)) (tgt := 49) hx hb dX4_placeOf_7 (by decide) ⟨by omega, by omega⟩ ⟨by omega, by omega⟩ (fun c2 => False.elim (by omega)) (fun c2 => ?_)
    refine lv_iload_n hx hb dX4_placeOf_10 rfl (lv_at hl 0 rfl) ?_
    refine lv_aload_n hx hb dX4_placeOf_11 rfl (lv_at hl 1 rfl) ?_
    refine fw_get (ci := 4) (fs := [.ref (h1), .int (iI (((sz : Nat) : Int)))]) (k := 0) (v := .ref (h1)) (C := RX4) (T := TX4) (N := 2) hx hb hts inFX4 hown hK hP e0 rfl (by decide) mFX4_17 rfl dX4_placeOf_12 ?_
    refine fn_alen hx hb hK hP 3 e1 rfl dX4_placeOf_15 ?_
    refine fn_icmp_ge (x := ((i : Nat) : Int)) (y := ((N : Nat) : Int)) (tgt := 49) hx hb dX4_placeOf_16 (by decide) ⟨by omega, by omega⟩ ⟨by omega, by omega⟩ (fun c3 => False.elim (by omega)) (fun c3 => ?_)
    refine lv_aload_n hx hb dX4_placeOf_19 rfl (lv_at hl 1 rfl) ?_
    refine fw_get (ci := 4) (fs := [.ref (h1), .int (iI (((sz : Nat) : Int)))]) (k := 0) (v := .ref (h1)) (C := RX4) (T := TX4) (N := 2) hx hb hts inFX4 hown hK hP e0 rfl (by decide) mFX4_17 rfl dX4_placeOf_20 ?_
    refine lv_iload_n hx hb dX4_placeOf_23 rfl (lv_at hl 0 rfl) ?_
    obtain ⟨hq0, hq1, hq2, hq3, hq4⟩ := hc i (by omega)
    have ne4 : (ca i : Nat) ≠ h0 := fw_noo hq1 e0 (by decide)
    have ne5 : (ca i : Nat) ≠ h1 := (fw_nio e1 hq1).symm
    have ne6 : (ca i : Nat) ≠ h2 := fw_noo hq1 e2 (by decide)
    have ne7 : (ca i + 1 : Nat) ≠ h0 := fw_noo hq2 e0 (by decide)
    have ne8 : (ca i + 1 : Nat) ≠ h1 := (fw_nio e1 hq2).symm
    have ne9 : (ca i + 1 : Nat) ≠ ca i := fw_noo hq2 hq1 (by decide)
    refine fn_aald (k := i) hx hb hK hP 3 e1 rfl (by omega) (by omega) dX4_placeOf_24 ?_
    refine fn_topq (x := ca i) hq0 ?_
    refine lv_astore_n (lv' := [(3, .ref (ca i)), (2, .int (iI (((i : Nat) : Int)))), (0, .ref (h0)), (1, .ref (h2))]) hx hb dX4_placeOf_25 rfl hl (by decide) rfl (fun ls hl => ?_)
    refine lv_aload_n hx hb dX4_placeOf_26 rfl (lv_at hl 0 rfl) ?_
    refine lv_ifnull hx hb dX4_placeOf_27 ?_
    refine lv_aload_n hx hb dX4_placeOf_30 rfl (lv_at hl 0 rfl) ?_
    refine fw_getN (ci := 3) (fs := [.ref (ca i + 1), .ref (ca i + 2), .long ((cx i).2.2.1), .int ((cx i).2.2.2.1), .int (bI ((cx i).2.2.2.2))]) (k := 0) (v := .ref (ca i + 1)) (C := RX3) (T := TX3) (N := 5) hx hb hts inFX3 hown hK hP hq1 rfl (by decide) mFX4_43 rfl dX4_placeOf_31 ?_
    refine lv_aload_n hx hb dX4_placeOf_34 rfl (lv_at hl 3 rfl) ?_
    refine fw_callV (ci := 1) (fs := [.long ((cx i).1.1), .long ((cx i).1.2.1), .long ((cx i).1.2.2.1), .long ((cx i).1.2.2.2.1), .int ((cx i).1.2.2.2.2)]) (T := TX1) (N := 5) (b := ca i + 1) (As := [.ref (h2)]) (rest := []) hx hb hml hown hts hK hG hP hS hl mM_X1_same mV_X1_same mLX4_47 (cm_Key_same l D ta B (n) (w) (ca i + 1) (h2) ((cx i).1) (k2) hq2 e2 ) hq2 rfl rfl rfl (Nat.le_of_ble_eq_true rfl) ⟨Nat.le_of_ble_eq_true rfl, Nat.le_of_ble_eq_true rfl⟩ ⟨Nat.le_of_ble_eq_true rfl, Nat.le_of_ble_eq_true rfl⟩ dX4_placeOf_35 (fun r w10 n1 H locs hq hP hS => ?_)
    obtain ⟨rfl, hw1, hn1⟩ := hq
    replace hw1 := hw1.symm; replace hn1 := hn1.symm; subst hw1; subst hn1
    refine W.eq (g2 := F0 m 38 ls [.int (bI (decide (((cx i).1) = k2)))]) rfl ?_
    refine fn_bif_eq (x := decide (((cx i).1) = k2)) (tgt := 43) hx hb dX4_placeOf_38 (by decide) (fun c11 => ?_) (fun c11 => ?_)
    · have c_miss := c11
      refine lv_iinc (k := 1) (v := (iI (((i + 1 : Nat) : Int)))) (lv' := [(2, .int (iI (((i + 1 : Nat) : Int)))), (3, .ref (ca i)), (0, .ref (h0)), (1, .ref (h2))]) hx hb dX4_placeOf_43 hl rfl (iI_inc _ 1) (by decide) rfl (fun ls hl => ?_)
      refine lv_goto (tgt := 2) hx hb dX4_placeOf_46 (by decide) ?_
      replace hl : lv_has ls 4 [(2, .int (iI (((i + 1 : Nat) : Int)))), (0, .ref (h0)), (1, .ref (h2))] := by
        refine ⟨hl.1, hl.2.1, fun q hq => hl.2.2 q ?_⟩
        simp only [List.mem_cons, List.not_mem_nil, or_false] at hq
        rcases hq with rfl | rfl | rfl
        · exact List.mem_of_getElem? (i := 0) rfl
        · exact List.mem_of_getElem? (i := 2) rfl
        · exact List.mem_of_getElem? (i := 3) rfl
      exact ih2 (i + 1) (by omega)  H locs ls (by have hne : i ≠ j := fun q => of_decide_eq_false c_miss (by rw [q]; exact hkj); omega) hl hP hS
    · have c_hit := c11
      refine lv_iload_n hx hb dX4_placeOf_41 rfl (lv_at hl 1 rfl) ?_
      exact fw_iret hx hb hr hlocks hP hS dX4_placeOf_42 (Nat.le_of_ble_eq_true rfl) (Nat.le_of_ble_eq_true rfl) (by
          obtain rfl : i = j := huq i (by omega) (of_decide_eq_true c_hit)
          exact ⟨rfl, rfl, rfl⟩)
  exact lp1 (0) H locs ls (by omega) hl hP hS
set_option maxHeartbeats 4000000 in
set_option maxRecDepth 100000 in
theorem cm_Pile_placeOf_miss (l : Launch) (D : va_G) (ta : Nat → ClassId) (B n : Nat) (w : fw_W) (h0 : Nat) (h1 : Nat) (sz : Nat) (N : Nat) (cf : Nat → Option Nat) (h2 : Nat) (k2 : cKey) (ca : Nat → Nat) (cx : Nat → cCoin) (e0 : w (h0) = some (.inr (4, [.ref (h1), .int (iI (((sz : Nat) : Int)))]))) (e1 : w (h1) = some (.inl (ta 3, N, .inr (.inr (.inr (.inr (cf))))))) (e2 : w (h2) = some (.inr (1, [.long (k2.1), .long (k2.2.1), .long (k2.2.2.1), .long (k2.2.2.2.1), .int (k2.2.2.2.2)]))) (hN : N < 2147483648) (hsz : sz ≤ N) (hc : ∀ j, j < sz → cf j = some (ca j) ∧ cn_at ta w (ca j) (cx j)) (hms : ∀ j, j < sz → (cx j).1 ≠ k2) : fw_C l D vwCl (tyL ta) B yX4_placeOf cX4_placeOf 4 (some .int) ({ frames := 1, cells := 0, slots := 0, locals := 21 } : Room) [.ref (h0), .ref (h2)] n w (fun r w1 n1 => r = some (.int (iI ((-1)))) ∧ w1 = w ∧ n1 = n) := by
  refine fw_enter (by decide) (Nat.le_of_ble_eq_true rfl) ?_
  intro p e s m below meth c hx hb hr hml hown hlocks hin hG hts hK H locs hP hS ls hl
  have hown : s.vm.findClass RX4 = some m.cls := hown
  replace hl : lv_has ls 4 [(0, .ref (h0)), (1, .ref (h2))] := hl
  have lt_e0 := hP.lt e0
  have lt_e1 := hP.lt e1
  have lt_e2 := hP.lt e2
  have n_e0_e1 : (h0 : Nat) ≠ h1 := (fw_nio e1 e0).symm
  have n_e0_e2 : (h0 : Nat) ≠ h2 := fw_noo e0 e2 (by decide)
  have n_e1_e2 : (h1 : Nat) ≠ h2 := fw_nio e1 e2
  refine lv_iconst (v := (iI (((0 : Nat) : Int)))) hx hb dX4_placeOf_0 rfl ?_
  refine lv_istore_n (lv' := [(2, .int (iI (((0 : Nat) : Int)))), (0, .ref (h0)), (1, .ref (h2))]) hx hb dX4_placeOf_1 rfl hl (by decide) rfl (fun ls hl => ?_)
  have lp1 : ∀ (i : Nat)  (H : Heap) (locs : List Loc) (ls : Array Slot), i ≤ sz → lv_has ls 4 [(2, .int (iI (((i : Nat) : Int)))), (0, .ref (h0)), (1, .ref (h2))] → fw_P D vwCl B (n) (w) H → fw_S B s.heap H locs → fw_K p l e ({ frames := 1, cells := 0, slots := 0, locals := 21 } : Room) s m [.ref (h0), .ref (h2)] below meth c D vwCl B (fun r w1 n1 => r = some (.int (iI ((-1)))) ∧ w1 = w ∧ n1 = n) H locs (0) (0) (F0 m 2 ls []) := by
    refine fw_loop (fun i : Nat => sz - i) ?_
    intro i ih2  H locs ls hi hl hP hS
    refine lv_iload_n hx hb dX4_placeOf_2 rfl (lv_at hl 0 rfl) ?_
    refine lv_aload_n hx hb dX4_placeOf_3 rfl (lv_at hl 1 rfl) ?_
    refine fw_get (ci := 4) (fs := [.ref (h1), .int (iI (((sz : Nat) : Int)))]) (k := 1) (v := .int (iI (((sz : Nat) : Int)))) (C := RX4) (T := TX4) (N := 2) hx hb hts inFX4 hown hK hP e0 rfl (by decide) mFX4_23 rfl dX4_placeOf_4 ?_
    refine fn_icmp_ge (x := ((i : Nat) : Int)) (y := ((sz : Nat) : Int)) (tgt := 49) hx hb dX4_placeOf_7 (by decide) ⟨by omega, by omega⟩ ⟨by omega, by omega⟩ (fun c2 => ?_) (fun c2 => ?_)
    · refine lv_iconst (v := (iI ((-1)))) hx hb dX4_placeOf_49 rfl ?_
      exact fw_iret hx hb hr hlocks hP hS dX4_placeOf_50 (Nat.le_of_ble_eq_true rfl) (Nat.le_of_ble_eq_true rfl) ⟨rfl, rfl, rfl⟩
    · refine lv_iload_n hx hb dX4_placeOf_10 rfl (lv_at hl 0 rfl) ?_
      refine lv_aload_n hx hb dX4_placeOf_11 rfl (lv_at hl 1 rfl) ?_
      refine fw_get (ci := 4) (fs := [.ref (h1), .int (iI (((sz : Nat) : Int)))]) (k := 0) (v := .ref (h1)) (C := RX4) (T := TX4) (N := 2) hx hb hts inFX4 hown hK hP e0 rfl (by decide) mFX4_17 rfl dX4_placeOf_12 ?_
      refine fn_alen hx hb hK hP 3 e1 rfl dX4_placeOf_15 ?_
      refine fn_icmp_ge (x := ((i : Nat) : Int)) (y := ((N : Nat) : Int)) (tgt := 49) hx hb dX4_placeOf_16 (by decide) ⟨by omega, by omega⟩ ⟨by omega, by omega⟩ (fun c3 => False.elim (by omega)) (fun c3 => ?_)
      refine lv_aload_n hx hb dX4_placeOf_19 rfl (lv_at hl 1 rfl) ?_
      refine fw_get (ci := 4) (fs := [.ref (h1), .int (iI (((sz : Nat) : Int)))]) (k := 0) (v := .ref (h1)) (C := RX4) (T := TX4) (N := 2) hx hb hts inFX4 hown hK hP e0 rfl (by decide) mFX4_17 rfl dX4_placeOf_20 ?_
      refine lv_iload_n hx hb dX4_placeOf_23 rfl (lv_at hl 0 rfl) ?_
      obtain ⟨hq0, hq1, hq2, hq3, hq4⟩ := hc i (by omega)
      have ne4 : (ca i : Nat) ≠ h0 := fw_noo hq1 e0 (by decide)
      have ne5 : (ca i : Nat) ≠ h1 := (fw_nio e1 hq1).symm
      have ne6 : (ca i : Nat) ≠ h2 := fw_noo hq1 e2 (by decide)
      have ne7 : (ca i + 1 : Nat) ≠ h0 := fw_noo hq2 e0 (by decide)
      have ne8 : (ca i + 1 : Nat) ≠ h1 := (fw_nio e1 hq2).symm
      have ne9 : (ca i + 1 : Nat) ≠ ca i := fw_noo hq2 hq1 (by decide)
      refine fn_aald (k := i) hx hb hK hP 3 e1 rfl (by omega) (by omega) dX4_placeOf_24 ?_
      refine fn_topq (x := ca i) hq0 ?_
      refine lv_astore_n (lv' := [(3, .ref (ca i)), (2, .int (iI (((i : Nat) : Int)))), (0, .ref (h0)), (1, .ref (h2))]) hx hb dX4_placeOf_25 rfl hl (by decide) rfl (fun ls hl => ?_)
      refine lv_aload_n hx hb dX4_placeOf_26 rfl (lv_at hl 0 rfl) ?_
      refine lv_ifnull hx hb dX4_placeOf_27 ?_
      refine lv_aload_n hx hb dX4_placeOf_30 rfl (lv_at hl 0 rfl) ?_
      refine fw_getN (ci := 3) (fs := [.ref (ca i + 1), .ref (ca i + 2), .long ((cx i).2.2.1), .int ((cx i).2.2.2.1), .int (bI ((cx i).2.2.2.2))]) (k := 0) (v := .ref (ca i + 1)) (C := RX3) (T := TX3) (N := 5) hx hb hts inFX3 hown hK hP hq1 rfl (by decide) mFX4_43 rfl dX4_placeOf_31 ?_
      refine lv_aload_n hx hb dX4_placeOf_34 rfl (lv_at hl 3 rfl) ?_
      refine fw_callV (ci := 1) (fs := [.long ((cx i).1.1), .long ((cx i).1.2.1), .long ((cx i).1.2.2.1), .long ((cx i).1.2.2.2.1), .int ((cx i).1.2.2.2.2)]) (T := TX1) (N := 5) (b := ca i + 1) (As := [.ref (h2)]) (rest := []) hx hb hml hown hts hK hG hP hS hl mM_X1_same mV_X1_same mLX4_47 (cm_Key_same l D ta B (n) (w) (ca i + 1) (h2) ((cx i).1) (k2) hq2 e2 ) hq2 rfl rfl rfl (Nat.le_of_ble_eq_true rfl) ⟨Nat.le_of_ble_eq_true rfl, Nat.le_of_ble_eq_true rfl⟩ ⟨Nat.le_of_ble_eq_true rfl, Nat.le_of_ble_eq_true rfl⟩ dX4_placeOf_35 (fun r w10 n1 H locs hq hP hS => ?_)
      obtain ⟨rfl, hw1, hn1⟩ := hq
      replace hw1 := hw1.symm; replace hn1 := hn1.symm; subst hw1; subst hn1
      refine W.eq (g2 := F0 m 38 ls [.int (bI (decide (((cx i).1) = k2)))]) rfl ?_
      refine fn_bif_eq (x := decide (((cx i).1) = k2)) (tgt := 43) hx hb dX4_placeOf_38 (by decide) (fun c11 => ?_) (fun c11 => False.elim (by exact hms i (by omega) (of_decide_eq_true c11)))
      refine lv_iinc (k := 1) (v := (iI (((i + 1 : Nat) : Int)))) (lv' := [(2, .int (iI (((i + 1 : Nat) : Int)))), (3, .ref (ca i)), (0, .ref (h0)), (1, .ref (h2))]) hx hb dX4_placeOf_43 hl rfl (iI_inc _ 1) (by decide) rfl (fun ls hl => ?_)
      refine lv_goto (tgt := 2) hx hb dX4_placeOf_46 (by decide) ?_
      replace hl : lv_has ls 4 [(2, .int (iI (((i + 1 : Nat) : Int)))), (0, .ref (h0)), (1, .ref (h2))] := by
        refine ⟨hl.1, hl.2.1, fun q hq => hl.2.2 q ?_⟩
        simp only [List.mem_cons, List.not_mem_nil, or_false] at hq
        rcases hq with rfl | rfl | rfl
        · exact List.mem_of_getElem? (i := 0) rfl
        · exact List.mem_of_getElem? (i := 2) rfl
        · exact List.mem_of_getElem? (i := 3) rfl
      exact ih2 (i + 1) (by omega)  H locs ls (by omega) hl hP hS
  exact lp1 (0) H locs ls (by omega) hl hP hS
set_option maxHeartbeats 4000000 in
set_option maxRecDepth 100000 in
theorem cm_Pile_find_hit (l : Launch) (D : va_G) (ta : Nat → ClassId) (B n : Nat) (w : fw_W) (h0 : Nat) (h1 : Nat) (sz : Nat) (N : Nat) (cf : Nat → Option Nat) (h2 : Nat) (k2 : cKey) (ca : Nat → Nat) (cx : Nat → cCoin) (j : Nat) (e0 : w (h0) = some (.inr (4, [.ref (h1), .int (iI (((sz : Nat) : Int)))]))) (e1 : w (h1) = some (.inl (ta 3, N, .inr (.inr (.inr (.inr (cf))))))) (e2 : w (h2) = some (.inr (1, [.long (k2.1), .long (k2.2.1), .long (k2.2.2.1), .long (k2.2.2.2.1), .int (k2.2.2.2.2)]))) (hN : N < 2147483648) (hsz : sz ≤ N) (hc : ∀ j, j < sz → cf j = some (ca j) ∧ cn_at ta w (ca j) (cx j)) (hj : j < sz) (hkj : (cx j).1 = k2) (huq : ∀ i, i < sz → (cx i).1 = k2 → i = j) : fw_C l D vwCl (tyL ta) B yX4_find cX4_find 3 (some (.object "CoinDesk$Coin")) ({ frames := 2, cells := 0, slots := 0, locals := 44 } : Room) [.ref (h0), .ref (h2)] n w (fun r w1 n1 => r = some (.ref (ca j)) ∧ w1 = w ∧ n1 = n) := by
  refine fw_enter (by decide) (Nat.le_of_ble_eq_true rfl) ?_
  intro p e s m below meth c hx hb hr hml hown hlocks hin hG hts hK H locs hP hS ls hl
  have hown : s.vm.findClass RX4 = some m.cls := hown
  replace hl : lv_has ls 3 [(0, .ref (h0)), (1, .ref (h2))] := hl
  have lt_e0 := hP.lt e0
  have lt_e1 := hP.lt e1
  have lt_e2 := hP.lt e2
  have n_e0_e1 : (h0 : Nat) ≠ h1 := (fw_nio e1 e0).symm
  have n_e0_e2 : (h0 : Nat) ≠ h2 := fw_noo e0 e2 (by decide)
  have n_e1_e2 : (h1 : Nat) ≠ h2 := fw_nio e1 e2
  refine lv_aload_n hx hb dX4_find_0 rfl (lv_at hl 0 rfl) ?_
  refine lv_aload_n hx hb dX4_find_1 rfl (lv_at hl 1 rfl) ?_
  refine fw_callV (ci := 4) (fs := [.ref (h1), .int (iI (((sz : Nat) : Int)))]) (T := TX4) (N := 2) (b := h0) (As := [.ref (h2)]) (rest := []) hx hb hml hown hts hK hG hP hS hl mM_X4_placeOf mV_X4_placeOf mLX4_27 (cm_Pile_placeOf_hit l D ta B (n) (w) (h0) (h1) (sz) (N) (cf) (h2) (k2) (ca) (cx) (j) e0 e1 e2 (by omega) (by omega) hc hj hkj huq) e0 rfl rfl rfl (Nat.le_of_ble_eq_true rfl) ⟨Nat.le_of_ble_eq_true rfl, Nat.le_of_ble_eq_true rfl⟩ ⟨Nat.le_of_ble_eq_true rfl, Nat.le_of_ble_eq_true rfl⟩ dX4_find_2 (fun r w1 n1 H locs hq hP hS => ?_)
  obtain ⟨rfl, hw1, hn1⟩ := hq
  replace hw1 := hw1.symm; replace hn1 := hn1.symm; subst hw1; subst hn1
  refine W.eq (g2 := F0 m 5 ls [.int (iI (((j : Nat) : Int)))]) rfl ?_
  refine lv_istore_n (lv' := [(2, .int (iI (((j : Nat) : Int)))), (0, .ref (h0)), (1, .ref (h2))]) hx hb dX4_find_5 rfl hl (by decide) rfl (fun ls hl => ?_)
  refine lv_aload_n hx hb dX4_find_6 rfl (lv_at hl 1 rfl) ?_
  refine lv_iload_n hx hb dX4_find_7 rfl (lv_at hl 0 rfl) ?_
  refine fw_callV (ci := 4) (fs := [.ref (h1), .int (iI (((sz : Nat) : Int)))]) (T := TX4) (N := 2) (b := h0) (As := [.int (iI (((j : Nat) : Int)))]) (rest := []) hx hb hml hown hts hK hG hP hS hl mM_X4_holds mV_X4_holds mLX4_31 (cm_Pile_holds l D ta B (n) (w) (h0) (h1) (sz) (N) (cf) (((j : Nat) : Int)) e0 e1 (by omega) (by omega) ⟨by omega, by omega⟩) e0 rfl rfl rfl (Nat.le_of_ble_eq_true rfl) ⟨Nat.le_of_ble_eq_true rfl, Nat.le_of_ble_eq_true rfl⟩ ⟨Nat.le_of_ble_eq_true rfl, Nat.le_of_ble_eq_true rfl⟩ dX4_find_8 (fun r w2 n1 H locs hq hP hS => ?_)
  obtain ⟨rfl, hw1, hn1⟩ := hq
  replace hw1 := hw1.symm; replace hn1 := hn1.symm; subst hw1; subst hn1
  refine W.eq (g2 := F0 m 11 ls [.int (bI (decide (0 ≤ ((j : Nat) : Int) ∧ ((j : Nat) : Int) < ((sz : Nat) : Int))))]) rfl ?_
  refine fn_bif_eq (x := decide (0 ≤ ((j : Nat) : Int) ∧ ((j : Nat) : Int) < ((sz : Nat) : Int))) (tgt := 23) hx hb dX4_find_11 (by decide) (fun c3 => False.elim (by have q := of_decide_eq_false c3; omega)) (fun c3 => ?_)
  refine lv_aload_n hx hb dX4_find_14 rfl (lv_at hl 1 rfl) ?_
  refine fw_get (ci := 4) (fs := [.ref (h1), .int (iI (((sz : Nat) : Int)))]) (k := 0) (v := .ref (h1)) (C := RX4) (T := TX4) (N := 2) hx hb hts inFX4 hown hK hP e0 rfl (by decide) mFX4_17 rfl dX4_find_15 ?_
  refine lv_iload_n hx hb dX4_find_18 rfl (lv_at hl 0 rfl) ?_
  refine fn_aald (k := j) hx hb hK hP 3 e1 rfl (by omega) (by omega) dX4_find_19 ?_
  refine fn_topq (x := ca j) (hc j hj).1 ?_
  refine lv_goto (tgt := 24) hx hb dX4_find_20 (by decide) ?_
  exact fw_aret hx hb hr hlocks hP hS dX4_find_24 (Or.inr ⟨_, rfl⟩) (Nat.le_of_ble_eq_true rfl) (Nat.le_of_ble_eq_true rfl) ⟨rfl, rfl, rfl⟩
set_option maxHeartbeats 4000000 in
set_option maxRecDepth 100000 in
theorem cm_Pile_find_miss (l : Launch) (D : va_G) (ta : Nat → ClassId) (B n : Nat) (w : fw_W) (h0 : Nat) (h1 : Nat) (sz : Nat) (N : Nat) (cf : Nat → Option Nat) (h2 : Nat) (k2 : cKey) (ca : Nat → Nat) (cx : Nat → cCoin) (e0 : w (h0) = some (.inr (4, [.ref (h1), .int (iI (((sz : Nat) : Int)))]))) (e1 : w (h1) = some (.inl (ta 3, N, .inr (.inr (.inr (.inr (cf))))))) (e2 : w (h2) = some (.inr (1, [.long (k2.1), .long (k2.2.1), .long (k2.2.2.1), .long (k2.2.2.2.1), .int (k2.2.2.2.2)]))) (hN : N < 2147483648) (hsz : sz ≤ N) (hc : ∀ j, j < sz → cf j = some (ca j) ∧ cn_at ta w (ca j) (cx j)) (hms : ∀ j, j < sz → (cx j).1 ≠ k2) : fw_C l D vwCl (tyL ta) B yX4_find cX4_find 3 (some (.object "CoinDesk$Coin")) ({ frames := 2, cells := 0, slots := 0, locals := 44 } : Room) [.ref (h0), .ref (h2)] n w (fun r w1 n1 => r = some (.null) ∧ w1 = w ∧ n1 = n) := by
  refine fw_enter (by decide) (Nat.le_of_ble_eq_true rfl) ?_
  intro p e s m below meth c hx hb hr hml hown hlocks hin hG hts hK H locs hP hS ls hl
  have hown : s.vm.findClass RX4 = some m.cls := hown
  replace hl : lv_has ls 3 [(0, .ref (h0)), (1, .ref (h2))] := hl
  have lt_e0 := hP.lt e0
  have lt_e1 := hP.lt e1
  have lt_e2 := hP.lt e2
  have n_e0_e1 : (h0 : Nat) ≠ h1 := (fw_nio e1 e0).symm
  have n_e0_e2 : (h0 : Nat) ≠ h2 := fw_noo e0 e2 (by decide)
  have n_e1_e2 : (h1 : Nat) ≠ h2 := fw_nio e1 e2
  refine lv_aload_n hx hb dX4_find_0 rfl (lv_at hl 0 rfl) ?_
  refine lv_aload_n hx hb dX4_find_1 rfl (lv_at hl 1 rfl) ?_
  refine fw_callV (ci := 4) (fs := [.ref (h1), .int (iI (((sz : Nat) : Int)))]) (T := TX4) (N := 2) (b := h0) (As := [.ref (h2)]) (rest := []) hx hb hml hown hts hK hG hP hS hl mM_X4_placeOf mV_X4_placeOf mLX4_27 (cm_Pile_placeOf_miss l D ta B (n) (w) (h0) (h1) (sz) (N) (cf) (h2) (k2) (ca) (cx) e0 e1 e2 (by omega) (by omega) hc hms) e0 rfl rfl rfl (Nat.le_of_ble_eq_true rfl) ⟨Nat.le_of_ble_eq_true rfl, Nat.le_of_ble_eq_true rfl⟩ ⟨Nat.le_of_ble_eq_true rfl, Nat.le_of_ble_eq_true rfl⟩ dX4_find_2 (fun r w1 n1 H locs hq hP hS => ?_)
  obtain ⟨rfl, hw1, hn1⟩ := hq
  replace hw1 := hw1.symm; replace hn1 := hn1.symm; subst hw1; subst hn1
  refine W.eq (g2 := F0 m 5 ls [.int (iI ((-1)))]) rfl ?_
  refine lv_istore_n (lv' := [(2, .int (iI ((-1)))), (0, .ref (h0)), (1, .ref (h2))]) hx hb dX4_find_5 rfl hl (by decide) rfl (fun ls hl => ?_)
  refine lv_aload_n hx hb dX4_find_6 rfl (lv_at hl 1 rfl) ?_
  refine lv_iload_n hx hb dX4_find_7 rfl (lv_at hl 0 rfl) ?_
  refine fw_callV (ci := 4) (fs := [.ref (h1), .int (iI (((sz : Nat) : Int)))]) (T := TX4) (N := 2) (b := h0) (As := [.int (iI ((-1)))]) (rest := []) hx hb hml hown hts hK hG hP hS hl mM_X4_holds mV_X4_holds mLX4_31 (cm_Pile_holds l D ta B (n) (w) (h0) (h1) (sz) (N) (cf) ((-1)) e0 e1 (by omega) (by omega) ⟨by omega, by omega⟩) e0 rfl rfl rfl (Nat.le_of_ble_eq_true rfl) ⟨Nat.le_of_ble_eq_true rfl, Nat.le_of_ble_eq_true rfl⟩ ⟨Nat.le_of_ble_eq_true rfl, Nat.le_of_ble_eq_true rfl⟩ dX4_find_8 (fun r w2 n1 H locs hq hP hS => ?_)
  obtain ⟨rfl, hw1, hn1⟩ := hq
  replace hw1 := hw1.symm; replace hn1 := hn1.symm; subst hw1; subst hn1
  refine W.eq (g2 := F0 m 11 ls [.int (bI (decide (0 ≤ (-1) ∧ (-1) < ((sz : Nat) : Int))))]) rfl ?_
  refine fn_bif_eq (x := decide (0 ≤ (-1) ∧ (-1) < ((sz : Nat) : Int))) (tgt := 23) hx hb dX4_find_11 (by decide) (fun c3 => ?_) (fun c3 => False.elim (by have q := of_decide_eq_true c3; omega))
  refine lv_null hx hb dX4_find_23 ?_
  exact fw_aret hx hb hr hlocks hP hS dX4_find_24 (Or.inl rfl) (Nat.le_of_ble_eq_true rfl) (Nat.le_of_ble_eq_true rfl) ⟨rfl, rfl, rfl⟩
set_option maxHeartbeats 4000000 in
set_option maxRecDepth 100000 in
theorem cm_Pile_takeLast (l : Launch) (D : va_G) (ta : Nat → ClassId) (B n : Nat) (w : fw_W) (h0 : Nat) (h1 : Nat) (sz : Nat) (N : Nat) (cf : Nat → Option Nat) (a : Nat) (e0 : w (h0) = some (.inr (4, [.ref (h1), .int (iI (((sz : Nat) : Int)))]))) (e1 : w (h1) = some (.inl (ta 3, N, .inr (.inr (.inr (.inr (cf))))))) (hN : N < 2147483648) (hsz : sz ≤ N) (h1z : 1 ≤ sz) (ha : cf (sz - 1) = some a) : fw_C l D vwCl (tyL ta) B yX4_takeLast cX4_takeLast 1 (some (.object "CoinDesk$Coin")) ({ frames := 1, cells := 0, slots := 0, locals := 21 } : Room) [.ref (h0)] n w (fun r w1 n1 => r = some (.ref (a)) ∧ w1 = fw_up (w) (h0) (.inr (4, [.ref (h1), .int (iI (((sz - 1 : Nat) : Int)))])) ∧ n1 = n) := by
  refine fw_enter (by decide) (Nat.le_of_ble_eq_true rfl) ?_
  intro p e s m below meth c hx hb hr hml hown hlocks hin hG hts hK H locs hP hS ls hl
  have hown : s.vm.findClass RX4 = some m.cls := hown
  replace hl : lv_has ls 1 [(0, .ref (h0))] := hl
  have lt_e0 := hP.lt e0
  have lt_e1 := hP.lt e1
  have n_e0_e1 : (h0 : Nat) ≠ h1 := (fw_nio e1 e0).symm
  refine lv_aload_n hx hb dX4_takeLast_0 rfl (lv_at hl 0 rfl) ?_
  refine lv_aload_n hx hb dX4_takeLast_1 rfl (lv_at hl 0 rfl) ?_
  refine fw_get (ci := 4) (fs := [.ref (h1), .int (iI (((sz : Nat) : Int)))]) (k := 1) (v := .int (iI (((sz : Nat) : Int)))) (C := RX4) (T := TX4) (N := 2) hx hb hts inFX4 hown hK hP e0 rfl (by decide) mFX4_23 rfl dX4_takeLast_2 ?_
  refine lv_iconst (v := (iI (((1 : Nat) : Int)))) hx hb dX4_takeLast_5 rfl ?_
  refine fn_isub (x := ((sz : Nat) : Int)) (y := ((1 : Nat) : Int)) hx hb dX4_takeLast_6 ?_
  refine fw_callV (ci := 4) (fs := [.ref (h1), .int (iI (((sz : Nat) : Int)))]) (T := TX4) (N := 2) (b := h0) (As := [.int (iI ((((sz : Nat) : Int) - ((1 : Nat) : Int))))]) (rest := []) hx hb hml hown hts hK hG hP hS hl mM_X4_holds mV_X4_holds mLX4_31 (cm_Pile_holds l D ta B (n) (w) (h0) (h1) (sz) (N) (cf) (((sz : Nat) : Int) - ((1 : Nat) : Int)) e0 e1 (by omega) (by omega) ⟨by omega, by omega⟩) e0 rfl rfl rfl (Nat.le_of_ble_eq_true rfl) ⟨Nat.le_of_ble_eq_true rfl, Nat.le_of_ble_eq_true rfl⟩ ⟨Nat.le_of_ble_eq_true rfl, Nat.le_of_ble_eq_true rfl⟩ dX4_takeLast_7 (fun r w1 n1 H locs hq hP hS => ?_)
  obtain ⟨rfl, hw1, hn1⟩ := hq
  replace hw1 := hw1.symm; replace hn1 := hn1.symm; subst hw1; subst hn1
  refine W.eq (g2 := F0 m 10 ls [.int (bI (decide (0 ≤ (((sz : Nat) : Int) - ((1 : Nat) : Int)) ∧ (((sz : Nat) : Int) - ((1 : Nat) : Int)) < ((sz : Nat) : Int))))]) rfl ?_
  refine fn_bif_ne (x := decide (0 ≤ (((sz : Nat) : Int) - ((1 : Nat) : Int)) ∧ (((sz : Nat) : Int) - ((1 : Nat) : Int)) < ((sz : Nat) : Int))) (tgt := 15) hx hb dX4_takeLast_10 (by decide) (fun c2 => ?_) (fun c2 => False.elim (by have q := of_decide_eq_false c2; omega))
  refine lv_aload_n hx hb dX4_takeLast_15 rfl (lv_at hl 0 rfl) ?_
  refine lv_dup hx hb dX4_takeLast_16 rfl ?_
  refine fw_get (ci := 4) (fs := [.ref (h1), .int (iI (((sz : Nat) : Int)))]) (k := 1) (v := .int (iI (((sz : Nat) : Int)))) (C := RX4) (T := TX4) (N := 2) hx hb hts inFX4 hown hK hP e0 rfl (by decide) mFX4_23 rfl dX4_takeLast_17 ?_
  refine lv_iconst (v := (iI (((1 : Nat) : Int)))) hx hb dX4_takeLast_20 rfl ?_
  refine fn_isub (x := ((sz : Nat) : Int)) (y := ((1 : Nat) : Int)) hx hb dX4_takeLast_21 ?_
  refine fn_topz (y := ((sz - 1 : Nat) : Int)) (by omega) ?_
  refine fw_put (ci := 4) (fs := [.ref (h1), .int (iI (((sz : Nat) : Int)))]) (k := 1) (v := .int (iI (((sz - 1 : Nat) : Int)))) (C := RX4) (T := TX4) (N := 2) hx hb hts inFX4 tyX4 tyX4_ok nmX4 hown hK hP hS e0 rfl (by decide) mFX4_23 rfl rfl rfl rfl (Nat.le_of_ble_eq_true rfl) dX4_takeLast_22 (fun H locs hP hS => ?_)
  have hP : fw_P D vwCl B (n) (fw_up (w) (h0) (.inr (4, [.ref (h1), .int (iI (((sz - 1 : Nat) : Int)))]))) H := hP
  refine lv_aload_n hx hb dX4_takeLast_25 rfl (lv_at hl 0 rfl) ?_
  refine fw_get (ci := 4) (fs := [.ref (h1), .int (iI (((sz - 1 : Nat) : Int)))]) (k := 0) (v := .ref (h1)) (C := RX4) (T := TX4) (N := 2) hx hb hts inFX4 hown hK hP (fw_same _ _ _) rfl (by decide) mFX4_17 rfl dX4_takeLast_26 ?_
  refine lv_aload_n hx hb dX4_takeLast_29 rfl (lv_at hl 0 rfl) ?_
  refine fw_get (ci := 4) (fs := [.ref (h1), .int (iI (((sz - 1 : Nat) : Int)))]) (k := 1) (v := .int (iI (((sz - 1 : Nat) : Int)))) (C := RX4) (T := TX4) (N := 2) hx hb hts inFX4 hown hK hP (fw_same _ _ _) rfl (by decide) mFX4_23 rfl dX4_takeLast_30 ?_
  refine fn_aald (k := sz - 1) hx hb hK hP 3 (fw_at n_e0_e1.symm e1) rfl (by omega) (by omega) dX4_takeLast_33 ?_
  refine fn_topq (x := a) ha ?_
  exact fw_aret hx hb hr hlocks hP hS dX4_takeLast_34 (Or.inr ⟨_, rfl⟩) (Nat.le_of_ble_eq_true rfl) (Nat.le_of_ble_eq_true rfl) ⟨rfl, rfl, rfl⟩
set_option maxHeartbeats 4000000 in
set_option maxRecDepth 100000 in
theorem cm_Pile_takeNone (l : Launch) (D : va_G) (ta : Nat → ClassId) (B n : Nat) (w : fw_W) (h0 : Nat) (h1 : Nat) (sz : Nat) (N : Nat) (cf : Nat → Option Nat) (e0 : w (h0) = some (.inr (4, [.ref (h1), .int (iI (((sz : Nat) : Int)))]))) (e1 : w (h1) = some (.inl (ta 3, N, .inr (.inr (.inr (.inr (cf))))))) (hN : N < 2147483648) (hsz : sz ≤ N) (h0z : sz = 0) : fw_C l D vwCl (tyL ta) B yX4_takeLast cX4_takeLast 1 (some (.object "CoinDesk$Coin")) ({ frames := 1, cells := 0, slots := 0, locals := 21 } : Room) [.ref (h0)] n w (fun r w1 n1 => r = some (.null) ∧ w1 = w ∧ n1 = n) := by
  refine fw_enter (by decide) (Nat.le_of_ble_eq_true rfl) ?_
  intro p e s m below meth c hx hb hr hml hown hlocks hin hG hts hK H locs hP hS ls hl
  have hown : s.vm.findClass RX4 = some m.cls := hown
  replace hl : lv_has ls 1 [(0, .ref (h0))] := hl
  have lt_e0 := hP.lt e0
  have lt_e1 := hP.lt e1
  have n_e0_e1 : (h0 : Nat) ≠ h1 := (fw_nio e1 e0).symm
  refine lv_aload_n hx hb dX4_takeLast_0 rfl (lv_at hl 0 rfl) ?_
  refine lv_aload_n hx hb dX4_takeLast_1 rfl (lv_at hl 0 rfl) ?_
  refine fw_get (ci := 4) (fs := [.ref (h1), .int (iI (((sz : Nat) : Int)))]) (k := 1) (v := .int (iI (((sz : Nat) : Int)))) (C := RX4) (T := TX4) (N := 2) hx hb hts inFX4 hown hK hP e0 rfl (by decide) mFX4_23 rfl dX4_takeLast_2 ?_
  refine lv_iconst (v := (iI (((1 : Nat) : Int)))) hx hb dX4_takeLast_5 rfl ?_
  refine fn_isub (x := ((sz : Nat) : Int)) (y := ((1 : Nat) : Int)) hx hb dX4_takeLast_6 ?_
  refine fw_callV (ci := 4) (fs := [.ref (h1), .int (iI (((sz : Nat) : Int)))]) (T := TX4) (N := 2) (b := h0) (As := [.int (iI ((((sz : Nat) : Int) - ((1 : Nat) : Int))))]) (rest := []) hx hb hml hown hts hK hG hP hS hl mM_X4_holds mV_X4_holds mLX4_31 (cm_Pile_holds l D ta B (n) (w) (h0) (h1) (sz) (N) (cf) (((sz : Nat) : Int) - ((1 : Nat) : Int)) e0 e1 (by omega) (by omega) ⟨by omega, by omega⟩) e0 rfl rfl rfl (Nat.le_of_ble_eq_true rfl) ⟨Nat.le_of_ble_eq_true rfl, Nat.le_of_ble_eq_true rfl⟩ ⟨Nat.le_of_ble_eq_true rfl, Nat.le_of_ble_eq_true rfl⟩ dX4_takeLast_7 (fun r w1 n1 H locs hq hP hS => ?_)
  obtain ⟨rfl, hw1, hn1⟩ := hq
  replace hw1 := hw1.symm; replace hn1 := hn1.symm; subst hw1; subst hn1
  refine W.eq (g2 := F0 m 10 ls [.int (bI (decide (0 ≤ (((sz : Nat) : Int) - ((1 : Nat) : Int)) ∧ (((sz : Nat) : Int) - ((1 : Nat) : Int)) < ((sz : Nat) : Int))))]) rfl ?_
  refine fn_bif_ne (x := decide (0 ≤ (((sz : Nat) : Int) - ((1 : Nat) : Int)) ∧ (((sz : Nat) : Int) - ((1 : Nat) : Int)) < ((sz : Nat) : Int))) (tgt := 15) hx hb dX4_takeLast_10 (by decide) (fun c2 => False.elim (by have q := of_decide_eq_true c2; omega)) (fun c2 => ?_)
  refine lv_null hx hb dX4_takeLast_13 ?_
  exact fw_aret hx hb hr hlocks hP hS dX4_takeLast_14 (Or.inl rfl) (Nat.le_of_ble_eq_true rfl) (Nat.le_of_ble_eq_true rfl) ⟨rfl, rfl, rfl⟩
set_option maxHeartbeats 4000000 in
set_option maxRecDepth 100000 in
theorem cm_Pile_remove (l : Launch) (D : va_G) (ta : Nat → ClassId) (B n : Nat) (w : fw_W) (h0 : Nat) (h1 : Nat) (sz : Nat) (N : Nat) (cf : Nat → Option Nat) (h2 : Nat) (k2 : cKey) (ca : Nat → Nat) (cx : Nat → cCoin) (j : Nat) (e0 : w (h0) = some (.inr (4, [.ref (h1), .int (iI (((sz : Nat) : Int)))]))) (e1 : w (h1) = some (.inl (ta 3, N, .inr (.inr (.inr (.inr (cf))))))) (e2 : w (h2) = some (.inr (1, [.long (k2.1), .long (k2.2.1), .long (k2.2.2.1), .long (k2.2.2.2.1), .int (k2.2.2.2.2)]))) (hN : N < 2147483648) (hsz : sz ≤ N) (hc : ∀ j, j < sz → cf j = some (ca j) ∧ cn_at ta w (ca j) (cx j)) (hj : j < sz) (hkj : (cx j).1 = k2) (huq : ∀ i, i < sz → (cx i).1 = k2 → i = j) : fw_C l D vwCl (tyL ta) B yX4_remove cX4_remove 4 none ({ frames := 2, cells := 0, slots := 0, locals := 44 } : Room) [.ref (h0), .ref (h2)] n w (fun r w1 n1 => ∃ f2 : Nat → Option Nat, (∀ i, i < sz - 1 → f2 i = if i = j then cf (sz - 1) else cf i) ∧ r = none ∧ w1 = fw_up (fw_up (w) (h0) (.inr (4, [.ref (h1), .int (iI (((sz - 1 : Nat) : Int)))]))) (h1) (.inl (ta 3, N, .inr (.inr (.inr (.inr (f2)))))) ∧ n1 = n) := by
  refine fw_enter (by decide) (Nat.le_of_ble_eq_true rfl) ?_
  intro p e s m below meth c hx hb hr hml hown hlocks hin hG hts hK H locs hP hS ls hl
  have hown : s.vm.findClass RX4 = some m.cls := hown
  replace hl : lv_has ls 4 [(0, .ref (h0)), (1, .ref (h2))] := hl
  have lt_e0 := hP.lt e0
  have lt_e1 := hP.lt e1
  have lt_e2 := hP.lt e2
  have n_e0_e1 : (h0 : Nat) ≠ h1 := (fw_nio e1 e0).symm
  have n_e0_e2 : (h0 : Nat) ≠ h2 := fw_noo e0 e2 (by decide)
  have n_e1_e2 : (h1 : Nat) ≠ h2 := fw_nio e1 e2
  refine lv_aload_n hx hb dX4_remove_0 rfl (lv_at hl 0 rfl) ?_
  refine lv_aload_n hx hb dX4_remove_1 rfl (lv_at hl 1 rfl) ?_
  refine fw_callV (ci := 4) (fs := [.ref (h1), .int (iI (((sz : Nat) : Int)))]) (T := TX4) (N := 2) (b := h0) (As := [.ref (h2)]) (rest := []) hx hb hml hown hts hK hG hP hS hl mM_X4_placeOf mV_X4_placeOf mLX4_27 (cm_Pile_placeOf_hit l D ta B (n) (w) (h0) (h1) (sz) (N) (cf) (h2) (k2) (ca) (cx) (j) e0 e1 e2 (by omega) (by omega) hc hj hkj huq) e0 rfl rfl rfl (Nat.le_of_ble_eq_true rfl) ⟨Nat.le_of_ble_eq_true rfl, Nat.le_of_ble_eq_true rfl⟩ ⟨Nat.le_of_ble_eq_true rfl, Nat.le_of_ble_eq_true rfl⟩ dX4_remove_2 (fun r w1 n1 H locs hq hP hS => ?_)
  obtain ⟨rfl, hw1, hn1⟩ := hq
  replace hw1 := hw1.symm; replace hn1 := hn1.symm; subst hw1; subst hn1
  refine W.eq (g2 := F0 m 5 ls [.int (iI (((j : Nat) : Int)))]) rfl ?_
  refine lv_istore_n (lv' := [(2, .int (iI (((j : Nat) : Int)))), (0, .ref (h0)), (1, .ref (h2))]) hx hb dX4_remove_5 rfl hl (by decide) rfl (fun ls hl => ?_)
  refine lv_aload_n hx hb dX4_remove_6 rfl (lv_at hl 1 rfl) ?_
  refine lv_iload_n hx hb dX4_remove_7 rfl (lv_at hl 0 rfl) ?_
  refine fw_callV (ci := 4) (fs := [.ref (h1), .int (iI (((sz : Nat) : Int)))]) (T := TX4) (N := 2) (b := h0) (As := [.int (iI (((j : Nat) : Int)))]) (rest := []) hx hb hml hown hts hK hG hP hS hl mM_X4_holds mV_X4_holds mLX4_31 (cm_Pile_holds l D ta B (n) (w) (h0) (h1) (sz) (N) (cf) (((j : Nat) : Int)) e0 e1 (by omega) (by omega) ⟨by omega, by omega⟩) e0 rfl rfl rfl (Nat.le_of_ble_eq_true rfl) ⟨Nat.le_of_ble_eq_true rfl, Nat.le_of_ble_eq_true rfl⟩ ⟨Nat.le_of_ble_eq_true rfl, Nat.le_of_ble_eq_true rfl⟩ dX4_remove_8 (fun r w2 n1 H locs hq hP hS => ?_)
  obtain ⟨rfl, hw1, hn1⟩ := hq
  replace hw1 := hw1.symm; replace hn1 := hn1.symm; subst hw1; subst hn1
  refine W.eq (g2 := F0 m 11 ls [.int (bI (decide (0 ≤ ((j : Nat) : Int) ∧ ((j : Nat) : Int) < ((sz : Nat) : Int))))]) rfl ?_
  refine fn_bif_ne (x := decide (0 ≤ ((j : Nat) : Int) ∧ ((j : Nat) : Int) < ((sz : Nat) : Int))) (tgt := 15) hx hb dX4_remove_11 (by decide) (fun c3 => ?_) (fun c3 => False.elim (by have q := of_decide_eq_false c3; omega))
  refine lv_aload_n hx hb dX4_remove_15 rfl (lv_at hl 1 rfl) ?_
  obtain ⟨hl0, hl1, hl2, hl3, hl4⟩ := hc (sz - 1) (by omega)
  refine fw_callV (ci := 4) (fs := [.ref (h1), .int (iI (((sz : Nat) : Int)))]) (T := TX4) (N := 2) (b := h0) (As := []) (rest := []) hx hb hml hown hts hK hG hP hS hl mM_X4_takeLast mV_X4_takeLast mLX4_35 (cm_Pile_takeLast l D ta B (n) (w) (h0) (h1) (sz) (N) (cf) (ca (sz - 1)) e0 e1 (by omega) (by omega) (by omega) hl0) e0 rfl rfl rfl (Nat.le_of_ble_eq_true rfl) ⟨Nat.le_of_ble_eq_true rfl, Nat.le_of_ble_eq_true rfl⟩ ⟨Nat.le_of_ble_eq_true rfl, Nat.le_of_ble_eq_true rfl⟩ dX4_remove_16 (fun r w4 n1 H locs hq hP hS => ?_)
  obtain ⟨rfl, hw1, hn1⟩ := hq
  replace hw1 := hw1.symm; replace hn1 := hn1.symm; subst hw1; subst hn1
  refine W.eq (g2 := F0 m 19 ls [.ref (ca (sz - 1))]) rfl ?_
  have hP : fw_P D vwCl B (n) (fw_up (w) (h0) (.inr (4, [.ref (h1), .int (iI (((sz - 1 : Nat) : Int)))]))) H := hP
  refine lv_astore_n (lv' := [(3, .ref (ca (sz - 1))), (2, .int (iI (((j : Nat) : Int)))), (0, .ref (h0)), (1, .ref (h2))]) hx hb dX4_remove_19 rfl hl (by decide) rfl (fun ls hl => ?_)
  refine lv_aload_n hx hb dX4_remove_20 rfl (lv_at hl 2 rfl) ?_
  refine lv_iload_n hx hb dX4_remove_21 rfl (lv_at hl 1 rfl) ?_
  refine fw_callV (ci := 4) (fs := [.ref (h1), .int (iI (((sz - 1 : Nat) : Int)))]) (T := TX4) (N := 2) (b := h0) (As := [.int (iI (((j : Nat) : Int)))]) (rest := []) hx hb hml hown hts hK hG hP hS hl mM_X4_holds mV_X4_holds mLX4_31 (cm_Pile_holds l D ta B (n) (fw_up (w) (h0) (.inr (4, [.ref (h1), .int (iI (((sz - 1 : Nat) : Int)))]))) (h0) (h1) (sz - 1) (N) (cf) (((j : Nat) : Int)) (fw_same _ _ _) (fw_at n_e0_e1.symm e1) (by omega) (by omega) ⟨by omega, by omega⟩) (fw_same _ _ _) rfl rfl rfl (Nat.le_of_ble_eq_true rfl) ⟨Nat.le_of_ble_eq_true rfl, Nat.le_of_ble_eq_true rfl⟩ ⟨Nat.le_of_ble_eq_true rfl, Nat.le_of_ble_eq_true rfl⟩ dX4_remove_22 (fun r w5 n1 H locs hq hP hS => ?_)
  obtain ⟨rfl, hw1, hn1⟩ := hq
  replace hw1 := hw1.symm; replace hn1 := hn1.symm; subst hw1; subst hn1
  refine W.eq (g2 := F0 m 25 ls [.int (bI (decide (0 ≤ ((j : Nat) : Int) ∧ ((j : Nat) : Int) < (((sz - 1) : Nat) : Int))))]) rfl ?_
  refine fn_bif_eq (x := decide (0 ≤ ((j : Nat) : Int) ∧ ((j : Nat) : Int) < (((sz - 1) : Nat) : Int))) (tgt := 35) hx hb dX4_remove_25 (by decide) (fun c6 => ?_) (fun c6 => ?_)
  · have cq := of_decide_eq_false c6
    exact fw_vret hx hb hr hlocks hP hS dX4_remove_35 (Nat.le_of_ble_eq_true rfl) (Nat.le_of_ble_eq_true rfl) ⟨cf, fun i hi => by rw [if_neg (by omega)], rfl, (fw_id (fw_at n_e0_e1.symm e1)).symm, rfl⟩
  · have cq := of_decide_eq_true c6
    refine lv_aload_n hx hb dX4_remove_28 rfl (lv_at hl 2 rfl) ?_
    refine fw_get (ci := 4) (fs := [.ref (h1), .int (iI (((sz - 1 : Nat) : Int)))]) (k := 0) (v := .ref (h1)) (C := RX4) (T := TX4) (N := 2) hx hb hts inFX4 hown hK hP (fw_same _ _ _) rfl (by decide) mFX4_17 rfl dX4_remove_29 ?_
    refine lv_iload_n hx hb dX4_remove_32 rfl (lv_at hl 1 rfl) ?_
    refine lv_aload_n hx hb dX4_remove_33 rfl (lv_at hl 0 rfl) ?_
    have ne7 : (ca (sz - 1) : Nat) ≠ h0 := fw_noo hl1 e0 (by decide)
    have ne8 : (ca (sz - 1) : Nat) ≠ h1 := (fw_nio e1 hl1).symm
    have ne9 : (ca (sz - 1) : Nat) ≠ h2 := fw_noo hl1 e2 (by decide)
    refine fn_aast (k := j) hx hb hK hP hS 3 3 (fw_at n_e0_e1.symm e1) rfl (fw_at ne7 hl1) (show vwCl[3]? = some (RX3, TX3, 5) from rfl) (by omega) (by omega) dX4_remove_34 (fun H locs hP hS => ?_)
    have hP : fw_P D vwCl B (n) (fw_up (fw_up (w) (h0) (.inr (4, [.ref (h1), .int (iI (((sz - 1 : Nat) : Int)))]))) (h1) (.inl (ta 3, N, .inr (.inr (.inr (.inr (va_up (cf) (j) (some (ca (sz - 1)))))))))) H := hP
    exact fw_vret hx hb hr hlocks hP hS dX4_remove_35 (Nat.le_of_ble_eq_true rfl) (Nat.le_of_ble_eq_true rfl) ⟨_, fun i hi => by by_cases hq : i = j <;> simp [va_up, hq, hl0], rfl, rfl, rfl⟩
set_option maxHeartbeats 4000000 in
set_option maxRecDepth 100000 in
theorem cm_Pile_sum (l : Launch) (D : va_G) (ta : Nat → ClassId) (B n : Nat) (w : fw_W) (h0 : Nat) (h1 : Nat) (sz : Nat) (N : Nat) (cf : Nat → Option Nat) (ca : Nat → Nat) (cx : Nat → cCoin) (e0 : w (h0) = some (.inr (4, [.ref (h1), .int (iI (((sz : Nat) : Int)))]))) (e1 : w (h1) = some (.inl (ta 3, N, .inr (.inr (.inr (.inr (cf))))))) (hN : N < 2147483648) (hsz : sz ≤ N) (hc : ∀ j, j < sz → cf j = some (ca j) ∧ cn_at ta w (ca j) (cx j)) : fw_C l D vwCl (tyL ta) B yX4_sum cX4_sum 5 (some .long) ({ frames := 0, cells := 0, slots := 0, locals := 0 } : Room) [.ref (h0)] n w (fun r w1 n1 => r = some (.long (csum cx sz)) ∧ w1 = w ∧ n1 = n) := by
  refine fw_enter (by decide) (Nat.le_of_ble_eq_true rfl) ?_
  intro p e s m below meth c hx hb hr hml hown hlocks hin hG hts hK H locs hP hS ls hl
  have hown : s.vm.findClass RX4 = some m.cls := hown
  replace hl : lv_has ls 5 [(0, .ref (h0))] := hl
  have lt_e0 := hP.lt e0
  have lt_e1 := hP.lt e1
  have n_e0_e1 : (h0 : Nat) ≠ h1 := (fw_nio e1 e0).symm
  refine lv_lconst (v := 0) hx hb dX4_sum_0 rfl ?_
  refine lv_lstore_n (lv' := [(1, .long (0)), (0, .ref (h0))]) hx hb dX4_sum_1 rfl hl (by decide) rfl (fun ls hl => ?_)
  refine lv_iconst (v := (iI (((0 : Nat) : Int)))) hx hb dX4_sum_2 rfl ?_
  refine lv_istore_n (lv' := [(3, .int (iI (((0 : Nat) : Int)))), (1, .long (0)), (0, .ref (h0))]) hx hb dX4_sum_3 rfl hl (by decide) rfl (fun ls hl => ?_)
  have lp1 : ∀ (i : Nat)  (H : Heap) (locs : List Loc) (ls : Array Slot), i ≤ sz → lv_has ls 5 [(3, .int (iI (((i : Nat) : Int)))), (1, .long (csum cx i)), (0, .ref (h0))] → fw_P D vwCl B (n) (w) H → fw_S B s.heap H locs → fw_K p l e ({ frames := 0, cells := 0, slots := 0, locals := 0 } : Room) s m [.ref (h0)] below meth c D vwCl B (fun r w1 n1 => r = some (.long (csum cx sz)) ∧ w1 = w ∧ n1 = n) H locs (0) (0) (F0 m 4 ls []) := by
    refine fw_loop (fun i : Nat => sz - i) ?_
    intro i ih4  H locs ls hi hl hP hS
    refine lv_iload_n hx hb dX4_sum_4 rfl (lv_at hl 0 rfl) ?_
    refine lv_aload_n hx hb dX4_sum_5 rfl (lv_at hl 2 rfl) ?_
    refine fw_get (ci := 4) (fs := [.ref (h1), .int (iI (((sz : Nat) : Int)))]) (k := 1) (v := .int (iI (((sz : Nat) : Int)))) (C := RX4) (T := TX4) (N := 2) hx hb hts inFX4 hown hK hP e0 rfl (by decide) mFX4_23 rfl dX4_sum_6 ?_
    refine fn_icmp_ge (x := ((i : Nat) : Int)) (y := ((sz : Nat) : Int)) (tgt := 48) hx hb dX4_sum_9 (by decide) ⟨by omega, by omega⟩ ⟨by omega, by omega⟩ (fun c2 => ?_) (fun c2 => ?_)
    · refine lv_lload_n hx hb dX4_sum_48 rfl (lv_at hl 1 rfl) ?_
      exact fw_lret hx hb hr hlocks hP hS dX4_sum_49 (Nat.le_of_ble_eq_true rfl) (Nat.le_of_ble_eq_true rfl) (by
        obtain rfl : i = sz := by omega
        exact ⟨rfl, rfl, rfl⟩)
    · refine lv_iload_n hx hb dX4_sum_12 rfl (lv_at hl 0 rfl) ?_
      refine lv_aload_n hx hb dX4_sum_13 rfl (lv_at hl 2 rfl) ?_
      refine fw_get (ci := 4) (fs := [.ref (h1), .int (iI (((sz : Nat) : Int)))]) (k := 0) (v := .ref (h1)) (C := RX4) (T := TX4) (N := 2) hx hb hts inFX4 hown hK hP e0 rfl (by decide) mFX4_17 rfl dX4_sum_14 ?_
      refine fn_alen hx hb hK hP 3 e1 rfl dX4_sum_17 ?_
      refine fn_icmp_ge (x := ((i : Nat) : Int)) (y := ((N : Nat) : Int)) (tgt := 48) hx hb dX4_sum_18 (by decide) ⟨by omega, by omega⟩ ⟨by omega, by omega⟩ (fun c3 => False.elim (by omega)) (fun c3 => ?_)
      refine lv_aload_n hx hb dX4_sum_21 rfl (lv_at hl 2 rfl) ?_
      refine fw_get (ci := 4) (fs := [.ref (h1), .int (iI (((sz : Nat) : Int)))]) (k := 0) (v := .ref (h1)) (C := RX4) (T := TX4) (N := 2) hx hb hts inFX4 hown hK hP e0 rfl (by decide) mFX4_17 rfl dX4_sum_22 ?_
      refine lv_iload_n hx hb dX4_sum_25 rfl (lv_at hl 0 rfl) ?_
      obtain ⟨hq0, hq1, hq2, hq3, hq4⟩ := hc i (by omega)
      have ne4 : (ca i : Nat) ≠ h0 := fw_noo hq1 e0 (by decide)
      have ne5 : (ca i : Nat) ≠ h1 := (fw_nio e1 hq1).symm
      have ne6 : (ca i + 1 : Nat) ≠ h0 := fw_noo hq2 e0 (by decide)
      have ne7 : (ca i + 1 : Nat) ≠ h1 := (fw_nio e1 hq2).symm
      have ne8 : (ca i + 1 : Nat) ≠ ca i := fw_noo hq2 hq1 (by decide)
      refine fn_aald (k := i) hx hb hK hP 3 e1 rfl (by omega) (by omega) dX4_sum_26 ?_
      refine fn_topq (x := ca i) hq0 ?_
      refine lv_astore (lv' := [(4, .ref (ca i)), (3, .int (iI (((i : Nat) : Int)))), (1, .long (csum cx i)), (0, .ref (h0))]) hx hb dX4_sum_27 hl (by decide) rfl (fun ls hl => ?_)
      refine lv_aload hx hb dX4_sum_29 (lv_at hl 0 rfl) ?_
      refine lv_ifnull hx hb dX4_sum_31 ?_
      refine lv_lload_n hx hb dX4_sum_34 rfl (lv_at hl 2 rfl) ?_
      refine lv_aload hx hb dX4_sum_35 (lv_at hl 0 rfl) ?_
      refine fw_getN (ci := 3) (fs := [.ref (ca i + 1), .ref (ca i + 2), .long ((cx i).2.2.1), .int ((cx i).2.2.2.1), .int (bI ((cx i).2.2.2.2))]) (k := 2) (v := .long ((cx i).2.2.1)) (C := RX3) (T := TX3) (N := 5) hx hb hts inFX3 hown hK hP hq1 rfl (by decide) mFX4_39 rfl dX4_sum_37 ?_
      refine lv_ladd hx hb dX4_sum_40 ?_
      refine lv_lstore_n (lv' := [(1, .long ((csum cx i) + ((cx i).2.2.1))), (4, .ref (ca i)), (3, .int (iI (((i : Nat) : Int)))), (0, .ref (h0))]) hx hb dX4_sum_41 rfl hl (by decide) rfl (fun ls hl => ?_)
      refine lv_iinc (k := 2) (v := (iI (((i + 1 : Nat) : Int)))) (lv' := [(3, .int (iI (((i + 1 : Nat) : Int)))), (1, .long ((csum cx i) + ((cx i).2.2.1))), (4, .ref (ca i)), (0, .ref (h0))]) hx hb dX4_sum_42 hl rfl (iI_inc _ 1) (by decide) rfl (fun ls hl => ?_)
      refine lv_goto (tgt := 4) hx hb dX4_sum_45 (by decide) ?_
      replace hl : lv_has ls 5 [(3, .int (iI (((i + 1 : Nat) : Int)))), (1, .long (csum cx (i + 1))), (0, .ref (h0))] := by
        refine ⟨hl.1, hl.2.1, fun q hq => hl.2.2 q ?_⟩
        simp only [List.mem_cons, List.not_mem_nil, or_false] at hq
        rcases hq with rfl | rfl | rfl
        · exact List.mem_of_getElem? (i := 0) rfl
        · exact List.mem_of_getElem? (i := 1) rfl
        · exact List.mem_of_getElem? (i := 3) rfl
      exact ih4 (i + 1) (by omega)  H locs ls (by omega) hl hP hS
  replace hl : lv_has ls 5 [(3, .int (iI (((0 : Nat) : Int)))), (1, .long (csum cx 0)), (0, .ref (h0))] := by
    refine ⟨hl.1, hl.2.1, fun q hq => hl.2.2 q ?_⟩
    simp only [List.mem_cons, List.not_mem_nil, or_false] at hq
    rcases hq with rfl | rfl | rfl
    · exact List.mem_of_getElem? (i := 0) rfl
    · exact List.mem_of_getElem? (i := 1) rfl
    · exact List.mem_of_getElem? (i := 2) rfl
  exact lp1 (0) H locs ls (by omega) hl hP hS
