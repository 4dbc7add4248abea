set_option maxHeartbeats 4000000 in
set_option maxRecDepth 100000 in
theorem mm_spend_closed (l : Launch) (D : va_G) (ta : Nat → ClassId) (B n : Nat) (w : fw_W) (g0 : Nat) (U : Nat) (ix : Int32) (L : Nat) (nd : Nat) (od : Nat) (hh : Nat) (m0 : w (g0) = some (.inr (6, [.int (iI (((U : Nat) : Int))), .ref (g0 + 1), .ref (g0 + 2), .ref (g0 + 3), .ref (g0 + 4), .ref (g0 + 5), .ref (g0 + 6), .ref (g0 + 7), .ref (g0 + 8), .ref (g0 + 9), .ref (g0 + 10), .ref (g0 + 11), .ref (g0 + 12), .ref (g0 + 13), .ref (g0 + 14), .ref (g0 + 15), .int (ix), .ref (g0 + 16), .int (iI (((L : Nat) : Int))), .int (iI (((nd : Nat) : Int))), .ref (g0 + 17), .ref (g0 + 18), .ref (g0 + 19), .int (iI (((od : Nat) : Int))), .int (iI (((hh : Nat) : Int))), .int (bI (false))])))  : fw_C l D vwCl (tyL ta) B yX6_spend cX6_spend 2 (some .int) ({ frames := 1, cells := 0, slots := 0, locals := 23 } : Room) [.ref (g0)] n w (fun r w1 n1 => r = some (.int (iI (((1 : Nat) : Int)))) ∧ w1 = w ∧ n1 = n) := by
  refine fw_enter (by decide) (Nat.le_of_ble_eq_true rfl) ?_
  intro p e s m below meth c hx hb hr hml hown hlocks hin hG hts hK H locs hP hS ls hl
  have hown : s.vm.findClass RX6 = some m.cls := hown
  replace hl : lv_has ls 2 [(0, .ref (g0))] := hl
  have lt_m0 := hP.lt m0
  refine lv_aload_n hx hb dX6_spend_0 rfl (lv_at hl 0 rfl) ?_
  refine fw_get (ci := 6) (fs := [.int (iI (((U : Nat) : Int))), .ref (g0 + 1), .ref (g0 + 2), .ref (g0 + 3), .ref (g0 + 4), .ref (g0 + 5), .ref (g0 + 6), .ref (g0 + 7), .ref (g0 + 8), .ref (g0 + 9), .ref (g0 + 10), .ref (g0 + 11), .ref (g0 + 12), .ref (g0 + 13), .ref (g0 + 14), .ref (g0 + 15), .int (ix), .ref (g0 + 16), .int (iI (((L : Nat) : Int))), .int (iI (((nd : Nat) : Int))), .ref (g0 + 17), .ref (g0 + 18), .ref (g0 + 19), .int (iI (((od : Nat) : Int))), .int (iI (((hh : Nat) : Int))), .int (bI (false))]) (k := 25) (v := .int (bI (false))) (C := RX6) (T := TX6) (N := 26) hx hb hts inFX6 hown hK hP m0 rfl (by decide) mFX6_86 rfl dX6_spend_1 ?_
  refine fn_bif_ne (x := false) (tgt := 9) hx hb dX6_spend_4 (by decide) (fun c1 => False.elim (by cases c1)) (fun c1 => ?_)
  refine lv_iconst (v := (iI (((1 : Nat) : Int)))) hx hb dX6_spend_7 rfl ?_
  exact fw_iret hx hb hr hlocks hP hS dX6_spend_8 (Nat.le_of_ble_eq_true rfl) (Nat.le_of_ble_eq_true rfl) ⟨rfl, rfl, rfl⟩
set_option maxHeartbeats 4000000 in
set_option maxRecDepth 100000 in
theorem mm_spend_miss (l : Launch) (D : va_G) (ta : Nat → ClassId) (B n : Nat) (w : fw_W) (g0 : Nat) (U : Nat) (ix : Int32) (L : Nat) (nd : Nat) (od : Nat) (hh : Nat) (stt : Nat → Nat) (kys : Nat → Int64) (idx : Nat → Int32) (kyh : Nat → Int64) (m0 : w (g0) = some (.inr (6, [.int (iI (((U : Nat) : Int))), .ref (g0 + 1), .ref (g0 + 2), .ref (g0 + 3), .ref (g0 + 4), .ref (g0 + 5), .ref (g0 + 6), .ref (g0 + 7), .ref (g0 + 8), .ref (g0 + 9), .ref (g0 + 10), .ref (g0 + 11), .ref (g0 + 12), .ref (g0 + 13), .ref (g0 + 14), .ref (g0 + 15), .int (ix), .ref (g0 + 16), .int (iI (((L : Nat) : Int))), .int (iI (((nd : Nat) : Int))), .ref (g0 + 17), .ref (g0 + 18), .ref (g0 + 19), .int (iI (((od : Nat) : Int))), .int (iI (((hh : Nat) : Int))), .int (bI (true))]))) (m1 : w (g0 + 1) = some (.inl (ta 1, 600, .inl (fun z_ => iI (((stt) z_ : Nat) : Int))))) (m2 : w (g0 + 2) = some (.inl (ta 4, 2400, .inr (.inl (kys))))) (m3 : w (g0 + 3) = some (.inl (ta 1, 600, .inl (idx)))) (m15 : w (g0 + 15) = some (.inl (ta 4, 4, .inr (.inl (kyh))))) (hsb : ∀ j, j < 600 → stt j < 3) (hms : ∀ i, i < 600 → mmb stt idx ix kys kyh i 4 = false) : fw_C l D vwCl (tyL ta) B yX6_spend cX6_spend 2 (some .int) ({ frames := 1, cells := 0, slots := 0, locals := 23 } : Room) [.ref (g0)] n w (fun r w1 n1 => r = some (.int (iI (((2 : Nat) : Int)))) ∧ w1 = w ∧ n1 = n) := by
  refine fw_enter (by decide) (Nat.le_of_ble_eq_true rfl) ?_
  intro p e s m below meth c hx hb hr hml hown hlocks hin hG hts hK H locs hP hS ls hl
  have hown : s.vm.findClass RX6 = some m.cls := hown
  replace hl : lv_has ls 2 [(0, .ref (g0))] := hl
  have lt_m0 := hP.lt m0
  have lt_m1 := hP.lt m1
  have lt_m2 := hP.lt m2
  have lt_m3 := hP.lt m3
  have lt_m15 := hP.lt m15
  refine lv_aload_n hx hb dX6_spend_0 rfl (lv_at hl 0 rfl) ?_
  refine fw_get (ci := 6) (fs := [.int (iI (((U : Nat) : Int))), .ref (g0 + 1), .ref (g0 + 2), .ref (g0 + 3), .ref (g0 + 4), .ref (g0 + 5), .ref (g0 + 6), .ref (g0 + 7), .ref (g0 + 8), .ref (g0 + 9), .ref (g0 + 10), .ref (g0 + 11), .ref (g0 + 12), .ref (g0 + 13), .ref (g0 + 14), .ref (g0 + 15), .int (ix), .ref (g0 + 16), .int (iI (((L : Nat) : Int))), .int (iI (((nd : Nat) : Int))), .ref (g0 + 17), .ref (g0 + 18), .ref (g0 + 19), .int (iI (((od : Nat) : Int))), .int (iI (((hh : Nat) : Int))), .int (bI (true))]) (k := 25) (v := .int (bI (true))) (C := RX6) (T := TX6) (N := 26) hx hb hts inFX6 hown hK hP m0 rfl (by decide) mFX6_86 rfl dX6_spend_1 ?_
  refine fn_bif_ne (x := true) (tgt := 9) hx hb dX6_spend_4 (by decide) (fun c1 => ?_) (fun c1 => False.elim (by cases c1))
  refine lv_aload_n hx hb dX6_spend_9 rfl (lv_at hl 0 rfl) ?_
  refine fw_callV (ci := 6) (fs := [.int (iI (((U : Nat) : Int))), .ref (g0 + 1), .ref (g0 + 2), .ref (g0 + 3), .ref (g0 + 4), .ref (g0 + 5), .ref (g0 + 6), .ref (g0 + 7), .ref (g0 + 8), .ref (g0 + 9), .ref (g0 + 10), .ref (g0 + 11), .ref (g0 + 12), .ref (g0 + 13), .ref (g0 + 14), .ref (g0 + 15), .int (ix), .ref (g0 + 16), .int (iI (((L : Nat) : Int))), .int (iI (((nd : Nat) : Int))), .ref (g0 + 17), .ref (g0 + 18), .ref (g0 + 19), .int (iI (((od : Nat) : Int))), .int (iI (((hh : Nat) : Int))), .int (bI (true))]) (T := TX6) (N := 26) (b := g0) (As := []) (rest := []) hx hb hml hown hts hK hG hP hS hl mM_X6_find mV_X6_find mLX6_97 (mm_find_miss l D ta B (n) (w) (g0) (U) ((ix)) (L) (nd) (od) (hh) (true) (stt) (kys) (idx) (kyh) m0 m1 m2 m3 m15 hsb hms) m0 rfl rfl rfl (Nat.le_of_ble_eq_true rfl) ⟨Nat.le_of_ble_eq_true rfl, Nat.le_of_ble_eq_true rfl⟩ ⟨Nat.le_of_ble_eq_true rfl, Nat.le_of_ble_eq_true rfl⟩ dX6_spend_10 (fun r w2 n1 H locs hq hP hS => ?_)
  obtain ⟨rfl, hw1, hn1⟩ := hq
  replace hw1 := hw1.symm; replace hn1 := hn1.symm; subst hw1; subst hn1
  refine W.eq (g2 := F0 m 13 ls [.int (iI ((-1)))]) rfl ?_
  refine lv_istore_n (lv' := [(1, .int (iI ((-1)))), (0, .ref (g0))]) hx hb dX6_spend_13 rfl hl (by decide) rfl (fun ls hl => ?_)
  refine lv_iload_n hx hb dX6_spend_14 rfl (lv_at hl 0 rfl) ?_
  refine fn_if_ge (x := (-1)) (tgt := 20) hx hb dX6_spend_15 (by decide) ⟨by omega, by omega⟩ (fun c3 => False.elim (by omega)) (fun c3 => ?_)
  refine lv_iconst (v := (iI (((2 : Nat) : Int)))) hx hb dX6_spend_18 rfl ?_
  exact fw_iret hx hb hr hlocks hP hS dX6_spend_19 (Nat.le_of_ble_eq_true rfl) (Nat.le_of_ble_eq_true rfl) ⟨rfl, rfl, rfl⟩
set_option maxHeartbeats 4000000 in
set_option maxRecDepth 100000 in
theorem mm_spend_noroom (l : Launch) (D : va_G) (ta : Nat → ClassId) (B n : Nat) (w : fw_W) (g0 : Nat) (U : Nat) (ix : Int32) (L : Nat) (nd : Nat) (od : Nat) (hh : Nat) (stt : Nat → Nat) (kys : Nat → Int64) (idx : Nat → Int32) (kyh : Nat → Int64) (j : Nat) (m0 : w (g0) = some (.inr (6, [.int (iI (((U : Nat) : Int))), .ref (g0 + 1), .ref (g0 + 2), .ref (g0 + 3), .ref (g0 + 4), .ref (g0 + 5), .ref (g0 + 6), .ref (g0 + 7), .ref (g0 + 8), .ref (g0 + 9), .ref (g0 + 10), .ref (g0 + 11), .ref (g0 + 12), .ref (g0 + 13), .ref (g0 + 14), .ref (g0 + 15), .int (ix), .ref (g0 + 16), .int (iI (((L : Nat) : Int))), .int (iI (((nd : Nat) : Int))), .ref (g0 + 17), .ref (g0 + 18), .ref (g0 + 19), .int (iI (((od : Nat) : Int))), .int (iI (((hh : Nat) : Int))), .int (bI (true))]))) (m1 : w (g0 + 1) = some (.inl (ta 1, 600, .inl (fun z_ => iI (((stt) z_ : Nat) : Int))))) (m2 : w (g0 + 2) = some (.inl (ta 4, 2400, .inr (.inl (kys))))) (m3 : w (g0 + 3) = some (.inl (ta 1, 600, .inl (idx)))) (m15 : w (g0 + 15) = some (.inl (ta 4, 4, .inr (.inl (kyh))))) (hsb : ∀ j, j < 600 → stt j < 3) (hj : j < 600) (hkj : mmb stt idx ix kys kyh j 4 = true) (huq : ∀ i, i < 600 → mmb stt idx ix kys kyh i 4 = true → i = j) (hU : U ≤ 200) (hfu : cnt stt 2 600 = 2 * U) : fw_C l D vwCl (tyL ta) B yX6_spend cX6_spend 2 (some .int) ({ frames := 1, cells := 0, slots := 0, locals := 23 } : Room) [.ref (g0)] n w (fun r w1 n1 => r = some (.int (iI (((3 : Nat) : Int)))) ∧ w1 = w ∧ n1 = n) := by
  refine fw_enter (by decide) (Nat.le_of_ble_eq_true rfl) ?_
  intro p e s m below meth c hx hb hr hml hown hlocks hin hG hts hK H locs hP hS ls hl
  have hown : s.vm.findClass RX6 = some m.cls := hown
  replace hl : lv_has ls 2 [(0, .ref (g0))] := hl
  have lt_m0 := hP.lt m0
  have lt_m1 := hP.lt m1
  have lt_m2 := hP.lt m2
  have lt_m3 := hP.lt m3
  have lt_m15 := hP.lt m15
  refine lv_aload_n hx hb dX6_spend_0 rfl (lv_at hl 0 rfl) ?_
  refine fw_get (ci := 6) (fs := [.int (iI (((U : Nat) : Int))), .ref (g0 + 1), .ref (g0 + 2), .ref (g0 + 3), .ref (g0 + 4), .ref (g0 + 5), .ref (g0 + 6), .ref (g0 + 7), .ref (g0 + 8), .ref (g0 + 9), .ref (g0 + 10), .ref (g0 + 11), .ref (g0 + 12), .ref (g0 + 13), .ref (g0 + 14), .ref (g0 + 15), .int (ix), .ref (g0 + 16), .int (iI (((L : Nat) : Int))), .int (iI (((nd : Nat) : Int))), .ref (g0 + 17), .ref (g0 + 18), .ref (g0 + 19), .int (iI (((od : Nat) : Int))), .int (iI (((hh : Nat) : Int))), .int (bI (true))]) (k := 25) (v := .int (bI (true))) (C := RX6) (T := TX6) (N := 26) hx hb hts inFX6 hown hK hP m0 rfl (by decide) mFX6_86 rfl dX6_spend_1 ?_
  refine fn_bif_ne (x := true) (tgt := 9) hx hb dX6_spend_4 (by decide) (fun c1 => ?_) (fun c1 => False.elim (by cases c1))
  refine lv_aload_n hx hb dX6_spend_9 rfl (lv_at hl 0 rfl) ?_
  refine fw_callV (ci := 6) (fs := [.int (iI (((U : Nat) : Int))), .ref (g0 + 1), .ref (g0 + 2), .ref (g0 + 3), .ref (g0 + 4), .ref (g0 + 5), .ref (g0 + 6), .ref (g0 + 7), .ref (g0 + 8), .ref (g0 + 9), .ref (g0 + 10), .ref (g0 + 11), .ref (g0 + 12), .ref (g0 + 13), .ref (g0 + 14), .ref (g0 + 15), .int (ix), .ref (g0 + 16), .int (iI (((L : Nat) : Int))), .int (iI (((nd : Nat) : Int))), .ref (g0 + 17), .ref (g0 + 18), .ref (g0 + 19), .int (iI (((od : Nat) : Int))), .int (iI (((hh : Nat) : Int))), .int (bI (true))]) (T := TX6) (N := 26) (b := g0) (As := []) (rest := []) hx hb hml hown hts hK hG hP hS hl mM_X6_find mV_X6_find mLX6_97 (mm_find_hit l D ta B (n) (w) (g0) (U) ((ix)) (L) (nd) (od) (hh) (true) (stt) (kys) (idx) (kyh) (j) m0 m1 m2 m3 m15 hsb hj hkj huq) m0 rfl rfl rfl (Nat.le_of_ble_eq_true rfl) ⟨Nat.le_of_ble_eq_true rfl, Nat.le_of_ble_eq_true rfl⟩ ⟨Nat.le_of_ble_eq_true rfl, Nat.le_of_ble_eq_true rfl⟩ dX6_spend_10 (fun r w2 n1 H locs hq hP hS => ?_)
  obtain ⟨rfl, hw1, hn1⟩ := hq
  replace hw1 := hw1.symm; replace hn1 := hn1.symm; subst hw1; subst hn1
  refine W.eq (g2 := F0 m 13 ls [.int (iI (((j : Nat) : Int)))]) rfl ?_
  refine lv_istore_n (lv' := [(1, .int (iI (((j : Nat) : Int)))), (0, .ref (g0))]) hx hb dX6_spend_13 rfl hl (by decide) rfl (fun ls hl => ?_)
  refine lv_iload_n hx hb dX6_spend_14 rfl (lv_at hl 0 rfl) ?_
  refine fn_if_ge (x := ((j : Nat) : Int)) (tgt := 20) hx hb dX6_spend_15 (by decide) ⟨by omega, by omega⟩ (fun c3 => ?_) (fun c3 => False.elim (by omega))
  refine lv_aload_n hx hb dX6_spend_20 rfl (lv_at hl 1 rfl) ?_
  refine lv_iconst (v := (iI (((2 : Nat) : Int)))) hx hb dX6_spend_21 rfl ?_
  refine fw_callV (ci := 6) (fs := [.int (iI (((U : Nat) : Int))), .ref (g0 + 1), .ref (g0 + 2), .ref (g0 + 3), .ref (g0 + 4), .ref (g0 + 5), .ref (g0 + 6), .ref (g0 + 7), .ref (g0 + 8), .ref (g0 + 9), .ref (g0 + 10), .ref (g0 + 11), .ref (g0 + 12), .ref (g0 + 13), .ref (g0 + 14), .ref (g0 + 15), .int (ix), .ref (g0 + 16), .int (iI (((L : Nat) : Int))), .int (iI (((nd : Nat) : Int))), .ref (g0 + 17), .ref (g0 + 18), .ref (g0 + 19), .int (iI (((od : Nat) : Int))), .int (iI (((hh : Nat) : Int))), .int (bI (true))]) (T := TX6) (N := 26) (b := g0) (As := [.int (iI (((2 : Nat) : Int)))]) (rest := []) hx hb hml hown hts hK hG hP hS hl mM_X6_countOf mV_X6_countOf mLX6_100 (mm_countOf l D ta B (n) (w) (g0) (U) ((ix)) (L) (nd) (od) (hh) (true) (stt) (2) m0 m1 hsb (by decide)) m0 rfl rfl rfl (Nat.le_of_ble_eq_true rfl) ⟨Nat.le_of_ble_eq_true rfl, Nat.le_of_ble_eq_true rfl⟩ ⟨Nat.le_of_ble_eq_true rfl, Nat.le_of_ble_eq_true rfl⟩ dX6_spend_22 (fun r w4 n1 H locs hq hP hS => ?_)
  obtain ⟨rfl, hw1, hn1⟩ := hq
  replace hw1 := hw1.symm; replace hn1 := hn1.symm; subst hw1; subst hn1
  refine W.eq (g2 := F0 m 25 ls [.int (iI (((cnt stt 2 600 : Nat) : Int)))]) rfl ?_
  refine lv_iconst (v := (iI (((2 : Nat) : Int)))) hx hb dX6_spend_25 rfl ?_
  refine lv_aload_n hx hb dX6_spend_26 rfl (lv_at hl 1 rfl) ?_
  refine fw_get (ci := 6) (fs := [.int (iI (((U : Nat) : Int))), .ref (g0 + 1), .ref (g0 + 2), .ref (g0 + 3), .ref (g0 + 4), .ref (g0 + 5), .ref (g0 + 6), .ref (g0 + 7), .ref (g0 + 8), .ref (g0 + 9), .ref (g0 + 10), .ref (g0 + 11), .ref (g0 + 12), .ref (g0 + 13), .ref (g0 + 14), .ref (g0 + 15), .int (ix), .ref (g0 + 16), .int (iI (((L : Nat) : Int))), .int (iI (((nd : Nat) : Int))), .ref (g0 + 17), .ref (g0 + 18), .ref (g0 + 19), .int (iI (((od : Nat) : Int))), .int (iI (((hh : Nat) : Int))), .int (bI (true))]) (k := 0) (v := .int (iI (((U : Nat) : Int)))) (C := RX6) (T := TX6) (N := 26) hx hb hts inFX6 hown hK hP m0 rfl (by decide) mFX6_70 rfl dX6_spend_27 ?_
  refine fn_imul (x := ((2 : Nat) : Int)) (y := ((U : Nat) : Int)) hx hb dX6_spend_30 ?_
  refine fn_topz (y := (((2) * U : Nat) : Int)) (by omega) ?_
  have hcl := cnt_le stt 2 600
  refine fn_icmp_ne (x := ((cnt stt 2 600 : Nat) : Int)) (y := (((2) * U : Nat) : Int)) (tgt := 36) hx hb dX6_spend_31 (by decide) ⟨by omega, by omega⟩ ⟨by omega, by omega⟩ (fun c5 => False.elim (by omega)) (fun c5 => ?_)
  refine lv_iconst (v := (iI (((3 : Nat) : Int)))) hx hb dX6_spend_34 rfl ?_
  exact fw_iret hx hb hr hlocks hP hS dX6_spend_35 (Nat.le_of_ble_eq_true rfl) (Nat.le_of_ble_eq_true rfl) ⟨rfl, rfl, rfl⟩
set_option maxHeartbeats 4000000 in
set_option maxRecDepth 100000 in
theorem mm_spend_ok (l : Launch) (D : va_G) (ta : Nat → ClassId) (B n : Nat) (w : fw_W) (g0 : Nat) (U : Nat) (ix : Int32) (L : Nat) (nd : Nat) (od : Nat) (hh : Nat) (stt : Nat → Nat) (kys : Nat → Int64) (idx : Nat → Int32) (kyh : Nat → Int64) (cns : Nat → Nat) (kds : Nat → Nat) (bks : Nat → Nat) (j : Nat) (m0 : w (g0) = some (.inr (6, [.int (iI (((U : Nat) : Int))), .ref (g0 + 1), .ref (g0 + 2), .ref (g0 + 3), .ref (g0 + 4), .ref (g0 + 5), .ref (g0 + 6), .ref (g0 + 7), .ref (g0 + 8), .ref (g0 + 9), .ref (g0 + 10), .ref (g0 + 11), .ref (g0 + 12), .ref (g0 + 13), .ref (g0 + 14), .ref (g0 + 15), .int (ix), .ref (g0 + 16), .int (iI (((L : Nat) : Int))), .int (iI (((nd : Nat) : Int))), .ref (g0 + 17), .ref (g0 + 18), .ref (g0 + 19), .int (iI (((od : Nat) : Int))), .int (iI (((hh : Nat) : Int))), .int (bI (true))]))) (m1 : w (g0 + 1) = some (.inl (ta 1, 600, .inl (fun z_ => iI (((stt) z_ : Nat) : Int))))) (m2 : w (g0 + 2) = some (.inl (ta 4, 2400, .inr (.inl (kys))))) (m3 : w (g0 + 3) = some (.inl (ta 1, 600, .inl (idx)))) (m15 : w (g0 + 15) = some (.inl (ta 4, 4, .inr (.inl (kyh))))) (m17 : w (g0 + 17) = some (.inl (ta 1, 1200, .inl (fun z_ => iI (((cns) z_ : Nat) : Int))))) (m18 : w (g0 + 18) = some (.inl (ta 1, 1200, .inl (fun z_ => iI (((kds) z_ : Nat) : Int))))) (m19 : w (g0 + 19) = some (.inl (ta 1, 1200, .inl (fun z_ => iI (((bks) z_ : Nat) : Int))))) (hsb : ∀ j, j < 600 → stt j < 3) (hj : j < 600) (hkj : mmb stt idx ix kys kyh j 4 = true) (huq : ∀ i, i < 600 → mmb stt idx ix kys kyh i 4 = true → i = j) (hU : U ≤ 200) (hnf : ¬ cnt stt 2 600 = 2 * U) (hnd : nd < 1200) : fw_C l D vwCl (tyL ta) B yX6_spend cX6_spend 2 (some .int) ({ frames := 1, cells := 0, slots := 0, locals := 23 } : Room) [.ref (g0)] n w (fun r w1 n1 => r = some (.int (iI (((0 : Nat) : Int)))) ∧ w1 = fw_up (fw_up (fw_up (fw_up (fw_up (w) (g0 + 1) (.inl (ta 1, 600, .inl (fun z_ => iI (((gup (stt) (j) (2)) z_ : Nat) : Int))))) (g0 + 17) (.inl (ta 1, 1200, .inl (fun z_ => iI (((gup (cns) (nd) (j)) z_ : Nat) : Int))))) (g0 + 18) (.inl (ta 1, 1200, .inl (fun z_ => iI (((gup (kds) (nd) (2)) z_ : Nat) : Int))))) (g0 + 19) (.inl (ta 1, 1200, .inl (fun z_ => iI (((gup (bks) (nd) (hh)) z_ : Nat) : Int))))) (g0) (.inr (6, [.int (iI (((U : Nat) : Int))), .ref (g0 + 1), .ref (g0 + 2), .ref (g0 + 3), .ref (g0 + 4), .ref (g0 + 5), .ref (g0 + 6), .ref (g0 + 7), .ref (g0 + 8), .ref (g0 + 9), .ref (g0 + 10), .ref (g0 + 11), .ref (g0 + 12), .ref (g0 + 13), .ref (g0 + 14), .ref (g0 + 15), .int ((ix)), .ref (g0 + 16), .int (iI (((L : Nat) : Int))), .int (iI (((nd + 1 : Nat) : Int))), .ref (g0 + 17), .ref (g0 + 18), .ref (g0 + 19), .int (iI (((od : Nat) : Int))), .int (iI (((hh : Nat) : Int))), .int (bI (true))])) ∧ n1 = n) := by
  refine fw_enter (by decide) (Nat.le_of_ble_eq_true rfl) ?_
  intro p e s m below meth c hx hb hr hml hown hlocks hin hG hts hK H locs hP hS ls hl
  have hown : s.vm.findClass RX6 = some m.cls := hown
  replace hl : lv_has ls 2 [(0, .ref (g0))] := hl
  have lt_m0 := hP.lt m0
  have lt_m1 := hP.lt m1
  have lt_m2 := hP.lt m2
  have lt_m3 := hP.lt m3
  have lt_m15 := hP.lt m15
  have lt_m17 := hP.lt m17
  have lt_m18 := hP.lt m18
  have lt_m19 := hP.lt m19
  refine lv_aload_n hx hb dX6_spend_0 rfl (lv_at hl 0 rfl) ?_
  refine fw_get (ci := 6) (fs := [.int (iI (((U : Nat) : Int))), .ref (g0 + 1), .ref (g0 + 2), .ref (g0 + 3), .ref (g0 + 4), .ref (g0 + 5), .ref (g0 + 6), .ref (g0 + 7), .ref (g0 + 8), .ref (g0 + 9), .ref (g0 + 10), .ref (g0 + 11), .ref (g0 + 12), .ref (g0 + 13), .ref (g0 + 14), .ref (g0 + 15), .int (ix), .ref (g0 + 16), .int (iI (((L : Nat) : Int))), .int (iI (((nd : Nat) : Int))), .ref (g0 + 17), .ref (g0 + 18), .ref (g0 + 19), .int (iI (((od : Nat) : Int))), .int (iI (((hh : Nat) : Int))), .int (bI (true))]) (k := 25) (v := .int (bI (true))) (C := RX6) (T := TX6) (N := 26) hx hb hts inFX6 hown hK hP m0 rfl (by decide) mFX6_86 rfl dX6_spend_1 ?_
  refine fn_bif_ne (x := true) (tgt := 9) hx hb dX6_spend_4 (by decide) (fun c1 => ?_) (fun c1 => False.elim (by cases c1))
  refine lv_aload_n hx hb dX6_spend_9 rfl (lv_at hl 0 rfl) ?_
  refine fw_callV (ci := 6) (fs := [.int (iI (((U : Nat) : Int))), .ref (g0 + 1), .ref (g0 + 2), .ref (g0 + 3), .ref (g0 + 4), .ref (g0 + 5), .ref (g0 + 6), .ref (g0 + 7), .ref (g0 + 8), .ref (g0 + 9), .ref (g0 + 10), .ref (g0 + 11), .ref (g0 + 12), .ref (g0 + 13), .ref (g0 + 14), .ref (g0 + 15), .int (ix), .ref (g0 + 16), .int (iI (((L : Nat) : Int))), .int (iI (((nd : Nat) : Int))), .ref (g0 + 17), .ref (g0 + 18), .ref (g0 + 19), .int (iI (((od : Nat) : Int))), .int (iI (((hh : Nat) : Int))), .int (bI (true))]) (T := TX6) (N := 26) (b := g0) (As := []) (rest := []) hx hb hml hown hts hK hG hP hS hl mM_X6_find mV_X6_find mLX6_97 (mm_find_hit l D ta B (n) (w) (g0) (U) ((ix)) (L) (nd) (od) (hh) (true) (stt) (kys) (idx) (kyh) (j) m0 m1 m2 m3 m15 hsb hj hkj huq) m0 rfl rfl rfl (Nat.le_of_ble_eq_true rfl) ⟨Nat.le_of_ble_eq_true rfl, Nat.le_of_ble_eq_true rfl⟩ ⟨Nat.le_of_ble_eq_true rfl, Nat.le_of_ble_eq_true rfl⟩ dX6_spend_10 (fun r w2 n1 H locs hq hP hS => ?_)
  obtain ⟨rfl, hw1, hn1⟩ := hq
  replace hw1 := hw1.symm; replace hn1 := hn1.symm; subst hw1; subst hn1
  refine W.eq (g2 := F0 m 13 ls [.int (iI (((j : Nat) : Int)))]) rfl ?_
  refine lv_istore_n (lv' := [(1, .int (iI (((j : Nat) : Int)))), (0, .ref (g0))]) hx hb dX6_spend_13 rfl hl (by decide) rfl (fun ls hl => ?_)
  refine lv_iload_n hx hb dX6_spend_14 rfl (lv_at hl 0 rfl) ?_
  refine fn_if_ge (x := ((j : Nat) : Int)) (tgt := 20) hx hb dX6_spend_15 (by decide) ⟨by omega, by omega⟩ (fun c3 => ?_) (fun c3 => False.elim (by omega))
  refine lv_aload_n hx hb dX6_spend_20 rfl (lv_at hl 1 rfl) ?_
  refine lv_iconst (v := (iI (((2 : Nat) : Int)))) hx hb dX6_spend_21 rfl ?_
  refine fw_callV (ci := 6) (fs := [.int (iI (((U : Nat) : Int))), .ref (g0 + 1), .ref (g0 + 2), .ref (g0 + 3), .ref (g0 + 4), .ref (g0 + 5), .ref (g0 + 6), .ref (g0 + 7), .ref (g0 + 8), .ref (g0 + 9), .ref (g0 + 10), .ref (g0 + 11), .ref (g0 + 12), .ref (g0 + 13), .ref (g0 + 14), .ref (g0 + 15), .int (ix), .ref (g0 + 16), .int (iI (((L : Nat) : Int))), .int (iI (((nd : Nat) : Int))), .ref (g0 + 17), .ref (g0 + 18), .ref (g0 + 19), .int (iI (((od : Nat) : Int))), .int (iI (((hh : Nat) : Int))), .int (bI (true))]) (T := TX6) (N := 26) (b := g0) (As := [.int (iI (((2 : Nat) : Int)))]) (rest := []) hx hb hml hown hts hK hG hP hS hl mM_X6_countOf mV_X6_countOf mLX6_100 (mm_countOf l D ta B (n) (w) (g0) (U) ((ix)) (L) (nd) (od) (hh) (true) (stt) (2) m0 m1 hsb (by decide)) m0 rfl rfl rfl (Nat.le_of_ble_eq_true rfl) ⟨Nat.le_of_ble_eq_true rfl, Nat.le_of_ble_eq_true rfl⟩ ⟨Nat.le_of_ble_eq_true rfl, Nat.le_of_ble_eq_true rfl⟩ dX6_spend_22 (fun r w4 n1 H locs hq hP hS => ?_)
  obtain ⟨rfl, hw1, hn1⟩ := hq
  replace hw1 := hw1.symm; replace hn1 := hn1.symm; subst hw1; subst hn1
  refine W.eq (g2 := F0 m 25 ls [.int (iI (((cnt stt 2 600 : Nat) : Int)))]) rfl ?_
  refine lv_iconst (v := (iI (((2 : Nat) : Int)))) hx hb dX6_spend_25 rfl ?_
  refine lv_aload_n hx hb dX6_spend_26 rfl (lv_at hl 1 rfl) ?_
  refine fw_get (ci := 6) (fs := [.int (iI (((U : Nat) : Int))), .ref (g0 + 1), .ref (g0 + 2), .ref (g0 + 3), .ref (g0 + 4), .ref (g0 + 5), .ref (g0 + 6), .ref (g0 + 7), .ref (g0 + 8), .ref (g0 + 9), .ref (g0 + 10), .ref (g0 + 11), .ref (g0 + 12), .ref (g0 + 13), .ref (g0 + 14), .ref (g0 + 15), .int (ix), .ref (g0 + 16), .int (iI (((L : Nat) : Int))), .int (iI (((nd : Nat) : Int))), .ref (g0 + 17), .ref (g0 + 18), .ref (g0 + 19), .int (iI (((od : Nat) : Int))), .int (iI (((hh : Nat) : Int))), .int (bI (true))]) (k := 0) (v := .int (iI (((U : Nat) : Int)))) (C := RX6) (T := TX6) (N := 26) hx hb hts inFX6 hown hK hP m0 rfl (by decide) mFX6_70 rfl dX6_spend_27 ?_
  refine fn_imul (x := ((2 : Nat) : Int)) (y := ((U : Nat) : Int)) hx hb dX6_spend_30 ?_
  refine fn_topz (y := (((2) * U : Nat) : Int)) (by omega) ?_
  have hcl := cnt_le stt 2 600
  refine fn_icmp_ne (x := ((cnt stt 2 600 : Nat) : Int)) (y := (((2) * U : Nat) : Int)) (tgt := 36) hx hb dX6_spend_31 (by decide) ⟨by omega, by omega⟩ ⟨by omega, by omega⟩ (fun c5 => ?_) (fun c5 => False.elim (by omega))
  refine lv_aload_n hx hb dX6_spend_36 rfl (lv_at hl 1 rfl) ?_
  refine fw_get (ci := 6) (fs := [.int (iI (((U : Nat) : Int))), .ref (g0 + 1), .ref (g0 + 2), .ref (g0 + 3), .ref (g0 + 4), .ref (g0 + 5), .ref (g0 + 6), .ref (g0 + 7), .ref (g0 + 8), .ref (g0 + 9), .ref (g0 + 10), .ref (g0 + 11), .ref (g0 + 12), .ref (g0 + 13), .ref (g0 + 14), .ref (g0 + 15), .int (ix), .ref (g0 + 16), .int (iI (((L : Nat) : Int))), .int (iI (((nd : Nat) : Int))), .ref (g0 + 17), .ref (g0 + 18), .ref (g0 + 19), .int (iI (((od : Nat) : Int))), .int (iI (((hh : Nat) : Int))), .int (bI (true))]) (k := 1) (v := .ref (g0 + 1)) (C := RX6) (T := TX6) (N := 26) hx hb hts inFX6 hown hK hP m0 rfl (by decide) mFX6_7 rfl dX6_spend_37 ?_
  refine lv_iload_n hx hb dX6_spend_40 rfl (lv_at hl 0 rfl) ?_
  refine lv_iconst (v := (iI (((2 : Nat) : Int)))) hx hb dX6_spend_41 rfl ?_
  refine fn_iastN (g := stt) (x := 2) (k := j) hx hb hK hP hS 1 m1 rfl (by omega) (by omega) dX6_spend_42 (fun H locs hP hS => ?_)
  have hP : fw_P D vwCl B (n) (fw_up (w) (g0 + 1) (.inl (ta 1, 600, .inl (fun z_ => iI (((gup (stt) (j) (2)) z_ : Nat) : Int))))) H := hP
  refine lv_aload_n hx hb dX6_spend_43 rfl (lv_at hl 1 rfl) ?_
  refine lv_iload_n hx hb dX6_spend_44 rfl (lv_at hl 0 rfl) ?_
  refine lv_iconst (v := (iI (((2 : Nat) : Int)))) hx hb dX6_spend_45 rfl ?_
  refine fw_callV (ci := 6) (fs := [.int (iI (((U : Nat) : Int))), .ref (g0 + 1), .ref (g0 + 2), .ref (g0 + 3), .ref (g0 + 4), .ref (g0 + 5), .ref (g0 + 6), .ref (g0 + 7), .ref (g0 + 8), .ref (g0 + 9), .ref (g0 + 10), .ref (g0 + 11), .ref (g0 + 12), .ref (g0 + 13), .ref (g0 + 14), .ref (g0 + 15), .int (ix), .ref (g0 + 16), .int (iI (((L : Nat) : Int))), .int (iI (((nd : Nat) : Int))), .ref (g0 + 17), .ref (g0 + 18), .ref (g0 + 19), .int (iI (((od : Nat) : Int))), .int (iI (((hh : Nat) : Int))), .int (bI (true))]) (T := TX6) (N := 26) (b := g0) (As := [.int (iI (((j : Nat) : Int))), .int (iI (((2 : Nat) : Int)))]) (rest := []) hx hb hml hown hts hK hG hP hS hl mM_X6_note mV_X6_note mLX6_108 (mm_note l D ta B (n) (fw_up (w) (g0 + 1) (.inl (ta 1, 600, .inl (fun z_ => iI (((gup (stt) (j) (2)) z_ : Nat) : Int))))) (g0) (U) ((ix)) (L) (nd) (od) (hh) (true) (cns) (kds) (bks) (j) (2) (fw_at (by omega) m0) (fw_at (by omega) m17) (fw_at (by omega) m18) (fw_at (by omega) m19) (by omega)) (fw_at (by omega) m0) rfl rfl rfl (Nat.le_of_ble_eq_true rfl) ⟨Nat.le_of_ble_eq_true rfl, Nat.le_of_ble_eq_true rfl⟩ ⟨Nat.le_of_ble_eq_true rfl, Nat.le_of_ble_eq_true rfl⟩ dX6_spend_46 (fun r w6 n1 H locs hq hP hS => ?_)
  obtain ⟨rfl, hw1, hn1⟩ := hq
  replace hw1 := hw1.symm; replace hn1 := hn1.symm; subst hw1; subst hn1
  refine W.eq (g2 := F0 m 49 ls []) rfl ?_
  have hP : fw_P D vwCl B (n) (fw_up (fw_up (fw_up (fw_up (fw_up (w) (g0 + 1) (.inl (ta 1, 600, .inl (fun z_ => iI (((gup (stt) (j) (2)) z_ : Nat) : Int))))) (g0 + 17) (.inl (ta 1, 1200, .inl (fun z_ => iI (((gup (cns) (nd) (j)) z_ : Nat) : Int))))) (g0 + 18) (.inl (ta 1, 1200, .inl (fun z_ => iI (((gup (kds) (nd) (2)) z_ : Nat) : Int))))) (g0 + 19) (.inl (ta 1, 1200, .inl (fun z_ => iI (((gup (bks) (nd) (hh)) z_ : Nat) : Int))))) (g0) (.inr (6, [.int (iI (((U : Nat) : Int))), .ref (g0 + 1), .ref (g0 + 2), .ref (g0 + 3), .ref (g0 + 4), .ref (g0 + 5), .ref (g0 + 6), .ref (g0 + 7), .ref (g0 + 8), .ref (g0 + 9), .ref (g0 + 10), .ref (g0 + 11), .ref (g0 + 12), .ref (g0 + 13), .ref (g0 + 14), .ref (g0 + 15), .int ((ix)), .ref (g0 + 16), .int (iI (((L : Nat) : Int))), .int (iI (((nd + 1 : Nat) : Int))), .ref (g0 + 17), .ref (g0 + 18), .ref (g0 + 19), .int (iI (((od : Nat) : Int))), .int (iI (((hh : Nat) : Int))), .int (bI (true))]))) H := hP
  refine lv_iconst (v := (iI (((0 : Nat) : Int)))) hx hb dX6_spend_49 rfl ?_
  exact fw_iret hx hb hr hlocks hP hS dX6_spend_50 (Nat.le_of_ble_eq_true rfl) (Nat.le_of_ble_eq_true rfl) ⟨rfl, rfl, rfl⟩
set_option maxHeartbeats 4000000 in
set_option maxRecDepth 100000 in
theorem mm_end_closed (l : Launch) (D : va_G) (ta : Nat → ClassId) (B n : Nat) (w : fw_W) (g0 : Nat) (U : Nat) (ix : Int32) (L : Nat) (nd : Nat) (od : Nat) (hh : Nat) (m0 : w (g0) = some (.inr (6, [.int (iI (((U : Nat) : Int))), .ref (g0 + 1), .ref (g0 + 2), .ref (g0 + 3), .ref (g0 + 4), .ref (g0 + 5), .ref (g0 + 6), .ref (g0 + 7), .ref (g0 + 8), .ref (g0 + 9), .ref (g0 + 10), .ref (g0 + 11), .ref (g0 + 12), .ref (g0 + 13), .ref (g0 + 14), .ref (g0 + 15), .int (ix), .ref (g0 + 16), .int (iI (((L : Nat) : Int))), .int (iI (((nd : Nat) : Int))), .ref (g0 + 17), .ref (g0 + 18), .ref (g0 + 19), .int (iI (((od : Nat) : Int))), .int (iI (((hh : Nat) : Int))), .int (bI (false))])))  : fw_C l D vwCl (tyL ta) B yX6_end cX6_end 3 (some .int) ({ frames := 0, cells := 0, slots := 0, locals := 0 } : Room) [.ref (g0)] n w (fun r w1 n1 => r = some (.int (iI ((-1)))) ∧ w1 = w ∧ n1 = n) := by
  refine fw_enter (by decide) (Nat.le_of_ble_eq_true rfl) ?_
  intro p e s m below meth c hx hb hr hml hown hlocks hin hG hts hK H locs hP hS ls hl
  have hown : s.vm.findClass RX6 = some m.cls := hown
  replace hl : lv_has ls 3 [(0, .ref (g0))] := hl
  have lt_m0 := hP.lt m0
  refine lv_aload_n hx hb dX6_end_0 rfl (lv_at hl 0 rfl) ?_
  refine fw_get (ci := 6) (fs := [.int (iI (((U : Nat) : Int))), .ref (g0 + 1), .ref (g0 + 2), .ref (g0 + 3), .ref (g0 + 4), .ref (g0 + 5), .ref (g0 + 6), .ref (g0 + 7), .ref (g0 + 8), .ref (g0 + 9), .ref (g0 + 10), .ref (g0 + 11), .ref (g0 + 12), .ref (g0 + 13), .ref (g0 + 14), .ref (g0 + 15), .int (ix), .ref (g0 + 16), .int (iI (((L : Nat) : Int))), .int (iI (((nd : Nat) : Int))), .ref (g0 + 17), .ref (g0 + 18), .ref (g0 + 19), .int (iI (((od : Nat) : Int))), .int (iI (((hh : Nat) : Int))), .int (bI (false))]) (k := 25) (v := .int (bI (false))) (C := RX6) (T := TX6) (N := 26) hx hb hts inFX6 hown hK hP m0 rfl (by decide) mFX6_86 rfl dX6_end_1 ?_
  refine fn_bif_ne (x := false) (tgt := 9) hx hb dX6_end_4 (by decide) (fun c1 => False.elim (by cases c1)) (fun c1 => ?_)
  refine lv_iconst (v := (iI ((-1)))) hx hb dX6_end_7 rfl ?_
  exact fw_iret hx hb hr hlocks hP hS dX6_end_8 (Nat.le_of_ble_eq_true rfl) (Nat.le_of_ble_eq_true rfl) ⟨rfl, rfl, rfl⟩
set_option maxHeartbeats 4000000 in
set_option maxRecDepth 100000 in
theorem mm_end_ok (l : Launch) (D : va_G) (ta : Nat → ClassId) (B n : Nat) (w : fw_W) (g0 : Nat) (U : Nat) (ix : Int32) (L : Nat) (nd : Nat) (od : Nat) (hh : Nat) (bks : Nat → Nat) (m0 : w (g0) = some (.inr (6, [.int (iI (((U : Nat) : Int))), .ref (g0 + 1), .ref (g0 + 2), .ref (g0 + 3), .ref (g0 + 4), .ref (g0 + 5), .ref (g0 + 6), .ref (g0 + 7), .ref (g0 + 8), .ref (g0 + 9), .ref (g0 + 10), .ref (g0 + 11), .ref (g0 + 12), .ref (g0 + 13), .ref (g0 + 14), .ref (g0 + 15), .int (ix), .ref (g0 + 16), .int (iI (((L : Nat) : Int))), .int (iI (((nd : Nat) : Int))), .ref (g0 + 17), .ref (g0 + 18), .ref (g0 + 19), .int (iI (((od : Nat) : Int))), .int (iI (((hh : Nat) : Int))), .int (bI (true))]))) (m19 : w (g0 + 19) = some (.inl (ta 1, 1200, .inl (fun z_ => iI (((bks) z_ : Nat) : Int))))) (hnd : nd < 1200) (hb2 : hh < 100000) (hbb : ∀ j, j < nd → bks j < 100000) : fw_C l D vwCl (tyL ta) B yX6_end cX6_end 3 (some .int) ({ frames := 0, cells := 0, slots := 0, locals := 0 } : Room) [.ref (g0)] n w (fun r w1 n1 => r = some (.int (iI (((cnt bks hh nd : Nat) : Int)))) ∧ w1 = fw_up (w) (g0) (.inr (6, [.int (iI (((U : Nat) : Int))), .ref (g0 + 1), .ref (g0 + 2), .ref (g0 + 3), .ref (g0 + 4), .ref (g0 + 5), .ref (g0 + 6), .ref (g0 + 7), .ref (g0 + 8), .ref (g0 + 9), .ref (g0 + 10), .ref (g0 + 11), .ref (g0 + 12), .ref (g0 + 13), .ref (g0 + 14), .ref (g0 + 15), .int (ix), .ref (g0 + 16), .int (iI (((L : Nat) : Int))), .int (iI (((nd : Nat) : Int))), .ref (g0 + 17), .ref (g0 + 18), .ref (g0 + 19), .int (iI (((od : Nat) : Int))), .int (iI (((hh + 1 : Nat) : Int))), .int (bI (false))])) ∧ n1 = n) := by
  refine fw_enter (by decide) (Nat.le_of_ble_eq_true rfl) ?_
  intro p e s m below meth c hx hb hr hml hown hlocks hin hG hts hK H locs hP hS ls hl
  have hown : s.vm.findClass RX6 = some m.cls := hown
  replace hl : lv_has ls 3 [(0, .ref (g0))] := hl
  have lt_m0 := hP.lt m0
  have lt_m19 := hP.lt m19
  refine lv_aload_n hx hb dX6_end_0 rfl (lv_at hl 0 rfl) ?_
  refine fw_get (ci := 6) (fs := [.int (iI (((U : Nat) : Int))), .ref (g0 + 1), .ref (g0 + 2), .ref (g0 + 3), .ref (g0 + 4), .ref (g0 + 5), .ref (g0 + 6), .ref (g0 + 7), .ref (g0 + 8), .ref (g0 + 9), .ref (g0 + 10), .ref (g0 + 11), .ref (g0 + 12), .ref (g0 + 13), .ref (g0 + 14), .ref (g0 + 15), .int (ix), .ref (g0 + 16), .int (iI (((L : Nat) : Int))), .int (iI (((nd : Nat) : Int))), .ref (g0 + 17), .ref (g0 + 18), .ref (g0 + 19), .int (iI (((od : Nat) : Int))), .int (iI (((hh : Nat) : Int))), .int (bI (true))]) (k := 25) (v := .int (bI (true))) (C := RX6) (T := TX6) (N := 26) hx hb hts inFX6 hown hK hP m0 rfl (by decide) mFX6_86 rfl dX6_end_1 ?_
  refine fn_bif_ne (x := true) (tgt := 9) hx hb dX6_end_4 (by decide) (fun c1 => ?_) (fun c1 => False.elim (by cases c1))
  refine lv_iconst (v := (iI (((0 : Nat) : Int)))) hx hb dX6_end_9 rfl ?_
  refine lv_istore_n (lv' := [(1, .int (iI (((0 : Nat) : Int)))), (0, .ref (g0))]) hx hb dX6_end_10 rfl hl (by decide) rfl (fun ls hl => ?_)
  refine lv_iconst (v := (iI (((0 : Nat) : Int)))) hx hb dX6_end_11 rfl ?_
  refine lv_istore_n (lv' := [(2, .int (iI (((0 : Nat) : Int)))), (1, .int (iI (((0 : Nat) : Int)))), (0, .ref (g0))]) hx hb dX6_end_12 rfl hl (by decide) rfl (fun ls hl => ?_)
  have lp2 : ∀ (i : Nat)  (H : Heap) (locs : List Loc) (ls : Array Slot), i ≤ nd → lv_has ls 3 [(2, .int (iI (((i : Nat) : Int)))), (1, .int (iI (((cnt bks hh i : Nat) : Int)))), (0, .ref (g0))] → fw_P D vwCl B (n) (w) H → fw_S B s.heap H locs → fw_K p l e ({ frames := 0, cells := 0, slots := 0, locals := 0 } : Room) s m [.ref (g0)] below meth c D vwCl B (fun r w1 n1 => r = some (.int (iI (((cnt bks hh nd : Nat) : Int)))) ∧ w1 = fw_up (w) (g0) (.inr (6, [.int (iI (((U : Nat) : Int))), .ref (g0 + 1), .ref (g0 + 2), .ref (g0 + 3), .ref (g0 + 4), .ref (g0 + 5), .ref (g0 + 6), .ref (g0 + 7), .ref (g0 + 8), .ref (g0 + 9), .ref (g0 + 10), .ref (g0 + 11), .ref (g0 + 12), .ref (g0 + 13), .ref (g0 + 14), .ref (g0 + 15), .int (ix), .ref (g0 + 16), .int (iI (((L : Nat) : Int))), .int (iI (((nd : Nat) : Int))), .ref (g0 + 17), .ref (g0 + 18), .ref (g0 + 19), .int (iI (((od : Nat) : Int))), .int (iI (((hh + 1 : Nat) : Int))), .int (bI (false))])) ∧ n1 = n) H locs (0) (0) (F0 m 13 ls []) := by
    refine fw_loop (fun i : Nat => nd - i) ?_
    intro i ih13  H locs ls hi hl hP hS
    refine lv_iload_n hx hb dX6_end_13 rfl (lv_at hl 0 rfl) ?_
    refine lv_aload_n hx hb dX6_end_14 rfl (lv_at hl 2 rfl) ?_
    refine fw_get (ci := 6) (fs := [.int (iI (((U : Nat) : Int))), .ref (g0 + 1), .ref (g0 + 2), .ref (g0 + 3), .ref (g0 + 4), .ref (g0 + 5), .ref (g0 + 6), .ref (g0 + 7), .ref (g0 + 8), .ref (g0 + 9), .ref (g0 + 10), .ref (g0 + 11), .ref (g0 + 12), .ref (g0 + 13), .ref (g0 + 14), .ref (g0 + 15), .int (ix), .ref (g0 + 16), .int (iI (((L : Nat) : Int))), .int (iI (((nd : Nat) : Int))), .ref (g0 + 17), .ref (g0 + 18), .ref (g0 + 19), .int (iI (((od : Nat) : Int))), .int (iI (((hh : Nat) : Int))), .int (bI (true))]) (k := 19) (v := .int (iI (((nd : Nat) : Int)))) (C := RX6) (T := TX6) (N := 26) hx hb hts inFX6 hown hK hP m0 rfl (by decide) mFX6_94 rfl dX6_end_15 ?_
    refine fn_icmp_ge (x := ((i : Nat) : Int)) (y := ((nd : Nat) : Int)) (tgt := 48) hx hb dX6_end_18 (by decide) ⟨by omega, by omega⟩ ⟨by omega, by omega⟩ (fun c3 => ?_) (fun c3 => ?_)
    · refine lv_aload_n hx hb dX6_end_48 rfl (lv_at hl 2 rfl) ?_
      refine lv_iconst (v := (iI (((0 : Nat) : Int)))) hx hb dX6_end_49 rfl ?_
      refine fw_put (ci := 6) (fs := [.int (iI (((U : Nat) : Int))), .ref (g0 + 1), .ref (g0 + 2), .ref (g0 + 3), .ref (g0 + 4), .ref (g0 + 5), .ref (g0 + 6), .ref (g0 + 7), .ref (g0 + 8), .ref (g0 + 9), .ref (g0 + 10), .ref (g0 + 11), .ref (g0 + 12), .ref (g0 + 13), .ref (g0 + 14), .ref (g0 + 15), .int (ix), .ref (g0 + 16), .int (iI (((L : Nat) : Int))), .int (iI (((nd : Nat) : Int))), .ref (g0 + 17), .ref (g0 + 18), .ref (g0 + 19), .int (iI (((od : Nat) : Int))), .int (iI (((hh : Nat) : Int))), .int (bI (true))]) (k := 25) (v := .int (bI (false))) (C := RX6) (T := TX6) (N := 26) hx hb hts inFX6 tyX6 tyX6_ok nmX6 hown hK hP hS m0 rfl (by decide) mFX6_86 rfl rfl (bI_narrow _) (bI_fits _) (Nat.le_of_ble_eq_true rfl) dX6_end_50 (fun H locs hP hS => ?_)
      have hP : fw_P D vwCl B (n) (fw_up (w) (g0) (.inr (6, [.int (iI (((U : Nat) : Int))), .ref (g0 + 1), .ref (g0 + 2), .ref (g0 + 3), .ref (g0 + 4), .ref (g0 + 5), .ref (g0 + 6), .ref (g0 + 7), .ref (g0 + 8), .ref (g0 + 9), .ref (g0 + 10), .ref (g0 + 11), .ref (g0 + 12), .ref (g0 + 13), .ref (g0 + 14), .ref (g0 + 15), .int (ix), .ref (g0 + 16), .int (iI (((L : Nat) : Int))), .int (iI (((nd : Nat) : Int))), .ref (g0 + 17), .ref (g0 + 18), .ref (g0 + 19), .int (iI (((od : Nat) : Int))), .int (iI (((hh : Nat) : Int))), .int (bI (false))]))) H := hP
      refine lv_aload_n hx hb dX6_end_53 rfl (lv_at hl 2 rfl) ?_
      refine lv_aload_n hx hb dX6_end_54 rfl (lv_at hl 2 rfl) ?_
      refine fw_get (ci := 6) (fs := [.int (iI (((U : Nat) : Int))), .ref (g0 + 1), .ref (g0 + 2), .ref (g0 + 3), .ref (g0 + 4), .ref (g0 + 5), .ref (g0 + 6), .ref (g0 + 7), .ref (g0 + 8), .ref (g0 + 9), .ref (g0 + 10), .ref (g0 + 11), .ref (g0 + 12), .ref (g0 + 13), .ref (g0 + 14), .ref (g0 + 15), .int (ix), .ref (g0 + 16), .int (iI (((L : Nat) : Int))), .int (iI (((nd : Nat) : Int))), .ref (g0 + 17), .ref (g0 + 18), .ref (g0 + 19), .int (iI (((od : Nat) : Int))), .int (iI (((hh : Nat) : Int))), .int (bI (false))]) (k := 24) (v := .int (iI (((hh : Nat) : Int)))) (C := RX6) (T := TX6) (N := 26) hx hb hts inFX6 hown hK hP (fw_same _ _ _) rfl (by decide) mFX6_80 rfl dX6_end_55 ?_
      refine lv_iconst (v := (iI (((1 : Nat) : Int)))) hx hb dX6_end_58 rfl ?_
      refine fn_iadd (x := ((hh : Nat) : Int)) (y := ((1 : Nat) : Int)) hx hb dX6_end_59 ?_
      refine fn_topz (y := ((hh + 1 : Nat) : Int)) (by omega) ?_
      refine fw_put (ci := 6) (fs := [.int (iI (((U : Nat) : Int))), .ref (g0 + 1), .ref (g0 + 2), .ref (g0 + 3), .ref (g0 + 4), .ref (g0 + 5), .ref (g0 + 6), .ref (g0 + 7), .ref (g0 + 8), .ref (g0 + 9), .ref (g0 + 10), .ref (g0 + 11), .ref (g0 + 12), .ref (g0 + 13), .ref (g0 + 14), .ref (g0 + 15), .int (ix), .ref (g0 + 16), .int (iI (((L : Nat) : Int))), .int (iI (((nd : Nat) : Int))), .ref (g0 + 17), .ref (g0 + 18), .ref (g0 + 19), .int (iI (((od : Nat) : Int))), .int (iI (((hh : Nat) : Int))), .int (bI (false))]) (k := 24) (v := .int (iI (((hh + 1 : Nat) : Int)))) (C := RX6) (T := TX6) (N := 26) hx hb hts inFX6 tyX6 tyX6_ok nmX6 hown hK hP hS (fw_same _ _ _) rfl (by decide) mFX6_80 rfl rfl rfl rfl (Nat.le_of_ble_eq_true rfl) dX6_end_60 (fun H locs hP hS => ?_)
      have hP : fw_P D vwCl B (n) (fw_up (w) (g0) (.inr (6, [.int (iI (((U : Nat) : Int))), .ref (g0 + 1), .ref (g0 + 2), .ref (g0 + 3), .ref (g0 + 4), .ref (g0 + 5), .ref (g0 + 6), .ref (g0 + 7), .ref (g0 + 8), .ref (g0 + 9), .ref (g0 + 10), .ref (g0 + 11), .ref (g0 + 12), .ref (g0 + 13), .ref (g0 + 14), .ref (g0 + 15), .int (ix), .ref (g0 + 16), .int (iI (((L : Nat) : Int))), .int (iI (((nd : Nat) : Int))), .ref (g0 + 17), .ref (g0 + 18), .ref (g0 + 19), .int (iI (((od : Nat) : Int))), .int (iI (((hh + 1 : Nat) : Int))), .int (bI (false))]))) H := fw_P.eqw (fw_twice _ _ _ _) hP
      refine lv_iload_n hx hb dX6_end_63 rfl (lv_at hl 1 rfl) ?_
      exact fw_iret hx hb hr hlocks hP hS dX6_end_64 (Nat.le_of_ble_eq_true rfl) (Nat.le_of_ble_eq_true rfl) (by
        obtain rfl : i = nd := by omega
        exact ⟨rfl, rfl, rfl⟩)
    · refine lv_iload_n hx hb dX6_end_21 rfl (lv_at hl 1 rfl) ?_
      refine lv_aload_n hx hb dX6_end_22 rfl (lv_at hl 2 rfl) ?_
      refine fw_get (ci := 6) (fs := [.int (iI (((U : Nat) : Int))), .ref (g0 + 1), .ref (g0 + 2), .ref (g0 + 3), .ref (g0 + 4), .ref (g0 + 5), .ref (g0 + 6), .ref (g0 + 7), .ref (g0 + 8), .ref (g0 + 9), .ref (g0 + 10), .ref (g0 + 11), .ref (g0 + 12), .ref (g0 + 13), .ref (g0 + 14), .ref (g0 + 15), .int (ix), .ref (g0 + 16), .int (iI (((L : Nat) : Int))), .int (iI (((nd : Nat) : Int))), .ref (g0 + 17), .ref (g0 + 18), .ref (g0 + 19), .int (iI (((od : Nat) : Int))), .int (iI (((hh : Nat) : Int))), .int (bI (true))]) (k := 22) (v := .ref (g0 + 19)) (C := RX6) (T := TX6) (N := 26) hx hb hts inFX6 hown hK hP m0 rfl (by decide) mFX6_67 rfl dX6_end_23 ?_
      refine lv_iload_n hx hb dX6_end_26 rfl (lv_at hl 0 rfl) ?_
      refine fn_ialdN (g := bks) (k := i) hx hb hK hP 1 m19 rfl (by omega) (by omega) dX6_end_27 ?_
      refine lv_aload_n hx hb dX6_end_28 rfl (lv_at hl 2 rfl) ?_
      refine fw_get (ci := 6) (fs := [.int (iI (((U : Nat) : Int))), .ref (g0 + 1), .ref (g0 + 2), .ref (g0 + 3), .ref (g0 + 4), .ref (g0 + 5), .ref (g0 + 6), .ref (g0 + 7), .ref (g0 + 8), .ref (g0 + 9), .ref (g0 + 10), .ref (g0 + 11), .ref (g0 + 12), .ref (g0 + 13), .ref (g0 + 14), .ref (g0 + 15), .int (ix), .ref (g0 + 16), .int (iI (((L : Nat) : Int))), .int (iI (((nd : Nat) : Int))), .ref (g0 + 17), .ref (g0 + 18), .ref (g0 + 19), .int (iI (((od : Nat) : Int))), .int (iI (((hh : Nat) : Int))), .int (bI (true))]) (k := 24) (v := .int (iI (((hh : Nat) : Int)))) (C := RX6) (T := TX6) (N := 26) hx hb hts inFX6 hown hK hP m0 rfl (by decide) mFX6_80 rfl dX6_end_29 ?_
      have hbi := hbb i (by omega)
      have hcn := cnt_le bks hh i
      refine fn_icmp_ne (x := ((bks i : Nat) : Int)) (y := ((hh : Nat) : Int)) (tgt := 39) hx hb dX6_end_32 (by decide) ⟨by omega, by omega⟩ ⟨by omega, by omega⟩ (fun c4 => ?_) (fun c4 => ?_)
      · refine lv_iconst (v := (iI (((0 : Nat) : Int)))) hx hb dX6_end_39 rfl ?_
        refine fn_iadd (x := ((cnt bks hh i : Nat) : Int)) (y := ((0 : Nat) : Int)) hx hb dX6_end_40 ?_
        refine fn_topz (y := ((cnt bks hh i + 0 : Nat) : Int)) (by omega) ?_
        refine lv_istore_n (lv' := [(1, .int (iI (((cnt bks hh i + 0 : Nat) : Int)))), (2, .int (iI (((i : Nat) : Int)))), (0, .ref (g0))]) hx hb dX6_end_41 rfl hl (by decide) rfl (fun ls hl => ?_)
        refine lv_iinc (k := 1) (v := (iI (((i + 1 : Nat) : Int)))) (lv' := [(2, .int (iI (((i + 1 : Nat) : Int)))), (1, .int (iI (((cnt bks hh i + 0 : Nat) : Int)))), (0, .ref (g0))]) hx hb dX6_end_42 hl rfl (iI_inc _ 1) (by decide) rfl (fun ls hl => ?_)
        refine lv_goto (tgt := 13) hx hb dX6_end_45 (by decide) ?_
        replace hl : lv_has ls 3 [(2, .int (iI (((i + 1 : Nat) : Int)))), (1, .int (iI (((cnt bks hh (i + 1) : Nat) : Int)))), (0, .ref (g0))] := by
          refine ⟨hl.1, hl.2.1, fun q hq => hl.2.2 q ?_⟩
          rw [(show ((cnt bks hh i + 0 : Nat) : Int) = ((cnt bks hh (i + 1) : Nat) : Int) from (by rw [cnt_F (f := bks) (v := hh) (i := i) (by omega)]))]
          simp only [List.mem_cons, List.not_mem_nil, or_false] at hq
          rcases hq with rfl | rfl | rfl
          · exact List.mem_of_getElem? (i := 0) rfl
          · exact List.mem_of_getElem? (i := 1) rfl
          · exact List.mem_of_getElem? (i := 2) rfl
        exact ih13 (i + 1) (by omega)  H locs ls (by omega) hl hP hS
      · refine lv_iconst (v := (iI (((1 : Nat) : Int)))) hx hb dX6_end_35 rfl ?_
        refine lv_goto (tgt := 40) hx hb dX6_end_36 (by decide) ?_
        refine fn_iadd (x := ((cnt bks hh i : Nat) : Int)) (y := ((1 : Nat) : Int)) hx hb dX6_end_40 ?_
        refine fn_topz (y := ((cnt bks hh i + 1 : Nat) : Int)) (by omega) ?_
        refine lv_istore_n (lv' := [(1, .int (iI (((cnt bks hh i + 1 : Nat) : Int)))), (2, .int (iI (((i : Nat) : Int)))), (0, .ref (g0))]) hx hb dX6_end_41 rfl hl (by decide) rfl (fun ls hl => ?_)
        refine lv_iinc (k := 1) (v := (iI (((i + 1 : Nat) : Int)))) (lv' := [(2, .int (iI (((i + 1 : Nat) : Int)))), (1, .int (iI (((cnt bks hh i + 1 : Nat) : Int)))), (0, .ref (g0))]) hx hb dX6_end_42 hl rfl (iI_inc _ 1) (by decide) rfl (fun ls hl => ?_)
        refine lv_goto (tgt := 13) hx hb dX6_end_45 (by decide) ?_
        replace hl : lv_has ls 3 [(2, .int (iI (((i + 1 : Nat) : Int)))), (1, .int (iI (((cnt bks hh (i + 1) : Nat) : Int)))), (0, .ref (g0))] := by
          refine ⟨hl.1, hl.2.1, fun q hq => hl.2.2 q ?_⟩
          rw [(show ((cnt bks hh i + 1 : Nat) : Int) = ((cnt bks hh (i + 1) : Nat) : Int) from (by rw [cnt_T (f := bks) (v := hh) (i := i) (by omega)]))]
          simp only [List.mem_cons, List.not_mem_nil, or_false] at hq
          rcases hq with rfl | rfl | rfl
          · exact List.mem_of_getElem? (i := 0) rfl
          · exact List.mem_of_getElem? (i := 1) rfl
          · exact List.mem_of_getElem? (i := 2) rfl
        exact ih13 (i + 1) (by omega)  H locs ls (by omega) hl hP hS
  replace hl : lv_has ls 3 [(2, .int (iI (((0 : Nat) : Int)))), (1, .int (iI (((cnt bks hh 0 : Nat) : Int)))), (0, .ref (g0))] := by
    refine ⟨hl.1, hl.2.1, fun q hq => hl.2.2 q ?_⟩
    simp only [List.mem_cons, List.not_mem_nil, or_false] at hq
    rcases hq with rfl | rfl | rfl
    · exact List.mem_of_getElem? (i := 0) rfl
    · exact List.mem_of_getElem? (i := 1) rfl
    · exact List.mem_of_getElem? (i := 2) rfl
  exact lp2 (0) H locs ls (by omega) hl hP hS
set_option maxHeartbeats 4000000 in
set_option maxRecDepth 100000 in
theorem mm_back_none (l : Launch) (D : va_G) (ta : Nat → ClassId) (B n : Nat) (w : fw_W) (g0 : Nat) (U : Nat) (ix : Int32) (L : Nat) (nd : Nat) (od : Nat) (hh : Nat) (m0 : w (g0) = some (.inr (6, [.int (iI (((U : Nat) : Int))), .ref (g0 + 1), .ref (g0 + 2), .ref (g0 + 3), .ref (g0 + 4), .ref (g0 + 5), .ref (g0 + 6), .ref (g0 + 7), .ref (g0 + 8), .ref (g0 + 9), .ref (g0 + 10), .ref (g0 + 11), .ref (g0 + 12), .ref (g0 + 13), .ref (g0 + 14), .ref (g0 + 15), .int (ix), .ref (g0 + 16), .int (iI (((L : Nat) : Int))), .int (iI (((nd : Nat) : Int))), .ref (g0 + 17), .ref (g0 + 18), .ref (g0 + 19), .int (iI (((od : Nat) : Int))), .int (iI (((hh : Nat) : Int))), .int (bI (false))]))) (ho : od ≤ hh) (h0 : hh = od) : fw_C l D vwCl (tyL ta) B yX6_back cX6_back 2 (some .int) ({ frames := 1, cells := 0, slots := 0, locals := 20 } : Room) [.ref (g0)] n w (fun r w1 n1 => r = some (.int (iI ((-1)))) ∧ w1 = w ∧ n1 = n) := by
  refine fw_enter (by decide) (Nat.le_of_ble_eq_true rfl) ?_
  intro p e s m below meth c hx hb hr hml hown hlocks hin hG hts hK H locs hP hS ls hl
  have hown : s.vm.findClass RX6 = some m.cls := hown
  replace hl : lv_has ls 2 [(0, .ref (g0))] := hl
  have lt_m0 := hP.lt m0
  refine lv_aload_n hx hb dX6_back_0 rfl (lv_at hl 0 rfl) ?_
  refine fw_callV (ci := 6) (fs := [.int (iI (((U : Nat) : Int))), .ref (g0 + 1), .ref (g0 + 2), .ref (g0 + 3), .ref (g0 + 4), .ref (g0 + 5), .ref (g0 + 6), .ref (g0 + 7), .ref (g0 + 8), .ref (g0 + 9), .ref (g0 + 10), .ref (g0 + 11), .ref (g0 + 12), .ref (g0 + 13), .ref (g0 + 14), .ref (g0 + 15), .int (ix), .ref (g0 + 16), .int (iI (((L : Nat) : Int))), .int (iI (((nd : Nat) : Int))), .ref (g0 + 17), .ref (g0 + 18), .ref (g0 + 19), .int (iI (((od : Nat) : Int))), .int (iI (((hh : Nat) : Int))), .int (bI (false))]) (T := TX6) (N := 26) (b := g0) (As := []) (rest := []) hx hb hml hown hts hK hG hP hS hl mM_X6_records mV_X6_records mLX6_90 (mm_records_c l D ta B (n) (w) (g0) (U) ((ix)) (L) (nd) (od) (hh) m0 (by omega)) m0 rfl rfl rfl (Nat.le_of_ble_eq_true rfl) ⟨Nat.le_of_ble_eq_true rfl, Nat.le_of_ble_eq_true rfl⟩ ⟨Nat.le_of_ble_eq_true rfl, Nat.le_of_ble_eq_true rfl⟩ dX6_back_1 (fun r w1 n1 H locs hq hP hS => ?_)
  obtain ⟨rfl, hw1, hn1⟩ := hq
  replace hw1 := hw1.symm; replace hn1 := hn1.symm; subst hw1; subst hn1
  refine W.eq (g2 := F0 m 4 ls [.int (iI (((hh - od : Nat) : Int)))]) rfl ?_
  refine fn_if_ne (x := ((hh - od : Nat) : Int)) (tgt := 9) hx hb dX6_back_4 (by decide) ⟨by omega, by omega⟩ (fun c2 => False.elim (by omega)) (fun c2 => ?_)
  refine lv_iconst (v := (iI ((-1)))) hx hb dX6_back_7 rfl ?_
  exact fw_iret hx hb hr hlocks hP hS dX6_back_8 (Nat.le_of_ble_eq_true rfl) (Nat.le_of_ble_eq_true rfl) ⟨rfl, rfl, rfl⟩
set_option maxHeartbeats 4000000 in
set_option maxRecDepth 100000 in
theorem mm_forget_none (l : Launch) (D : va_G) (ta : Nat → ClassId) (B n : Nat) (w : fw_W) (g0 : Nat) (U : Nat) (ix : Int32) (L : Nat) (nd : Nat) (od : Nat) (hh : Nat) (op : Bool) (m0 : w (g0) = some (.inr (6, [.int (iI (((U : Nat) : Int))), .ref (g0 + 1), .ref (g0 + 2), .ref (g0 + 3), .ref (g0 + 4), .ref (g0 + 5), .ref (g0 + 6), .ref (g0 + 7), .ref (g0 + 8), .ref (g0 + 9), .ref (g0 + 10), .ref (g0 + 11), .ref (g0 + 12), .ref (g0 + 13), .ref (g0 + 14), .ref (g0 + 15), .int (ix), .ref (g0 + 16), .int (iI (((L : Nat) : Int))), .int (iI (((nd : Nat) : Int))), .ref (g0 + 17), .ref (g0 + 18), .ref (g0 + 19), .int (iI (((od : Nat) : Int))), .int (iI (((hh : Nat) : Int))), .int (bI (op))]))) (hb2 : hh < 100000) (h0 : hh = od) : fw_C l D vwCl (tyL ta) B yX6_forget cX6_forget 4 (some .int) ({ frames := 0, cells := 0, slots := 0, locals := 0 } : Room) [.ref (g0)] n w (fun r w1 n1 => r = some (.int (iI ((-1)))) ∧ w1 = w ∧ n1 = n) := by
  refine fw_enter (by decide) (Nat.le_of_ble_eq_true rfl) ?_
  intro p e s m below meth c hx hb hr hml hown hlocks hin hG hts hK H locs hP hS ls hl
  have hown : s.vm.findClass RX6 = some m.cls := hown
  replace hl : lv_has ls 4 [(0, .ref (g0))] := hl
  have lt_m0 := hP.lt m0
  refine lv_aload_n hx hb dX6_forget_0 rfl (lv_at hl 0 rfl) ?_
  refine fw_get (ci := 6) (fs := [.int (iI (((U : Nat) : Int))), .ref (g0 + 1), .ref (g0 + 2), .ref (g0 + 3), .ref (g0 + 4), .ref (g0 + 5), .ref (g0 + 6), .ref (g0 + 7), .ref (g0 + 8), .ref (g0 + 9), .ref (g0 + 10), .ref (g0 + 11), .ref (g0 + 12), .ref (g0 + 13), .ref (g0 + 14), .ref (g0 + 15), .int (ix), .ref (g0 + 16), .int (iI (((L : Nat) : Int))), .int (iI (((nd : Nat) : Int))), .ref (g0 + 17), .ref (g0 + 18), .ref (g0 + 19), .int (iI (((od : Nat) : Int))), .int (iI (((hh : Nat) : Int))), .int (bI (op))]) (k := 24) (v := .int (iI (((hh : Nat) : Int)))) (C := RX6) (T := TX6) (N := 26) hx hb hts inFX6 hown hK hP m0 rfl (by decide) mFX6_80 rfl dX6_forget_1 ?_
  refine lv_aload_n hx hb dX6_forget_4 rfl (lv_at hl 0 rfl) ?_
  refine fw_get (ci := 6) (fs := [.int (iI (((U : Nat) : Int))), .ref (g0 + 1), .ref (g0 + 2), .ref (g0 + 3), .ref (g0 + 4), .ref (g0 + 5), .ref (g0 + 6), .ref (g0 + 7), .ref (g0 + 8), .ref (g0 + 9), .ref (g0 + 10), .ref (g0 + 11), .ref (g0 + 12), .ref (g0 + 13), .ref (g0 + 14), .ref (g0 + 15), .int (ix), .ref (g0 + 16), .int (iI (((L : Nat) : Int))), .int (iI (((nd : Nat) : Int))), .ref (g0 + 17), .ref (g0 + 18), .ref (g0 + 19), .int (iI (((od : Nat) : Int))), .int (iI (((hh : Nat) : Int))), .int (bI (op))]) (k := 23) (v := .int (iI (((od : Nat) : Int)))) (C := RX6) (T := TX6) (N := 26) hx hb hts inFX6 hown hK hP m0 rfl (by decide) mFX6_83 rfl dX6_forget_5 ?_
  refine fn_icmp_ne (x := ((hh : Nat) : Int)) (y := ((od : Nat) : Int)) (tgt := 13) hx hb dX6_forget_8 (by decide) ⟨by omega, by omega⟩ ⟨by omega, by omega⟩ (fun c1 => False.elim (by omega)) (fun c1 => ?_)
  refine lv_iconst (v := (iI ((-1)))) hx hb dX6_forget_11 rfl ?_
  exact fw_iret hx hb hr hlocks hP hS dX6_forget_12 (Nat.le_of_ble_eq_true rfl) (Nat.le_of_ble_eq_true rfl) ⟨rfl, rfl, rfl⟩
