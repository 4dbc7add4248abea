set_option maxHeartbeats 4000000 in
set_option maxRecDepth 100000 in
theorem mm_make_closed (l : Launch) (D : va_G) (ta : Nat → ClassId) (B n : Nat) (w : fw_W) (g0 : Nat) (U : Nat) (ix : Int32) (L : Nat) (nd : Nat) (od : Nat) (hh : Nat) (v : Int64) (fi : Bool) (m0 : w (g0) = some (.inr (6, [.int (iI (((U : Nat) : Int))), .ref (g0 + 1), .ref (g0 + 2), .ref (g0 + 3), .ref (g0 + 4), .ref (g0 + 5), .ref (g0 + 6), .ref (g0 + 7), .ref (g0 + 8), .ref (g0 + 9), .ref (g0 + 10), .ref (g0 + 11), .ref (g0 + 12), .ref (g0 + 13), .ref (g0 + 14), .ref (g0 + 15), .int (ix), .ref (g0 + 16), .int (iI (((L : Nat) : Int))), .int (iI (((nd : Nat) : Int))), .ref (g0 + 17), .ref (g0 + 18), .ref (g0 + 19), .int (iI (((od : Nat) : Int))), .int (iI (((hh : Nat) : Int))), .int (bI (false))])))  : fw_C l D vwCl (tyL ta) B yX6_make cX6_make 6 (some .int) ({ frames := 1, cells := 0, slots := 0, locals := 24 } : Room) [.ref (g0), .long (v), .int (bI (fi))] n w (fun r w1 n1 => r = some (.int (iI (((1 : Nat) : Int)))) ∧ w1 = w ∧ n1 = n) := by
  refine fw_enter (by decide) (Nat.le_of_ble_eq_true rfl) ?_
  intro p e s m below meth c hx hb hr hml hown hlocks hin hG hts hK H locs hP hS ls hl
  have hown : s.vm.findClass RX6 = some m.cls := hown
  replace hl : lv_has ls 6 [(0, .ref (g0)), (1, .long (v)), (3, .int (bI (fi)))] := hl
  have lt_m0 := hP.lt m0
  refine lv_aload_n hx hb dX6_make_0 rfl (lv_at hl 0 rfl) ?_
  refine fw_get (ci := 6) (fs := [.int (iI (((U : Nat) : Int))), .ref (g0 + 1), .ref (g0 + 2), .ref (g0 + 3), .ref (g0 + 4), .ref (g0 + 5), .ref (g0 + 6), .ref (g0 + 7), .ref (g0 + 8), .ref (g0 + 9), .ref (g0 + 10), .ref (g0 + 11), .ref (g0 + 12), .ref (g0 + 13), .ref (g0 + 14), .ref (g0 + 15), .int (ix), .ref (g0 + 16), .int (iI (((L : Nat) : Int))), .int (iI (((nd : Nat) : Int))), .ref (g0 + 17), .ref (g0 + 18), .ref (g0 + 19), .int (iI (((od : Nat) : Int))), .int (iI (((hh : Nat) : Int))), .int (bI (false))]) (k := 25) (v := .int (bI (false))) (C := RX6) (T := TX6) (N := 26) hx hb hts inFX6 hown hK hP m0 rfl (by decide) mFX6_86 rfl dX6_make_1 ?_
  refine fn_bif_ne (x := false) (tgt := 9) hx hb dX6_make_4 (by decide) (fun c1 => False.elim (by cases c1)) (fun c1 => ?_)
  refine lv_iconst (v := (iI (((1 : Nat) : Int)))) hx hb dX6_make_7 rfl ?_
  exact fw_iret hx hb hr hlocks hP hS dX6_make_8 (Nat.le_of_ble_eq_true rfl) (Nat.le_of_ble_eq_true rfl) ⟨rfl, rfl, rfl⟩
set_option maxHeartbeats 4000000 in
set_option maxRecDepth 100000 in
theorem mm_make_dup (l : Launch) (D : va_G) (ta : Nat → ClassId) (B n : Nat) (w : fw_W) (g0 : Nat) (U : Nat) (ix : Int32) (L : Nat) (nd : Nat) (od : Nat) (hh : Nat) (stt : Nat → Nat) (kys : Nat → Int64) (idx : Nat → Int32) (kyh : Nat → Int64) (v : Int64) (fi : Bool) (j : Nat) (m0 : w (g0) = some (.inr (6, [.int (iI (((U : Nat) : Int))), .ref (g0 + 1), .ref (g0 + 2), .ref (g0 + 3), .ref (g0 + 4), .ref (g0 + 5), .ref (g0 + 6), .ref (g0 + 7), .ref (g0 + 8), .ref (g0 + 9), .ref (g0 + 10), .ref (g0 + 11), .ref (g0 + 12), .ref (g0 + 13), .ref (g0 + 14), .ref (g0 + 15), .int (ix), .ref (g0 + 16), .int (iI (((L : Nat) : Int))), .int (iI (((nd : Nat) : Int))), .ref (g0 + 17), .ref (g0 + 18), .ref (g0 + 19), .int (iI (((od : Nat) : Int))), .int (iI (((hh : Nat) : Int))), .int (bI (true))]))) (m1 : w (g0 + 1) = some (.inl (ta 1, 600, .inl (fun z_ => iI (((stt) z_ : Nat) : Int))))) (m2 : w (g0 + 2) = some (.inl (ta 4, 2400, .inr (.inl (kys))))) (m3 : w (g0 + 3) = some (.inl (ta 1, 600, .inl (idx)))) (m15 : w (g0 + 15) = some (.inl (ta 4, 4, .inr (.inl (kyh))))) (hsb : ∀ j, j < 600 → stt j < 3) (hj : j < 600) (hkj : mmb stt idx ix kys kyh j 4 = true) (huq : ∀ i, i < 600 → mmb stt idx ix kys kyh i 4 = true → i = j) : fw_C l D vwCl (tyL ta) B yX6_make cX6_make 6 (some .int) ({ frames := 1, cells := 0, slots := 0, locals := 24 } : Room) [.ref (g0), .long (v), .int (bI (fi))] n w (fun r w1 n1 => r = some (.int (iI (((2 : Nat) : Int)))) ∧ w1 = w ∧ n1 = n) := by
  refine fw_enter (by decide) (Nat.le_of_ble_eq_true rfl) ?_
  intro p e s m below meth c hx hb hr hml hown hlocks hin hG hts hK H locs hP hS ls hl
  have hown : s.vm.findClass RX6 = some m.cls := hown
  replace hl : lv_has ls 6 [(0, .ref (g0)), (1, .long (v)), (3, .int (bI (fi)))] := hl
  have lt_m0 := hP.lt m0
  have lt_m1 := hP.lt m1
  have lt_m2 := hP.lt m2
  have lt_m3 := hP.lt m3
  have lt_m15 := hP.lt m15
  refine lv_aload_n hx hb dX6_make_0 rfl (lv_at hl 0 rfl) ?_
  refine fw_get (ci := 6) (fs := [.int (iI (((U : Nat) : Int))), .ref (g0 + 1), .ref (g0 + 2), .ref (g0 + 3), .ref (g0 + 4), .ref (g0 + 5), .ref (g0 + 6), .ref (g0 + 7), .ref (g0 + 8), .ref (g0 + 9), .ref (g0 + 10), .ref (g0 + 11), .ref (g0 + 12), .ref (g0 + 13), .ref (g0 + 14), .ref (g0 + 15), .int (ix), .ref (g0 + 16), .int (iI (((L : Nat) : Int))), .int (iI (((nd : Nat) : Int))), .ref (g0 + 17), .ref (g0 + 18), .ref (g0 + 19), .int (iI (((od : Nat) : Int))), .int (iI (((hh : Nat) : Int))), .int (bI (true))]) (k := 25) (v := .int (bI (true))) (C := RX6) (T := TX6) (N := 26) hx hb hts inFX6 hown hK hP m0 rfl (by decide) mFX6_86 rfl dX6_make_1 ?_
  refine fn_bif_ne (x := true) (tgt := 9) hx hb dX6_make_4 (by decide) (fun c1 => ?_) (fun c1 => False.elim (by cases c1))
  refine lv_aload_n hx hb dX6_make_9 rfl (lv_at hl 0 rfl) ?_
  refine fw_callV (ci := 6) (fs := [.int (iI (((U : Nat) : Int))), .ref (g0 + 1), .ref (g0 + 2), .ref (g0 + 3), .ref (g0 + 4), .ref (g0 + 5), .ref (g0 + 6), .ref (g0 + 7), .ref (g0 + 8), .ref (g0 + 9), .ref (g0 + 10), .ref (g0 + 11), .ref (g0 + 12), .ref (g0 + 13), .ref (g0 + 14), .ref (g0 + 15), .int (ix), .ref (g0 + 16), .int (iI (((L : Nat) : Int))), .int (iI (((nd : Nat) : Int))), .ref (g0 + 17), .ref (g0 + 18), .ref (g0 + 19), .int (iI (((od : Nat) : Int))), .int (iI (((hh : Nat) : Int))), .int (bI (true))]) (T := TX6) (N := 26) (b := g0) (As := []) (rest := []) hx hb hml hown hts hK hG hP hS hl mM_X6_find mV_X6_find mLX6_97 (mm_find_hit l D ta B (n) (w) (g0) (U) ((ix)) (L) (nd) (od) (hh) (true) (stt) (kys) (idx) (kyh) (j) m0 m1 m2 m3 m15 hsb hj hkj huq) m0 rfl rfl rfl (Nat.le_of_ble_eq_true rfl) ⟨Nat.le_of_ble_eq_true rfl, Nat.le_of_ble_eq_true rfl⟩ ⟨Nat.le_of_ble_eq_true rfl, Nat.le_of_ble_eq_true rfl⟩ dX6_make_10 (fun r w2 n1 H locs hq hP hS => ?_)
  obtain ⟨rfl, hw1, hn1⟩ := hq
  replace hw1 := hw1.symm; replace hn1 := hn1.symm; subst hw1; subst hn1
  refine W.eq (g2 := F0 m 13 ls [.int (iI (((j : Nat) : Int)))]) rfl ?_
  refine fn_if_lt (x := ((j : Nat) : Int)) (tgt := 18) hx hb dX6_make_13 (by decide) ⟨by omega, by omega⟩ (fun c3 => False.elim (by omega)) (fun c3 => ?_)
  refine lv_iconst (v := (iI (((2 : Nat) : Int)))) hx hb dX6_make_16 rfl ?_
  exact fw_iret hx hb hr hlocks hP hS dX6_make_17 (Nat.le_of_ble_eq_true rfl) (Nat.le_of_ble_eq_true rfl) ⟨rfl, rfl, rfl⟩
set_option maxHeartbeats 4000000 in
set_option maxRecDepth 100000 in
theorem mm_make_full (l : Launch) (D : va_G) (ta : Nat → ClassId) (B n : Nat) (w : fw_W) (g0 : Nat) (U : Nat) (ix : Int32) (L : Nat) (nd : Nat) (od : Nat) (hh : Nat) (stt : Nat → Nat) (kys : Nat → Int64) (idx : Nat → Int32) (kyh : Nat → Int64) (v : Int64) (fi : Bool) (m0 : w (g0) = some (.inr (6, [.int (iI (((U : Nat) : Int))), .ref (g0 + 1), .ref (g0 + 2), .ref (g0 + 3), .ref (g0 + 4), .ref (g0 + 5), .ref (g0 + 6), .ref (g0 + 7), .ref (g0 + 8), .ref (g0 + 9), .ref (g0 + 10), .ref (g0 + 11), .ref (g0 + 12), .ref (g0 + 13), .ref (g0 + 14), .ref (g0 + 15), .int (ix), .ref (g0 + 16), .int (iI (((L : Nat) : Int))), .int (iI (((nd : Nat) : Int))), .ref (g0 + 17), .ref (g0 + 18), .ref (g0 + 19), .int (iI (((od : Nat) : Int))), .int (iI (((hh : Nat) : Int))), .int (bI (true))]))) (m1 : w (g0 + 1) = some (.inl (ta 1, 600, .inl (fun z_ => iI (((stt) z_ : Nat) : Int))))) (m2 : w (g0 + 2) = some (.inl (ta 4, 2400, .inr (.inl (kys))))) (m3 : w (g0 + 3) = some (.inl (ta 1, 600, .inl (idx)))) (m15 : w (g0 + 15) = some (.inl (ta 4, 4, .inr (.inl (kyh))))) (hsb : ∀ j, j < 600 → stt j < 3) (hms : ∀ i, i < 600 → mmb stt idx ix kys kyh i 4 = false) (hU : U ≤ 200) (hfu : cnt stt 1 600 = U) : fw_C l D vwCl (tyL ta) B yX6_make cX6_make 6 (some .int) ({ frames := 1, cells := 0, slots := 0, locals := 24 } : Room) [.ref (g0), .long (v), .int (bI (fi))] n w (fun r w1 n1 => r = some (.int (iI (((3 : Nat) : Int)))) ∧ w1 = w ∧ n1 = n) := by
  refine fw_enter (by decide) (Nat.le_of_ble_eq_true rfl) ?_
  intro p e s m below meth c hx hb hr hml hown hlocks hin hG hts hK H locs hP hS ls hl
  have hown : s.vm.findClass RX6 = some m.cls := hown
  replace hl : lv_has ls 6 [(0, .ref (g0)), (1, .long (v)), (3, .int (bI (fi)))] := hl
  have lt_m0 := hP.lt m0
  have lt_m1 := hP.lt m1
  have lt_m2 := hP.lt m2
  have lt_m3 := hP.lt m3
  have lt_m15 := hP.lt m15
  refine lv_aload_n hx hb dX6_make_0 rfl (lv_at hl 0 rfl) ?_
  refine fw_get (ci := 6) (fs := [.int (iI (((U : Nat) : Int))), .ref (g0 + 1), .ref (g0 + 2), .ref (g0 + 3), .ref (g0 + 4), .ref (g0 + 5), .ref (g0 + 6), .ref (g0 + 7), .ref (g0 + 8), .ref (g0 + 9), .ref (g0 + 10), .ref (g0 + 11), .ref (g0 + 12), .ref (g0 + 13), .ref (g0 + 14), .ref (g0 + 15), .int (ix), .ref (g0 + 16), .int (iI (((L : Nat) : Int))), .int (iI (((nd : Nat) : Int))), .ref (g0 + 17), .ref (g0 + 18), .ref (g0 + 19), .int (iI (((od : Nat) : Int))), .int (iI (((hh : Nat) : Int))), .int (bI (true))]) (k := 25) (v := .int (bI (true))) (C := RX6) (T := TX6) (N := 26) hx hb hts inFX6 hown hK hP m0 rfl (by decide) mFX6_86 rfl dX6_make_1 ?_
  refine fn_bif_ne (x := true) (tgt := 9) hx hb dX6_make_4 (by decide) (fun c1 => ?_) (fun c1 => False.elim (by cases c1))
  refine lv_aload_n hx hb dX6_make_9 rfl (lv_at hl 0 rfl) ?_
  refine fw_callV (ci := 6) (fs := [.int (iI (((U : Nat) : Int))), .ref (g0 + 1), .ref (g0 + 2), .ref (g0 + 3), .ref (g0 + 4), .ref (g0 + 5), .ref (g0 + 6), .ref (g0 + 7), .ref (g0 + 8), .ref (g0 + 9), .ref (g0 + 10), .ref (g0 + 11), .ref (g0 + 12), .ref (g0 + 13), .ref (g0 + 14), .ref (g0 + 15), .int (ix), .ref (g0 + 16), .int (iI (((L : Nat) : Int))), .int (iI (((nd : Nat) : Int))), .ref (g0 + 17), .ref (g0 + 18), .ref (g0 + 19), .int (iI (((od : Nat) : Int))), .int (iI (((hh : Nat) : Int))), .int (bI (true))]) (T := TX6) (N := 26) (b := g0) (As := []) (rest := []) hx hb hml hown hts hK hG hP hS hl mM_X6_find mV_X6_find mLX6_97 (mm_find_miss l D ta B (n) (w) (g0) (U) ((ix)) (L) (nd) (od) (hh) (true) (stt) (kys) (idx) (kyh) m0 m1 m2 m3 m15 hsb hms) m0 rfl rfl rfl (Nat.le_of_ble_eq_true rfl) ⟨Nat.le_of_ble_eq_true rfl, Nat.le_of_ble_eq_true rfl⟩ ⟨Nat.le_of_ble_eq_true rfl, Nat.le_of_ble_eq_true rfl⟩ dX6_make_10 (fun r w2 n1 H locs hq hP hS => ?_)
  obtain ⟨rfl, hw1, hn1⟩ := hq
  replace hw1 := hw1.symm; replace hn1 := hn1.symm; subst hw1; subst hn1
  refine W.eq (g2 := F0 m 13 ls [.int (iI ((-1)))]) rfl ?_
  refine fn_if_lt (x := (-1)) (tgt := 18) hx hb dX6_make_13 (by decide) ⟨by omega, by omega⟩ (fun c3 => ?_) (fun c3 => False.elim (by omega))
  refine lv_aload_n hx hb dX6_make_18 rfl (lv_at hl 0 rfl) ?_
  refine lv_iconst (v := (iI (((1 : Nat) : Int)))) hx hb dX6_make_19 rfl ?_
  refine fw_callV (ci := 6) (fs := [.int (iI (((U : Nat) : Int))), .ref (g0 + 1), .ref (g0 + 2), .ref (g0 + 3), .ref (g0 + 4), .ref (g0 + 5), .ref (g0 + 6), .ref (g0 + 7), .ref (g0 + 8), .ref (g0 + 9), .ref (g0 + 10), .ref (g0 + 11), .ref (g0 + 12), .ref (g0 + 13), .ref (g0 + 14), .ref (g0 + 15), .int (ix), .ref (g0 + 16), .int (iI (((L : Nat) : Int))), .int (iI (((nd : Nat) : Int))), .ref (g0 + 17), .ref (g0 + 18), .ref (g0 + 19), .int (iI (((od : Nat) : Int))), .int (iI (((hh : Nat) : Int))), .int (bI (true))]) (T := TX6) (N := 26) (b := g0) (As := [.int (iI (((1 : Nat) : Int)))]) (rest := []) hx hb hml hown hts hK hG hP hS hl mM_X6_countOf mV_X6_countOf mLX6_100 (mm_countOf l D ta B (n) (w) (g0) (U) ((ix)) (L) (nd) (od) (hh) (true) (stt) (1) m0 m1 hsb (by decide)) m0 rfl rfl rfl (Nat.le_of_ble_eq_true rfl) ⟨Nat.le_of_ble_eq_true rfl, Nat.le_of_ble_eq_true rfl⟩ ⟨Nat.le_of_ble_eq_true rfl, Nat.le_of_ble_eq_true rfl⟩ dX6_make_20 (fun r w4 n1 H locs hq hP hS => ?_)
  obtain ⟨rfl, hw1, hn1⟩ := hq
  replace hw1 := hw1.symm; replace hn1 := hn1.symm; subst hw1; subst hn1
  refine W.eq (g2 := F0 m 23 ls [.int (iI (((cnt stt 1 600 : Nat) : Int)))]) rfl ?_
  refine lv_aload_n hx hb dX6_make_23 rfl (lv_at hl 0 rfl) ?_
  refine fw_get (ci := 6) (fs := [.int (iI (((U : Nat) : Int))), .ref (g0 + 1), .ref (g0 + 2), .ref (g0 + 3), .ref (g0 + 4), .ref (g0 + 5), .ref (g0 + 6), .ref (g0 + 7), .ref (g0 + 8), .ref (g0 + 9), .ref (g0 + 10), .ref (g0 + 11), .ref (g0 + 12), .ref (g0 + 13), .ref (g0 + 14), .ref (g0 + 15), .int (ix), .ref (g0 + 16), .int (iI (((L : Nat) : Int))), .int (iI (((nd : Nat) : Int))), .ref (g0 + 17), .ref (g0 + 18), .ref (g0 + 19), .int (iI (((od : Nat) : Int))), .int (iI (((hh : Nat) : Int))), .int (bI (true))]) (k := 0) (v := .int (iI (((U : Nat) : Int)))) (C := RX6) (T := TX6) (N := 26) hx hb hts inFX6 hown hK hP m0 rfl (by decide) mFX6_70 rfl dX6_make_24 ?_
  have hcl := cnt_le stt 1 600
  refine fn_icmp_ne (x := ((cnt stt 1 600 : Nat) : Int)) (y := ((U : Nat) : Int)) (tgt := 32) hx hb dX6_make_27 (by decide) ⟨by omega, by omega⟩ ⟨by omega, by omega⟩ (fun c5 => False.elim (by omega)) (fun c5 => ?_)
  refine lv_iconst (v := (iI (((3 : Nat) : Int)))) hx hb dX6_make_30 rfl ?_
  exact fw_iret hx hb hr hlocks hP hS dX6_make_31 (Nat.le_of_ble_eq_true rfl) (Nat.le_of_ble_eq_true rfl) ⟨rfl, rfl, rfl⟩
