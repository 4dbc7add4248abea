set_option maxHeartbeats 4000000 in
set_option maxRecDepth 100000 in
theorem mm_has_hit (l : Launch) (D : va_G) (ta : Nat → ClassId) (B n : Nat) (w : fw_W) (g0 : Nat) (U : Nat) (ix : Int32) (L : Nat) (nd : Nat) (od : Nat) (hh : Nat) (op : Bool) (stt : Nat → Nat) (kys : Nat → Int64) (idx : Nat → Int32) (kyh : Nat → Int64) (j : Nat) (m0 : w (g0) = some (.inr (6, [.int (iI (((U : Nat) : Int))), .ref (g0 + 1), .ref (g0 + 2), .ref (g0 + 3), .ref (g0 + 4), .ref (g0 + 5), .ref (g0 + 6), .ref (g0 + 7), .ref (g0 + 8), .ref (g0 + 9), .ref (g0 + 10), .ref (g0 + 11), .ref (g0 + 12), .ref (g0 + 13), .ref (g0 + 14), .ref (g0 + 15), .int (ix), .ref (g0 + 16), .int (iI (((L : Nat) : Int))), .int (iI (((nd : Nat) : Int))), .ref (g0 + 17), .ref (g0 + 18), .ref (g0 + 19), .int (iI (((od : Nat) : Int))), .int (iI (((hh : Nat) : Int))), .int (bI (op))]))) (m1 : w (g0 + 1) = some (.inl (ta 1, 600, .inl (fun z_ => iI (((stt) z_ : Nat) : Int))))) (m2 : w (g0 + 2) = some (.inl (ta 4, 2400, .inr (.inl (kys))))) (m3 : w (g0 + 3) = some (.inl (ta 1, 600, .inl (idx)))) (m15 : w (g0 + 15) = some (.inl (ta 4, 4, .inr (.inl (kyh))))) (hsb : ∀ j, j < 600 → stt j < 3) (hj : j < 600) (hkj : mmb stt idx ix kys kyh j 4 = true) (huq : ∀ i, i < 600 → mmb stt idx ix kys kyh i 4 = true → i = j) : fw_C l D vwCl (tyL ta) B yX6_has cX6_has 1 (some .boolean) ({ frames := 1, cells := 0, slots := 0, locals := 23 } : Room) [.ref (g0)] n w (fun r w1 n1 => r = some (.int (bI (true))) ∧ w1 = w ∧ n1 = n) := by
  refine fw_enter (by decide) (Nat.le_of_ble_eq_true rfl) ?_
  intro p e s m below meth c hx hb hr hml hown hlocks hin hG hts hK H locs hP hS ls hl
  have hown : s.vm.findClass RX6 = some m.cls := hown
  replace hl : lv_has ls 1 [(0, .ref (g0))] := hl
  have lt_m0 := hP.lt m0
  have lt_m1 := hP.lt m1
  have lt_m2 := hP.lt m2
  have lt_m3 := hP.lt m3
  have lt_m15 := hP.lt m15
  refine lv_aload_n hx hb dX6_has_0 rfl (lv_at hl 0 rfl) ?_
  refine fw_callV (ci := 6) (fs := [.int (iI (((U : Nat) : Int))), .ref (g0 + 1), .ref (g0 + 2), .ref (g0 + 3), .ref (g0 + 4), .ref (g0 + 5), .ref (g0 + 6), .ref (g0 + 7), .ref (g0 + 8), .ref (g0 + 9), .ref (g0 + 10), .ref (g0 + 11), .ref (g0 + 12), .ref (g0 + 13), .ref (g0 + 14), .ref (g0 + 15), .int (ix), .ref (g0 + 16), .int (iI (((L : Nat) : Int))), .int (iI (((nd : Nat) : Int))), .ref (g0 + 17), .ref (g0 + 18), .ref (g0 + 19), .int (iI (((od : Nat) : Int))), .int (iI (((hh : Nat) : Int))), .int (bI (op))]) (T := TX6) (N := 26) (b := g0) (As := []) (rest := []) hx hb hml hown hts hK hG hP hS hl mM_X6_find mV_X6_find mLX6_97 (mm_find_hit l D ta B (n) (w) (g0) (U) ((ix)) (L) (nd) (od) (hh) (op) (stt) (kys) (idx) (kyh) (j) m0 m1 m2 m3 m15 hsb hj hkj huq) m0 rfl rfl rfl (Nat.le_of_ble_eq_true rfl) ⟨Nat.le_of_ble_eq_true rfl, Nat.le_of_ble_eq_true rfl⟩ ⟨Nat.le_of_ble_eq_true rfl, Nat.le_of_ble_eq_true rfl⟩ dX6_has_1 (fun r w1 n1 H locs hq hP hS => ?_)
  obtain ⟨rfl, hw1, hn1⟩ := hq
  replace hw1 := hw1.symm; replace hn1 := hn1.symm; subst hw1; subst hn1
  refine W.eq (g2 := F0 m 4 ls [.int (iI (((j : Nat) : Int)))]) rfl ?_
  refine fn_if_lt (x := ((j : Nat) : Int)) (tgt := 11) hx hb dX6_has_4 (by decide) ⟨by omega, by omega⟩ (fun c2 => False.elim (by omega)) (fun c2 => ?_)
  refine lv_iconst (v := (iI (((1 : Nat) : Int)))) hx hb dX6_has_7 rfl ?_
  refine lv_goto (tgt := 12) hx hb dX6_has_8 (by decide) ?_
  exact fw_zret hx hb hr hlocks hP hS dX6_has_12 (Or.inr rfl) (Nat.le_of_ble_eq_true rfl) (Nat.le_of_ble_eq_true rfl) ⟨rfl, rfl, rfl⟩
set_option maxHeartbeats 4000000 in
set_option maxRecDepth 100000 in
theorem mm_has_miss (l : Launch) (D : va_G) (ta : Nat → ClassId) (B n : Nat) (w : fw_W) (g0 : Nat) (U : Nat) (ix : Int32) (L : Nat) (nd : Nat) (od : Nat) (hh : Nat) (op : Bool) (stt : Nat → Nat) (kys : Nat → Int64) (idx : Nat → Int32) (kyh : Nat → Int64) (m0 : w (g0) = some (.inr (6, [.int (iI (((U : Nat) : Int))), .ref (g0 + 1), .ref (g0 + 2), .ref (g0 + 3), .ref (g0 + 4), .ref (g0 + 5), .ref (g0 + 6), .ref (g0 + 7), .ref (g0 + 8), .ref (g0 + 9), .ref (g0 + 10), .ref (g0 + 11), .ref (g0 + 12), .ref (g0 + 13), .ref (g0 + 14), .ref (g0 + 15), .int (ix), .ref (g0 + 16), .int (iI (((L : Nat) : Int))), .int (iI (((nd : Nat) : Int))), .ref (g0 + 17), .ref (g0 + 18), .ref (g0 + 19), .int (iI (((od : Nat) : Int))), .int (iI (((hh : Nat) : Int))), .int (bI (op))]))) (m1 : w (g0 + 1) = some (.inl (ta 1, 600, .inl (fun z_ => iI (((stt) z_ : Nat) : Int))))) (m2 : w (g0 + 2) = some (.inl (ta 4, 2400, .inr (.inl (kys))))) (m3 : w (g0 + 3) = some (.inl (ta 1, 600, .inl (idx)))) (m15 : w (g0 + 15) = some (.inl (ta 4, 4, .inr (.inl (kyh))))) (hsb : ∀ j, j < 600 → stt j < 3) (hms : ∀ i, i < 600 → mmb stt idx ix kys kyh i 4 = false) : fw_C l D vwCl (tyL ta) B yX6_has cX6_has 1 (some .boolean) ({ frames := 1, cells := 0, slots := 0, locals := 23 } : Room) [.ref (g0)] n w (fun r w1 n1 => r = some (.int (bI (false))) ∧ w1 = w ∧ n1 = n) := by
  refine fw_enter (by decide) (Nat.le_of_ble_eq_true rfl) ?_
  intro p e s m below meth c hx hb hr hml hown hlocks hin hG hts hK H locs hP hS ls hl
  have hown : s.vm.findClass RX6 = some m.cls := hown
  replace hl : lv_has ls 1 [(0, .ref (g0))] := hl
  have lt_m0 := hP.lt m0
  have lt_m1 := hP.lt m1
  have lt_m2 := hP.lt m2
  have lt_m3 := hP.lt m3
  have lt_m15 := hP.lt m15
  refine lv_aload_n hx hb dX6_has_0 rfl (lv_at hl 0 rfl) ?_
  refine fw_callV (ci := 6) (fs := [.int (iI (((U : Nat) : Int))), .ref (g0 + 1), .ref (g0 + 2), .ref (g0 + 3), .ref (g0 + 4), .ref (g0 + 5), .ref (g0 + 6), .ref (g0 + 7), .ref (g0 + 8), .ref (g0 + 9), .ref (g0 + 10), .ref (g0 + 11), .ref (g0 + 12), .ref (g0 + 13), .ref (g0 + 14), .ref (g0 + 15), .int (ix), .ref (g0 + 16), .int (iI (((L : Nat) : Int))), .int (iI (((nd : Nat) : Int))), .ref (g0 + 17), .ref (g0 + 18), .ref (g0 + 19), .int (iI (((od : Nat) : Int))), .int (iI (((hh : Nat) : Int))), .int (bI (op))]) (T := TX6) (N := 26) (b := g0) (As := []) (rest := []) hx hb hml hown hts hK hG hP hS hl mM_X6_find mV_X6_find mLX6_97 (mm_find_miss l D ta B (n) (w) (g0) (U) ((ix)) (L) (nd) (od) (hh) (op) (stt) (kys) (idx) (kyh) m0 m1 m2 m3 m15 hsb hms) m0 rfl rfl rfl (Nat.le_of_ble_eq_true rfl) ⟨Nat.le_of_ble_eq_true rfl, Nat.le_of_ble_eq_true rfl⟩ ⟨Nat.le_of_ble_eq_true rfl, Nat.le_of_ble_eq_true rfl⟩ dX6_has_1 (fun r w1 n1 H locs hq hP hS => ?_)
  obtain ⟨rfl, hw1, hn1⟩ := hq
  replace hw1 := hw1.symm; replace hn1 := hn1.symm; subst hw1; subst hn1
  refine W.eq (g2 := F0 m 4 ls [.int (iI ((-1)))]) rfl ?_
  refine fn_if_lt (x := (-1)) (tgt := 11) hx hb dX6_has_4 (by decide) ⟨by omega, by omega⟩ (fun c2 => ?_) (fun c2 => False.elim (by omega))
  refine lv_iconst (v := (iI (((0 : Nat) : Int)))) hx hb dX6_has_11 rfl ?_
  exact fw_zret hx hb hr hlocks hP hS dX6_has_12 (Or.inl rfl) (Nat.le_of_ble_eq_true rfl) (Nat.le_of_ble_eq_true rfl) ⟨rfl, rfl, rfl⟩
set_option maxHeartbeats 4000000 in
set_option maxRecDepth 100000 in
theorem mm_look_miss (l : Launch) (D : va_G) (ta : Nat → ClassId) (B n : Nat) (w : fw_W) (g0 : Nat) (U : Nat) (ix : Int32) (L : Nat) (nd : Nat) (od : Nat) (hh : Nat) (op : Bool) (stt : Nat → Nat) (kys : Nat → Int64) (idx : Nat → Int32) (kyh : Nat → Int64) (what : Int32) (m0 : w (g0) = some (.inr (6, [.int (iI (((U : Nat) : Int))), .ref (g0 + 1), .ref (g0 + 2), .ref (g0 + 3), .ref (g0 + 4), .ref (g0 + 5), .ref (g0 + 6), .ref (g0 + 7), .ref (g0 + 8), .ref (g0 + 9), .ref (g0 + 10), .ref (g0 + 11), .ref (g0 + 12), .ref (g0 + 13), .ref (g0 + 14), .ref (g0 + 15), .int (ix), .ref (g0 + 16), .int (iI (((L : Nat) : Int))), .int (iI (((nd : Nat) : Int))), .ref (g0 + 17), .ref (g0 + 18), .ref (g0 + 19), .int (iI (((od : Nat) : Int))), .int (iI (((hh : Nat) : Int))), .int (bI (op))]))) (m1 : w (g0 + 1) = some (.inl (ta 1, 600, .inl (fun z_ => iI (((stt) z_ : Nat) : Int))))) (m2 : w (g0 + 2) = some (.inl (ta 4, 2400, .inr (.inl (kys))))) (m3 : w (g0 + 3) = some (.inl (ta 1, 600, .inl (idx)))) (m15 : w (g0 + 15) = some (.inl (ta 4, 4, .inr (.inl (kyh))))) (hsb : ∀ j, j < 600 → stt j < 3) (hms : ∀ i, i < 600 → mmb stt idx ix kys kyh i 4 = false) : fw_C l D vwCl (tyL ta) B yX6_look cX6_look 3 (some .long) ({ frames := 1, cells := 0, slots := 0, locals := 23 } : Room) [.ref (g0), .int (what)] n w (fun r w1 n1 => r = some (.long ((-1))) ∧ w1 = w ∧ n1 = n) := by
  refine fw_enter (by decide) (Nat.le_of_ble_eq_true rfl) ?_
  intro p e s m below meth c hx hb hr hml hown hlocks hin hG hts hK H locs hP hS ls hl
  have hown : s.vm.findClass RX6 = some m.cls := hown
  replace hl : lv_has ls 3 [(0, .ref (g0)), (1, .int (what))] := hl
  have lt_m0 := hP.lt m0
  have lt_m1 := hP.lt m1
  have lt_m2 := hP.lt m2
  have lt_m3 := hP.lt m3
  have lt_m15 := hP.lt m15
  refine lv_aload_n hx hb dX6_look_0 rfl (lv_at hl 0 rfl) ?_
  refine fw_callV (ci := 6) (fs := [.int (iI (((U : Nat) : Int))), .ref (g0 + 1), .ref (g0 + 2), .ref (g0 + 3), .ref (g0 + 4), .ref (g0 + 5), .ref (g0 + 6), .ref (g0 + 7), .ref (g0 + 8), .ref (g0 + 9), .ref (g0 + 10), .ref (g0 + 11), .ref (g0 + 12), .ref (g0 + 13), .ref (g0 + 14), .ref (g0 + 15), .int (ix), .ref (g0 + 16), .int (iI (((L : Nat) : Int))), .int (iI (((nd : Nat) : Int))), .ref (g0 + 17), .ref (g0 + 18), .ref (g0 + 19), .int (iI (((od : Nat) : Int))), .int (iI (((hh : Nat) : Int))), .int (bI (op))]) (T := TX6) (N := 26) (b := g0) (As := []) (rest := []) hx hb hml hown hts hK hG hP hS hl mM_X6_find mV_X6_find mLX6_97 (mm_find_miss l D ta B (n) (w) (g0) (U) ((ix)) (L) (nd) (od) (hh) (op) (stt) (kys) (idx) (kyh) m0 m1 m2 m3 m15 hsb hms) m0 rfl rfl rfl (Nat.le_of_ble_eq_true rfl) ⟨Nat.le_of_ble_eq_true rfl, Nat.le_of_ble_eq_true rfl⟩ ⟨Nat.le_of_ble_eq_true rfl, Nat.le_of_ble_eq_true rfl⟩ dX6_look_1 (fun r w1 n1 H locs hq hP hS => ?_)
  obtain ⟨rfl, hw1, hn1⟩ := hq
  replace hw1 := hw1.symm; replace hn1 := hn1.symm; subst hw1; subst hn1
  refine W.eq (g2 := F0 m 4 ls [.int (iI ((-1)))]) rfl ?_
  refine lv_istore_n (lv' := [(2, .int (iI ((-1)))), (0, .ref (g0)), (1, .int (what))]) hx hb dX6_look_4 rfl hl (by decide) rfl (fun ls hl => ?_)
  refine lv_iload_n hx hb dX6_look_5 rfl (lv_at hl 0 rfl) ?_
  refine fn_if_ge (x := (-1)) (tgt := 13) hx hb dX6_look_6 (by decide) ⟨by omega, by omega⟩ (fun c2 => False.elim (by omega)) (fun c2 => ?_)
  refine lv_ldc2 (v := (-1)) hx hb hown (hts _ mDX6_112) dX6_look_9 ?_
  exact fw_lret hx hb hr hlocks hP hS dX6_look_12 (Nat.le_of_ble_eq_true rfl) (Nat.le_of_ble_eq_true rfl) ⟨rfl, rfl, rfl⟩
set_option maxHeartbeats 4000000 in
set_option maxRecDepth 100000 in
theorem mm_look_hit (l : Launch) (D : va_G) (ta : Nat → ClassId) (B n : Nat) (w : fw_W) (g0 : Nat) (U : Nat) (ix : Int32) (L : Nat) (nd : Nat) (od : Nat) (hh : Nat) (op : Bool) (stt : Nat → Nat) (kys : Nat → Int64) (idx : Nat → Int32) (kyh : Nat → Int64) (vls : Nat → Int64) (hgs : Nat → Nat) (frs : Nat → Bool) (szs : Nat → Nat) (j : Nat) (what : Int32) (m0 : w (g0) = some (.inr (6, [.int (iI (((U : Nat) : Int))), .ref (g0 + 1), .ref (g0 + 2), .ref (g0 + 3), .ref (g0 + 4), .ref (g0 + 5), .ref (g0 + 6), .ref (g0 + 7), .ref (g0 + 8), .ref (g0 + 9), .ref (g0 + 10), .ref (g0 + 11), .ref (g0 + 12), .ref (g0 + 13), .ref (g0 + 14), .ref (g0 + 15), .int (ix), .ref (g0 + 16), .int (iI (((L : Nat) : Int))), .int (iI (((nd : Nat) : Int))), .ref (g0 + 17), .ref (g0 + 18), .ref (g0 + 19), .int (iI (((od : Nat) : Int))), .int (iI (((hh : Nat) : Int))), .int (bI (op))]))) (m1 : w (g0 + 1) = some (.inl (ta 1, 600, .inl (fun z_ => iI (((stt) z_ : Nat) : Int))))) (m2 : w (g0 + 2) = some (.inl (ta 4, 2400, .inr (.inl (kys))))) (m3 : w (g0 + 3) = some (.inl (ta 1, 600, .inl (idx)))) (m15 : w (g0 + 15) = some (.inl (ta 4, 4, .inr (.inl (kyh))))) (m4 : w (g0 + 4) = some (.inl (ta 4, 600, .inr (.inl (vls))))) (m5 : w (g0 + 5) = some (.inl (ta 1, 600, .inl (fun z_ => iI (((hgs) z_ : Nat) : Int))))) (m6 : w (g0 + 6) = some (.inl (ta 2, 600, .inl (fun z_ => bI ((frs) z_))))) (m7 : w (g0 + 7) = some (.inl (ta 1, 600, .inl (fun z_ => iI (((szs) z_ : Nat) : Int))))) (hsb : ∀ j, j < 600 → stt j < 3) (hj : j < 600) (hkj : mmb stt idx ix kys kyh j 4 = true) (huq : ∀ i, i < 600 → mmb stt idx ix kys kyh i 4 = true → i = j) : fw_C l D vwCl (tyL ta) B yX6_look cX6_look 3 (some .long) ({ frames := 1, cells := 0, slots := 0, locals := 23 } : Room) [.ref (g0), .int (what)] n w (fun r w1 n1 => r = some (.long (mlook what (vls j) (hgs j) (frs j) (szs j))) ∧ w1 = w ∧ n1 = n) := by
  refine fw_enter (by decide) (Nat.le_of_ble_eq_true rfl) ?_
  intro p e s m below meth c hx hb hr hml hown hlocks hin hG hts hK H locs hP hS ls hl
  have hown : s.vm.findClass RX6 = some m.cls := hown
  replace hl : lv_has ls 3 [(0, .ref (g0)), (1, .int (what))] := hl
  have lt_m0 := hP.lt m0
  have lt_m1 := hP.lt m1
  have lt_m2 := hP.lt m2
  have lt_m3 := hP.lt m3
  have lt_m15 := hP.lt m15
  have lt_m4 := hP.lt m4
  have lt_m5 := hP.lt m5
  have lt_m6 := hP.lt m6
  have lt_m7 := hP.lt m7
  refine lv_aload_n hx hb dX6_look_0 rfl (lv_at hl 0 rfl) ?_
  refine fw_callV (ci := 6) (fs := [.int (iI (((U : Nat) : Int))), .ref (g0 + 1), .ref (g0 + 2), .ref (g0 + 3), .ref (g0 + 4), .ref (g0 + 5), .ref (g0 + 6), .ref (g0 + 7), .ref (g0 + 8), .ref (g0 + 9), .ref (g0 + 10), .ref (g0 + 11), .ref (g0 + 12), .ref (g0 + 13), .ref (g0 + 14), .ref (g0 + 15), .int (ix), .ref (g0 + 16), .int (iI (((L : Nat) : Int))), .int (iI (((nd : Nat) : Int))), .ref (g0 + 17), .ref (g0 + 18), .ref (g0 + 19), .int (iI (((od : Nat) : Int))), .int (iI (((hh : Nat) : Int))), .int (bI (op))]) (T := TX6) (N := 26) (b := g0) (As := []) (rest := []) hx hb hml hown hts hK hG hP hS hl mM_X6_find mV_X6_find mLX6_97 (mm_find_hit l D ta B (n) (w) (g0) (U) ((ix)) (L) (nd) (od) (hh) (op) (stt) (kys) (idx) (kyh) (j) m0 m1 m2 m3 m15 hsb hj hkj huq) m0 rfl rfl rfl (Nat.le_of_ble_eq_true rfl) ⟨Nat.le_of_ble_eq_true rfl, Nat.le_of_ble_eq_true rfl⟩ ⟨Nat.le_of_ble_eq_true rfl, Nat.le_of_ble_eq_true rfl⟩ dX6_look_1 (fun r w1 n1 H locs hq hP hS => ?_)
  obtain ⟨rfl, hw1, hn1⟩ := hq
  replace hw1 := hw1.symm; replace hn1 := hn1.symm; subst hw1; subst hn1
  refine W.eq (g2 := F0 m 4 ls [.int (iI (((j : Nat) : Int)))]) rfl ?_
  refine lv_istore_n (lv' := [(2, .int (iI (((j : Nat) : Int)))), (0, .ref (g0)), (1, .int (what))]) hx hb dX6_look_4 rfl hl (by decide) rfl (fun ls hl => ?_)
  refine lv_iload_n hx hb dX6_look_5 rfl (lv_at hl 0 rfl) ?_
  refine fn_if_ge (x := ((j : Nat) : Int)) (tgt := 13) hx hb dX6_look_6 (by decide) ⟨by omega, by omega⟩ (fun c2 => ?_) (fun c2 => False.elim (by omega))
  refine lv_iload_n hx hb dX6_look_13 rfl (lv_at hl 2 rfl) ?_
  by_cases hsw : (what).toInt < 0 ∨ 3 < (what).toInt
  · refine lv_tableOut (tgt := 82) hx hb dX6_look_14 hsw (by decide) ?_
    refine lv_ldc2 (v := (-1)) hx hb hown (hts _ mDX6_112) dX6_look_82 ?_
    exact fw_lret hx hb hr hlocks hP hS dX6_look_85 (Nat.le_of_ble_eq_true rfl) (Nat.le_of_ble_eq_true rfl) ⟨by rw [mlook_out hsw], rfl, rfl⟩
  · have h1 : ¬ (what).toInt < 0 := fun q => hsw (Or.inl q)
    have h2 : ¬ 3 < (what).toInt := fun q => hsw (Or.inr q)
    have h3 : (what).toInt = 0 ∨ (what).toInt = 1 ∨ (what).toInt = 2 ∨ (what).toInt = 3 := by omega
    rcases h3 with h3 | h3 | h3 | h3
    · refine lv_tableIn (tgt := 44) hx hb dX6_look_14 h1 h2 (by rw [h3]; rfl) (by decide) ?_
      refine lv_aload_n hx hb dX6_look_44 rfl (lv_at hl 1 rfl) ?_
      refine fw_get (ci := 6) (fs := [.int (iI (((U : Nat) : Int))), .ref (g0 + 1), .ref (g0 + 2), .ref (g0 + 3), .ref (g0 + 4), .ref (g0 + 5), .ref (g0 + 6), .ref (g0 + 7), .ref (g0 + 8), .ref (g0 + 9), .ref (g0 + 10), .ref (g0 + 11), .ref (g0 + 12), .ref (g0 + 13), .ref (g0 + 14), .ref (g0 + 15), .int (ix), .ref (g0 + 16), .int (iI (((L : Nat) : Int))), .int (iI (((nd : Nat) : Int))), .ref (g0 + 17), .ref (g0 + 18), .ref (g0 + 19), .int (iI (((od : Nat) : Int))), .int (iI (((hh : Nat) : Int))), .int (bI (op))]) (k := 4) (v := .ref (g0 + 4)) (C := RX6) (T := TX6) (N := 26) hx hb hts inFX6 hown hK hP m0 rfl (by decide) mFX6_20 rfl dX6_look_45 ?_
      refine lv_iload_n hx hb dX6_look_48 rfl (lv_at hl 0 rfl) ?_
      refine fn_lald (k := j) hx hb hK hP 4 m4 rfl (by omega) (by omega) dX6_look_49 ?_
      exact fw_lret hx hb hr hlocks hP hS dX6_look_50 (Nat.le_of_ble_eq_true rfl) (Nat.le_of_ble_eq_true rfl) ⟨by rw [mlook_in h3]; rfl, rfl, rfl⟩
    · refine lv_tableIn (tgt := 51) hx hb dX6_look_14 h1 h2 (by rw [h3]; rfl) (by decide) ?_
      refine lv_aload_n hx hb dX6_look_51 rfl (lv_at hl 1 rfl) ?_
      refine fw_get (ci := 6) (fs := [.int (iI (((U : Nat) : Int))), .ref (g0 + 1), .ref (g0 + 2), .ref (g0 + 3), .ref (g0 + 4), .ref (g0 + 5), .ref (g0 + 6), .ref (g0 + 7), .ref (g0 + 8), .ref (g0 + 9), .ref (g0 + 10), .ref (g0 + 11), .ref (g0 + 12), .ref (g0 + 13), .ref (g0 + 14), .ref (g0 + 15), .int (ix), .ref (g0 + 16), .int (iI (((L : Nat) : Int))), .int (iI (((nd : Nat) : Int))), .ref (g0 + 17), .ref (g0 + 18), .ref (g0 + 19), .int (iI (((od : Nat) : Int))), .int (iI (((hh : Nat) : Int))), .int (bI (op))]) (k := 5) (v := .ref (g0 + 5)) (C := RX6) (T := TX6) (N := 26) hx hb hts inFX6 hown hK hP m0 rfl (by decide) mFX6_23 rfl dX6_look_52 ?_
      refine lv_iload_n hx hb dX6_look_55 rfl (lv_at hl 0 rfl) ?_
      refine fn_ialdN (g := hgs) (k := j) hx hb hK hP 1 m5 rfl (by omega) (by omega) dX6_look_56 ?_
      refine lv_i2l (v := ((iI (((hgs j : Nat) : Int)))).toInt64) hx hb dX6_look_57 rfl ?_
      exact fw_lret hx hb hr hlocks hP hS dX6_look_58 (Nat.le_of_ble_eq_true rfl) (Nat.le_of_ble_eq_true rfl) ⟨by rw [mlook_in h3]; rfl, rfl, rfl⟩
    · refine lv_tableIn (tgt := 59) hx hb dX6_look_14 h1 h2 (by rw [h3]; rfl) (by decide) ?_
      refine lv_aload_n hx hb dX6_look_59 rfl (lv_at hl 1 rfl) ?_
      refine fw_get (ci := 6) (fs := [.int (iI (((U : Nat) : Int))), .ref (g0 + 1), .ref (g0 + 2), .ref (g0 + 3), .ref (g0 + 4), .ref (g0 + 5), .ref (g0 + 6), .ref (g0 + 7), .ref (g0 + 8), .ref (g0 + 9), .ref (g0 + 10), .ref (g0 + 11), .ref (g0 + 12), .ref (g0 + 13), .ref (g0 + 14), .ref (g0 + 15), .int (ix), .ref (g0 + 16), .int (iI (((L : Nat) : Int))), .int (iI (((nd : Nat) : Int))), .ref (g0 + 17), .ref (g0 + 18), .ref (g0 + 19), .int (iI (((od : Nat) : Int))), .int (iI (((hh : Nat) : Int))), .int (bI (op))]) (k := 6) (v := .ref (g0 + 6)) (C := RX6) (T := TX6) (N := 26) hx hb hts inFX6 hown hK hP m0 rfl (by decide) mFX6_26 rfl dX6_look_60 ?_
      refine lv_iload_n hx hb dX6_look_63 rfl (lv_at hl 0 rfl) ?_
      refine fn_zaldB (sb := frs) (k := j) hx hb hK hP 2 m6 rfl (by omega) (by omega) dX6_look_64 ?_
      refine fn_bif_eq (x := frs j) (tgt := 72) hx hb dX6_look_65 (by decide) (fun c3 => ?_) (fun c3 => ?_)
      · refine lv_lconst (v := 0) hx hb dX6_look_72 rfl ?_
        exact fw_lret hx hb hr hlocks hP hS dX6_look_73 (Nat.le_of_ble_eq_true rfl) (Nat.le_of_ble_eq_true rfl) ⟨by rw [mlook_in h3]; simp only [mlookw, c3]; rfl, rfl, rfl⟩
      · refine lv_lconst (v := 1) hx hb dX6_look_68 rfl ?_
        refine lv_goto (tgt := 73) hx hb dX6_look_69 (by decide) ?_
        exact fw_lret hx hb hr hlocks hP hS dX6_look_73 (Nat.le_of_ble_eq_true rfl) (Nat.le_of_ble_eq_true rfl) ⟨by rw [mlook_in h3]; simp only [mlookw, c3]; rfl, rfl, rfl⟩
    · refine lv_tableIn (tgt := 74) hx hb dX6_look_14 h1 h2 (by rw [h3]; rfl) (by decide) ?_
      refine lv_aload_n hx hb dX6_look_74 rfl (lv_at hl 1 rfl) ?_
      refine fw_get (ci := 6) (fs := [.int (iI (((U : Nat) : Int))), .ref (g0 + 1), .ref (g0 + 2), .ref (g0 + 3), .ref (g0 + 4), .ref (g0 + 5), .ref (g0 + 6), .ref (g0 + 7), .ref (g0 + 8), .ref (g0 + 9), .ref (g0 + 10), .ref (g0 + 11), .ref (g0 + 12), .ref (g0 + 13), .ref (g0 + 14), .ref (g0 + 15), .int (ix), .ref (g0 + 16), .int (iI (((L : Nat) : Int))), .int (iI (((nd : Nat) : Int))), .ref (g0 + 17), .ref (g0 + 18), .ref (g0 + 19), .int (iI (((od : Nat) : Int))), .int (iI (((hh : Nat) : Int))), .int (bI (op))]) (k := 7) (v := .ref (g0 + 7)) (C := RX6) (T := TX6) (N := 26) hx hb hts inFX6 hown hK hP m0 rfl (by decide) mFX6_30 rfl dX6_look_75 ?_
      refine lv_iload_n hx hb dX6_look_78 rfl (lv_at hl 0 rfl) ?_
      refine fn_ialdN (g := szs) (k := j) hx hb hK hP 1 m7 rfl (by omega) (by omega) dX6_look_79 ?_
      refine lv_i2l (v := ((iI (((szs j : Nat) : Int)))).toInt64) hx hb dX6_look_80 rfl ?_
      exact fw_lret hx hb hr hlocks hP hS dX6_look_81 (Nat.le_of_ble_eq_true rfl) (Nat.le_of_ble_eq_true rfl) ⟨by rw [mlook_in h3]; rfl, rfl, rfl⟩
set_option maxHeartbeats 4000000 in
set_option maxRecDepth 100000 in
theorem mm_byteOf_miss (l : Launch) (D : va_G) (ta : Nat → ClassId) (B n : Nat) (w : fw_W) (g0 : Nat) (U : Nat) (ix : Int32) (L : Nat) (nd : Nat) (od : Nat) (hh : Nat) (op : Bool) (stt : Nat → Nat) (kys : Nat → Int64) (idx : Nat → Int32) (kyh : Nat → Int64) (z : Int) (m0 : w (g0) = some (.inr (6, [.int (iI (((U : Nat) : Int))), .ref (g0 + 1), .ref (g0 + 2), .ref (g0 + 3), .ref (g0 + 4), .ref (g0 + 5), .ref (g0 + 6), .ref (g0 + 7), .ref (g0 + 8), .ref (g0 + 9), .ref (g0 + 10), .ref (g0 + 11), .ref (g0 + 12), .ref (g0 + 13), .ref (g0 + 14), .ref (g0 + 15), .int (ix), .ref (g0 + 16), .int (iI (((L : Nat) : Int))), .int (iI (((nd : Nat) : Int))), .ref (g0 + 17), .ref (g0 + 18), .ref (g0 + 19), .int (iI (((od : Nat) : Int))), .int (iI (((hh : Nat) : Int))), .int (bI (op))]))) (m1 : w (g0 + 1) = some (.inl (ta 1, 600, .inl (fun z_ => iI (((stt) z_ : Nat) : Int))))) (m2 : w (g0 + 2) = some (.inl (ta 4, 2400, .inr (.inl (kys))))) (m3 : w (g0 + 3) = some (.inl (ta 1, 600, .inl (idx)))) (m15 : w (g0 + 15) = some (.inl (ta 4, 4, .inr (.inl (kyh))))) (hsb : ∀ j, j < 600 → stt j < 3) (hms : ∀ i, i < 600 → mmb stt idx ix kys kyh i 4 = false) : fw_C l D vwCl (tyL ta) B yX6_byteOf cX6_byteOf 3 (some .int) ({ frames := 1, cells := 0, slots := 0, locals := 23 } : Room) [.ref (g0), .int (iI (z))] n w (fun r w1 n1 => r = some (.int (iI ((-1)))) ∧ w1 = w ∧ n1 = n) := by
  refine fw_enter (by decide) (Nat.le_of_ble_eq_true rfl) ?_
  intro p e s m below meth c hx hb hr hml hown hlocks hin hG hts hK H locs hP hS ls hl
  have hown : s.vm.findClass RX6 = some m.cls := hown
  replace hl : lv_has ls 3 [(0, .ref (g0)), (1, .int (iI (z)))] := hl
  have lt_m0 := hP.lt m0
  have lt_m1 := hP.lt m1
  have lt_m2 := hP.lt m2
  have lt_m3 := hP.lt m3
  have lt_m15 := hP.lt m15
  refine lv_aload_n hx hb dX6_byteOf_0 rfl (lv_at hl 0 rfl) ?_
  refine fw_callV (ci := 6) (fs := [.int (iI (((U : Nat) : Int))), .ref (g0 + 1), .ref (g0 + 2), .ref (g0 + 3), .ref (g0 + 4), .ref (g0 + 5), .ref (g0 + 6), .ref (g0 + 7), .ref (g0 + 8), .ref (g0 + 9), .ref (g0 + 10), .ref (g0 + 11), .ref (g0 + 12), .ref (g0 + 13), .ref (g0 + 14), .ref (g0 + 15), .int (ix), .ref (g0 + 16), .int (iI (((L : Nat) : Int))), .int (iI (((nd : Nat) : Int))), .ref (g0 + 17), .ref (g0 + 18), .ref (g0 + 19), .int (iI (((od : Nat) : Int))), .int (iI (((hh : Nat) : Int))), .int (bI (op))]) (T := TX6) (N := 26) (b := g0) (As := []) (rest := []) hx hb hml hown hts hK hG hP hS hl mM_X6_find mV_X6_find mLX6_97 (mm_find_miss l D ta B (n) (w) (g0) (U) ((ix)) (L) (nd) (od) (hh) (op) (stt) (kys) (idx) (kyh) m0 m1 m2 m3 m15 hsb hms) m0 rfl rfl rfl (Nat.le_of_ble_eq_true rfl) ⟨Nat.le_of_ble_eq_true rfl, Nat.le_of_ble_eq_true rfl⟩ ⟨Nat.le_of_ble_eq_true rfl, Nat.le_of_ble_eq_true rfl⟩ dX6_byteOf_1 (fun r w1 n1 H locs hq hP hS => ?_)
  obtain ⟨rfl, hw1, hn1⟩ := hq
  replace hw1 := hw1.symm; replace hn1 := hn1.symm; subst hw1; subst hn1
  refine W.eq (g2 := F0 m 4 ls [.int (iI ((-1)))]) rfl ?_
  refine lv_istore_n (lv' := [(2, .int (iI ((-1)))), (0, .ref (g0)), (1, .int (iI (z)))]) hx hb dX6_byteOf_4 rfl hl (by decide) rfl (fun ls hl => ?_)
  refine lv_iload_n hx hb dX6_byteOf_5 rfl (lv_at hl 0 rfl) ?_
  refine fn_if_lt (x := (-1)) (tgt := 32) hx hb dX6_byteOf_6 (by decide) ⟨by omega, by omega⟩ (fun c2 => ?_) (fun c2 => False.elim (by omega))
  refine lv_iconst (v := (iI ((-1)))) hx hb dX6_byteOf_32 rfl ?_
  exact fw_iret hx hb hr hlocks hP hS dX6_byteOf_33 (Nat.le_of_ble_eq_true rfl) (Nat.le_of_ble_eq_true rfl) ⟨rfl, rfl, rfl⟩
set_option maxHeartbeats 4000000 in
set_option maxRecDepth 100000 in
theorem mm_byteOf_hit (l : Launch) (D : va_G) (ta : Nat → ClassId) (B n : Nat) (w : fw_W) (g0 : Nat) (U : Nat) (ix : Int32) (L : Nat) (nd : Nat) (od : Nat) (hh : Nat) (op : Bool) (stt : Nat → Nat) (kys : Nat → Int64) (idx : Nat → Int32) (kyh : Nat → Int64) (szs : Nat → Nat) (ss : Nat → Nat → Int32) (j : Nat) (z : Int) (m0 : w (g0) = some (.inr (6, [.int (iI (((U : Nat) : Int))), .ref (g0 + 1), .ref (g0 + 2), .ref (g0 + 3), .ref (g0 + 4), .ref (g0 + 5), .ref (g0 + 6), .ref (g0 + 7), .ref (g0 + 8), .ref (g0 + 9), .ref (g0 + 10), .ref (g0 + 11), .ref (g0 + 12), .ref (g0 + 13), .ref (g0 + 14), .ref (g0 + 15), .int (ix), .ref (g0 + 16), .int (iI (((L : Nat) : Int))), .int (iI (((nd : Nat) : Int))), .ref (g0 + 17), .ref (g0 + 18), .ref (g0 + 19), .int (iI (((od : Nat) : Int))), .int (iI (((hh : Nat) : Int))), .int (bI (op))]))) (m1 : w (g0 + 1) = some (.inl (ta 1, 600, .inl (fun z_ => iI (((stt) z_ : Nat) : Int))))) (m2 : w (g0 + 2) = some (.inl (ta 4, 2400, .inr (.inl (kys))))) (m3 : w (g0 + 3) = some (.inl (ta 1, 600, .inl (idx)))) (m15 : w (g0 + 15) = some (.inl (ta 4, 4, .inr (.inl (kyh))))) (m7 : w (g0 + 7) = some (.inl (ta 1, 600, .inl (fun z_ => iI (((szs) z_ : Nat) : Int))))) (m8 : w (g0 + 8) = some (.inl (ta 0, 19800, .inl (ss 0)))) (m9 : w (g0 + 9) = some (.inl (ta 0, 19800, .inl (ss 1)))) (m10 : w (g0 + 10) = some (.inl (ta 0, 19800, .inl (ss 2)))) (m11 : w (g0 + 11) = some (.inl (ta 0, 19800, .inl (ss 3)))) (m12 : w (g0 + 12) = some (.inl (ta 0, 19800, .inl (ss 4)))) (m13 : w (g0 + 13) = some (.inl (ta 0, 19800, .inl (ss 5)))) (m14 : w (g0 + 14) = some (.inl (ta 0, 19800, .inl (ss 6)))) (hsb : ∀ j, j < 600 → stt j < 3) (hj : j < 600) (hkj : mmb stt idx ix kys kyh j 4 = true) (huq : ∀ i, i < 600 → mmb stt idx ix kys kyh i 4 = true → i = j) (hsz : szs j ≤ 200) (hz : iK z) : fw_C l D vwCl (tyL ta) B yX6_byteOf cX6_byteOf 3 (some .int) ({ frames := 1, cells := 0, slots := 0, locals := 23 } : Room) [.ref (g0), .int (iI (z))] n w (fun r w1 n1 => r = some (.int (if 0 ≤ z ∧ z < ((szs j : Nat) : Int) then mget ss j z.toNat &&& iI ((255 : Nat) : Int) else iI (-1))) ∧ w1 = w ∧ n1 = n) := by
  refine fw_enter (by decide) (Nat.le_of_ble_eq_true rfl) ?_
  intro p e s m below meth c hx hb hr hml hown hlocks hin hG hts hK H locs hP hS ls hl
  have hown : s.vm.findClass RX6 = some m.cls := hown
  replace hl : lv_has ls 3 [(0, .ref (g0)), (1, .int (iI (z)))] := hl
  have lt_m0 := hP.lt m0
  have lt_m1 := hP.lt m1
  have lt_m2 := hP.lt m2
  have lt_m3 := hP.lt m3
  have lt_m15 := hP.lt m15
  have lt_m7 := hP.lt m7
  have lt_m8 := hP.lt m8
  have lt_m9 := hP.lt m9
  have lt_m10 := hP.lt m10
  have lt_m11 := hP.lt m11
  have lt_m12 := hP.lt m12
  have lt_m13 := hP.lt m13
  have lt_m14 := hP.lt m14
  obtain ⟨hz1, hz2⟩ := hz
  refine lv_aload_n hx hb dX6_byteOf_0 rfl (lv_at hl 0 rfl) ?_
  refine fw_callV (ci := 6) (fs := [.int (iI (((U : Nat) : Int))), .ref (g0 + 1), .ref (g0 + 2), .ref (g0 + 3), .ref (g0 + 4), .ref (g0 + 5), .ref (g0 + 6), .ref (g0 + 7), .ref (g0 + 8), .ref (g0 + 9), .ref (g0 + 10), .ref (g0 + 11), .ref (g0 + 12), .ref (g0 + 13), .ref (g0 + 14), .ref (g0 + 15), .int (ix), .ref (g0 + 16), .int (iI (((L : Nat) : Int))), .int (iI (((nd : Nat) : Int))), .ref (g0 + 17), .ref (g0 + 18), .ref (g0 + 19), .int (iI (((od : Nat) : Int))), .int (iI (((hh : Nat) : Int))), .int (bI (op))]) (T := TX6) (N := 26) (b := g0) (As := []) (rest := []) hx hb hml hown hts hK hG hP hS hl mM_X6_find mV_X6_find mLX6_97 (mm_find_hit l D ta B (n) (w) (g0) (U) ((ix)) (L) (nd) (od) (hh) (op) (stt) (kys) (idx) (kyh) (j) m0 m1 m2 m3 m15 hsb hj hkj huq) m0 rfl rfl rfl (Nat.le_of_ble_eq_true rfl) ⟨Nat.le_of_ble_eq_true rfl, Nat.le_of_ble_eq_true rfl⟩ ⟨Nat.le_of_ble_eq_true rfl, Nat.le_of_ble_eq_true rfl⟩ dX6_byteOf_1 (fun r w1 n1 H locs hq hP hS => ?_)
  obtain ⟨rfl, hw1, hn1⟩ := hq
  replace hw1 := hw1.symm; replace hn1 := hn1.symm; subst hw1; subst hn1
  refine W.eq (g2 := F0 m 4 ls [.int (iI (((j : Nat) : Int)))]) rfl ?_
  refine lv_istore_n (lv' := [(2, .int (iI (((j : Nat) : Int)))), (0, .ref (g0)), (1, .int (iI (z)))]) hx hb dX6_byteOf_4 rfl hl (by decide) rfl (fun ls hl => ?_)
  refine lv_iload_n hx hb dX6_byteOf_5 rfl (lv_at hl 0 rfl) ?_
  refine fn_if_lt (x := ((j : Nat) : Int)) (tgt := 32) hx hb dX6_byteOf_6 (by decide) ⟨by omega, by omega⟩ (fun c2 => False.elim (by omega)) (fun c2 => ?_)
  refine lv_iload_n hx hb dX6_byteOf_9 rfl (lv_at hl 2 rfl) ?_
  refine fn_if_lt (x := z) (tgt := 32) hx hb dX6_byteOf_10 (by decide) ⟨by omega, by omega⟩ (fun c3 => ?_) (fun c3 => ?_)
  · refine lv_iconst (v := (iI ((-1)))) hx hb dX6_byteOf_32 rfl ?_
    exact fw_iret hx hb hr hlocks hP hS dX6_byteOf_33 (Nat.le_of_ble_eq_true rfl) (Nat.le_of_ble_eq_true rfl) ⟨by rw [if_neg (by omega)], rfl, rfl⟩
  · refine lv_iload_n hx hb dX6_byteOf_13 rfl (lv_at hl 2 rfl) ?_
    refine lv_aload_n hx hb dX6_byteOf_14 rfl (lv_at hl 1 rfl) ?_
    refine fw_get (ci := 6) (fs := [.int (iI (((U : Nat) : Int))), .ref (g0 + 1), .ref (g0 + 2), .ref (g0 + 3), .ref (g0 + 4), .ref (g0 + 5), .ref (g0 + 6), .ref (g0 + 7), .ref (g0 + 8), .ref (g0 + 9), .ref (g0 + 10), .ref (g0 + 11), .ref (g0 + 12), .ref (g0 + 13), .ref (g0 + 14), .ref (g0 + 15), .int (ix), .ref (g0 + 16), .int (iI (((L : Nat) : Int))), .int (iI (((nd : Nat) : Int))), .ref (g0 + 17), .ref (g0 + 18), .ref (g0 + 19), .int (iI (((od : Nat) : Int))), .int (iI (((hh : Nat) : Int))), .int (bI (op))]) (k := 7) (v := .ref (g0 + 7)) (C := RX6) (T := TX6) (N := 26) hx hb hts inFX6 hown hK hP m0 rfl (by decide) mFX6_30 rfl dX6_byteOf_15 ?_
    refine lv_iload_n hx hb dX6_byteOf_18 rfl (lv_at hl 0 rfl) ?_
    refine fn_ialdN (g := szs) (k := j) hx hb hK hP 1 m7 rfl (by omega) (by omega) dX6_byteOf_19 ?_
    refine fn_icmp_ge (x := z) (y := ((szs j : Nat) : Int)) (tgt := 32) hx hb dX6_byteOf_20 (by decide) ⟨by omega, by omega⟩ ⟨by omega, by omega⟩ (fun c4 => ?_) (fun c4 => ?_)
    · refine lv_iconst (v := (iI ((-1)))) hx hb dX6_byteOf_32 rfl ?_
      exact fw_iret hx hb hr hlocks hP hS dX6_byteOf_33 (Nat.le_of_ble_eq_true rfl) (Nat.le_of_ble_eq_true rfl) ⟨by rw [if_neg (by omega)], rfl, rfl⟩
    · refine lv_aload_n hx hb dX6_byteOf_23 rfl (lv_at hl 1 rfl) ?_
      refine lv_iload_n hx hb dX6_byteOf_24 rfl (lv_at hl 0 rfl) ?_
      refine lv_iload_n hx hb dX6_byteOf_25 rfl (lv_at hl 2 rfl) ?_
      refine fn_topz (y := ((z.toNat : Nat) : Int)) (by omega) ?_
      refine fw_callV (ci := 6) (fs := [.int (iI (((U : Nat) : Int))), .ref (g0 + 1), .ref (g0 + 2), .ref (g0 + 3), .ref (g0 + 4), .ref (g0 + 5), .ref (g0 + 6), .ref (g0 + 7), .ref (g0 + 8), .ref (g0 + 9), .ref (g0 + 10), .ref (g0 + 11), .ref (g0 + 12), .ref (g0 + 13), .ref (g0 + 14), .ref (g0 + 15), .int (ix), .ref (g0 + 16), .int (iI (((L : Nat) : Int))), .int (iI (((nd : Nat) : Int))), .ref (g0 + 17), .ref (g0 + 18), .ref (g0 + 19), .int (iI (((od : Nat) : Int))), .int (iI (((hh : Nat) : Int))), .int (bI (op))]) (T := TX6) (N := 26) (b := g0) (As := [.int (iI (((j : Nat) : Int))), .int (iI (((z.toNat : Nat) : Int)))]) (rest := []) hx hb hml hown hts hK hG hP hS hl mM_X6_byteAt mV_X6_byteAt mLX6_114 (mm_byteAt l D ta B (n) (w) (g0) (U) ((ix)) (L) (nd) (od) (hh) (op) (ss) (j) (z.toNat) m0 m8 m9 m10 m11 m12 m13 m14 (by omega) (by omega)) m0 rfl rfl rfl (Nat.le_of_ble_eq_true rfl) ⟨Nat.le_of_ble_eq_true rfl, Nat.le_of_ble_eq_true rfl⟩ ⟨Nat.le_of_ble_eq_true rfl, Nat.le_of_ble_eq_true rfl⟩ dX6_byteOf_26 (fun r w5 n1 H locs hq hP hS => ?_)
      obtain ⟨rfl, hw1, hn1⟩ := hq
      replace hw1 := hw1.symm; replace hn1 := hn1.symm; subst hw1; subst hn1
      refine W.eq (g2 := F0 m 29 ls [.int (mget ss j z.toNat &&& iI ((255 : Nat) : Int))]) rfl ?_
      refine lv_goto (tgt := 33) hx hb dX6_byteOf_29 (by decide) ?_
      exact fw_iret hx hb hr hlocks hP hS dX6_byteOf_33 (Nat.le_of_ble_eq_true rfl) (Nat.le_of_ble_eq_true rfl) ⟨by rw [if_pos ⟨by omega, by omega⟩], rfl, rfl⟩
set_option maxHeartbeats 4000000 in
set_option maxRecDepth 100000 in
theorem mm_count_o (l : Launch) (D : va_G) (ta : Nat → ClassId) (B n : Nat) (w : fw_W) (g0 : Nat) (U : Nat) (ix : Int32) (L : Nat) (nd : Nat) (od : Nat) (hh : Nat) (stt : Nat → Nat) (what : Int32) (m0 : w (g0) = some (.inr (6, [.int (iI (((U : Nat) : Int))), .ref (g0 + 1), .ref (g0 + 2), .ref (g0 + 3), .ref (g0 + 4), .ref (g0 + 5), .ref (g0 + 6), .ref (g0 + 7), .ref (g0 + 8), .ref (g0 + 9), .ref (g0 + 10), .ref (g0 + 11), .ref (g0 + 12), .ref (g0 + 13), .ref (g0 + 14), .ref (g0 + 15), .int (ix), .ref (g0 + 16), .int (iI (((L : Nat) : Int))), .int (iI (((nd : Nat) : Int))), .ref (g0 + 17), .ref (g0 + 18), .ref (g0 + 19), .int (iI (((od : Nat) : Int))), .int (iI (((hh : Nat) : Int))), .int (bI (true))]))) (m1 : w (g0 + 1) = some (.inl (ta 1, 600, .inl (fun z_ => iI (((stt) z_ : Nat) : Int))))) (hsb : ∀ j, j < 600 → stt j < 3) (ho : od ≤ hh) : fw_C l D vwCl (tyL ta) B yX6_count cX6_count 2 (some .int) ({ frames := 1, cells := 0, slots := 0, locals := 23 } : Room) [.ref (g0), .int (what)] n w (fun r w1 n1 => r = some (.int (countv what ((hh : Nat) : Int) (cnt stt 1 600) (cnt stt 2 600) (hh - od + 1) true)) ∧ w1 = w ∧ n1 = n) := by
  refine fw_enter (by decide) (Nat.le_of_ble_eq_true rfl) ?_
  intro p e s m below meth c hx hb hr hml hown hlocks hin hG hts hK H locs hP hS ls hl
  have hown : s.vm.findClass RX6 = some m.cls := hown
  replace hl : lv_has ls 2 [(0, .ref (g0)), (1, .int (what))] := hl
  have lt_m0 := hP.lt m0
  have lt_m1 := hP.lt m1
  refine lv_iload_n hx hb dX6_count_0 rfl (lv_at hl 1 rfl) ?_
  by_cases hsw : (what).toInt < 0 ∨ 4 < (what).toInt
  · refine lv_tableOut (tgt := 71) hx hb dX6_count_1 hsw (by decide) ?_
    refine lv_iconst (v := (iI ((-1)))) hx hb dX6_count_71 rfl ?_
    exact fw_iret hx hb hr hlocks hP hS dX6_count_72 (Nat.le_of_ble_eq_true rfl) (Nat.le_of_ble_eq_true rfl) ⟨by rw [countv_out _ _ _ _ _ hsw], rfl, rfl⟩
  · have h1 : ¬ (what).toInt < 0 := fun q => hsw (Or.inl q)
    have h2 : ¬ 4 < (what).toInt := fun q => hsw (Or.inr q)
    have h3 : (what).toInt = 0 ∨ (what).toInt = 1 ∨ (what).toInt = 2 ∨ (what).toInt = 3 ∨ (what).toInt = 4 := by omega
    rcases h3 with h3 | h3 | h3 | h3 | h3
    · refine lv_tableIn (tgt := 36) hx hb dX6_count_1 h1 h2 (by rw [h3]; rfl) (by decide) ?_
      refine lv_aload_n hx hb dX6_count_36 rfl (lv_at hl 0 rfl) ?_
      refine fw_get (ci := 6) (fs := [.int (iI (((U : Nat) : Int))), .ref (g0 + 1), .ref (g0 + 2), .ref (g0 + 3), .ref (g0 + 4), .ref (g0 + 5), .ref (g0 + 6), .ref (g0 + 7), .ref (g0 + 8), .ref (g0 + 9), .ref (g0 + 10), .ref (g0 + 11), .ref (g0 + 12), .ref (g0 + 13), .ref (g0 + 14), .ref (g0 + 15), .int (ix), .ref (g0 + 16), .int (iI (((L : Nat) : Int))), .int (iI (((nd : Nat) : Int))), .ref (g0 + 17), .ref (g0 + 18), .ref (g0 + 19), .int (iI (((od : Nat) : Int))), .int (iI (((hh : Nat) : Int))), .int (bI (true))]) (k := 24) (v := .int (iI (((hh : Nat) : Int)))) (C := RX6) (T := TX6) (N := 26) hx hb hts inFX6 hown hK hP m0 rfl (by decide) mFX6_80 rfl dX6_count_37 ?_
      exact fw_iret hx hb hr hlocks hP hS dX6_count_40 (Nat.le_of_ble_eq_true rfl) (Nat.le_of_ble_eq_true rfl) ⟨by rw [countv_in _ _ _ _ _ h3]; rfl, rfl, rfl⟩
    · refine lv_tableIn (tgt := 41) hx hb dX6_count_1 h1 h2 (by rw [h3]; rfl) (by decide) ?_
      refine lv_aload_n hx hb dX6_count_41 rfl (lv_at hl 0 rfl) ?_
      refine lv_iconst (v := (iI (((1 : Nat) : Int)))) hx hb dX6_count_42 rfl ?_
      refine fw_callV (ci := 6) (fs := [.int (iI (((U : Nat) : Int))), .ref (g0 + 1), .ref (g0 + 2), .ref (g0 + 3), .ref (g0 + 4), .ref (g0 + 5), .ref (g0 + 6), .ref (g0 + 7), .ref (g0 + 8), .ref (g0 + 9), .ref (g0 + 10), .ref (g0 + 11), .ref (g0 + 12), .ref (g0 + 13), .ref (g0 + 14), .ref (g0 + 15), .int (ix), .ref (g0 + 16), .int (iI (((L : Nat) : Int))), .int (iI (((nd : Nat) : Int))), .ref (g0 + 17), .ref (g0 + 18), .ref (g0 + 19), .int (iI (((od : Nat) : Int))), .int (iI (((hh : Nat) : Int))), .int (bI (true))]) (T := TX6) (N := 26) (b := g0) (As := [.int (iI (((1 : Nat) : Int)))]) (rest := []) hx hb hml hown hts hK hG hP hS hl mM_X6_countOf mV_X6_countOf mLX6_100 (mm_countOf l D ta B (n) (w) (g0) (U) ((ix)) (L) (nd) (od) (hh) (true) (stt) (1) m0 m1 hsb (by decide)) m0 rfl rfl rfl (Nat.le_of_ble_eq_true rfl) ⟨Nat.le_of_ble_eq_true rfl, Nat.le_of_ble_eq_true rfl⟩ ⟨Nat.le_of_ble_eq_true rfl, Nat.le_of_ble_eq_true rfl⟩ dX6_count_43 (fun r w1 n1 H locs hq hP hS => ?_)
      obtain ⟨rfl, hw1, hn1⟩ := hq
      replace hw1 := hw1.symm; replace hn1 := hn1.symm; subst hw1; subst hn1
      refine W.eq (g2 := F0 m 46 ls [.int (iI (((cnt stt 1 600 : Nat) : Int)))]) rfl ?_
      exact fw_iret hx hb hr hlocks hP hS dX6_count_46 (Nat.le_of_ble_eq_true rfl) (Nat.le_of_ble_eq_true rfl) ⟨by rw [countv_in _ _ _ _ _ h3]; rfl, rfl, rfl⟩
    · refine lv_tableIn (tgt := 47) hx hb dX6_count_1 h1 h2 (by rw [h3]; rfl) (by decide) ?_
      refine lv_aload_n hx hb dX6_count_47 rfl (lv_at hl 0 rfl) ?_
      refine lv_iconst (v := (iI (((2 : Nat) : Int)))) hx hb dX6_count_48 rfl ?_
      refine fw_callV (ci := 6) (fs := [.int (iI (((U : Nat) : Int))), .ref (g0 + 1), .ref (g0 + 2), .ref (g0 + 3), .ref (g0 + 4), .ref (g0 + 5), .ref (g0 + 6), .ref (g0 + 7), .ref (g0 + 8), .ref (g0 + 9), .ref (g0 + 10), .ref (g0 + 11), .ref (g0 + 12), .ref (g0 + 13), .ref (g0 + 14), .ref (g0 + 15), .int (ix), .ref (g0 + 16), .int (iI (((L : Nat) : Int))), .int (iI (((nd : Nat) : Int))), .ref (g0 + 17), .ref (g0 + 18), .ref (g0 + 19), .int (iI (((od : Nat) : Int))), .int (iI (((hh : Nat) : Int))), .int (bI (true))]) (T := TX6) (N := 26) (b := g0) (As := [.int (iI (((2 : Nat) : Int)))]) (rest := []) hx hb hml hown hts hK hG hP hS hl mM_X6_countOf mV_X6_countOf mLX6_100 (mm_countOf l D ta B (n) (w) (g0) (U) ((ix)) (L) (nd) (od) (hh) (true) (stt) (2) m0 m1 hsb (by decide)) m0 rfl rfl rfl (Nat.le_of_ble_eq_true rfl) ⟨Nat.le_of_ble_eq_true rfl, Nat.le_of_ble_eq_true rfl⟩ ⟨Nat.le_of_ble_eq_true rfl, Nat.le_of_ble_eq_true rfl⟩ dX6_count_49 (fun r w2 n1 H locs hq hP hS => ?_)
      obtain ⟨rfl, hw1, hn1⟩ := hq
      replace hw1 := hw1.symm; replace hn1 := hn1.symm; subst hw1; subst hn1
      refine W.eq (g2 := F0 m 52 ls [.int (iI (((cnt stt 2 600 : Nat) : Int)))]) rfl ?_
      exact fw_iret hx hb hr hlocks hP hS dX6_count_52 (Nat.le_of_ble_eq_true rfl) (Nat.le_of_ble_eq_true rfl) ⟨by rw [countv_in _ _ _ _ _ h3]; rfl, rfl, rfl⟩
    · refine lv_tableIn (tgt := 53) hx hb dX6_count_1 h1 h2 (by rw [h3]; rfl) (by decide) ?_
      refine lv_aload_n hx hb dX6_count_53 rfl (lv_at hl 0 rfl) ?_
      refine fw_callV (ci := 6) (fs := [.int (iI (((U : Nat) : Int))), .ref (g0 + 1), .ref (g0 + 2), .ref (g0 + 3), .ref (g0 + 4), .ref (g0 + 5), .ref (g0 + 6), .ref (g0 + 7), .ref (g0 + 8), .ref (g0 + 9), .ref (g0 + 10), .ref (g0 + 11), .ref (g0 + 12), .ref (g0 + 13), .ref (g0 + 14), .ref (g0 + 15), .int (ix), .ref (g0 + 16), .int (iI (((L : Nat) : Int))), .int (iI (((nd : Nat) : Int))), .ref (g0 + 17), .ref (g0 + 18), .ref (g0 + 19), .int (iI (((od : Nat) : Int))), .int (iI (((hh : Nat) : Int))), .int (bI (true))]) (T := TX6) (N := 26) (b := g0) (As := []) (rest := []) hx hb hml hown hts hK hG hP hS hl mM_X6_records mV_X6_records mLX6_90 (mm_records_o l D ta B (n) (w) (g0) (U) ((ix)) (L) (nd) (od) (hh) m0 (by omega)) m0 rfl rfl rfl (Nat.le_of_ble_eq_true rfl) ⟨Nat.le_of_ble_eq_true rfl, Nat.le_of_ble_eq_true rfl⟩ ⟨Nat.le_of_ble_eq_true rfl, Nat.le_of_ble_eq_true rfl⟩ dX6_count_54 (fun r w3 n1 H locs hq hP hS => ?_)
      obtain ⟨rfl, hw1, hn1⟩ := hq
      replace hw1 := hw1.symm; replace hn1 := hn1.symm; subst hw1; subst hn1
      refine W.eq (g2 := F0 m 57 ls [.int (iI (((hh - od + 1 : Nat) : Int)))]) rfl ?_
      exact fw_iret hx hb hr hlocks hP hS dX6_count_57 (Nat.le_of_ble_eq_true rfl) (Nat.le_of_ble_eq_true rfl) ⟨by rw [countv_in _ _ _ _ _ h3]; rfl, rfl, rfl⟩
    · refine lv_tableIn (tgt := 58) hx hb dX6_count_1 h1 h2 (by rw [h3]; rfl) (by decide) ?_
      refine lv_aload_n hx hb dX6_count_58 rfl (lv_at hl 0 rfl) ?_
      refine fw_get (ci := 6) (fs := [.int (iI (((U : Nat) : Int))), .ref (g0 + 1), .ref (g0 + 2), .ref (g0 + 3), .ref (g0 + 4), .ref (g0 + 5), .ref (g0 + 6), .ref (g0 + 7), .ref (g0 + 8), .ref (g0 + 9), .ref (g0 + 10), .ref (g0 + 11), .ref (g0 + 12), .ref (g0 + 13), .ref (g0 + 14), .ref (g0 + 15), .int (ix), .ref (g0 + 16), .int (iI (((L : Nat) : Int))), .int (iI (((nd : Nat) : Int))), .ref (g0 + 17), .ref (g0 + 18), .ref (g0 + 19), .int (iI (((od : Nat) : Int))), .int (iI (((hh : Nat) : Int))), .int (bI (true))]) (k := 25) (v := .int (bI (true))) (C := RX6) (T := TX6) (N := 26) hx hb hts inFX6 hown hK hP m0 rfl (by decide) mFX6_86 rfl dX6_count_59 ?_
      refine fn_bif_eq (x := true) (tgt := 69) hx hb dX6_count_62 (by decide) (fun c4 => False.elim (by cases c4)) (fun c4 => ?_)
      refine lv_iconst (v := (iI (((1 : Nat) : Int)))) hx hb dX6_count_65 rfl ?_
      refine lv_goto (tgt := 70) hx hb dX6_count_66 (by decide) ?_
      exact fw_iret hx hb hr hlocks hP hS dX6_count_70 (Nat.le_of_ble_eq_true rfl) (Nat.le_of_ble_eq_true rfl) ⟨by rw [countv_in _ _ _ _ _ h3]; rfl, rfl, rfl⟩
set_option maxHeartbeats 4000000 in
set_option maxRecDepth 100000 in
theorem mm_count_c (l : Launch) (D : va_G) (ta : Nat → ClassId) (B n : Nat) (w : fw_W) (g0 : Nat) (U : Nat) (ix : Int32) (L : Nat) (nd : Nat) (od : Nat) (hh : Nat) (stt : Nat → Nat) (what : Int32) (m0 : w (g0) = some (.inr (6, [.int (iI (((U : Nat) : Int))), .ref (g0 + 1), .ref (g0 + 2), .ref (g0 + 3), .ref (g0 + 4), .ref (g0 + 5), .ref (g0 + 6), .ref (g0 + 7), .ref (g0 + 8), .ref (g0 + 9), .ref (g0 + 10), .ref (g0 + 11), .ref (g0 + 12), .ref (g0 + 13), .ref (g0 + 14), .ref (g0 + 15), .int (ix), .ref (g0 + 16), .int (iI (((L : Nat) : Int))), .int (iI (((nd : Nat) : Int))), .ref (g0 + 17), .ref (g0 + 18), .ref (g0 + 19), .int (iI (((od : Nat) : Int))), .int (iI (((hh : Nat) : Int))), .int (bI (false))]))) (m1 : w (g0 + 1) = some (.inl (ta 1, 600, .inl (fun z_ => iI (((stt) z_ : Nat) : Int))))) (hsb : ∀ j, j < 600 → stt j < 3) (ho : od ≤ hh) : fw_C l D vwCl (tyL ta) B yX6_count cX6_count 2 (some .int) ({ frames := 1, cells := 0, slots := 0, locals := 23 } : Room) [.ref (g0), .int (what)] n w (fun r w1 n1 => r = some (.int (countv what ((hh : Nat) : Int) (cnt stt 1 600) (cnt stt 2 600) (hh - od) false)) ∧ w1 = w ∧ n1 = n) := by
  refine fw_enter (by decide) (Nat.le_of_ble_eq_true rfl) ?_
  intro p e s m below meth c hx hb hr hml hown hlocks hin hG hts hK H locs hP hS ls hl
  have hown : s.vm.findClass RX6 = some m.cls := hown
  replace hl : lv_has ls 2 [(0, .ref (g0)), (1, .int (what))] := hl
  have lt_m0 := hP.lt m0
  have lt_m1 := hP.lt m1
  refine lv_iload_n hx hb dX6_count_0 rfl (lv_at hl 1 rfl) ?_
  by_cases hsw : (what).toInt < 0 ∨ 4 < (what).toInt
  · refine lv_tableOut (tgt := 71) hx hb dX6_count_1 hsw (by decide) ?_
    refine lv_iconst (v := (iI ((-1)))) hx hb dX6_count_71 rfl ?_
    exact fw_iret hx hb hr hlocks hP hS dX6_count_72 (Nat.le_of_ble_eq_true rfl) (Nat.le_of_ble_eq_true rfl) ⟨by rw [countv_out _ _ _ _ _ hsw], rfl, rfl⟩
  · have h1 : ¬ (what).toInt < 0 := fun q => hsw (Or.inl q)
    have h2 : ¬ 4 < (what).toInt := fun q => hsw (Or.inr q)
    have h3 : (what).toInt = 0 ∨ (what).toInt = 1 ∨ (what).toInt = 2 ∨ (what).toInt = 3 ∨ (what).toInt = 4 := by omega
    rcases h3 with h3 | h3 | h3 | h3 | h3
    · refine lv_tableIn (tgt := 36) hx hb dX6_count_1 h1 h2 (by rw [h3]; rfl) (by decide) ?_
      refine lv_aload_n hx hb dX6_count_36 rfl (lv_at hl 0 rfl) ?_
      refine fw_get (ci := 6) (fs := [.int (iI (((U : Nat) : Int))), .ref (g0 + 1), .ref (g0 + 2), .ref (g0 + 3), .ref (g0 + 4), .ref (g0 + 5), .ref (g0 + 6), .ref (g0 + 7), .ref (g0 + 8), .ref (g0 + 9), .ref (g0 + 10), .ref (g0 + 11), .ref (g0 + 12), .ref (g0 + 13), .ref (g0 + 14), .ref (g0 + 15), .int (ix), .ref (g0 + 16), .int (iI (((L : Nat) : Int))), .int (iI (((nd : Nat) : Int))), .ref (g0 + 17), .ref (g0 + 18), .ref (g0 + 19), .int (iI (((od : Nat) : Int))), .int (iI (((hh : Nat) : Int))), .int (bI (false))]) (k := 24) (v := .int (iI (((hh : Nat) : Int)))) (C := RX6) (T := TX6) (N := 26) hx hb hts inFX6 hown hK hP m0 rfl (by decide) mFX6_80 rfl dX6_count_37 ?_
      exact fw_iret hx hb hr hlocks hP hS dX6_count_40 (Nat.le_of_ble_eq_true rfl) (Nat.le_of_ble_eq_true rfl) ⟨by rw [countv_in _ _ _ _ _ h3]; rfl, rfl, rfl⟩
    · refine lv_tableIn (tgt := 41) hx hb dX6_count_1 h1 h2 (by rw [h3]; rfl) (by decide) ?_
      refine lv_aload_n hx hb dX6_count_41 rfl (lv_at hl 0 rfl) ?_
      refine lv_iconst (v := (iI (((1 : Nat) : Int)))) hx hb dX6_count_42 rfl ?_
      refine fw_callV (ci := 6) (fs := [.int (iI (((U : Nat) : Int))), .ref (g0 + 1), .ref (g0 + 2), .ref (g0 + 3), .ref (g0 + 4), .ref (g0 + 5), .ref (g0 + 6), .ref (g0 + 7), .ref (g0 + 8), .ref (g0 + 9), .ref (g0 + 10), .ref (g0 + 11), .ref (g0 + 12), .ref (g0 + 13), .ref (g0 + 14), .ref (g0 + 15), .int (ix), .ref (g0 + 16), .int (iI (((L : Nat) : Int))), .int (iI (((nd : Nat) : Int))), .ref (g0 + 17), .ref (g0 + 18), .ref (g0 + 19), .int (iI (((od : Nat) : Int))), .int (iI (((hh : Nat) : Int))), .int (bI (false))]) (T := TX6) (N := 26) (b := g0) (As := [.int (iI (((1 : Nat) : Int)))]) (rest := []) hx hb hml hown hts hK hG hP hS hl mM_X6_countOf mV_X6_countOf mLX6_100 (mm_countOf l D ta B (n) (w) (g0) (U) ((ix)) (L) (nd) (od) (hh) (false) (stt) (1) m0 m1 hsb (by decide)) m0 rfl rfl rfl (Nat.le_of_ble_eq_true rfl) ⟨Nat.le_of_ble_eq_true rfl, Nat.le_of_ble_eq_true rfl⟩ ⟨Nat.le_of_ble_eq_true rfl, Nat.le_of_ble_eq_true rfl⟩ dX6_count_43 (fun r w1 n1 H locs hq hP hS => ?_)
      obtain ⟨rfl, hw1, hn1⟩ := hq
      replace hw1 := hw1.symm; replace hn1 := hn1.symm; subst hw1; subst hn1
      refine W.eq (g2 := F0 m 46 ls [.int (iI (((cnt stt 1 600 : Nat) : Int)))]) rfl ?_
      exact fw_iret hx hb hr hlocks hP hS dX6_count_46 (Nat.le_of_ble_eq_true rfl) (Nat.le_of_ble_eq_true rfl) ⟨by rw [countv_in _ _ _ _ _ h3]; rfl, rfl, rfl⟩
    · refine lv_tableIn (tgt := 47) hx hb dX6_count_1 h1 h2 (by rw [h3]; rfl) (by decide) ?_
      refine lv_aload_n hx hb dX6_count_47 rfl (lv_at hl 0 rfl) ?_
      refine lv_iconst (v := (iI (((2 : Nat) : Int)))) hx hb dX6_count_48 rfl ?_
      refine fw_callV (ci := 6) (fs := [.int (iI (((U : Nat) : Int))), .ref (g0 + 1), .ref (g0 + 2), .ref (g0 + 3), .ref (g0 + 4), .ref (g0 + 5), .ref (g0 + 6), .ref (g0 + 7), .ref (g0 + 8), .ref (g0 + 9), .ref (g0 + 10), .ref (g0 + 11), .ref (g0 + 12), .ref (g0 + 13), .ref (g0 + 14), .ref (g0 + 15), .int (ix), .ref (g0 + 16), .int (iI (((L : Nat) : Int))), .int (iI (((nd : Nat) : Int))), .ref (g0 + 17), .ref (g0 + 18), .ref (g0 + 19), .int (iI (((od : Nat) : Int))), .int (iI (((hh : Nat) : Int))), .int (bI (false))]) (T := TX6) (N := 26) (b := g0) (As := [.int (iI (((2 : Nat) : Int)))]) (rest := []) hx hb hml hown hts hK hG hP hS hl mM_X6_countOf mV_X6_countOf mLX6_100 (mm_countOf l D ta B (n) (w) (g0) (U) ((ix)) (L) (nd) (od) (hh) (false) (stt) (2) m0 m1 hsb (by decide)) m0 rfl rfl rfl (Nat.le_of_ble_eq_true rfl) ⟨Nat.le_of_ble_eq_true rfl, Nat.le_of_ble_eq_true rfl⟩ ⟨Nat.le_of_ble_eq_true rfl, Nat.le_of_ble_eq_true rfl⟩ dX6_count_49 (fun r w2 n1 H locs hq hP hS => ?_)
      obtain ⟨rfl, hw1, hn1⟩ := hq
      replace hw1 := hw1.symm; replace hn1 := hn1.symm; subst hw1; subst hn1
      refine W.eq (g2 := F0 m 52 ls [.int (iI (((cnt stt 2 600 : Nat) : Int)))]) rfl ?_
      exact fw_iret hx hb hr hlocks hP hS dX6_count_52 (Nat.le_of_ble_eq_true rfl) (Nat.le_of_ble_eq_true rfl) ⟨by rw [countv_in _ _ _ _ _ h3]; rfl, rfl, rfl⟩
    · refine lv_tableIn (tgt := 53) hx hb dX6_count_1 h1 h2 (by rw [h3]; rfl) (by decide) ?_
      refine lv_aload_n hx hb dX6_count_53 rfl (lv_at hl 0 rfl) ?_
      refine fw_callV (ci := 6) (fs := [.int (iI (((U : Nat) : Int))), .ref (g0 + 1), .ref (g0 + 2), .ref (g0 + 3), .ref (g0 + 4), .ref (g0 + 5), .ref (g0 + 6), .ref (g0 + 7), .ref (g0 + 8), .ref (g0 + 9), .ref (g0 + 10), .ref (g0 + 11), .ref (g0 + 12), .ref (g0 + 13), .ref (g0 + 14), .ref (g0 + 15), .int (ix), .ref (g0 + 16), .int (iI (((L : Nat) : Int))), .int (iI (((nd : Nat) : Int))), .ref (g0 + 17), .ref (g0 + 18), .ref (g0 + 19), .int (iI (((od : Nat) : Int))), .int (iI (((hh : Nat) : Int))), .int (bI (false))]) (T := TX6) (N := 26) (b := g0) (As := []) (rest := []) hx hb hml hown hts hK hG hP hS hl mM_X6_records mV_X6_records mLX6_90 (mm_records_c l D ta B (n) (w) (g0) (U) ((ix)) (L) (nd) (od) (hh) m0 (by omega)) m0 rfl rfl rfl (Nat.le_of_ble_eq_true rfl) ⟨Nat.le_of_ble_eq_true rfl, Nat.le_of_ble_eq_true rfl⟩ ⟨Nat.le_of_ble_eq_true rfl, Nat.le_of_ble_eq_true rfl⟩ dX6_count_54 (fun r w3 n1 H locs hq hP hS => ?_)
      obtain ⟨rfl, hw1, hn1⟩ := hq
      replace hw1 := hw1.symm; replace hn1 := hn1.symm; subst hw1; subst hn1
      refine W.eq (g2 := F0 m 57 ls [.int (iI (((hh - od : Nat) : Int)))]) rfl ?_
      exact fw_iret hx hb hr hlocks hP hS dX6_count_57 (Nat.le_of_ble_eq_true rfl) (Nat.le_of_ble_eq_true rfl) ⟨by rw [countv_in _ _ _ _ _ h3]; rfl, rfl, rfl⟩
    · refine lv_tableIn (tgt := 58) hx hb dX6_count_1 h1 h2 (by rw [h3]; rfl) (by decide) ?_
      refine lv_aload_n hx hb dX6_count_58 rfl (lv_at hl 0 rfl) ?_
      refine fw_get (ci := 6) (fs := [.int (iI (((U : Nat) : Int))), .ref (g0 + 1), .ref (g0 + 2), .ref (g0 + 3), .ref (g0 + 4), .ref (g0 + 5), .ref (g0 + 6), .ref (g0 + 7), .ref (g0 + 8), .ref (g0 + 9), .ref (g0 + 10), .ref (g0 + 11), .ref (g0 + 12), .ref (g0 + 13), .ref (g0 + 14), .ref (g0 + 15), .int (ix), .ref (g0 + 16), .int (iI (((L : Nat) : Int))), .int (iI (((nd : Nat) : Int))), .ref (g0 + 17), .ref (g0 + 18), .ref (g0 + 19), .int (iI (((od : Nat) : Int))), .int (iI (((hh : Nat) : Int))), .int (bI (false))]) (k := 25) (v := .int (bI (false))) (C := RX6) (T := TX6) (N := 26) hx hb hts inFX6 hown hK hP m0 rfl (by decide) mFX6_86 rfl dX6_count_59 ?_
      refine fn_bif_eq (x := false) (tgt := 69) hx hb dX6_count_62 (by decide) (fun c4 => ?_) (fun c4 => False.elim (by cases c4))
      refine lv_iconst (v := (iI (((0 : Nat) : Int)))) hx hb dX6_count_69 rfl ?_
      exact fw_iret hx hb hr hlocks hP hS dX6_count_70 (Nat.le_of_ble_eq_true rfl) (Nat.le_of_ble_eq_true rfl) ⟨by rw [countv_in _ _ _ _ _ h3]; rfl, rfl, rfl⟩
set_option maxHeartbeats 4000000 in
set_option maxRecDepth 100000 in
theorem mm_total (l : Launch) (D : va_G) (ta : Nat → ClassId) (B n : Nat) (w : fw_W) (g0 : Nat) (U : Nat) (ix : Int32) (L : Nat) (nd : Nat) (od : Nat) (hh : Nat) (op : Bool) (stt : Nat → Nat) (vls : Nat → Int64) (m0 : w (g0) = some (.inr (6, [.int (iI (((U : Nat) : Int))), .ref (g0 + 1), .ref (g0 + 2), .ref (g0 + 3), .ref (g0 + 4), .ref (g0 + 5), .ref (g0 + 6), .ref (g0 + 7), .ref (g0 + 8), .ref (g0 + 9), .ref (g0 + 10), .ref (g0 + 11), .ref (g0 + 12), .ref (g0 + 13), .ref (g0 + 14), .ref (g0 + 15), .int (ix), .ref (g0 + 16), .int (iI (((L : Nat) : Int))), .int (iI (((nd : Nat) : Int))), .ref (g0 + 17), .ref (g0 + 18), .ref (g0 + 19), .int (iI (((od : Nat) : Int))), .int (iI (((hh : Nat) : Int))), .int (bI (op))]))) (m1 : w (g0 + 1) = some (.inl (ta 1, 600, .inl (fun z_ => iI (((stt) z_ : Nat) : Int))))) (m4 : w (g0 + 4) = some (.inl (ta 4, 600, .inr (.inl (vls))))) (hsb : ∀ j, j < 600 → stt j < 3) : fw_C l D vwCl (tyL ta) B yX6_total cX6_total 4 (some .long) ({ frames := 0, cells := 0, slots := 0, locals := 0 } : Room) [.ref (g0)] n w (fun r w1 n1 => r = some (.long (msum stt vls 600)) ∧ w1 = w ∧ n1 = n) := by
  refine fw_enter (by decide) (Nat.le_of_ble_eq_true rfl) ?_
  intro p e s m below meth c hx hb hr hml hown hlocks hin hG hts hK H locs hP hS ls hl
  have hown : s.vm.findClass RX6 = some m.cls := hown
  replace hl : lv_has ls 4 [(0, .ref (g0))] := hl
  have lt_m0 := hP.lt m0
  have lt_m1 := hP.lt m1
  have lt_m4 := hP.lt m4
  refine lv_lconst (v := 0) hx hb dX6_total_0 rfl ?_
  refine lv_lstore_n (lv' := [(1, .long (0)), (0, .ref (g0))]) hx hb dX6_total_1 rfl hl (by decide) rfl (fun ls hl => ?_)
  refine lv_iconst (v := (iI (((0 : Nat) : Int)))) hx hb dX6_total_2 rfl ?_
  refine lv_istore_n (lv' := [(3, .int (iI (((0 : Nat) : Int)))), (1, .long (0)), (0, .ref (g0))]) hx hb dX6_total_3 rfl hl (by decide) rfl (fun ls hl => ?_)
  have lp1 : ∀ (i : Nat)  (H : Heap) (locs : List Loc) (ls : Array Slot), i ≤ 600 → lv_has ls 4 [(3, .int (iI (((i : Nat) : Int)))), (1, .long (msum stt vls i)), (0, .ref (g0))] → fw_P D vwCl B (n) (w) H → fw_S B s.heap H locs → fw_K p l e ({ frames := 0, cells := 0, slots := 0, locals := 0 } : Room) s m [.ref (g0)] below meth c D vwCl B (fun r w1 n1 => r = some (.long (msum stt vls 600)) ∧ w1 = w ∧ n1 = n) H locs (0) (0) (F0 m 4 ls []) := by
    refine fw_loop (fun i : Nat => 600 - i) ?_
    intro i ih4  H locs ls hi hl hP hS
    refine lv_iload_n hx hb dX6_total_4 rfl (lv_at hl 0 rfl) ?_
    refine lv_sipush (v := (iI (((600 : Nat) : Int)))) hx hb dX6_total_5 (by decide) ?_
    refine fn_icmp_ge (x := ((i : Nat) : Int)) (y := ((600 : Nat) : Int)) (tgt := 40) hx hb dX6_total_8 (by decide) ⟨by omega, by omega⟩ ⟨by omega, by omega⟩ (fun c2 => ?_) (fun c2 => ?_)
    · refine lv_lload_n hx hb dX6_total_40 rfl (lv_at hl 1 rfl) ?_
      exact fw_lret hx hb hr hlocks hP hS dX6_total_41 (Nat.le_of_ble_eq_true rfl) (Nat.le_of_ble_eq_true rfl) (by
        obtain rfl : i = 600 := by omega
        exact ⟨rfl, rfl, rfl⟩)
    · refine lv_lload_n hx hb dX6_total_11 rfl (lv_at hl 1 rfl) ?_
      refine lv_aload_n hx hb dX6_total_12 rfl (lv_at hl 2 rfl) ?_
      refine fw_get (ci := 6) (fs := [.int (iI (((U : Nat) : Int))), .ref (g0 + 1), .ref (g0 + 2), .ref (g0 + 3), .ref (g0 + 4), .ref (g0 + 5), .ref (g0 + 6), .ref (g0 + 7), .ref (g0 + 8), .ref (g0 + 9), .ref (g0 + 10), .ref (g0 + 11), .ref (g0 + 12), .ref (g0 + 13), .ref (g0 + 14), .ref (g0 + 15), .int (ix), .ref (g0 + 16), .int (iI (((L : Nat) : Int))), .int (iI (((nd : Nat) : Int))), .ref (g0 + 17), .ref (g0 + 18), .ref (g0 + 19), .int (iI (((od : Nat) : Int))), .int (iI (((hh : Nat) : Int))), .int (bI (op))]) (k := 1) (v := .ref (g0 + 1)) (C := RX6) (T := TX6) (N := 26) hx hb hts inFX6 hown hK hP m0 rfl (by decide) mFX6_7 rfl dX6_total_13 ?_
      refine lv_iload_n hx hb dX6_total_16 rfl (lv_at hl 0 rfl) ?_
      refine fn_ialdN (g := stt) (k := i) hx hb hK hP 1 m1 rfl (by omega) (by omega) dX6_total_17 ?_
      refine lv_iconst (v := (iI (((1 : Nat) : Int)))) hx hb dX6_total_18 rfl ?_
      have hsi := hsb i (by omega)
      refine fn_icmp_ne (x := ((stt i : Nat) : Int)) (y := ((1 : Nat) : Int)) (tgt := 31) hx hb dX6_total_19 (by decide) ⟨by omega, by omega⟩ ⟨by omega, by omega⟩ (fun c3 => ?_) (fun c3 => ?_)
      · refine lv_lconst (v := 0) hx hb dX6_total_31 rfl ?_
        refine lv_ladd hx hb dX6_total_32 ?_
        refine lv_lstore_n (lv' := [(1, .long ((msum stt vls i) + (0))), (3, .int (iI (((i : Nat) : Int)))), (0, .ref (g0))]) hx hb dX6_total_33 rfl hl (by decide) rfl (fun ls hl => ?_)
        refine lv_iinc (k := 1) (v := (iI (((i + 1 : Nat) : Int)))) (lv' := [(3, .int (iI (((i + 1 : Nat) : Int)))), (1, .long ((msum stt vls i) + (0))), (0, .ref (g0))]) hx hb dX6_total_34 hl rfl (iI_inc _ 1) (by decide) rfl (fun ls hl => ?_)
        refine lv_goto (tgt := 4) hx hb dX6_total_37 (by decide) ?_
        replace hl : lv_has ls 4 [(3, .int (iI (((i + 1 : Nat) : Int)))), (1, .long (msum stt vls (i + 1))), (0, .ref (g0))] := by
          refine ⟨hl.1, hl.2.1, fun q hq => hl.2.2 q ?_⟩
          simp only [List.mem_cons, List.not_mem_nil, or_false] at hq
          rcases hq with rfl | rfl | rfl
          · exact List.mem_of_getElem? (i := 0) rfl
          · rw [show msum stt vls (i + 1) = (msum stt vls i) + (0) from (by rw [msum_F (stt := stt) (vls := vls) (i := i) (by omega)])]; exact List.mem_of_getElem? (i := 1) rfl
          · exact List.mem_of_getElem? (i := 2) rfl
        exact ih4 (i + 1) (by omega)  H locs ls (by omega) hl hP hS
      · refine lv_aload_n hx hb dX6_total_22 rfl (lv_at hl 2 rfl) ?_
        refine fw_get (ci := 6) (fs := [.int (iI (((U : Nat) : Int))), .ref (g0 + 1), .ref (g0 + 2), .ref (g0 + 3), .ref (g0 + 4), .ref (g0 + 5), .ref (g0 + 6), .ref (g0 + 7), .ref (g0 + 8), .ref (g0 + 9), .ref (g0 + 10), .ref (g0 + 11), .ref (g0 + 12), .ref (g0 + 13), .ref (g0 + 14), .ref (g0 + 15), .int (ix), .ref (g0 + 16), .int (iI (((L : Nat) : Int))), .int (iI (((nd : Nat) : Int))), .ref (g0 + 17), .ref (g0 + 18), .ref (g0 + 19), .int (iI (((od : Nat) : Int))), .int (iI (((hh : Nat) : Int))), .int (bI (op))]) (k := 4) (v := .ref (g0 + 4)) (C := RX6) (T := TX6) (N := 26) hx hb hts inFX6 hown hK hP m0 rfl (by decide) mFX6_20 rfl dX6_total_23 ?_
        refine lv_iload_n hx hb dX6_total_26 rfl (lv_at hl 0 rfl) ?_
        refine fn_lald (k := i) hx hb hK hP 4 m4 rfl (by omega) (by omega) dX6_total_27 ?_
        refine lv_goto (tgt := 32) hx hb dX6_total_28 (by decide) ?_
        refine lv_ladd hx hb dX6_total_32 ?_
        refine lv_lstore_n (lv' := [(1, .long ((msum stt vls i) + (vls i))), (3, .int (iI (((i : Nat) : Int)))), (0, .ref (g0))]) hx hb dX6_total_33 rfl hl (by decide) rfl (fun ls hl => ?_)
        refine lv_iinc (k := 1) (v := (iI (((i + 1 : Nat) : Int)))) (lv' := [(3, .int (iI (((i + 1 : Nat) : Int)))), (1, .long ((msum stt vls i) + (vls i))), (0, .ref (g0))]) hx hb dX6_total_34 hl rfl (iI_inc _ 1) (by decide) rfl (fun ls hl => ?_)
        refine lv_goto (tgt := 4) hx hb dX6_total_37 (by decide) ?_
        replace hl : lv_has ls 4 [(3, .int (iI (((i + 1 : Nat) : Int)))), (1, .long (msum stt vls (i + 1))), (0, .ref (g0))] := by
          refine ⟨hl.1, hl.2.1, fun q hq => hl.2.2 q ?_⟩
          simp only [List.mem_cons, List.not_mem_nil, or_false] at hq
          rcases hq with rfl | rfl | rfl
          · exact List.mem_of_getElem? (i := 0) rfl
          · rw [show msum stt vls (i + 1) = (msum stt vls i) + (vls i) from (by rw [msum_T (stt := stt) (vls := vls) (i := i) (by omega)])]; exact List.mem_of_getElem? (i := 1) rfl
          · exact List.mem_of_getElem? (i := 2) rfl
        exact ih4 (i + 1) (by omega)  H locs ls (by omega) hl hP hS
  replace hl : lv_has ls 4 [(3, .int (iI (((0 : Nat) : Int)))), (1, .long (msum stt vls 0)), (0, .ref (g0))] := by
    refine ⟨hl.1, hl.2.1, fun q hq => hl.2.2 q ?_⟩
    simp only [List.mem_cons, List.not_mem_nil, or_false] at hq
    rcases hq with rfl | rfl | rfl
    · exact List.mem_of_getElem? (i := 0) rfl
    · exact List.mem_of_getElem? (i := 1) rfl
    · exact List.mem_of_getElem? (i := 2) rfl
  exact lp1 (0) H locs ls (by omega) hl hP hS
