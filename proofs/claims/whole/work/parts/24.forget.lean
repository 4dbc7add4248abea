set_option maxHeartbeats 4000000 in
set_option maxRecDepth 100000 in
theorem cm_forget_none_o (l : Launch) (D : va_G) (ta : Nat → ClassId) (B n : Nat) (w : fw_W) (h0 : Nat) (U : Nat) (ht : Int) (nj : Nat) (nr : Nat) (ns : Nat) (e0 : w (h0) = some (.inr (0, [.ref (h0 + 1), .ref (h0 + 2), .int (iI (((2 * U : Nat) : Int))), .ref (h0 + 4), .ref (h0 + 6), .ref (h0 + 8), .int (iI (ht)), .int (bI (true))]))) (e8 : w (h0 + 8) = some (.inr (5, [.ref (h0 + 10), .ref (h0 + 11), .ref (h0 + 9), .int (iI (((nj : Nat) : Int))), .int (iI (((nr : Nat) : Int))), .int (iI (((ns : Nat) : Int)))]))) (h0r : nr ≤ 1) : fw_C l D vwCl (tyL ta) B yX0_forget cX0_forget 2 (some .int) ({ frames := 3, cells := 0, slots := 0, locals := 68 } : Room) [.ref (h0)] n w (fun r w1 n1 => r = some (.int (iI ((-1)))) ∧ w1 = w ∧ n1 = n) := by
  refine fw_enter (by decide) (Nat.le_of_ble_eq_true rfl) ?_
  intro p e s m below meth c hx hb hr hml hown hlocks hin hG hts hK H locs hP hS ls hl
  have hown : s.vm.findClass RX0 = some m.cls := hown
  replace hl : lv_has ls 2 [(0, .ref (h0))] := hl
  have lt_e0 := hP.lt e0
  have lt_e8 := hP.lt e8
  refine lv_aload_n hx hb dX0_forget_0 rfl (lv_at hl 0 rfl) ?_
  refine fw_get (ci := 0) (fs := [.ref (h0 + 1), .ref (h0 + 2), .int (iI (((2 * U : Nat) : Int))), .ref (h0 + 4), .ref (h0 + 6), .ref (h0 + 8), .int (iI (ht)), .int (bI (true))]) (k := 7) (v := .int (bI (true))) (C := RX0) (T := TX0) (N := 8) hx hb hts inFX0 hown hK hP e0 rfl (by decide) mFX0_65 rfl dX0_forget_1 ?_
  refine fn_bif_eq (x := true) (tgt := 19) hx hb dX0_forget_4 (by decide) (fun c1 => False.elim (by cases c1)) (fun c1 => ?_)
  refine lv_aload_n hx hb dX0_forget_7 rfl (lv_at hl 0 rfl) ?_
  refine fw_get (ci := 0) (fs := [.ref (h0 + 1), .ref (h0 + 2), .int (iI (((2 * U : Nat) : Int))), .ref (h0 + 4), .ref (h0 + 6), .ref (h0 + 8), .int (iI (ht)), .int (bI (true))]) (k := 5) (v := .ref (h0 + 8)) (C := RX0) (T := TX0) (N := 8) hx hb hts inFX0 hown hK hP e0 rfl (by decide) mFX0_46 rfl dX0_forget_8 ?_
  refine fw_callV (ci := 5) (fs := [.ref (h0 + 10), .ref (h0 + 11), .ref (h0 + 9), .int (iI (((nj : Nat) : Int))), .int (iI (((nr : Nat) : Int))), .int (iI (((ns : Nat) : Int)))]) (T := TX5) (N := 6) (b := h0 + 8) (As := []) (rest := []) hx hb hml hown hts hK hG hP hS hl mM_X5_records mV_X5_records mLX0_122 (cm_Jrn_records l D ta B (n) (w) (h0 + 8) (h0 + 10) (h0 + 11) (h0 + 9) (nj) (nr) (ns) e8 ) e8 rfl rfl rfl (Nat.le_of_ble_eq_true rfl) ⟨Nat.le_of_ble_eq_true rfl, Nat.le_of_ble_eq_true rfl⟩ ⟨Nat.le_of_ble_eq_true rfl, Nat.le_of_ble_eq_true rfl⟩ dX0_forget_11 (fun r w2 n1 H locs hq hP hS => ?_)
  obtain ⟨rfl, hw1, hn1⟩ := hq
  replace hw1 := hw1.symm; replace hn1 := hn1.symm; subst hw1; subst hn1
  refine W.eq (g2 := F0 m 14 ls [.int (iI (((nr : Nat) : Int)))]) rfl ?_
  refine lv_iconst (v := (iI (((1 : Nat) : Int)))) hx hb dX0_forget_14 rfl ?_
  refine fn_isub (x := ((nr : Nat) : Int)) (y := ((1 : Nat) : Int)) hx hb dX0_forget_15 ?_
  refine lv_goto (tgt := 26) hx hb dX0_forget_16 (by decide) ?_
  refine lv_istore_n (lv' := [(1, .int (iI (((nr : Nat) : Int) - ((1 : Nat) : Int)))), (0, .ref (h0))]) hx hb dX0_forget_26 rfl hl (by decide) rfl (fun ls hl => ?_)
  refine lv_iload_n hx hb dX0_forget_27 rfl (lv_at hl 0 rfl) ?_
  refine lv_iconst (v := (iI (((1 : Nat) : Int)))) hx hb dX0_forget_28 rfl ?_
  refine fn_icmp_ge (x := ((nr : Nat) : Int) - ((1 : Nat) : Int)) (y := ((1 : Nat) : Int)) (tgt := 34) hx hb dX0_forget_29 (by decide) ⟨by omega, by omega⟩ ⟨by omega, by omega⟩ (fun c3 => False.elim (by omega)) (fun c3 => ?_)
  refine lv_iconst (v := (iI ((-1)))) hx hb dX0_forget_32 rfl ?_
  exact fw_iret hx hb hr hlocks hP hS dX0_forget_33 (Nat.le_of_ble_eq_true rfl) (Nat.le_of_ble_eq_true rfl) ⟨rfl, rfl, rfl⟩
set_option maxHeartbeats 4000000 in
set_option maxRecDepth 100000 in
theorem cm_forget_none_c (l : Launch) (D : va_G) (ta : Nat → ClassId) (B n : Nat) (w : fw_W) (h0 : Nat) (U : Nat) (ht : Int) (nj : Nat) (nr : Nat) (ns : Nat) (e0 : w (h0) = some (.inr (0, [.ref (h0 + 1), .ref (h0 + 2), .int (iI (((2 * U : Nat) : Int))), .ref (h0 + 4), .ref (h0 + 6), .ref (h0 + 8), .int (iI (ht)), .int (bI (false))]))) (e8 : w (h0 + 8) = some (.inr (5, [.ref (h0 + 10), .ref (h0 + 11), .ref (h0 + 9), .int (iI (((nj : Nat) : Int))), .int (iI (((nr : Nat) : Int))), .int (iI (((ns : Nat) : Int)))]))) (h0r : nr = 0) : fw_C l D vwCl (tyL ta) B yX0_forget cX0_forget 2 (some .int) ({ frames := 3, cells := 0, slots := 0, locals := 68 } : Room) [.ref (h0)] n w (fun r w1 n1 => r = some (.int (iI ((-1)))) ∧ w1 = w ∧ n1 = n) := by
  refine fw_enter (by decide) (Nat.le_of_ble_eq_true rfl) ?_
  intro p e s m below meth c hx hb hr hml hown hlocks hin hG hts hK H locs hP hS ls hl
  have hown : s.vm.findClass RX0 = some m.cls := hown
  replace hl : lv_has ls 2 [(0, .ref (h0))] := hl
  have lt_e0 := hP.lt e0
  have lt_e8 := hP.lt e8
  refine lv_aload_n hx hb dX0_forget_0 rfl (lv_at hl 0 rfl) ?_
  refine fw_get (ci := 0) (fs := [.ref (h0 + 1), .ref (h0 + 2), .int (iI (((2 * U : Nat) : Int))), .ref (h0 + 4), .ref (h0 + 6), .ref (h0 + 8), .int (iI (ht)), .int (bI (false))]) (k := 7) (v := .int (bI (false))) (C := RX0) (T := TX0) (N := 8) hx hb hts inFX0 hown hK hP e0 rfl (by decide) mFX0_65 rfl dX0_forget_1 ?_
  refine fn_bif_eq (x := false) (tgt := 19) hx hb dX0_forget_4 (by decide) (fun c1 => ?_) (fun c1 => False.elim (by cases c1))
  refine lv_aload_n hx hb dX0_forget_19 rfl (lv_at hl 0 rfl) ?_
  refine fw_get (ci := 0) (fs := [.ref (h0 + 1), .ref (h0 + 2), .int (iI (((2 * U : Nat) : Int))), .ref (h0 + 4), .ref (h0 + 6), .ref (h0 + 8), .int (iI (ht)), .int (bI (false))]) (k := 5) (v := .ref (h0 + 8)) (C := RX0) (T := TX0) (N := 8) hx hb hts inFX0 hown hK hP e0 rfl (by decide) mFX0_46 rfl dX0_forget_20 ?_
  refine fw_callV (ci := 5) (fs := [.ref (h0 + 10), .ref (h0 + 11), .ref (h0 + 9), .int (iI (((nj : Nat) : Int))), .int (iI (((nr : Nat) : Int))), .int (iI (((ns : Nat) : Int)))]) (T := TX5) (N := 6) (b := h0 + 8) (As := []) (rest := []) hx hb hml hown hts hK hG hP hS hl mM_X5_records mV_X5_records mLX0_122 (cm_Jrn_records l D ta B (n) (w) (h0 + 8) (h0 + 10) (h0 + 11) (h0 + 9) (nj) (nr) (ns) e8 ) e8 rfl rfl rfl (Nat.le_of_ble_eq_true rfl) ⟨Nat.le_of_ble_eq_true rfl, Nat.le_of_ble_eq_true rfl⟩ ⟨Nat.le_of_ble_eq_true rfl, Nat.le_of_ble_eq_true rfl⟩ dX0_forget_23 (fun r w2 n1 H locs hq hP hS => ?_)
  obtain ⟨rfl, hw1, hn1⟩ := hq
  replace hw1 := hw1.symm; replace hn1 := hn1.symm; subst hw1; subst hn1
  refine W.eq (g2 := F0 m 26 ls [.int (iI (((nr : Nat) : Int)))]) rfl ?_
  refine lv_istore_n (lv' := [(1, .int (iI (((nr : Nat) : Int)))), (0, .ref (h0))]) hx hb dX0_forget_26 rfl hl (by decide) rfl (fun ls hl => ?_)
  refine lv_iload_n hx hb dX0_forget_27 rfl (lv_at hl 0 rfl) ?_
  refine lv_iconst (v := (iI (((1 : Nat) : Int)))) hx hb dX0_forget_28 rfl ?_
  refine fn_icmp_ge (x := ((nr : Nat) : Int)) (y := ((1 : Nat) : Int)) (tgt := 34) hx hb dX0_forget_29 (by decide) ⟨by omega, by omega⟩ ⟨by omega, by omega⟩ (fun c3 => False.elim (by omega)) (fun c3 => ?_)
  refine lv_iconst (v := (iI ((-1)))) hx hb dX0_forget_32 rfl ?_
  exact fw_iret hx hb hr hlocks hP hS dX0_forget_33 (Nat.le_of_ble_eq_true rfl) (Nat.le_of_ble_eq_true rfl) ⟨rfl, rfl, rfl⟩
set_option maxHeartbeats 4000000 in
set_option maxRecDepth 100000 in
theorem cm_forget_ok_o (l : Launch) (D : va_G) (ta : Nat → ClassId) (B n : Nat) (w : fw_W) (h0 : Nat) (U : Nat) (ht : Int) (bs : List Nat) (bf : Nat → Option Nat) (nj : Nat) (nr : Nat) (ns : Nat) (lf : Nat → Nat) (jf : Nat → Option Nat) (sb : Nat → Bool) (ga : Nat → Nat) (gx : Nat → cCoin) (e0 : w (h0) = some (.inr (0, [.ref (h0 + 1), .ref (h0 + 2), .int (iI (((2 * U : Nat) : Int))), .ref (h0 + 4), .ref (h0 + 6), .ref (h0 + 8), .int (iI (ht)), .int (bI (true))]))) (e6 : w (h0 + 6) = some (.inr (4, [.ref (h0 + 7), .int (iI (((bs.length : Nat) : Int)))]))) (e7 : w (h0 + 7) = some (.inl (ta 3, (3 * U), .inr (.inr (.inr (.inr (bf))))))) (e8 : w (h0 + 8) = some (.inr (5, [.ref (h0 + 10), .ref (h0 + 11), .ref (h0 + 9), .int (iI (((nj : Nat) : Int))), .int (iI (((nr : Nat) : Int))), .int (iI (((ns : Nat) : Int)))]))) (e9 : w (h0 + 9) = some (.inl (ta 1, 64, .inl (fun z_ => iI (((lf) z_ : Nat) : Int))))) (e10 : w (h0 + 10) = some (.inl (ta 3, (5 * U), .inr (.inr (.inr (.inr (jf))))))) (e11 : w (h0 + 11) = some (.inl (ta 2, (5 * U), .inl (fun z_ => bI ((sb) z_))))) (hU : U ≤ 200) (hrc : nr ≤ 64) (h1r : 2 ≤ nr) (hj5 : nj ≤ 5 * U) (hl0 : lf 0 ≤ nj) (hsp : (sadd ga sb (lf 0)).length ≤ ns) (hcap : bs.length + (sadd ga sb (lf 0)).length ≤ 3 * U) (hcs : ∀ j, j < nj → jf j = some (ga j) ∧ cn_at ta w (ga j) (gx j)) (hrl : rl bs bf) : fw_C l D vwCl (tyL ta) B yX0_forget cX0_forget 2 (some .int) ({ frames := 3, cells := 0, slots := 0, locals := 68 } : Room) [.ref (h0)] n w (fun r w1 n1 => ∃ pf2 : Nat → Option Nat, ∃ f2 : Nat → Option Nat, ∃ s2 : Nat → Bool, ∃ l2 : Nat → Nat, (rl (bs ++ sadd ga sb (lf 0)) pf2) ∧ (∀ j, j < nj - lf 0 → f2 j = jf (j + lf 0) ∧ s2 j = sb (j + lf 0)) ∧ (∀ j, j < nr - 1 → l2 j = lf (j + 1)) ∧ r = some (.int (iI ((((sadd ga sb (lf 0)).length : Nat) : Int)))) ∧ w1 = fw_up (fw_up (fw_up (fw_up (fw_up (fw_up (w) (h0 + 6) (.inr (4, [.ref (h0 + 7), .int (iI (((bs.length + (sadd ga sb (lf 0)).length : Nat) : Int)))]))) (h0 + 7) (.inl (ta 3, ((3 * U)), .inr (.inr (.inr (.inr (pf2))))))) (h0 + 8) (.inr (5, [.ref (h0 + 10), .ref (h0 + 11), .ref (h0 + 9), .int (iI (((nj - lf 0 : Nat) : Int))), .int (iI (((nr - 1 : Nat) : Int))), .int (iI (((ns - (sadd ga sb (lf 0)).length : Nat) : Int)))]))) (h0 + 10) (.inl (ta 3, ((5 * U)), .inr (.inr (.inr (.inr (f2))))))) (h0 + 11) (.inl (ta 2, ((5 * U)), .inl (fun z_ => bI ((s2) z_))))) (h0 + 9) (.inl (ta 1, 64, .inl (fun z_ => iI (((l2) z_ : Nat) : Int)))) ∧ n1 = n) := by
  refine fw_enter (by decide) (Nat.le_of_ble_eq_true rfl) ?_
  intro p e s m below meth c hx hb hr hml hown hlocks hin hG hts hK H locs hP hS ls hl
  have hown : s.vm.findClass RX0 = some m.cls := hown
  replace hl : lv_has ls 2 [(0, .ref (h0))] := hl
  have lt_e0 := hP.lt e0
  have lt_e6 := hP.lt e6
  have lt_e7 := hP.lt e7
  have lt_e8 := hP.lt e8
  have lt_e9 := hP.lt e9
  have lt_e10 := hP.lt e10
  have lt_e11 := hP.lt e11
  refine lv_aload_n hx hb dX0_forget_0 rfl (lv_at hl 0 rfl) ?_
  refine fw_get (ci := 0) (fs := [.ref (h0 + 1), .ref (h0 + 2), .int (iI (((2 * U : Nat) : Int))), .ref (h0 + 4), .ref (h0 + 6), .ref (h0 + 8), .int (iI (ht)), .int (bI (true))]) (k := 7) (v := .int (bI (true))) (C := RX0) (T := TX0) (N := 8) hx hb hts inFX0 hown hK hP e0 rfl (by decide) mFX0_65 rfl dX0_forget_1 ?_
  refine fn_bif_eq (x := true) (tgt := 19) hx hb dX0_forget_4 (by decide) (fun c1 => False.elim (by cases c1)) (fun c1 => ?_)
  refine lv_aload_n hx hb dX0_forget_7 rfl (lv_at hl 0 rfl) ?_
  refine fw_get (ci := 0) (fs := [.ref (h0 + 1), .ref (h0 + 2), .int (iI (((2 * U : Nat) : Int))), .ref (h0 + 4), .ref (h0 + 6), .ref (h0 + 8), .int (iI (ht)), .int (bI (true))]) (k := 5) (v := .ref (h0 + 8)) (C := RX0) (T := TX0) (N := 8) hx hb hts inFX0 hown hK hP e0 rfl (by decide) mFX0_46 rfl dX0_forget_8 ?_
  refine fw_callV (ci := 5) (fs := [.ref (h0 + 10), .ref (h0 + 11), .ref (h0 + 9), .int (iI (((nj : Nat) : Int))), .int (iI (((nr : Nat) : Int))), .int (iI (((ns : Nat) : Int)))]) (T := TX5) (N := 6) (b := h0 + 8) (As := []) (rest := []) hx hb hml hown hts hK hG hP hS hl mM_X5_records mV_X5_records mLX0_122 (cm_Jrn_records l D ta B (n) (w) (h0 + 8) (h0 + 10) (h0 + 11) (h0 + 9) (nj) (nr) (ns) e8 ) e8 rfl rfl rfl (Nat.le_of_ble_eq_true rfl) ⟨Nat.le_of_ble_eq_true rfl, Nat.le_of_ble_eq_true rfl⟩ ⟨Nat.le_of_ble_eq_true rfl, Nat.le_of_ble_eq_true rfl⟩ dX0_forget_11 (fun r w2 n1 H locs hq hP hS => ?_)
  obtain ⟨rfl, hw1, hn1⟩ := hq
  replace hw1 := hw1.symm; replace hn1 := hn1.symm; subst hw1; subst hn1
  refine W.eq (g2 := F0 m 14 ls [.int (iI (((nr : Nat) : Int)))]) rfl ?_
  refine lv_iconst (v := (iI (((1 : Nat) : Int)))) hx hb dX0_forget_14 rfl ?_
  refine fn_isub (x := ((nr : Nat) : Int)) (y := ((1 : Nat) : Int)) hx hb dX0_forget_15 ?_
  refine lv_goto (tgt := 26) hx hb dX0_forget_16 (by decide) ?_
  refine lv_istore_n (lv' := [(1, .int (iI (((nr : Nat) : Int) - ((1 : Nat) : Int)))), (0, .ref (h0))]) hx hb dX0_forget_26 rfl hl (by decide) rfl (fun ls hl => ?_)
  refine lv_iload_n hx hb dX0_forget_27 rfl (lv_at hl 0 rfl) ?_
  refine lv_iconst (v := (iI (((1 : Nat) : Int)))) hx hb dX0_forget_28 rfl ?_
  refine fn_icmp_ge (x := ((nr : Nat) : Int) - ((1 : Nat) : Int)) (y := ((1 : Nat) : Int)) (tgt := 34) hx hb dX0_forget_29 (by decide) ⟨by omega, by omega⟩ ⟨by omega, by omega⟩ (fun c3 => ?_) (fun c3 => False.elim (by omega))
  refine lv_aload_n hx hb dX0_forget_34 rfl (lv_at hl 1 rfl) ?_
  refine fw_get (ci := 0) (fs := [.ref (h0 + 1), .ref (h0 + 2), .int (iI (((2 * U : Nat) : Int))), .ref (h0 + 4), .ref (h0 + 6), .ref (h0 + 8), .int (iI (ht)), .int (bI (true))]) (k := 5) (v := .ref (h0 + 8)) (C := RX0) (T := TX0) (N := 8) hx hb hts inFX0 hown hK hP e0 rfl (by decide) mFX0_46 rfl dX0_forget_35 ?_
  refine lv_aload_n hx hb dX0_forget_38 rfl (lv_at hl 1 rfl) ?_
  refine fw_get (ci := 0) (fs := [.ref (h0 + 1), .ref (h0 + 2), .int (iI (((2 * U : Nat) : Int))), .ref (h0 + 4), .ref (h0 + 6), .ref (h0 + 8), .int (iI (ht)), .int (bI (true))]) (k := 4) (v := .ref (h0 + 6)) (C := RX0) (T := TX0) (N := 8) hx hb hts inFX0 hown hK hP e0 rfl (by decide) mFX0_40 rfl dX0_forget_39 ?_
  refine fw_callV (ci := 5) (fs := [.ref (h0 + 10), .ref (h0 + 11), .ref (h0 + 9), .int (iI (((nj : Nat) : Int))), .int (iI (((nr : Nat) : Int))), .int (iI (((ns : Nat) : Int)))]) (T := TX5) (N := 6) (b := h0 + 8) (As := [.ref (h0 + 6)]) (rest := []) hx hb hml hown hts hK hG hP hS hl mM_X5_dropOldestRecord mV_X5_dropOldestRecord mLX0_131 (cm_Jrn_dropOldest l D ta B (n) (w) (h0 + 8) (h0 + 10) (h0 + 11) (h0 + 9) (nj) (nr) (ns) (5 * U) (jf) (sb) (lf) (h0 + 6) (h0 + 7) (bs) (3 * U) (bf) (ga) (gx) e8 e10 e11 e9 e6 e7 (by omega) (by omega) (by omega) (by omega) (by omega) (by omega) (by omega) (by omega) hsp hcap hcs hrl) e8 rfl rfl rfl (Nat.le_of_ble_eq_true rfl) ⟨Nat.le_of_ble_eq_true rfl, Nat.le_of_ble_eq_true rfl⟩ ⟨Nat.le_of_ble_eq_true rfl, Nat.le_of_ble_eq_true rfl⟩ dX0_forget_42 (fun r w4 n1 H locs hq hP hS => ?_)
  obtain ⟨pf2, f2, s2, l2, hx1, hx2, hx3, rfl, hw1, hn1⟩ := hq
  replace hw1 := hw1.symm; replace hn1 := hn1.symm; subst hw1; subst hn1
  refine W.eq (g2 := F0 m 45 ls [.int (iI ((((sadd ga sb (lf 0)).length : Nat) : Int)))]) rfl ?_
  have hP : fw_P D vwCl B (n) (fw_up (fw_up (fw_up (fw_up (fw_up (fw_up (w) (h0 + 6) (.inr (4, [.ref (h0 + 7), .int (iI (((bs.length + (sadd ga sb (lf 0)).length : Nat) : Int)))]))) (h0 + 7) (.inl (ta 3, ((3 * U)), .inr (.inr (.inr (.inr (pf2))))))) (h0 + 8) (.inr (5, [.ref (h0 + 10), .ref (h0 + 11), .ref (h0 + 9), .int (iI (((nj - lf 0 : Nat) : Int))), .int (iI (((nr - 1 : Nat) : Int))), .int (iI (((ns - (sadd ga sb (lf 0)).length : Nat) : Int)))]))) (h0 + 10) (.inl (ta 3, ((5 * U)), .inr (.inr (.inr (.inr (f2))))))) (h0 + 11) (.inl (ta 2, ((5 * U)), .inl (fun z_ => bI ((s2) z_))))) (h0 + 9) (.inl (ta 1, 64, .inl (fun z_ => iI (((l2) z_ : Nat) : Int))))) H := hP
  exact fw_iret hx hb hr hlocks hP hS dX0_forget_45 (Nat.le_of_ble_eq_true rfl) (Nat.le_of_ble_eq_true rfl) ⟨pf2, f2, s2, l2, hx1, hx2, hx3, rfl, rfl, rfl⟩
set_option maxHeartbeats 4000000 in
set_option maxRecDepth 100000 in
theorem cm_forget_ok_c (l : Launch) (D : va_G) (ta : Nat → ClassId) (B n : Nat) (w : fw_W) (h0 : Nat) (U : Nat) (ht : Int) (bs : List Nat) (bf : Nat → Option Nat) (nj : Nat) (nr : Nat) (ns : Nat) (lf : Nat → Nat) (jf : Nat → Option Nat) (sb : Nat → Bool) (ga : Nat → Nat) (gx : Nat → cCoin) (e0 : w (h0) = some (.inr (0, [.ref (h0 + 1), .ref (h0 + 2), .int (iI (((2 * U : Nat) : Int))), .ref (h0 + 4), .ref (h0 + 6), .ref (h0 + 8), .int (iI (ht)), .int (bI (false))]))) (e6 : w (h0 + 6) = some (.inr (4, [.ref (h0 + 7), .int (iI (((bs.length : Nat) : Int)))]))) (e7 : w (h0 + 7) = some (.inl (ta 3, (3 * U), .inr (.inr (.inr (.inr (bf))))))) (e8 : w (h0 + 8) = some (.inr (5, [.ref (h0 + 10), .ref (h0 + 11), .ref (h0 + 9), .int (iI (((nj : Nat) : Int))), .int (iI (((nr : Nat) : Int))), .int (iI (((ns : Nat) : Int)))]))) (e9 : w (h0 + 9) = some (.inl (ta 1, 64, .inl (fun z_ => iI (((lf) z_ : Nat) : Int))))) (e10 : w (h0 + 10) = some (.inl (ta 3, (5 * U), .inr (.inr (.inr (.inr (jf))))))) (e11 : w (h0 + 11) = some (.inl (ta 2, (5 * U), .inl (fun z_ => bI ((sb) z_))))) (hU : U ≤ 200) (hrc : nr ≤ 64) (h1r : 1 ≤ nr) (hj5 : nj ≤ 5 * U) (hl0 : lf 0 ≤ nj) (hsp : (sadd ga sb (lf 0)).length ≤ ns) (hcap : bs.length + (sadd ga sb (lf 0)).length ≤ 3 * U) (hcs : ∀ j, j < nj → jf j = some (ga j) ∧ cn_at ta w (ga j) (gx j)) (hrl : rl bs bf) : fw_C l D vwCl (tyL ta) B yX0_forget cX0_forget 2 (some .int) ({ frames := 3, cells := 0, slots := 0, locals := 68 } : Room) [.ref (h0)] n w (fun r w1 n1 => ∃ pf2 : Nat → Option Nat, ∃ f2 : Nat → Option Nat, ∃ s2 : Nat → Bool, ∃ l2 : Nat → Nat, (rl (bs ++ sadd ga sb (lf 0)) pf2) ∧ (∀ j, j < nj - lf 0 → f2 j = jf (j + lf 0) ∧ s2 j = sb (j + lf 0)) ∧ (∀ j, j < nr - 1 → l2 j = lf (j + 1)) ∧ r = some (.int (iI ((((sadd ga sb (lf 0)).length : Nat) : Int)))) ∧ w1 = fw_up (fw_up (fw_up (fw_up (fw_up (fw_up (w) (h0 + 6) (.inr (4, [.ref (h0 + 7), .int (iI (((bs.length + (sadd ga sb (lf 0)).length : Nat) : Int)))]))) (h0 + 7) (.inl (ta 3, ((3 * U)), .inr (.inr (.inr (.inr (pf2))))))) (h0 + 8) (.inr (5, [.ref (h0 + 10), .ref (h0 + 11), .ref (h0 + 9), .int (iI (((nj - lf 0 : Nat) : Int))), .int (iI (((nr - 1 : Nat) : Int))), .int (iI (((ns - (sadd ga sb (lf 0)).length : Nat) : Int)))]))) (h0 + 10) (.inl (ta 3, ((5 * U)), .inr (.inr (.inr (.inr (f2))))))) (h0 + 11) (.inl (ta 2, ((5 * U)), .inl (fun z_ => bI ((s2) z_))))) (h0 + 9) (.inl (ta 1, 64, .inl (fun z_ => iI (((l2) z_ : Nat) : Int)))) ∧ n1 = n) := by
  refine fw_enter (by decide) (Nat.le_of_ble_eq_true rfl) ?_
  intro p e s m below meth c hx hb hr hml hown hlocks hin hG hts hK H locs hP hS ls hl
  have hown : s.vm.findClass RX0 = some m.cls := hown
  replace hl : lv_has ls 2 [(0, .ref (h0))] := hl
  have lt_e0 := hP.lt e0
  have lt_e6 := hP.lt e6
  have lt_e7 := hP.lt e7
  have lt_e8 := hP.lt e8
  have lt_e9 := hP.lt e9
  have lt_e10 := hP.lt e10
  have lt_e11 := hP.lt e11
  refine lv_aload_n hx hb dX0_forget_0 rfl (lv_at hl 0 rfl) ?_
  refine fw_get (ci := 0) (fs := [.ref (h0 + 1), .ref (h0 + 2), .int (iI (((2 * U : Nat) : Int))), .ref (h0 + 4), .ref (h0 + 6), .ref (h0 + 8), .int (iI (ht)), .int (bI (false))]) (k := 7) (v := .int (bI (false))) (C := RX0) (T := TX0) (N := 8) hx hb hts inFX0 hown hK hP e0 rfl (by decide) mFX0_65 rfl dX0_forget_1 ?_
  refine fn_bif_eq (x := false) (tgt := 19) hx hb dX0_forget_4 (by decide) (fun c1 => ?_) (fun c1 => False.elim (by cases c1))
  refine lv_aload_n hx hb dX0_forget_19 rfl (lv_at hl 0 rfl) ?_
  refine fw_get (ci := 0) (fs := [.ref (h0 + 1), .ref (h0 + 2), .int (iI (((2 * U : Nat) : Int))), .ref (h0 + 4), .ref (h0 + 6), .ref (h0 + 8), .int (iI (ht)), .int (bI (false))]) (k := 5) (v := .ref (h0 + 8)) (C := RX0) (T := TX0) (N := 8) hx hb hts inFX0 hown hK hP e0 rfl (by decide) mFX0_46 rfl dX0_forget_20 ?_
  refine fw_callV (ci := 5) (fs := [.ref (h0 + 10), .ref (h0 + 11), .ref (h0 + 9), .int (iI (((nj : Nat) : Int))), .int (iI (((nr : Nat) : Int))), .int (iI (((ns : Nat) : Int)))]) (T := TX5) (N := 6) (b := h0 + 8) (As := []) (rest := []) hx hb hml hown hts hK hG hP hS hl mM_X5_records mV_X5_records mLX0_122 (cm_Jrn_records l D ta B (n) (w) (h0 + 8) (h0 + 10) (h0 + 11) (h0 + 9) (nj) (nr) (ns) e8 ) e8 rfl rfl rfl (Nat.le_of_ble_eq_true rfl) ⟨Nat.le_of_ble_eq_true rfl, Nat.le_of_ble_eq_true rfl⟩ ⟨Nat.le_of_ble_eq_true rfl, Nat.le_of_ble_eq_true rfl⟩ dX0_forget_23 (fun r w2 n1 H locs hq hP hS => ?_)
  obtain ⟨rfl, hw1, hn1⟩ := hq
  replace hw1 := hw1.symm; replace hn1 := hn1.symm; subst hw1; subst hn1
  refine W.eq (g2 := F0 m 26 ls [.int (iI (((nr : Nat) : Int)))]) rfl ?_
  refine lv_istore_n (lv' := [(1, .int (iI (((nr : Nat) : Int)))), (0, .ref (h0))]) hx hb dX0_forget_26 rfl hl (by decide) rfl (fun ls hl => ?_)
  refine lv_iload_n hx hb dX0_forget_27 rfl (lv_at hl 0 rfl) ?_
  refine lv_iconst (v := (iI (((1 : Nat) : Int)))) hx hb dX0_forget_28 rfl ?_
  refine fn_icmp_ge (x := ((nr : Nat) : Int)) (y := ((1 : Nat) : Int)) (tgt := 34) hx hb dX0_forget_29 (by decide) ⟨by omega, by omega⟩ ⟨by omega, by omega⟩ (fun c3 => ?_) (fun c3 => False.elim (by omega))
  refine lv_aload_n hx hb dX0_forget_34 rfl (lv_at hl 1 rfl) ?_
  refine fw_get (ci := 0) (fs := [.ref (h0 + 1), .ref (h0 + 2), .int (iI (((2 * U : Nat) : Int))), .ref (h0 + 4), .ref (h0 + 6), .ref (h0 + 8), .int (iI (ht)), .int (bI (false))]) (k := 5) (v := .ref (h0 + 8)) (C := RX0) (T := TX0) (N := 8) hx hb hts inFX0 hown hK hP e0 rfl (by decide) mFX0_46 rfl dX0_forget_35 ?_
  refine lv_aload_n hx hb dX0_forget_38 rfl (lv_at hl 1 rfl) ?_
  refine fw_get (ci := 0) (fs := [.ref (h0 + 1), .ref (h0 + 2), .int (iI (((2 * U : Nat) : Int))), .ref (h0 + 4), .ref (h0 + 6), .ref (h0 + 8), .int (iI (ht)), .int (bI (false))]) (k := 4) (v := .ref (h0 + 6)) (C := RX0) (T := TX0) (N := 8) hx hb hts inFX0 hown hK hP e0 rfl (by decide) mFX0_40 rfl dX0_forget_39 ?_
  refine fw_callV (ci := 5) (fs := [.ref (h0 + 10), .ref (h0 + 11), .ref (h0 + 9), .int (iI (((nj : Nat) : Int))), .int (iI (((nr : Nat) : Int))), .int (iI (((ns : Nat) : Int)))]) (T := TX5) (N := 6) (b := h0 + 8) (As := [.ref (h0 + 6)]) (rest := []) hx hb hml hown hts hK hG hP hS hl mM_X5_dropOldestRecord mV_X5_dropOldestRecord mLX0_131 (cm_Jrn_dropOldest l D ta B (n) (w) (h0 + 8) (h0 + 10) (h0 + 11) (h0 + 9) (nj) (nr) (ns) (5 * U) (jf) (sb) (lf) (h0 + 6) (h0 + 7) (bs) (3 * U) (bf) (ga) (gx) e8 e10 e11 e9 e6 e7 (by omega) (by omega) (by omega) (by omega) (by omega) (by omega) (by omega) (by omega) hsp hcap hcs hrl) e8 rfl rfl rfl (Nat.le_of_ble_eq_true rfl) ⟨Nat.le_of_ble_eq_true rfl, Nat.le_of_ble_eq_true rfl⟩ ⟨Nat.le_of_ble_eq_true rfl, Nat.le_of_ble_eq_true rfl⟩ dX0_forget_42 (fun r w4 n1 H locs hq hP hS => ?_)
  obtain ⟨pf2, f2, s2, l2, hx1, hx2, hx3, rfl, hw1, hn1⟩ := hq
  replace hw1 := hw1.symm; replace hn1 := hn1.symm; subst hw1; subst hn1
  refine W.eq (g2 := F0 m 45 ls [.int (iI ((((sadd ga sb (lf 0)).length : Nat) : Int)))]) rfl ?_
  have hP : fw_P D vwCl B (n) (fw_up (fw_up (fw_up (fw_up (fw_up (fw_up (w) (h0 + 6) (.inr (4, [.ref (h0 + 7), .int (iI (((bs.length + (sadd ga sb (lf 0)).length : Nat) : Int)))]))) (h0 + 7) (.inl (ta 3, ((3 * U)), .inr (.inr (.inr (.inr (pf2))))))) (h0 + 8) (.inr (5, [.ref (h0 + 10), .ref (h0 + 11), .ref (h0 + 9), .int (iI (((nj - lf 0 : Nat) : Int))), .int (iI (((nr - 1 : Nat) : Int))), .int (iI (((ns - (sadd ga sb (lf 0)).length : Nat) : Int)))]))) (h0 + 10) (.inl (ta 3, ((5 * U)), .inr (.inr (.inr (.inr (f2))))))) (h0 + 11) (.inl (ta 2, ((5 * U)), .inl (fun z_ => bI ((s2) z_))))) (h0 + 9) (.inl (ta 1, 64, .inl (fun z_ => iI (((l2) z_ : Nat) : Int))))) H := hP
  exact fw_iret hx hb hr hlocks hP hS dX0_forget_45 (Nat.le_of_ble_eq_true rfl) (Nat.le_of_ble_eq_true rfl) ⟨pf2, f2, s2, l2, hx1, hx2, hx3, rfl, rfl, rfl⟩
