set_option maxHeartbeats 4000000 in
set_option maxRecDepth 100000 in
theorem cm_spend_closed (l : Launch) (D : va_G) (ta : Nat → ClassId) (B n : Nat) (w : fw_W) (h0 : Nat) (U : Nat) (ht : Int) (e0 : w (h0) = some (.inr (0, [.ref (h0 + 1), .ref (h0 + 2), .int (iI (((2 * U : Nat) : Int))), .ref (h0 + 4), .ref (h0 + 6), .ref (h0 + 8), .int (iI (ht)), .int (bI (false))])))  : fw_C l D vwCl (tyL ta) B yX0_spend cX0_spend 2 (some .int) ({ frames := 4, cells := 0, slots := 0, locals := 86 } : Room) [.ref (h0)] n w (fun r w1 n1 => r = some (.int (iI (((1 : Nat) : Int)))) ∧ w1 = w ∧ n1 = n) := by
  refine fw_enter (by decide) (Nat.le_of_ble_eq_true rfl) ?_
  intro p e s m below meth c hx hb hr hml hown hlocks hin hG hts hK H locs hP hS ls hl
  have hown : s.vm.findClass RX0 = some m.cls := hown
  replace hl : lv_has ls 2 [(0, .ref (h0))] := hl
  have lt_e0 := hP.lt e0
  refine lv_aload_n hx hb dX0_spend_0 rfl (lv_at hl 0 rfl) ?_
  refine fw_get (ci := 0) (fs := [.ref (h0 + 1), .ref (h0 + 2), .int (iI (((2 * U : Nat) : Int))), .ref (h0 + 4), .ref (h0 + 6), .ref (h0 + 8), .int (iI (ht)), .int (bI (false))]) (k := 7) (v := .int (bI (false))) (C := RX0) (T := TX0) (N := 8) hx hb hts inFX0 hown hK hP e0 rfl (by decide) mFX0_65 rfl dX0_spend_1 ?_
  refine fn_bif_ne (x := false) (tgt := 9) hx hb dX0_spend_4 (by decide) (fun c1 => False.elim (by cases c1)) (fun c1 => ?_)
  refine lv_iconst (v := (iI (((1 : Nat) : Int)))) hx hb dX0_spend_7 rfl ?_
  exact fw_iret hx hb hr hlocks hP hS dX0_spend_8 (Nat.le_of_ble_eq_true rfl) (Nat.le_of_ble_eq_true rfl) ⟨rfl, rfl, rfl⟩
set_option maxHeartbeats 4000000 in
set_option maxRecDepth 100000 in
theorem cm_spend_miss (l : Launch) (D : va_G) (ta : Nat → ClassId) (B n : Nat) (w : fw_W) (h0 : Nat) (U : Nat) (ht : Int) (k : cKey) (nu : Nat) (uf : Nat → Option Nat) (ca : Nat → Nat) (cx : Nat → cCoin) (e0 : w (h0) = some (.inr (0, [.ref (h0 + 1), .ref (h0 + 2), .int (iI (((2 * U : Nat) : Int))), .ref (h0 + 4), .ref (h0 + 6), .ref (h0 + 8), .int (iI (ht)), .int (bI (true))]))) (e1 : w (h0 + 1) = some (.inr (1, [.long (k.1), .long (k.2.1), .long (k.2.2.1), .long (k.2.2.2.1), .int (k.2.2.2.2)]))) (e4 : w (h0 + 4) = some (.inr (4, [.ref (h0 + 5), .int (iI (((nu : Nat) : Int)))]))) (e5 : w (h0 + 5) = some (.inl (ta 3, U, .inr (.inr (.inr (.inr (uf))))))) (hU : U ≤ 200) (hu : nu ≤ U) (hc : ∀ j, j < nu → uf j = some (ca j) ∧ cn_at ta w (ca j) (cx j)) (hms : ∀ j, j < nu → (cx j).1 ≠ k) : fw_C l D vwCl (tyL ta) B yX0_spend cX0_spend 2 (some .int) ({ frames := 4, cells := 0, slots := 0, locals := 86 } : Room) [.ref (h0)] n w (fun r w1 n1 => r = some (.int (iI (((2 : Nat) : Int)))) ∧ w1 = w ∧ n1 = n) := by
  refine fw_enter (by decide) (Nat.le_of_ble_eq_true rfl) ?_
  intro p e s m below meth c hx hb hr hml hown hlocks hin hG hts hK H locs hP hS ls hl
  have hown : s.vm.findClass RX0 = some m.cls := hown
  replace hl : lv_has ls 2 [(0, .ref (h0))] := hl
  have lt_e0 := hP.lt e0
  have lt_e1 := hP.lt e1
  have lt_e4 := hP.lt e4
  have lt_e5 := hP.lt e5
  refine lv_aload_n hx hb dX0_spend_0 rfl (lv_at hl 0 rfl) ?_
  refine fw_get (ci := 0) (fs := [.ref (h0 + 1), .ref (h0 + 2), .int (iI (((2 * U : Nat) : Int))), .ref (h0 + 4), .ref (h0 + 6), .ref (h0 + 8), .int (iI (ht)), .int (bI (true))]) (k := 7) (v := .int (bI (true))) (C := RX0) (T := TX0) (N := 8) hx hb hts inFX0 hown hK hP e0 rfl (by decide) mFX0_65 rfl dX0_spend_1 ?_
  refine fn_bif_ne (x := true) (tgt := 9) hx hb dX0_spend_4 (by decide) (fun c1 => ?_) (fun c1 => False.elim (by cases c1))
  refine lv_aload_n hx hb dX0_spend_9 rfl (lv_at hl 0 rfl) ?_
  refine fw_callV (ci := 0) (fs := [.ref (h0 + 1), .ref (h0 + 2), .int (iI (((2 * U : Nat) : Int))), .ref (h0 + 4), .ref (h0 + 6), .ref (h0 + 8), .int (iI (ht)), .int (bI (true))]) (T := TX0) (N := 8) (b := h0) (As := []) (rest := []) hx hb hml hown hts hK hG hP hS hl mM_X0_coinInHand mV_X0_coinInHand mLX0_76 (cm_inHand_miss l D ta B (n) (w) (h0) (U) (ht) (k) (nu) (uf) (true) (ca) (cx) e0 e1 e4 e5 (by omega) (by omega) (fun j hj => ⟨(hc j hj).1, (hc j hj).2⟩) hms) e0 rfl rfl rfl (Nat.le_of_ble_eq_true rfl) ⟨Nat.le_of_ble_eq_true rfl, Nat.le_of_ble_eq_true rfl⟩ ⟨Nat.le_of_ble_eq_true rfl, Nat.le_of_ble_eq_true rfl⟩ dX0_spend_10 (fun r w2 n1 H locs hq hP hS => ?_)
  obtain ⟨rfl, hw1, hn1⟩ := hq
  replace hw1 := hw1.symm; replace hn1 := hn1.symm; subst hw1; subst hn1
  refine W.eq (g2 := F0 m 13 ls [.null]) rfl ?_
  refine lv_astore_nN (lv' := [(1, .null), (0, .ref (h0))]) hx hb dX0_spend_13 rfl hl (by decide) rfl (fun ls hl => ?_)
  refine lv_aload_nN hx hb dX0_spend_14 rfl (lv_at hl 0 rfl) ?_
  refine lv_ifnonnullN hx hb dX0_spend_15 ?_
  refine lv_iconst (v := (iI (((2 : Nat) : Int)))) hx hb dX0_spend_18 rfl ?_
  exact fw_iret hx hb hr hlocks hP hS dX0_spend_19 (Nat.le_of_ble_eq_true rfl) (Nat.le_of_ble_eq_true rfl) ⟨rfl, rfl, rfl⟩
set_option maxHeartbeats 4000000 in
set_option maxRecDepth 100000 in
theorem cm_spend_noroom (l : Launch) (D : va_G) (ta : Nat → ClassId) (B n : Nat) (w : fw_W) (h0 : Nat) (U : Nat) (ht : Int) (k : cKey) (nu : Nat) (uf : Nat → Option Nat) (nj : Nat) (nr : Nat) (ns : Nat) (ca : Nat → Nat) (cx : Nat → cCoin) (j : Nat) (e0 : w (h0) = some (.inr (0, [.ref (h0 + 1), .ref (h0 + 2), .int (iI (((2 * U : Nat) : Int))), .ref (h0 + 4), .ref (h0 + 6), .ref (h0 + 8), .int (iI (ht)), .int (bI (true))]))) (e1 : w (h0 + 1) = some (.inr (1, [.long (k.1), .long (k.2.1), .long (k.2.2.1), .long (k.2.2.2.1), .int (k.2.2.2.2)]))) (e4 : w (h0 + 4) = some (.inr (4, [.ref (h0 + 5), .int (iI (((nu : Nat) : Int)))]))) (e5 : w (h0 + 5) = some (.inl (ta 3, U, .inr (.inr (.inr (.inr (uf))))))) (e8 : w (h0 + 8) = some (.inr (5, [.ref (h0 + 10), .ref (h0 + 11), .ref (h0 + 9), .int (iI (((nj : Nat) : Int))), .int (iI (((nr : Nat) : Int))), .int (iI (((ns : Nat) : Int)))]))) (hU : U ≤ 200) (hu : nu ≤ U) (hc : ∀ j, j < nu → uf j = some (ca j) ∧ cn_at ta w (ca j) (cx j)) (hj : j < nu) (hkj : (cx j).1 = k) (huq : ∀ i, i < nu → (cx i).1 = k → i = j) (hns : 2 * U ≤ ns) (hnb : ns ≤ 1000) : fw_C l D vwCl (tyL ta) B yX0_spend cX0_spend 2 (some .int) ({ frames := 4, cells := 0, slots := 0, locals := 86 } : Room) [.ref (h0)] n w (fun r w1 n1 => r = some (.int (iI (((3 : Nat) : Int)))) ∧ w1 = w ∧ n1 = n) := by
  refine fw_enter (by decide) (Nat.le_of_ble_eq_true rfl) ?_
  intro p e s m below meth c hx hb hr hml hown hlocks hin hG hts hK H locs hP hS ls hl
  have hown : s.vm.findClass RX0 = some m.cls := hown
  replace hl : lv_has ls 2 [(0, .ref (h0))] := hl
  have lt_e0 := hP.lt e0
  have lt_e1 := hP.lt e1
  have lt_e4 := hP.lt e4
  have lt_e5 := hP.lt e5
  have lt_e8 := hP.lt e8
  refine lv_aload_n hx hb dX0_spend_0 rfl (lv_at hl 0 rfl) ?_
  refine fw_get (ci := 0) (fs := [.ref (h0 + 1), .ref (h0 + 2), .int (iI (((2 * U : Nat) : Int))), .ref (h0 + 4), .ref (h0 + 6), .ref (h0 + 8), .int (iI (ht)), .int (bI (true))]) (k := 7) (v := .int (bI (true))) (C := RX0) (T := TX0) (N := 8) hx hb hts inFX0 hown hK hP e0 rfl (by decide) mFX0_65 rfl dX0_spend_1 ?_
  refine fn_bif_ne (x := true) (tgt := 9) hx hb dX0_spend_4 (by decide) (fun c1 => ?_) (fun c1 => False.elim (by cases c1))
  refine lv_aload_n hx hb dX0_spend_9 rfl (lv_at hl 0 rfl) ?_
  refine fw_callV (ci := 0) (fs := [.ref (h0 + 1), .ref (h0 + 2), .int (iI (((2 * U : Nat) : Int))), .ref (h0 + 4), .ref (h0 + 6), .ref (h0 + 8), .int (iI (ht)), .int (bI (true))]) (T := TX0) (N := 8) (b := h0) (As := []) (rest := []) hx hb hml hown hts hK hG hP hS hl mM_X0_coinInHand mV_X0_coinInHand mLX0_76 (cm_inHand_hit l D ta B (n) (w) (h0) (U) (ht) (k) (nu) (uf) (true) (ca) (cx) (j) e0 e1 e4 e5 (by omega) (by omega) (fun j hj => ⟨(hc j hj).1, (hc j hj).2⟩) hj hkj huq) e0 rfl rfl rfl (Nat.le_of_ble_eq_true rfl) ⟨Nat.le_of_ble_eq_true rfl, Nat.le_of_ble_eq_true rfl⟩ ⟨Nat.le_of_ble_eq_true rfl, Nat.le_of_ble_eq_true rfl⟩ dX0_spend_10 (fun r w2 n1 H locs hq hP hS => ?_)
  obtain ⟨rfl, hw1, hn1⟩ := hq
  replace hw1 := hw1.symm; replace hn1 := hn1.symm; subst hw1; subst hn1
  refine W.eq (g2 := F0 m 13 ls [.ref (ca j)]) rfl ?_
  refine lv_astore_n (lv' := [(1, .ref (ca j)), (0, .ref (h0))]) hx hb dX0_spend_13 rfl hl (by decide) rfl (fun ls hl => ?_)
  refine lv_aload_n hx hb dX0_spend_14 rfl (lv_at hl 0 rfl) ?_
  refine lv_ifnonnull (tgt := 20) hx hb dX0_spend_15 (by decide) ?_
  refine lv_aload_n hx hb dX0_spend_20 rfl (lv_at hl 1 rfl) ?_
  refine fw_get (ci := 0) (fs := [.ref (h0 + 1), .ref (h0 + 2), .int (iI (((2 * U : Nat) : Int))), .ref (h0 + 4), .ref (h0 + 6), .ref (h0 + 8), .int (iI (ht)), .int (bI (true))]) (k := 5) (v := .ref (h0 + 8)) (C := RX0) (T := TX0) (N := 8) hx hb hts inFX0 hown hK hP e0 rfl (by decide) mFX0_46 rfl dX0_spend_21 ?_
  refine fw_callV (ci := 5) (fs := [.ref (h0 + 10), .ref (h0 + 11), .ref (h0 + 9), .int (iI (((nj : Nat) : Int))), .int (iI (((nr : Nat) : Int))), .int (iI (((ns : Nat) : Int)))]) (T := TX5) (N := 6) (b := h0 + 8) (As := []) (rest := []) hx hb hml hown hts hK hG hP hS hl mM_X5_spent mV_X5_spent mLX0_113 (cm_Jrn_spent l D ta B (n) (w) (h0 + 8) (h0 + 10) (h0 + 11) (h0 + 9) (nj) (nr) (ns) e8 ) e8 rfl rfl rfl (Nat.le_of_ble_eq_true rfl) ⟨Nat.le_of_ble_eq_true rfl, Nat.le_of_ble_eq_true rfl⟩ ⟨Nat.le_of_ble_eq_true rfl, Nat.le_of_ble_eq_true rfl⟩ dX0_spend_24 (fun r w3 n1 H locs hq hP hS => ?_)
  obtain ⟨rfl, hw1, hn1⟩ := hq
  replace hw1 := hw1.symm; replace hn1 := hn1.symm; subst hw1; subst hn1
  refine W.eq (g2 := F0 m 27 ls [.int (iI (((ns : Nat) : Int)))]) rfl ?_
  refine lv_aload_n hx hb dX0_spend_27 rfl (lv_at hl 1 rfl) ?_
  refine fw_get (ci := 0) (fs := [.ref (h0 + 1), .ref (h0 + 2), .int (iI (((2 * U : Nat) : Int))), .ref (h0 + 4), .ref (h0 + 6), .ref (h0 + 8), .int (iI (ht)), .int (bI (true))]) (k := 2) (v := .int (iI (((2 * U : Nat) : Int)))) (C := RX0) (T := TX0) (N := 8) hx hb hts inFX0 hown hK hP e0 rfl (by decide) mFX0_27 rfl dX0_spend_28 ?_
  refine fn_icmp_lt (x := ((ns : Nat) : Int)) (y := ((2 * U : Nat) : Int)) (tgt := 36) hx hb dX0_spend_31 (by decide) ⟨by omega, by omega⟩ ⟨by omega, by omega⟩ (fun c4 => False.elim (by omega)) (fun c4 => ?_)
  refine lv_iconst (v := (iI (((3 : Nat) : Int)))) hx hb dX0_spend_34 rfl ?_
  exact fw_iret hx hb hr hlocks hP hS dX0_spend_35 (Nat.le_of_ble_eq_true rfl) (Nat.le_of_ble_eq_true rfl) ⟨rfl, rfl, rfl⟩
set_option maxHeartbeats 4000000 in
set_option maxRecDepth 100000 in
theorem cm_spend_ok (l : Launch) (D : va_G) (ta : Nat → ClassId) (B n : Nat) (w : fw_W) (h0 : Nat) (U : Nat) (ht : Int) (k : cKey) (nu : Nat) (uf : Nat → Option Nat) (nj : Nat) (nr : Nat) (ns : Nat) (lf : Nat → Nat) (jf : Nat → Option Nat) (sb : Nat → Bool) (ca : Nat → Nat) (cx : Nat → cCoin) (j : Nat) (e0 : w (h0) = some (.inr (0, [.ref (h0 + 1), .ref (h0 + 2), .int (iI (((2 * U : Nat) : Int))), .ref (h0 + 4), .ref (h0 + 6), .ref (h0 + 8), .int (iI (ht)), .int (bI (true))]))) (e1 : w (h0 + 1) = some (.inr (1, [.long (k.1), .long (k.2.1), .long (k.2.2.1), .long (k.2.2.2.1), .int (k.2.2.2.2)]))) (e4 : w (h0 + 4) = some (.inr (4, [.ref (h0 + 5), .int (iI (((nu : Nat) : Int)))]))) (e5 : w (h0 + 5) = some (.inl (ta 3, U, .inr (.inr (.inr (.inr (uf))))))) (e8 : w (h0 + 8) = some (.inr (5, [.ref (h0 + 10), .ref (h0 + 11), .ref (h0 + 9), .int (iI (((nj : Nat) : Int))), .int (iI (((nr : Nat) : Int))), .int (iI (((ns : Nat) : Int)))]))) (e9 : w (h0 + 9) = some (.inl (ta 1, 64, .inl (fun z_ => iI (((lf) z_ : Nat) : Int))))) (e10 : w (h0 + 10) = some (.inl (ta 3, (5 * U), .inr (.inr (.inr (.inr (jf))))))) (e11 : w (h0 + 11) = some (.inl (ta 2, (5 * U), .inl (fun z_ => bI ((sb) z_))))) (hU : U ≤ 200) (hu : nu ≤ U) (hc : ∀ j, j < nu → uf j = some (ca j) ∧ cn_at ta w (ca j) (cx j)) (hca : ∀ j, j < nu → h0 + 12 ≤ ca j) (hj : j < nu) (hkj : (cx j).1 = k) (huq : ∀ i, i < nu → (cx i).1 = k → i = j) (hns : ns < 2 * U) (hrc : nr ≤ 64) (h1r : 1 ≤ nr) (hjl : nj < 5 * U) : fw_C l D vwCl (tyL ta) B yX0_spend cX0_spend 2 (some .int) ({ frames := 4, cells := 0, slots := 0, locals := 86 } : Room) [.ref (h0)] n w (fun r w1 n1 => ∃ f2 : Nat → Option Nat, (∀ i, i < nu - 1 → f2 i = if i = j then uf (nu - 1) else uf i) ∧ r = some (.int (iI (((0 : Nat) : Int)))) ∧ w1 = fw_up (fw_up (fw_up (fw_up (fw_up (fw_up (w) (h0 + 4) (.inr (4, [.ref (h0 + 5), .int (iI (((nu - 1 : Nat) : Int)))]))) (h0 + 5) (.inl (ta 3, U, .inr (.inr (.inr (.inr (f2))))))) (h0 + 10) (.inl (ta 3, ((5 * U)), .inr (.inr (.inr (.inr (va_up (jf) (nj) (some ((ca j)))))))))) (h0 + 11) (.inl (ta 2, ((5 * U)), .inl (fun z_ => bI ((gup (sb) (nj) (true)) z_))))) (h0 + 8) (.inr (5, [.ref (h0 + 10), .ref (h0 + 11), .ref (h0 + 9), .int (iI (((nj + 1 : Nat) : Int))), .int (iI (((nr : Nat) : Int))), .int (iI (((ns + 1 : Nat) : Int)))]))) (h0 + 9) (.inl (ta 1, 64, .inl (fun z_ => iI (((gup (lf) (nr - 1) (lf (nr - 1) + 1)) z_ : Nat) : Int)))) ∧ n1 = n) := by
  refine fw_enter (by decide) (Nat.le_of_ble_eq_true rfl) ?_
  intro p e s m below meth c hx hb hr hml hown hlocks hin hG hts hK H locs hP hS ls hl
  have hown : s.vm.findClass RX0 = some m.cls := hown
  replace hl : lv_has ls 2 [(0, .ref (h0))] := hl
  have lt_e0 := hP.lt e0
  have lt_e1 := hP.lt e1
  have lt_e4 := hP.lt e4
  have lt_e5 := hP.lt e5
  have lt_e8 := hP.lt e8
  have lt_e9 := hP.lt e9
  have lt_e10 := hP.lt e10
  have lt_e11 := hP.lt e11
  refine lv_aload_n hx hb dX0_spend_0 rfl (lv_at hl 0 rfl) ?_
  refine fw_get (ci := 0) (fs := [.ref (h0 + 1), .ref (h0 + 2), .int (iI (((2 * U : Nat) : Int))), .ref (h0 + 4), .ref (h0 + 6), .ref (h0 + 8), .int (iI (ht)), .int (bI (true))]) (k := 7) (v := .int (bI (true))) (C := RX0) (T := TX0) (N := 8) hx hb hts inFX0 hown hK hP e0 rfl (by decide) mFX0_65 rfl dX0_spend_1 ?_
  refine fn_bif_ne (x := true) (tgt := 9) hx hb dX0_spend_4 (by decide) (fun c1 => ?_) (fun c1 => False.elim (by cases c1))
  refine lv_aload_n hx hb dX0_spend_9 rfl (lv_at hl 0 rfl) ?_
  refine fw_callV (ci := 0) (fs := [.ref (h0 + 1), .ref (h0 + 2), .int (iI (((2 * U : Nat) : Int))), .ref (h0 + 4), .ref (h0 + 6), .ref (h0 + 8), .int (iI (ht)), .int (bI (true))]) (T := TX0) (N := 8) (b := h0) (As := []) (rest := []) hx hb hml hown hts hK hG hP hS hl mM_X0_coinInHand mV_X0_coinInHand mLX0_76 (cm_inHand_hit l D ta B (n) (w) (h0) (U) (ht) (k) (nu) (uf) (true) (ca) (cx) (j) e0 e1 e4 e5 (by omega) (by omega) (fun j hj => ⟨(hc j hj).1, (hc j hj).2⟩) hj hkj huq) e0 rfl rfl rfl (Nat.le_of_ble_eq_true rfl) ⟨Nat.le_of_ble_eq_true rfl, Nat.le_of_ble_eq_true rfl⟩ ⟨Nat.le_of_ble_eq_true rfl, Nat.le_of_ble_eq_true rfl⟩ dX0_spend_10 (fun r w2 n1 H locs hq hP hS => ?_)
  obtain ⟨rfl, hw1, hn1⟩ := hq
  replace hw1 := hw1.symm; replace hn1 := hn1.symm; subst hw1; subst hn1
  refine W.eq (g2 := F0 m 13 ls [.ref (ca j)]) rfl ?_
  refine lv_astore_n (lv' := [(1, .ref (ca j)), (0, .ref (h0))]) hx hb dX0_spend_13 rfl hl (by decide) rfl (fun ls hl => ?_)
  refine lv_aload_n hx hb dX0_spend_14 rfl (lv_at hl 0 rfl) ?_
  refine lv_ifnonnull (tgt := 20) hx hb dX0_spend_15 (by decide) ?_
  refine lv_aload_n hx hb dX0_spend_20 rfl (lv_at hl 1 rfl) ?_
  refine fw_get (ci := 0) (fs := [.ref (h0 + 1), .ref (h0 + 2), .int (iI (((2 * U : Nat) : Int))), .ref (h0 + 4), .ref (h0 + 6), .ref (h0 + 8), .int (iI (ht)), .int (bI (true))]) (k := 5) (v := .ref (h0 + 8)) (C := RX0) (T := TX0) (N := 8) hx hb hts inFX0 hown hK hP e0 rfl (by decide) mFX0_46 rfl dX0_spend_21 ?_
  refine fw_callV (ci := 5) (fs := [.ref (h0 + 10), .ref (h0 + 11), .ref (h0 + 9), .int (iI (((nj : Nat) : Int))), .int (iI (((nr : Nat) : Int))), .int (iI (((ns : Nat) : Int)))]) (T := TX5) (N := 6) (b := h0 + 8) (As := []) (rest := []) hx hb hml hown hts hK hG hP hS hl mM_X5_spent mV_X5_spent mLX0_113 (cm_Jrn_spent l D ta B (n) (w) (h0 + 8) (h0 + 10) (h0 + 11) (h0 + 9) (nj) (nr) (ns) e8 ) e8 rfl rfl rfl (Nat.le_of_ble_eq_true rfl) ⟨Nat.le_of_ble_eq_true rfl, Nat.le_of_ble_eq_true rfl⟩ ⟨Nat.le_of_ble_eq_true rfl, Nat.le_of_ble_eq_true rfl⟩ dX0_spend_24 (fun r w3 n1 H locs hq hP hS => ?_)
  obtain ⟨rfl, hw1, hn1⟩ := hq
  replace hw1 := hw1.symm; replace hn1 := hn1.symm; subst hw1; subst hn1
  refine W.eq (g2 := F0 m 27 ls [.int (iI (((ns : Nat) : Int)))]) rfl ?_
  refine lv_aload_n hx hb dX0_spend_27 rfl (lv_at hl 1 rfl) ?_
  refine fw_get (ci := 0) (fs := [.ref (h0 + 1), .ref (h0 + 2), .int (iI (((2 * U : Nat) : Int))), .ref (h0 + 4), .ref (h0 + 6), .ref (h0 + 8), .int (iI (ht)), .int (bI (true))]) (k := 2) (v := .int (iI (((2 * U : Nat) : Int)))) (C := RX0) (T := TX0) (N := 8) hx hb hts inFX0 hown hK hP e0 rfl (by decide) mFX0_27 rfl dX0_spend_28 ?_
  refine fn_icmp_lt (x := ((ns : Nat) : Int)) (y := ((2 * U : Nat) : Int)) (tgt := 36) hx hb dX0_spend_31 (by decide) ⟨by omega, by omega⟩ ⟨by omega, by omega⟩ (fun c4 => ?_) (fun c4 => False.elim (by omega))
  refine lv_aload_n hx hb dX0_spend_36 rfl (lv_at hl 1 rfl) ?_
  refine fw_get (ci := 0) (fs := [.ref (h0 + 1), .ref (h0 + 2), .int (iI (((2 * U : Nat) : Int))), .ref (h0 + 4), .ref (h0 + 6), .ref (h0 + 8), .int (iI (ht)), .int (bI (true))]) (k := 3) (v := .ref (h0 + 4)) (C := RX0) (T := TX0) (N := 8) hx hb hts inFX0 hown hK hP e0 rfl (by decide) mFX0_36 rfl dX0_spend_37 ?_
  refine lv_aload_n hx hb dX0_spend_40 rfl (lv_at hl 1 rfl) ?_
  refine fw_get (ci := 0) (fs := [.ref (h0 + 1), .ref (h0 + 2), .int (iI (((2 * U : Nat) : Int))), .ref (h0 + 4), .ref (h0 + 6), .ref (h0 + 8), .int (iI (ht)), .int (bI (true))]) (k := 0) (v := .ref (h0 + 1)) (C := RX0) (T := TX0) (N := 8) hx hb hts inFX0 hown hK hP e0 rfl (by decide) mFX0_10 rfl dX0_spend_41 ?_
  refine fw_callV (ci := 4) (fs := [.ref (h0 + 5), .int (iI (((nu : Nat) : Int)))]) (T := TX4) (N := 2) (b := h0 + 4) (As := [.ref (h0 + 1)]) (rest := []) hx hb hml hown hts hK hG hP hS hl mM_X4_remove mV_X4_remove mLX0_116 (cm_Pile_remove l D ta B (n) (w) (h0 + 4) (h0 + 5) (nu) (U) (uf) (h0 + 1) (k) (ca) (cx) (j) e4 e5 e1 (by omega) (by omega) (fun j hj => ⟨(hc j hj).1, (hc j hj).2⟩) hj hkj huq) e4 rfl rfl rfl (Nat.le_of_ble_eq_true rfl) ⟨Nat.le_of_ble_eq_true rfl, Nat.le_of_ble_eq_true rfl⟩ ⟨Nat.le_of_ble_eq_true rfl, Nat.le_of_ble_eq_true rfl⟩ dX0_spend_44 (fun r w5 n1 H locs hq hP hS => ?_)
  obtain ⟨f2, hf2, rfl, hw1, hn1⟩ := hq
  replace hw1 := hw1.symm; replace hn1 := hn1.symm; subst hw1; subst hn1
  refine W.eq (g2 := F0 m 47 ls []) rfl ?_
  have hP : fw_P D vwCl B (n) (fw_up (fw_up (w) (h0 + 4) (.inr (4, [.ref (h0 + 5), .int (iI (((nu - 1 : Nat) : Int)))]))) (h0 + 5) (.inl (ta 3, U, .inr (.inr (.inr (.inr (f2))))))) H := hP
  obtain ⟨hq0, hq1, hq2, hq3, hq4⟩ := hc j hj
  have hcj := hca j hj
  have ne6 : (ca j : Nat) ≠ h0 := fw_noo hq1 e0 (by decide)
  have ne7 : (ca j : Nat) ≠ h0 + 1 := fw_noo hq1 e1 (by decide)
  have ne8 : (ca j : Nat) ≠ h0 + 4 := fw_noo hq1 e4 (by decide)
  have ne9 : (ca j : Nat) ≠ h0 + 5 := (fw_nio e5 hq1).symm
  have ne10 : (ca j : Nat) ≠ h0 + 8 := fw_noo hq1 e8 (by decide)
  have ne11 : (ca j : Nat) ≠ h0 + 9 := (fw_nio e9 hq1).symm
  have ne12 : (ca j : Nat) ≠ h0 + 10 := (fw_nio e10 hq1).symm
  have ne13 : (ca j : Nat) ≠ h0 + 11 := (fw_nio e11 hq1).symm
  have ne14 : (ca j + 1 : Nat) ≠ h0 := fw_noo hq2 e0 (by decide)
  have ne15 : (ca j + 1 : Nat) ≠ h0 + 4 := fw_noo hq2 e4 (by decide)
  have ne16 : (ca j + 1 : Nat) ≠ h0 + 5 := (fw_nio e5 hq2).symm
  have ne17 : (ca j + 1 : Nat) ≠ h0 + 8 := fw_noo hq2 e8 (by decide)
  have ne18 : (ca j + 1 : Nat) ≠ h0 + 9 := (fw_nio e9 hq2).symm
  have ne19 : (ca j + 1 : Nat) ≠ h0 + 10 := (fw_nio e10 hq2).symm
  have ne20 : (ca j + 1 : Nat) ≠ h0 + 11 := (fw_nio e11 hq2).symm
  have ne21 : (ca j + 1 : Nat) ≠ ca j := fw_noo hq2 hq1 (by decide)
  refine lv_aload_n hx hb dX0_spend_47 rfl (lv_at hl 1 rfl) ?_
  refine fw_get (ci := 0) (fs := [.ref (h0 + 1), .ref (h0 + 2), .int (iI (((2 * U : Nat) : Int))), .ref (h0 + 4), .ref (h0 + 6), .ref (h0 + 8), .int (iI (ht)), .int (bI (true))]) (k := 5) (v := .ref (h0 + 8)) (C := RX0) (T := TX0) (N := 8) hx hb hts inFX0 hown hK hP (fw_at (by omega) (fw_at (by omega) e0)) rfl (by decide) mFX0_46 rfl dX0_spend_48 ?_
  refine lv_aload_n hx hb dX0_spend_51 rfl (lv_at hl 0 rfl) ?_
  refine lv_iconst (v := (iI (((1 : Nat) : Int)))) hx hb dX0_spend_52 rfl ?_
  refine fw_callV (ci := 5) (fs := [.ref (h0 + 10), .ref (h0 + 11), .ref (h0 + 9), .int (iI (((nj : Nat) : Int))), .int (iI (((nr : Nat) : Int))), .int (iI (((ns : Nat) : Int)))]) (T := TX5) (N := 6) (b := h0 + 8) (As := [.ref (ca j), .int (bI (true))]) (rest := []) hx hb hml hown hts hK hG hP hS hl mM_X5_note mV_X5_note mLX0_109 (cm_Jrn_note_sp l D ta B (n) (fw_up (fw_up (w) (h0 + 4) (.inr (4, [.ref (h0 + 5), .int (iI (((nu - 1 : Nat) : Int)))]))) (h0 + 5) (.inl (ta 3, U, .inr (.inr (.inr (.inr (f2))))))) (h0 + 8) (h0 + 10) (h0 + 11) (h0 + 9) (nj) (nr) (ns) (5 * U) (jf) (sb) (lf) (ca j) (ca j + 1) (ca j + 2) ((cx j).2.2.1) (((cx j).2.2.2.1)) ((cx j).2.2.2.2) (fw_at (by omega) (fw_at (by omega) e8)) (fw_at (by omega) (fw_at (by omega) e10)) (fw_at (by omega) (fw_at (by omega) e11)) (fw_at (by omega) (fw_at (by omega) e9)) (fw_at ne9 (fw_at ne8 hq1)) (by omega) (by omega) (by omega) (by omega) (by omega)) (fw_at (by omega) (fw_at (by omega) e8)) rfl rfl rfl (Nat.le_of_ble_eq_true rfl) ⟨Nat.le_of_ble_eq_true rfl, Nat.le_of_ble_eq_true rfl⟩ ⟨Nat.le_of_ble_eq_true rfl, Nat.le_of_ble_eq_true rfl⟩ dX0_spend_53 (fun r w22 n1 H locs hq hP hS => ?_)
  obtain ⟨rfl, hw1, hn1⟩ := hq
  replace hw1 := hw1.symm; replace hn1 := hn1.symm; subst hw1; subst hn1
  refine W.eq (g2 := F0 m 56 ls []) rfl ?_
  have hP : fw_P D vwCl B (n) (fw_up (fw_up (fw_up (fw_up (fw_up (fw_up (w) (h0 + 4) (.inr (4, [.ref (h0 + 5), .int (iI (((nu - 1 : Nat) : Int)))]))) (h0 + 5) (.inl (ta 3, U, .inr (.inr (.inr (.inr (f2))))))) (h0 + 10) (.inl (ta 3, ((5 * U)), .inr (.inr (.inr (.inr (va_up (jf) (nj) (some ((ca j)))))))))) (h0 + 11) (.inl (ta 2, ((5 * U)), .inl (fun z_ => bI ((gup (sb) (nj) (true)) z_))))) (h0 + 8) (.inr (5, [.ref (h0 + 10), .ref (h0 + 11), .ref (h0 + 9), .int (iI (((nj + 1 : Nat) : Int))), .int (iI (((nr : Nat) : Int))), .int (iI (((ns + 1 : Nat) : Int)))]))) (h0 + 9) (.inl (ta 1, 64, .inl (fun z_ => iI (((gup (lf) (nr - 1) (lf (nr - 1) + 1)) z_ : Nat) : Int))))) H := hP
  refine lv_iconst (v := (iI (((0 : Nat) : Int)))) hx hb dX0_spend_56 rfl ?_
  exact fw_iret hx hb hr hlocks hP hS dX0_spend_57 (Nat.le_of_ble_eq_true rfl) (Nat.le_of_ble_eq_true rfl) ⟨f2, hf2, rfl, rfl, rfl⟩
set_option maxHeartbeats 4000000 in
set_option maxRecDepth 100000 in
theorem cm_end_closed (l : Launch) (D : va_G) (ta : Nat → ClassId) (B n : Nat) (w : fw_W) (h0 : Nat) (U : Nat) (ht : Int) (e0 : w (h0) = some (.inr (0, [.ref (h0 + 1), .ref (h0 + 2), .int (iI (((2 * U : Nat) : Int))), .ref (h0 + 4), .ref (h0 + 6), .ref (h0 + 8), .int (iI (ht)), .int (bI (false))])))  : fw_C l D vwCl (tyL ta) B yX0_end cX0_end 1 (some .int) ({ frames := 2, cells := 0, slots := 0, locals := 41 } : Room) [.ref (h0)] n w (fun r w1 n1 => r = some (.int (iI ((-1)))) ∧ w1 = w ∧ n1 = n) := by
  refine fw_enter (by decide) (Nat.le_of_ble_eq_true rfl) ?_
  intro p e s m below meth c hx hb hr hml hown hlocks hin hG hts hK H locs hP hS ls hl
  have hown : s.vm.findClass RX0 = some m.cls := hown
  replace hl : lv_has ls 1 [(0, .ref (h0))] := hl
  have lt_e0 := hP.lt e0
  refine lv_aload_n hx hb dX0_end_0 rfl (lv_at hl 0 rfl) ?_
  refine fw_get (ci := 0) (fs := [.ref (h0 + 1), .ref (h0 + 2), .int (iI (((2 * U : Nat) : Int))), .ref (h0 + 4), .ref (h0 + 6), .ref (h0 + 8), .int (iI (ht)), .int (bI (false))]) (k := 7) (v := .int (bI (false))) (C := RX0) (T := TX0) (N := 8) hx hb hts inFX0 hown hK hP e0 rfl (by decide) mFX0_65 rfl dX0_end_1 ?_
  refine fn_bif_ne (x := false) (tgt := 9) hx hb dX0_end_4 (by decide) (fun c1 => False.elim (by cases c1)) (fun c1 => ?_)
  refine lv_iconst (v := (iI ((-1)))) hx hb dX0_end_7 rfl ?_
  exact fw_iret hx hb hr hlocks hP hS dX0_end_8 (Nat.le_of_ble_eq_true rfl) (Nat.le_of_ble_eq_true rfl) ⟨rfl, rfl, rfl⟩
set_option maxHeartbeats 4000000 in
set_option maxRecDepth 100000 in
theorem cm_end_ok (l : Launch) (D : va_G) (ta : Nat → ClassId) (B n : Nat) (w : fw_W) (h0 : Nat) (U : Nat) (ht : Int) (nj : Nat) (nr : Nat) (ns : Nat) (lf : Nat → Nat) (e0 : w (h0) = some (.inr (0, [.ref (h0 + 1), .ref (h0 + 2), .int (iI (((2 * U : Nat) : Int))), .ref (h0 + 4), .ref (h0 + 6), .ref (h0 + 8), .int (iI (ht)), .int (bI (true))]))) (e8 : w (h0 + 8) = some (.inr (5, [.ref (h0 + 10), .ref (h0 + 11), .ref (h0 + 9), .int (iI (((nj : Nat) : Int))), .int (iI (((nr : Nat) : Int))), .int (iI (((ns : Nat) : Int)))]))) (e9 : w (h0 + 9) = some (.inl (ta 1, 64, .inl (fun z_ => iI (((lf) z_ : Nat) : Int))))) (hrc : nr ≤ 64) (h1r : 1 ≤ nr) : fw_C l D vwCl (tyL ta) B yX0_end cX0_end 1 (some .int) ({ frames := 2, cells := 0, slots := 0, locals := 41 } : Room) [.ref (h0)] n w (fun r w1 n1 => r = some (.int (iI (((lf (nr - 1) : Nat) : Int)))) ∧ w1 = fw_up (w) (h0) (.inr (0, [.ref (h0 + 1), .ref (h0 + 2), .int (iI (((2 * U : Nat) : Int))), .ref (h0 + 4), .ref (h0 + 6), .ref (h0 + 8), .int (iI ((ht) + ((1 : Nat) : Int))), .int (bI (false))])) ∧ n1 = n) := by
  refine fw_enter (by decide) (Nat.le_of_ble_eq_true rfl) ?_
  intro p e s m below meth c hx hb hr hml hown hlocks hin hG hts hK H locs hP hS ls hl
  have hown : s.vm.findClass RX0 = some m.cls := hown
  replace hl : lv_has ls 1 [(0, .ref (h0))] := hl
  have lt_e0 := hP.lt e0
  have lt_e8 := hP.lt e8
  have lt_e9 := hP.lt e9
  refine lv_aload_n hx hb dX0_end_0 rfl (lv_at hl 0 rfl) ?_
  refine fw_get (ci := 0) (fs := [.ref (h0 + 1), .ref (h0 + 2), .int (iI (((2 * U : Nat) : Int))), .ref (h0 + 4), .ref (h0 + 6), .ref (h0 + 8), .int (iI (ht)), .int (bI (true))]) (k := 7) (v := .int (bI (true))) (C := RX0) (T := TX0) (N := 8) hx hb hts inFX0 hown hK hP e0 rfl (by decide) mFX0_65 rfl dX0_end_1 ?_
  refine fn_bif_ne (x := true) (tgt := 9) hx hb dX0_end_4 (by decide) (fun c1 => ?_) (fun c1 => False.elim (by cases c1))
  refine lv_aload_n hx hb dX0_end_9 rfl (lv_at hl 0 rfl) ?_
  refine lv_iconst (v := (iI (((0 : Nat) : Int)))) hx hb dX0_end_10 rfl ?_
  refine fw_put (ci := 0) (fs := [.ref (h0 + 1), .ref (h0 + 2), .int (iI (((2 * U : Nat) : Int))), .ref (h0 + 4), .ref (h0 + 6), .ref (h0 + 8), .int (iI (ht)), .int (bI (true))]) (k := 7) (v := .int (bI (false))) (C := RX0) (T := TX0) (N := 8) hx hb hts inFX0 tyX0 tyX0_ok nmX0 hown hK hP hS e0 rfl (by decide) mFX0_65 rfl rfl (bI_narrow _) (bI_fits _) (Nat.le_of_ble_eq_true rfl) dX0_end_11 (fun H locs hP hS => ?_)
  have hP : fw_P D vwCl B (n) (fw_up (w) (h0) (.inr (0, [.ref (h0 + 1), .ref (h0 + 2), .int (iI (((2 * U : Nat) : Int))), .ref (h0 + 4), .ref (h0 + 6), .ref (h0 + 8), .int (iI (ht)), .int (bI (false))]))) H := hP
  refine lv_aload_n hx hb dX0_end_14 rfl (lv_at hl 0 rfl) ?_
  refine lv_dup hx hb dX0_end_15 rfl ?_
  refine fw_get (ci := 0) (fs := [.ref (h0 + 1), .ref (h0 + 2), .int (iI (((2 * U : Nat) : Int))), .ref (h0 + 4), .ref (h0 + 6), .ref (h0 + 8), .int (iI (ht)), .int (bI (false))]) (k := 6) (v := .int (iI (ht))) (C := RX0) (T := TX0) (N := 8) hx hb hts inFX0 hown hK hP (fw_same _ _ _) rfl (by decide) mFX0_84 rfl dX0_end_16 ?_
  refine lv_iconst (v := (iI (((1 : Nat) : Int)))) hx hb dX0_end_19 rfl ?_
  refine fn_iadd (x := ht) (y := ((1 : Nat) : Int)) hx hb dX0_end_20 ?_
  refine fw_put (ci := 0) (fs := [.ref (h0 + 1), .ref (h0 + 2), .int (iI (((2 * U : Nat) : Int))), .ref (h0 + 4), .ref (h0 + 6), .ref (h0 + 8), .int (iI (ht)), .int (bI (false))]) (k := 6) (v := .int (iI ((ht) + ((1 : Nat) : Int)))) (C := RX0) (T := TX0) (N := 8) hx hb hts inFX0 tyX0 tyX0_ok nmX0 hown hK hP hS (fw_same _ _ _) rfl (by decide) mFX0_84 rfl rfl rfl rfl (Nat.le_of_ble_eq_true rfl) dX0_end_21 (fun H locs hP hS => ?_)
  have hP : fw_P D vwCl B (n) (fw_up (w) (h0) (.inr (0, [.ref (h0 + 1), .ref (h0 + 2), .int (iI (((2 * U : Nat) : Int))), .ref (h0 + 4), .ref (h0 + 6), .ref (h0 + 8), .int (iI ((ht) + ((1 : Nat) : Int))), .int (bI (false))]))) H := fw_P.eqw (fw_twice _ _ _ _) hP
  refine lv_aload_n hx hb dX0_end_24 rfl (lv_at hl 0 rfl) ?_
  refine fw_get (ci := 0) (fs := [.ref (h0 + 1), .ref (h0 + 2), .int (iI (((2 * U : Nat) : Int))), .ref (h0 + 4), .ref (h0 + 6), .ref (h0 + 8), .int (iI ((ht) + ((1 : Nat) : Int))), .int (bI (false))]) (k := 5) (v := .ref (h0 + 8)) (C := RX0) (T := TX0) (N := 8) hx hb hts inFX0 hown hK hP (fw_same _ _ _) rfl (by decide) mFX0_46 rfl dX0_end_25 ?_
  refine fw_callV (ci := 5) (fs := [.ref (h0 + 10), .ref (h0 + 11), .ref (h0 + 9), .int (iI (((nj : Nat) : Int))), .int (iI (((nr : Nat) : Int))), .int (iI (((ns : Nat) : Int)))]) (T := TX5) (N := 6) (b := h0 + 8) (As := []) (rest := []) hx hb hml hown hts hK hG hP hS hl mM_X5_latestLength mV_X5_latestLength mLX0_119 (cm_Jrn_latestLength l D ta B (n) (fw_up (w) (h0) (.inr (0, [.ref (h0 + 1), .ref (h0 + 2), .int (iI (((2 * U : Nat) : Int))), .ref (h0 + 4), .ref (h0 + 6), .ref (h0 + 8), .int (iI ((ht) + ((1 : Nat) : Int))), .int (bI (false))]))) (h0 + 8) (h0 + 10) (h0 + 11) (h0 + 9) (nj) (nr) (ns) (lf) (fw_at (by omega) e8) (fw_at (by omega) e9) (by omega) (by omega)) (fw_at (by omega) e8) rfl rfl rfl (Nat.le_of_ble_eq_true rfl) ⟨Nat.le_of_ble_eq_true rfl, Nat.le_of_ble_eq_true rfl⟩ ⟨Nat.le_of_ble_eq_true rfl, Nat.le_of_ble_eq_true rfl⟩ dX0_end_28 (fun r w2 n1 H locs hq hP hS => ?_)
  obtain ⟨rfl, hw1, hn1⟩ := hq
  replace hw1 := hw1.symm; replace hn1 := hn1.symm; subst hw1; subst hn1
  refine W.eq (g2 := F0 m 31 ls [.int (iI (((lf (nr - 1) : Nat) : Int)))]) rfl ?_
  exact fw_iret hx hb hr hlocks hP hS dX0_end_31 (Nat.le_of_ble_eq_true rfl) (Nat.le_of_ble_eq_true rfl) ⟨rfl, rfl, rfl⟩
