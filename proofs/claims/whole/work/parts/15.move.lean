set_option maxHeartbeats 4000000 in
set_option maxRecDepth 100000 in
theorem cm_Jrn_moveThings (l : Launch) (D : va_G) (ta : Nat → ClassId) (B n : Nat) (w : fw_W) (h0 : Nat) (jc : Nat) (js : Nat) (jl : Nat) (sz : Nat) (rc : Nat) (sp : Nat) (N : Nat) (cf : Nat → Option Nat) (sb : Nat → Bool) (by_ : Nat) (ca : Nat → Nat) (cx : Nat → cCoin) (e0 : w (h0) = some (.inr (5, [.ref (jc), .ref (js), .ref (jl), .int (iI (((sz : Nat) : Int))), .int (iI (((rc : Nat) : Int))), .int (iI (((sp : Nat) : Int)))]))) (e1 : w (jc) = some (.inl (ta 3, N, .inr (.inr (.inr (.inr (cf))))))) (e2 : w (js) = some (.inl (ta 2, N, .inl (fun z_ => bI ((sb) z_))))) (hN : N < 2147483648) (hsz : sz ≤ N) (hby : by_ ≤ sz) (hcs : ∀ j, j < sz → cf j = some (ca j) ∧ cn_at ta w (ca j) (cx j)) : fw_C l D vwCl (tyL ta) B yX5_moveThingsDown cX5_moveThingsDown 4 none ({ frames := 1, cells := 0, slots := 0, locals := 21 } : Room) [.ref (h0), .int (iI (((by_ : Nat) : Int)))] n w (fun r w1 n1 => ∃ f2 : Nat → Option Nat, ∃ s2 : Nat → Bool, (∀ j, j < sz - by_ → f2 j = cf (j + by_) ∧ s2 j = sb (j + by_)) ∧ r = none ∧ w1 = fw_up (fw_up (fw_up (w) (jc) (.inl (ta 3, N, .inr (.inr (.inr (.inr (f2))))))) (js) (.inl (ta 2, N, .inl (fun z_ => bI ((s2) z_))))) (h0) (.inr (5, [.ref (jc), .ref (js), .ref (jl), .int (iI (((sz - by_ : Nat) : Int))), .int (iI (((rc : Nat) : Int))), .int (iI (((sp : Nat) : Int)))])) ∧ n1 = n) := by
  refine fw_enter (by decide) (Nat.le_of_ble_eq_true rfl) ?_
  intro p e s m below meth c hx hb hr hml hown hlocks hin hG hts hK H locs hP hS ls hl
  have hown : s.vm.findClass RX5 = some m.cls := hown
  replace hl : lv_has ls 4 [(0, .ref (h0)), (1, .int (iI (((by_ : Nat) : Int))))] := hl
  have lt_e0 := hP.lt e0
  have lt_e1 := hP.lt e1
  have lt_e2 := hP.lt e2
  have n_e0_e1 : (h0 : Nat) ≠ jc := (fw_nio e1 e0).symm
  have n_e0_e2 : (h0 : Nat) ≠ js := (fw_nio e2 e0).symm
  have n_e1_e2 : (jc : Nat) ≠ js := (fw_niq e2 e1).symm
  refine lv_iload_n hx hb dX5_moveThingsDown_0 rfl (lv_at hl 1 rfl) ?_
  refine lv_istore_n (lv' := [(2, .int (iI (((by_ : Nat) : Int)))), (0, .ref (h0)), (1, .int (iI (((by_ : Nat) : Int))))]) hx hb dX5_moveThingsDown_1 rfl hl (by decide) rfl (fun ls hl => ?_)
  have lp1 : ∀ (i : Nat) (f2 : Nat → Option Nat) (s2 : Nat → Bool) (H : Heap) (locs : List Loc) (ls : Array Slot), by_ ≤ i → i ≤ sz → (∀ j, j + by_ < i → f2 j = cf (j + by_) ∧ s2 j = sb (j + by_)) → (∀ j, i ≤ j + by_ → f2 j = cf j ∧ s2 j = sb j) → lv_has ls 4 [(2, .int (iI (((i : Nat) : Int)))), (0, .ref (h0)), (1, .int (iI (((by_ : Nat) : Int))))] → fw_P D vwCl B (n) (fw_up (fw_up (w) (jc) (.inl (ta 3, N, .inr (.inr (.inr (.inr (f2))))))) (js) (.inl (ta 2, N, .inl (fun z_ => bI ((s2) z_))))) H → fw_S B s.heap H locs → fw_K p l e ({ frames := 1, cells := 0, slots := 0, locals := 21 } : Room) s m [.ref (h0), .int (iI (((by_ : Nat) : Int)))] below meth c D vwCl B (fun r w1 n1 => ∃ f2 : Nat → Option Nat, ∃ s2 : Nat → Bool, (∀ j, j < sz - by_ → f2 j = cf (j + by_) ∧ s2 j = sb (j + by_)) ∧ r = none ∧ w1 = fw_up (fw_up (fw_up (w) (jc) (.inl (ta 3, N, .inr (.inr (.inr (.inr (f2))))))) (js) (.inl (ta 2, N, .inl (fun z_ => bI ((s2) z_))))) (h0) (.inr (5, [.ref (jc), .ref (js), .ref (jl), .int (iI (((sz - by_ : Nat) : Int))), .int (iI (((rc : Nat) : Int))), .int (iI (((sp : Nat) : Int)))])) ∧ n1 = n) H locs (0) (0) (F0 m 2 ls []) := by
    refine fw_loop (fun i : Nat => sz - i) ?_
    intro i ih2 f2 s2 H locs ls hi hi2 hm hk hl hP hS
    refine lv_iload_n hx hb dX5_moveThingsDown_2 rfl (lv_at hl 0 rfl) ?_
    refine lv_aload_n hx hb dX5_moveThingsDown_3 rfl (lv_at hl 1 rfl) ?_
    refine fw_get (ci := 5) (fs := [.ref (jc), .ref (js), .ref (jl), .int (iI (((sz : Nat) : Int))), .int (iI (((rc : Nat) : Int))), .int (iI (((sp : Nat) : Int)))]) (k := 3) (v := .int (iI (((sz : Nat) : Int)))) (C := RX5) (T := TX5) (N := 6) hx hb hts inFX5 hown hK hP (fw_at n_e0_e2 (fw_at n_e0_e1 e0)) rfl (by decide) mFX5_42 rfl dX5_moveThingsDown_4 ?_
    refine fn_icmp_ge (x := ((i : Nat) : Int)) (y := ((sz : Nat) : Int)) (tgt := 60) hx hb dX5_moveThingsDown_7 (by decide) ⟨by omega, by omega⟩ ⟨by omega, by omega⟩ (fun c2 => ?_) (fun c2 => ?_)
    · refine lv_aload_n hx hb dX5_moveThingsDown_60 rfl (lv_at hl 1 rfl) ?_
      refine lv_dup hx hb dX5_moveThingsDown_61 rfl ?_
      refine fw_get (ci := 5) (fs := [.ref (jc), .ref (js), .ref (jl), .int (iI (((sz : Nat) : Int))), .int (iI (((rc : Nat) : Int))), .int (iI (((sp : Nat) : Int)))]) (k := 3) (v := .int (iI (((sz : Nat) : Int)))) (C := RX5) (T := TX5) (N := 6) hx hb hts inFX5 hown hK hP (fw_at n_e0_e2 (fw_at n_e0_e1 e0)) rfl (by decide) mFX5_42 rfl dX5_moveThingsDown_62 ?_
      refine lv_iload_n hx hb dX5_moveThingsDown_65 rfl (lv_at hl 2 rfl) ?_
      refine fn_isub (x := ((sz : Nat) : Int)) (y := ((by_ : Nat) : Int)) hx hb dX5_moveThingsDown_66 ?_
      refine fn_topz (y := ((sz - by_ : Nat) : Int)) (by omega) ?_
      refine fw_put (ci := 5) (fs := [.ref (jc), .ref (js), .ref (jl), .int (iI (((sz : Nat) : Int))), .int (iI (((rc : Nat) : Int))), .int (iI (((sp : Nat) : Int)))]) (k := 3) (v := .int (iI (((sz - by_ : Nat) : Int)))) (C := RX5) (T := TX5) (N := 6) hx hb hts inFX5 tyX5 tyX5_ok nmX5 hown hK hP hS (fw_at n_e0_e2 (fw_at n_e0_e1 e0)) rfl (by decide) mFX5_42 rfl rfl rfl rfl (Nat.le_of_ble_eq_true rfl) dX5_moveThingsDown_67 (fun H locs hP hS => ?_)
      have hP : fw_P D vwCl B (n) (fw_up (fw_up (fw_up (w) (jc) (.inl (ta 3, N, .inr (.inr (.inr (.inr (f2))))))) (js) (.inl (ta 2, N, .inl (fun z_ => bI ((s2) z_))))) (h0) (.inr (5, [.ref (jc), .ref (js), .ref (jl), .int (iI (((sz - by_ : Nat) : Int))), .int (iI (((rc : Nat) : Int))), .int (iI (((sp : Nat) : Int)))]))) H := hP
      exact fw_vret hx hb hr hlocks hP hS dX5_moveThingsDown_70 (Nat.le_of_ble_eq_true rfl) (Nat.le_of_ble_eq_true rfl) ⟨f2, s2, fun j hj => hm j (by omega), rfl, rfl, rfl⟩
    · refine lv_iload_n hx hb dX5_moveThingsDown_10 rfl (lv_at hl 0 rfl) ?_
      refine lv_iload_n hx hb dX5_moveThingsDown_11 rfl (lv_at hl 2 rfl) ?_
      refine fn_isub (x := ((i : Nat) : Int)) (y := ((by_ : Nat) : Int)) hx hb dX5_moveThingsDown_12 ?_
      refine fn_topz (y := ((i - by_ : Nat) : Int)) (by omega) ?_
      refine lv_istore_n (lv' := [(3, .int (iI (((i - by_ : Nat) : Int)))), (2, .int (iI (((i : Nat) : Int)))), (0, .ref (h0)), (1, .int (iI (((by_ : Nat) : Int))))]) hx hb dX5_moveThingsDown_13 rfl hl (by decide) rfl (fun ls hl => ?_)
      refine lv_aload_n hx hb dX5_moveThingsDown_14 rfl (lv_at hl 2 rfl) ?_
      refine lv_iload_n hx hb dX5_moveThingsDown_15 rfl (lv_at hl 1 rfl) ?_
      refine fw_callV (ci := 5) (fs := [.ref (jc), .ref (js), .ref (jl), .int (iI (((sz : Nat) : Int))), .int (iI (((rc : Nat) : Int))), .int (iI (((sp : Nat) : Int)))]) (T := TX5) (N := 6) (b := h0) (As := [.int (iI (((i : Nat) : Int)))]) (rest := []) hx hb hml hown hts hK hG hP hS hl mM_X5_hasRoomAt mV_X5_hasRoomAt mLX5_45 (cm_Jrn_hasRoomAt l D ta B (n) (fw_up (fw_up (w) (jc) (.inl (ta 3, N, .inr (.inr (.inr (.inr (f2))))))) (js) (.inl (ta 2, N, .inl (fun z_ => bI ((s2) z_))))) (h0) (jc) (js) (jl) (sz) (rc) (sp) (N) (f2) (s2) (((i : Nat) : Int)) (fw_at n_e0_e2 (fw_at n_e0_e1 e0)) (fw_at n_e1_e2 (fw_same _ _ _)) (fw_same _ _ _) (by omega) ⟨by omega, by omega⟩) (fw_at n_e0_e2 (fw_at n_e0_e1 e0)) rfl rfl rfl (Nat.le_of_ble_eq_true rfl) ⟨Nat.le_of_ble_eq_true rfl, Nat.le_of_ble_eq_true rfl⟩ ⟨Nat.le_of_ble_eq_true rfl, Nat.le_of_ble_eq_true rfl⟩ dX5_moveThingsDown_16 (fun r w3 n1 H locs hq hP hS => ?_)
      obtain ⟨rfl, hw1, hn1⟩ := hq
      replace hw1 := hw1.symm; replace hn1 := hn1.symm; subst hw1; subst hn1
      refine W.eq (g2 := F0 m 19 ls [.int (bI (decide (0 ≤ ((i : Nat) : Int) ∧ ((i : Nat) : Int) < ((N : Nat) : Int))))]) rfl ?_
      refine fn_bif_eq (x := decide (0 ≤ ((i : Nat) : Int) ∧ ((i : Nat) : Int) < ((N : Nat) : Int))) (tgt := 54) hx hb dX5_moveThingsDown_19 (by decide) (fun c4 => False.elim (by have q := of_decide_eq_false c4; omega)) (fun c4 => ?_)
      refine lv_aload_n hx hb dX5_moveThingsDown_22 rfl (lv_at hl 2 rfl) ?_
      refine lv_iload_n hx hb dX5_moveThingsDown_23 rfl (lv_at hl 0 rfl) ?_
      refine fw_callV (ci := 5) (fs := [.ref (jc), .ref (js), .ref (jl), .int (iI (((sz : Nat) : Int))), .int (iI (((rc : Nat) : Int))), .int (iI (((sp : Nat) : Int)))]) (T := TX5) (N := 6) (b := h0) (As := [.int (iI (((i - by_ : Nat) : Int)))]) (rest := []) hx hb hml hown hts hK hG hP hS hl mM_X5_hasRoomAt mV_X5_hasRoomAt mLX5_45 (cm_Jrn_hasRoomAt l D ta B (n) (fw_up (fw_up (w) (jc) (.inl (ta 3, N, .inr (.inr (.inr (.inr (f2))))))) (js) (.inl (ta 2, N, .inl (fun z_ => bI ((s2) z_))))) (h0) (jc) (js) (jl) (sz) (rc) (sp) (N) (f2) (s2) (((i - by_ : Nat) : Int)) (fw_at n_e0_e2 (fw_at n_e0_e1 e0)) (fw_at n_e1_e2 (fw_same _ _ _)) (fw_same _ _ _) (by omega) ⟨by omega, by omega⟩) (fw_at n_e0_e2 (fw_at n_e0_e1 e0)) rfl rfl rfl (Nat.le_of_ble_eq_true rfl) ⟨Nat.le_of_ble_eq_true rfl, Nat.le_of_ble_eq_true rfl⟩ ⟨Nat.le_of_ble_eq_true rfl, Nat.le_of_ble_eq_true rfl⟩ dX5_moveThingsDown_24 (fun r w5 n1 H locs hq hP hS => ?_)
      obtain ⟨rfl, hw1, hn1⟩ := hq
      replace hw1 := hw1.symm; replace hn1 := hn1.symm; subst hw1; subst hn1
      refine W.eq (g2 := F0 m 27 ls [.int (bI (decide (0 ≤ ((i - by_ : Nat) : Int) ∧ ((i - by_ : Nat) : Int) < ((N : Nat) : Int))))]) rfl ?_
      refine fn_bif_eq (x := decide (0 ≤ ((i - by_ : Nat) : Int) ∧ ((i - by_ : Nat) : Int) < ((N : Nat) : Int))) (tgt := 54) hx hb dX5_moveThingsDown_27 (by decide) (fun c6 => False.elim (by have q := of_decide_eq_false c6; omega)) (fun c6 => ?_)
      refine lv_aload_n hx hb dX5_moveThingsDown_30 rfl (lv_at hl 2 rfl) ?_
      refine fw_get (ci := 5) (fs := [.ref (jc), .ref (js), .ref (jl), .int (iI (((sz : Nat) : Int))), .int (iI (((rc : Nat) : Int))), .int (iI (((sp : Nat) : Int)))]) (k := 0) (v := .ref (jc)) (C := RX5) (T := TX5) (N := 6) hx hb hts inFX5 hown hK hP (fw_at n_e0_e2 (fw_at n_e0_e1 e0)) rfl (by decide) mFX5_23 rfl dX5_moveThingsDown_31 ?_
      refine lv_iload_n hx hb dX5_moveThingsDown_34 rfl (lv_at hl 0 rfl) ?_
      refine lv_aload_n hx hb dX5_moveThingsDown_35 rfl (lv_at hl 2 rfl) ?_
      refine fw_get (ci := 5) (fs := [.ref (jc), .ref (js), .ref (jl), .int (iI (((sz : Nat) : Int))), .int (iI (((rc : Nat) : Int))), .int (iI (((sp : Nat) : Int)))]) (k := 0) (v := .ref (jc)) (C := RX5) (T := TX5) (N := 6) hx hb hts inFX5 hown hK hP (fw_at n_e0_e2 (fw_at n_e0_e1 e0)) rfl (by decide) mFX5_23 rfl dX5_moveThingsDown_36 ?_
      refine lv_iload_n hx hb dX5_moveThingsDown_39 rfl (lv_at hl 1 rfl) ?_
      obtain ⟨hq0, hq1, hq2, hq3, hq4⟩ := hcs i (by omega)
      have ne7 : (ca i : Nat) ≠ h0 := fw_noo hq1 e0 (by decide)
      have ne8 : (ca i : Nat) ≠ jc := (fw_nio e1 hq1).symm
      have ne9 : (ca i : Nat) ≠ js := (fw_nio e2 hq1).symm
      refine fn_aald (k := i) hx hb hK hP 3 (fw_at n_e1_e2 (fw_same _ _ _)) rfl (by omega) (by omega) dX5_moveThingsDown_40 ?_
      refine fn_topq (x := ca i) ((hk i (by omega)).1.trans hq0) ?_
      refine fn_aast (k := i - by_) hx hb hK hP hS 3 3 (fw_at n_e1_e2 (fw_same _ _ _)) rfl (fw_at ne9 (fw_at ne8 hq1)) (show vwCl[3]? = some (RX3, TX3, 5) from rfl) (by omega) (by omega) dX5_moveThingsDown_41 (fun H locs hP hS => ?_)
      have hP : fw_P D vwCl B (n) (fw_up (fw_up (w) (jc) (.inl (ta 3, N, .inr (.inr (.inr (.inr (va_up (f2) (i - by_) (some (ca i))))))))) (js) (.inl (ta 2, N, .inl (fun z_ => bI ((s2) z_))))) H := fw_P.eqw (fw_swap n_e1_e2.symm (fw_twice _ _ _ _)) hP
      refine lv_aload_n hx hb dX5_moveThingsDown_42 rfl (lv_at hl 2 rfl) ?_
      refine fw_get (ci := 5) (fs := [.ref (jc), .ref (js), .ref (jl), .int (iI (((sz : Nat) : Int))), .int (iI (((rc : Nat) : Int))), .int (iI (((sp : Nat) : Int)))]) (k := 1) (v := .ref (js)) (C := RX5) (T := TX5) (N := 6) hx hb hts inFX5 hown hK hP (fw_at n_e0_e2 (fw_at n_e0_e1 e0)) rfl (by decide) mFX5_27 rfl dX5_moveThingsDown_43 ?_
      refine lv_iload_n hx hb dX5_moveThingsDown_46 rfl (lv_at hl 0 rfl) ?_
      refine lv_aload_n hx hb dX5_moveThingsDown_47 rfl (lv_at hl 2 rfl) ?_
      refine fw_get (ci := 5) (fs := [.ref (jc), .ref (js), .ref (jl), .int (iI (((sz : Nat) : Int))), .int (iI (((rc : Nat) : Int))), .int (iI (((sp : Nat) : Int)))]) (k := 1) (v := .ref (js)) (C := RX5) (T := TX5) (N := 6) hx hb hts inFX5 hown hK hP (fw_at n_e0_e2 (fw_at n_e0_e1 e0)) rfl (by decide) mFX5_27 rfl dX5_moveThingsDown_48 ?_
      refine lv_iload_n hx hb dX5_moveThingsDown_51 rfl (lv_at hl 1 rfl) ?_
      refine fn_zaldB (sb := s2) (k := i) hx hb hK hP 2 (fw_same _ _ _) rfl (by omega) (by omega) dX5_moveThingsDown_52 ?_
      refine fn_zastB (sb := s2) (x := s2 i) (k := i - by_) hx hb hK hP hS 2 (fw_same _ _ _) rfl (by omega) (by omega) dX5_moveThingsDown_53 (fun H locs hP hS => ?_)
      have hP : fw_P D vwCl B (n) (fw_up (fw_up (w) (jc) (.inl (ta 3, N, .inr (.inr (.inr (.inr (va_up (f2) (i - by_) (some (ca i))))))))) (js) (.inl (ta 2, N, .inl (fun z_ => bI ((gup (s2) (i - by_) (s2 i)) z_))))) H := fw_P.eqw (fw_twice _ _ _ _) hP
      refine lv_iinc (k := 1) (v := (iI (((i + 1 : Nat) : Int)))) (lv' := [(2, .int (iI (((i + 1 : Nat) : Int)))), (3, .int (iI (((i - by_ : Nat) : Int)))), (0, .ref (h0)), (1, .int (iI (((by_ : Nat) : Int))))]) hx hb dX5_moveThingsDown_54 hl rfl (iI_inc _ 1) (by decide) rfl (fun ls hl => ?_)
      refine lv_goto (tgt := 2) hx hb dX5_moveThingsDown_57 (by decide) ?_
      replace hl : lv_has ls 4 [(2, .int (iI (((i + 1 : Nat) : Int)))), (0, .ref (h0)), (1, .int (iI (((by_ : Nat) : Int))))] := by
        refine ⟨hl.1, hl.2.1, fun q hq => hl.2.2 q ?_⟩
        simp only [List.mem_cons, List.not_mem_nil, or_false] at hq
        rcases hq with rfl | rfl | rfl
        · exact List.mem_of_getElem? (i := 0) rfl
        · exact List.mem_of_getElem? (i := 2) rfl
        · exact List.mem_of_getElem? (i := 3) rfl
      exact ih2 (i + 1) (by omega) (va_up f2 (i - by_) (some (ca i))) (gup s2 (i - by_) (s2 i)) H locs ls (by omega) (by omega) (fun j hj => if hq : j = i - by_ then by (subst hq; simp only [va_up, gup, if_true]; rw [show i - by_ + by_ = i by omega]; exact ⟨hq0.symm, (hk i (by omega)).2⟩) else by (simp only [va_up, gup, if_neg hq]; exact hm j (by omega))) (fun j hj => by simp only [va_up, gup, if_neg (show ¬ j = i - by_ by omega)]; exact hk j (by omega)) hl hP hS
  have hP : fw_P D vwCl B (n) (fw_up (w) (jc) (.inl (ta 3, N, .inr (.inr (.inr (.inr (cf))))))) H := fw_P.eqw (fw_id e1).symm hP
  have hP : fw_P D vwCl B (n) (fw_up (fw_up (w) (jc) (.inl (ta 3, N, .inr (.inr (.inr (.inr (cf))))))) (js) (.inl (ta 2, N, .inl (fun z_ => bI ((sb) z_))))) H := fw_P.eqw (fw_id (fw_at n_e1_e2.symm e2)).symm hP
  exact lp1 (by_) (cf) (sb) H locs ls (by omega) hby (fun j hj => absurd hj (by omega)) (fun j hj => ⟨rfl, rfl⟩) hl hP hS
set_option maxHeartbeats 4000000 in
set_option maxRecDepth 100000 in
theorem cm_Jrn_moveRecords (l : Launch) (D : va_G) (ta : Nat → ClassId) (B n : Nat) (w : fw_W) (h0 : Nat) (jc : Nat) (js : Nat) (jl : Nat) (sz : Nat) (rc : Nat) (sp : Nat) (lf : Nat → Nat) (e0 : w (h0) = some (.inr (5, [.ref (jc), .ref (js), .ref (jl), .int (iI (((sz : Nat) : Int))), .int (iI (((rc : Nat) : Int))), .int (iI (((sp : Nat) : Int)))]))) (e3 : w (jl) = some (.inl (ta 1, 64, .inl (fun z_ => iI (((lf) z_ : Nat) : Int))))) (hrc : rc ≤ 64) (h1r : 1 ≤ rc) : fw_C l D vwCl (tyL ta) B yX5_moveRecordsDown cX5_moveRecordsDown 2 none ({ frames := 1, cells := 0, slots := 0, locals := 20 } : Room) [.ref (h0)] n w (fun r w1 n1 => ∃ l2 : Nat → Nat, (∀ j, j < rc - 1 → l2 j = lf (j + 1)) ∧ r = none ∧ w1 = fw_up (fw_up (w) (jl) (.inl (ta 1, 64, .inl (fun z_ => iI (((l2) z_ : Nat) : Int))))) (h0) (.inr (5, [.ref (jc), .ref (js), .ref (jl), .int (iI (((sz : Nat) : Int))), .int (iI (((rc - 1 : Nat) : Int))), .int (iI (((sp : Nat) : Int)))])) ∧ n1 = n) := by
  refine fw_enter (by decide) (Nat.le_of_ble_eq_true rfl) ?_
  intro p e s m below meth c hx hb hr hml hown hlocks hin hG hts hK H locs hP hS ls hl
  have hown : s.vm.findClass RX5 = some m.cls := hown
  replace hl : lv_has ls 2 [(0, .ref (h0))] := hl
  have lt_e0 := hP.lt e0
  have lt_e3 := hP.lt e3
  have n_e0_e3 : (h0 : Nat) ≠ jl := (fw_nio e3 e0).symm
  refine lv_iconst (v := (iI (((1 : Nat) : Int)))) hx hb dX5_moveRecordsDown_0 rfl ?_
  refine lv_istore_n (lv' := [(1, .int (iI (((1 : Nat) : Int)))), (0, .ref (h0))]) hx hb dX5_moveRecordsDown_1 rfl hl (by decide) rfl (fun ls hl => ?_)
  have lp1 : ∀ (i : Nat) (l2 : Nat → Nat) (H : Heap) (locs : List Loc) (ls : Array Slot), 1 ≤ i → i ≤ rc → (∀ j, j + 1 < i → l2 j = lf (j + 1)) → (∀ j, i ≤ j + 1 → l2 j = lf j) → lv_has ls 2 [(1, .int (iI (((i : Nat) : Int)))), (0, .ref (h0))] → fw_P D vwCl B (n) (fw_up (w) (jl) (.inl (ta 1, 64, .inl (fun z_ => iI (((l2) z_ : Nat) : Int))))) H → fw_S B s.heap H locs → fw_K p l e ({ frames := 1, cells := 0, slots := 0, locals := 20 } : Room) s m [.ref (h0)] below meth c D vwCl B (fun r w1 n1 => ∃ l2 : Nat → Nat, (∀ j, j < rc - 1 → l2 j = lf (j + 1)) ∧ r = none ∧ w1 = fw_up (fw_up (w) (jl) (.inl (ta 1, 64, .inl (fun z_ => iI (((l2) z_ : Nat) : Int))))) (h0) (.inr (5, [.ref (jc), .ref (js), .ref (jl), .int (iI (((sz : Nat) : Int))), .int (iI (((rc - 1 : Nat) : Int))), .int (iI (((sp : Nat) : Int)))])) ∧ n1 = n) H locs (0) (0) (F0 m 2 ls []) := by
    refine fw_loop (fun i : Nat => rc - i) ?_
    intro i ih2 l2 H locs ls hi hi2 hm hk hl hP hS
    refine lv_iload_n hx hb dX5_moveRecordsDown_2 rfl (lv_at hl 0 rfl) ?_
    refine lv_aload_n hx hb dX5_moveRecordsDown_3 rfl (lv_at hl 1 rfl) ?_
    refine fw_get (ci := 5) (fs := [.ref (jc), .ref (js), .ref (jl), .int (iI (((sz : Nat) : Int))), .int (iI (((rc : Nat) : Int))), .int (iI (((sp : Nat) : Int)))]) (k := 4) (v := .int (iI (((rc : Nat) : Int)))) (C := RX5) (T := TX5) (N := 6) hx hb hts inFX5 hown hK hP (fw_at n_e0_e3 e0) rfl (by decide) mFX5_31 rfl dX5_moveRecordsDown_4 ?_
    refine fn_icmp_ge (x := ((i : Nat) : Int)) (y := ((rc : Nat) : Int)) (tgt := 39) hx hb dX5_moveRecordsDown_7 (by decide) ⟨by omega, by omega⟩ ⟨by omega, by omega⟩ (fun c2 => ?_) (fun c2 => ?_)
    · refine lv_aload_n hx hb dX5_moveRecordsDown_39 rfl (lv_at hl 1 rfl) ?_
      refine fw_callV (ci := 5) (fs := [.ref (jc), .ref (js), .ref (jl), .int (iI (((sz : Nat) : Int))), .int (iI (((rc : Nat) : Int))), .int (iI (((sp : Nat) : Int)))]) (T := TX5) (N := 6) (b := h0) (As := []) (rest := []) hx hb hml hown hts hK hG hP hS hl mM_X5_dropLatestRecord mV_X5_dropLatestRecord mLX5_65 (cm_Jrn_dropLatest l D ta B (n) (fw_up (w) (jl) (.inl (ta 1, 64, .inl (fun z_ => iI (((l2) z_ : Nat) : Int))))) (h0) (jc) (js) (jl) (sz) (rc) (sp) (fw_at n_e0_e3 e0) (by omega) (by omega)) (fw_at n_e0_e3 e0) rfl rfl rfl (Nat.le_of_ble_eq_true rfl) ⟨Nat.le_of_ble_eq_true rfl, Nat.le_of_ble_eq_true rfl⟩ ⟨Nat.le_of_ble_eq_true rfl, Nat.le_of_ble_eq_true rfl⟩ dX5_moveRecordsDown_40 (fun r w3 n1 H locs hq hP hS => ?_)
      obtain ⟨rfl, hw1, hn1⟩ := hq
      replace hw1 := hw1.symm; replace hn1 := hn1.symm; subst hw1; subst hn1
      refine W.eq (g2 := F0 m 43 ls []) rfl ?_
      have hP : fw_P D vwCl B (n) (fw_up (fw_up (w) (jl) (.inl (ta 1, 64, .inl (fun z_ => iI (((l2) z_ : Nat) : Int))))) (h0) (.inr (5, [.ref (jc), .ref (js), .ref (jl), .int (iI (((sz : Nat) : Int))), .int (iI (((rc - 1 : Nat) : Int))), .int (iI (((sp : Nat) : Int)))]))) H := hP
      exact fw_vret hx hb hr hlocks hP hS dX5_moveRecordsDown_43 (Nat.le_of_ble_eq_true rfl) (Nat.le_of_ble_eq_true rfl) ⟨l2, fun j hj => hm j (by omega), rfl, rfl, rfl⟩
    · refine lv_iload_n hx hb dX5_moveRecordsDown_10 rfl (lv_at hl 0 rfl) ?_
      refine lv_aload_n hx hb dX5_moveRecordsDown_11 rfl (lv_at hl 1 rfl) ?_
      refine fw_get (ci := 5) (fs := [.ref (jc), .ref (js), .ref (jl), .int (iI (((sz : Nat) : Int))), .int (iI (((rc : Nat) : Int))), .int (iI (((sp : Nat) : Int)))]) (k := 2) (v := .ref (jl)) (C := RX5) (T := TX5) (N := 6) hx hb hts inFX5 hown hK hP (fw_at n_e0_e3 e0) rfl (by decide) mFX5_9 rfl dX5_moveRecordsDown_12 ?_
      refine fn_alen hx hb hK hP 1 (fw_same _ _ _) rfl dX5_moveRecordsDown_15 ?_
      refine fn_icmp_ge (x := ((i : Nat) : Int)) (y := ((64 : Nat) : Int)) (tgt := 39) hx hb dX5_moveRecordsDown_16 (by decide) ⟨by omega, by omega⟩ ⟨by omega, by omega⟩ (fun c4 => False.elim (by omega)) (fun c4 => ?_)
      refine lv_aload_n hx hb dX5_moveRecordsDown_19 rfl (lv_at hl 1 rfl) ?_
      refine fw_get (ci := 5) (fs := [.ref (jc), .ref (js), .ref (jl), .int (iI (((sz : Nat) : Int))), .int (iI (((rc : Nat) : Int))), .int (iI (((sp : Nat) : Int)))]) (k := 2) (v := .ref (jl)) (C := RX5) (T := TX5) (N := 6) hx hb hts inFX5 hown hK hP (fw_at n_e0_e3 e0) rfl (by decide) mFX5_9 rfl dX5_moveRecordsDown_20 ?_
      refine lv_iload_n hx hb dX5_moveRecordsDown_23 rfl (lv_at hl 0 rfl) ?_
      refine lv_iconst (v := (iI (((1 : Nat) : Int)))) hx hb dX5_moveRecordsDown_24 rfl ?_
      refine fn_isub (x := ((i : Nat) : Int)) (y := ((1 : Nat) : Int)) hx hb dX5_moveRecordsDown_25 ?_
      refine fn_topz (y := ((i - 1 : Nat) : Int)) (by omega) ?_
      refine lv_aload_n hx hb dX5_moveRecordsDown_26 rfl (lv_at hl 1 rfl) ?_
      refine fw_get (ci := 5) (fs := [.ref (jc), .ref (js), .ref (jl), .int (iI (((sz : Nat) : Int))), .int (iI (((rc : Nat) : Int))), .int (iI (((sp : Nat) : Int)))]) (k := 2) (v := .ref (jl)) (C := RX5) (T := TX5) (N := 6) hx hb hts inFX5 hown hK hP (fw_at n_e0_e3 e0) rfl (by decide) mFX5_9 rfl dX5_moveRecordsDown_27 ?_
      refine lv_iload_n hx hb dX5_moveRecordsDown_30 rfl (lv_at hl 0 rfl) ?_
      refine fn_ialdN (g := l2) (k := i) hx hb hK hP 1 (fw_same _ _ _) rfl (by omega) (by omega) dX5_moveRecordsDown_31 ?_
      refine fn_iastN (g := l2) (x := l2 i) (k := i - 1) hx hb hK hP hS 1 (fw_same _ _ _) rfl (by omega) (by omega) dX5_moveRecordsDown_32 (fun H locs hP hS => ?_)
      have hP : fw_P D vwCl B (n) (fw_up (w) (jl) (.inl (ta 1, 64, .inl (fun z_ => iI (((gup (l2) (i - 1) (l2 i)) z_ : Nat) : Int))))) H := fw_P.eqw (fw_twice _ _ _ _) hP
      refine lv_iinc (k := 0) (v := (iI (((i + 1 : Nat) : Int)))) (lv' := [(1, .int (iI (((i + 1 : Nat) : Int)))), (0, .ref (h0))]) hx hb dX5_moveRecordsDown_33 hl rfl (iI_inc _ 1) (by decide) rfl (fun ls hl => ?_)
      refine lv_goto (tgt := 2) hx hb dX5_moveRecordsDown_36 (by decide) ?_
      exact ih2 (i + 1) (by omega) (gup l2 (i - 1) (l2 i)) H locs ls (by omega) (by omega) (fun j hj => if hq : j = i - 1 then by (subst hq; simp only [gup, if_true]; rw [show i - 1 + 1 = i by omega]; exact hk i (by omega)) else by (simp only [gup, if_neg hq]; exact hm j (by omega))) (fun j hj => by simp only [gup, if_neg (show ¬ j = i - 1 by omega)]; exact hk j (by omega)) hl hP hS
  have hP : fw_P D vwCl B (n) (fw_up (w) (jl) (.inl (ta 1, 64, .inl (fun z_ => iI (((lf) z_ : Nat) : Int))))) H := fw_P.eqw (fw_id e3).symm hP
  exact lp1 (1) (lf) H locs ls (by omega) h1r (fun j hj => absurd hj (by omega)) (fun j hj => rfl) hl hP hS
set_option maxHeartbeats 4000000 in
set_option maxRecDepth 100000 in
theorem cm_Jrn_dropOldest (l : Launch) (D : va_G) (ta : Nat → ClassId) (B n : Nat) (w : fw_W) (h0 : Nat) (jc : Nat) (js : Nat) (jl : Nat) (sz : Nat) (rc : Nat) (sp : Nat) (N : Nat) (cf : Nat → Option Nat) (sb : Nat → Bool) (lf : Nat → Nat) (p0 : Nat) (pa : Nat) (bs : List Nat) (PN : Nat) (pf : Nat → Option Nat) (ca : Nat → Nat) (cx : Nat → cCoin) (e0 : w (h0) = some (.inr (5, [.ref (jc), .ref (js), .ref (jl), .int (iI (((sz : Nat) : Int))), .int (iI (((rc : Nat) : Int))), .int (iI (((sp : Nat) : Int)))]))) (e1 : w (jc) = some (.inl (ta 3, N, .inr (.inr (.inr (.inr (cf))))))) (e2 : w (js) = some (.inl (ta 2, N, .inl (fun z_ => bI ((sb) z_))))) (e3 : w (jl) = some (.inl (ta 1, 64, .inl (fun z_ => iI (((lf) z_ : Nat) : Int))))) (e4 : w (p0) = some (.inr (4, [.ref (pa), .int (iI (((bs.length : Nat) : Int)))]))) (e5 : w (pa) = some (.inl (ta 3, PN, .inr (.inr (.inr (.inr (pf))))))) (hsl : js ≠ jl) (hjp : jc ≠ pa) (hN : N < 2147483648) (hPN : PN < 2147483648) (hrc : rc ≤ 64) (h1r : 1 ≤ rc) (hsz : sz ≤ N) (hl0 : lf 0 ≤ sz) (hsp : (sadd ca sb (lf 0)).length ≤ sp) (hcap : bs.length + (sadd ca sb (lf 0)).length ≤ PN) (hcs : ∀ j, j < sz → cf j = some (ca j) ∧ cn_at ta w (ca j) (cx j)) (hrl : rl bs pf) : fw_C l D vwCl (tyL ta) B yX5_dropOldestRecord cX5_dropOldestRecord 5 (some .int) ({ frames := 2, cells := 0, slots := 0, locals := 44 } : Room) [.ref (h0), .ref (p0)] n w (fun r w1 n1 => ∃ pf2 : Nat → Option Nat, ∃ f2 : Nat → Option Nat, ∃ s2 : Nat → Bool, ∃ l2 : Nat → Nat, (rl (bs ++ sadd ca sb (lf 0)) pf2) ∧ (∀ j, j < sz - lf 0 → f2 j = cf (j + lf 0) ∧ s2 j = sb (j + lf 0)) ∧ (∀ j, j < rc - 1 → l2 j = lf (j + 1)) ∧ r = some (.int (iI ((((sadd ca sb (lf 0)).length : Nat) : Int)))) ∧ w1 = fw_up (fw_up (fw_up (fw_up (fw_up (fw_up (w) (p0) (.inr (4, [.ref (pa), .int (iI (((bs.length + (sadd ca sb (lf 0)).length : Nat) : Int)))]))) (pa) (.inl (ta 3, PN, .inr (.inr (.inr (.inr (pf2))))))) (h0) (.inr (5, [.ref (jc), .ref (js), .ref (jl), .int (iI (((sz - lf 0 : Nat) : Int))), .int (iI (((rc - 1 : Nat) : Int))), .int (iI (((sp - (sadd ca sb (lf 0)).length : Nat) : Int)))]))) (jc) (.inl (ta 3, N, .inr (.inr (.inr (.inr (f2))))))) (js) (.inl (ta 2, N, .inl (fun z_ => bI ((s2) z_))))) (jl) (.inl (ta 1, 64, .inl (fun z_ => iI (((l2) z_ : Nat) : Int)))) ∧ n1 = n) := by
  refine fw_enter (by decide) (Nat.le_of_ble_eq_true rfl) ?_
  intro p e s m below meth c hx hb hr hml hown hlocks hin hG hts hK H locs hP hS ls hl
  have hown : s.vm.findClass RX5 = some m.cls := hown
  replace hl : lv_has ls 5 [(0, .ref (h0)), (1, .ref (p0))] := hl
  have lt_e0 := hP.lt e0
  have lt_e1 := hP.lt e1
  have lt_e2 := hP.lt e2
  have lt_e3 := hP.lt e3
  have lt_e4 := hP.lt e4
  have lt_e5 := hP.lt e5
  have n_e0_e1 : (h0 : Nat) ≠ jc := (fw_nio e1 e0).symm
  have n_e0_e2 : (h0 : Nat) ≠ js := (fw_nio e2 e0).symm
  have n_e0_e3 : (h0 : Nat) ≠ jl := (fw_nio e3 e0).symm
  have n_e0_e4 : (h0 : Nat) ≠ p0 := fw_noo e0 e4 (by decide)
  have n_e0_e5 : (h0 : Nat) ≠ pa := (fw_nio e5 e0).symm
  have n_e1_e2 : (jc : Nat) ≠ js := (fw_niq e2 e1).symm
  have n_e1_e3 : (jc : Nat) ≠ jl := (fw_niq e3 e1).symm
  have n_e1_e4 : (jc : Nat) ≠ p0 := fw_nio e1 e4
  have n_e1_e5 : (jc : Nat) ≠ pa := hjp
  have n_e2_e3 : (js : Nat) ≠ jl := hsl
  have n_e2_e4 : (js : Nat) ≠ p0 := fw_nio e2 e4
  have n_e2_e5 : (js : Nat) ≠ pa := fw_niq e2 e5
  have n_e3_e4 : (jl : Nat) ≠ p0 := fw_nio e3 e4
  have n_e3_e5 : (jl : Nat) ≠ pa := fw_niq e3 e5
  have n_e4_e5 : (p0 : Nat) ≠ pa := (fw_nio e5 e4).symm
  refine lv_aload_n hx hb dX5_dropOldestRecord_0 rfl (lv_at hl 0 rfl) ?_
  refine lv_iconst (v := (iI (((0 : Nat) : Int)))) hx hb dX5_dropOldestRecord_1 rfl ?_
  refine fw_callV (ci := 5) (fs := [.ref (jc), .ref (js), .ref (jl), .int (iI (((sz : Nat) : Int))), .int (iI (((rc : Nat) : Int))), .int (iI (((sp : Nat) : Int)))]) (T := TX5) (N := 6) (b := h0) (As := [.int (iI (((0 : Nat) : Int)))]) (rest := []) hx hb hml hown hts hK hG hP hS hl mM_X5_hasRecord mV_X5_hasRecord mLX5_38 (cm_Jrn_hasRecord l D ta B (n) (w) (h0) (jc) (js) (jl) (sz) (rc) (sp) (lf) (((0 : Nat) : Int)) e0 e3 (by omega) ⟨by omega, by omega⟩) e0 rfl rfl rfl (Nat.le_of_ble_eq_true rfl) ⟨Nat.le_of_ble_eq_true rfl, Nat.le_of_ble_eq_true rfl⟩ ⟨Nat.le_of_ble_eq_true rfl, Nat.le_of_ble_eq_true rfl⟩ dX5_dropOldestRecord_2 (fun r w1 n1 H locs hq hP hS => ?_)
  obtain ⟨rfl, hw1, hn1⟩ := hq
  replace hw1 := hw1.symm; replace hn1 := hn1.symm; subst hw1; subst hn1
  refine W.eq (g2 := F0 m 5 ls [.int (bI (decide (0 ≤ ((0 : Nat) : Int) ∧ ((0 : Nat) : Int) < ((rc : Nat) : Int))))]) rfl ?_
  refine fn_bif_eq (x := decide (0 ≤ ((0 : Nat) : Int) ∧ ((0 : Nat) : Int) < ((rc : Nat) : Int))) (tgt := 17) hx hb dX5_dropOldestRecord_5 (by decide) (fun c2 => False.elim (by have q := of_decide_eq_false c2; omega)) (fun c2 => ?_)
  refine lv_aload_n hx hb dX5_dropOldestRecord_8 rfl (lv_at hl 0 rfl) ?_
  refine fw_get (ci := 5) (fs := [.ref (jc), .ref (js), .ref (jl), .int (iI (((sz : Nat) : Int))), .int (iI (((rc : Nat) : Int))), .int (iI (((sp : Nat) : Int)))]) (k := 2) (v := .ref (jl)) (C := RX5) (T := TX5) (N := 6) hx hb hts inFX5 hown hK hP e0 rfl (by decide) mFX5_9 rfl dX5_dropOldestRecord_9 ?_
  refine lv_iconst (v := (iI (((0 : Nat) : Int)))) hx hb dX5_dropOldestRecord_12 rfl ?_
  refine fn_ialdN (g := lf) (k := 0) hx hb hK hP 1 e3 rfl (by omega) (by omega) dX5_dropOldestRecord_13 ?_
  refine lv_goto (tgt := 18) hx hb dX5_dropOldestRecord_14 (by decide) ?_
  refine lv_istore_n (lv' := [(2, .int (iI (((lf 0 : Nat) : Int)))), (0, .ref (h0)), (1, .ref (p0))]) hx hb dX5_dropOldestRecord_18 rfl hl (by decide) rfl (fun ls hl => ?_)
  refine lv_aload_n hx hb dX5_dropOldestRecord_19 rfl (lv_at hl 1 rfl) ?_
  refine fw_get (ci := 5) (fs := [.ref (jc), .ref (js), .ref (jl), .int (iI (((sz : Nat) : Int))), .int (iI (((rc : Nat) : Int))), .int (iI (((sp : Nat) : Int)))]) (k := 5) (v := .int (iI (((sp : Nat) : Int)))) (C := RX5) (T := TX5) (N := 6) hx hb hts inFX5 hown hK hP e0 rfl (by decide) mFX5_35 rfl dX5_dropOldestRecord_20 ?_
  refine lv_istore_n (lv' := [(3, .int (iI (((sp : Nat) : Int)))), (2, .int (iI (((lf 0 : Nat) : Int)))), (0, .ref (h0)), (1, .ref (p0))]) hx hb dX5_dropOldestRecord_23 rfl hl (by decide) rfl (fun ls hl => ?_)
  refine lv_iconst (v := (iI (((0 : Nat) : Int)))) hx hb dX5_dropOldestRecord_24 rfl ?_
  refine lv_istore (lv' := [(4, .int (iI (((0 : Nat) : Int)))), (3, .int (iI (((sp : Nat) : Int)))), (2, .int (iI (((lf 0 : Nat) : Int)))), (0, .ref (h0)), (1, .ref (p0))]) hx hb dX5_dropOldestRecord_25 hl (by decide) rfl (fun ls hl => ?_)
  have lp3 : ∀ (i : Nat) (q : Nat) (pf2 : Nat → Option Nat) (H : Heap) (locs : List Loc) (ls : Array Slot), i ≤ lf 0 → (sadd ca sb i).length = q → q ≤ sp → rl (bs ++ sadd ca sb i) pf2 → lv_has ls 5 [(4, .int (iI (((i : Nat) : Int)))), (3, .int (iI (((sp : Nat) : Int)))), (2, .int (iI (((lf 0 : Nat) : Int)))), (0, .ref (h0)), (1, .ref (p0))] → fw_P D vwCl B (n) (fw_up (fw_up (fw_up (w) (p0) (.inr (4, [.ref (pa), .int (iI (((bs.length + q : Nat) : Int)))]))) (pa) (.inl (ta 3, PN, .inr (.inr (.inr (.inr (pf2))))))) (h0) (.inr (5, [.ref (jc), .ref (js), .ref (jl), .int (iI (((sz : Nat) : Int))), .int (iI (((rc : Nat) : Int))), .int (iI (((sp - q : Nat) : Int)))]))) H → fw_S B s.heap H locs → fw_K p l e ({ frames := 2, cells := 0, slots := 0, locals := 44 } : Room) s m [.ref (h0), .ref (p0)] below meth c D vwCl B (fun r w1 n1 => ∃ pf2 : Nat → Option Nat, ∃ f2 : Nat → Option Nat, ∃ s2 : Nat → Bool, ∃ l2 : Nat → Nat, (rl (bs ++ sadd ca sb (lf 0)) pf2) ∧ (∀ j, j < sz - lf 0 → f2 j = cf (j + lf 0) ∧ s2 j = sb (j + lf 0)) ∧ (∀ j, j < rc - 1 → l2 j = lf (j + 1)) ∧ r = some (.int (iI ((((sadd ca sb (lf 0)).length : Nat) : Int)))) ∧ w1 = fw_up (fw_up (fw_up (fw_up (fw_up (fw_up (w) (p0) (.inr (4, [.ref (pa), .int (iI (((bs.length + (sadd ca sb (lf 0)).length : Nat) : Int)))]))) (pa) (.inl (ta 3, PN, .inr (.inr (.inr (.inr (pf2))))))) (h0) (.inr (5, [.ref (jc), .ref (js), .ref (jl), .int (iI (((sz - lf 0 : Nat) : Int))), .int (iI (((rc - 1 : Nat) : Int))), .int (iI (((sp - (sadd ca sb (lf 0)).length : Nat) : Int)))]))) (jc) (.inl (ta 3, N, .inr (.inr (.inr (.inr (f2))))))) (js) (.inl (ta 2, N, .inl (fun z_ => bI ((s2) z_))))) (jl) (.inl (ta 1, 64, .inl (fun z_ => iI (((l2) z_ : Nat) : Int)))) ∧ n1 = n) H locs (0) (0) (F0 m 27 ls []) := by
    refine fw_loop (fun i : Nat => lf 0 - i) ?_
    intro i ih27 q pf2 H locs ls hi hq hqs hrr hl hP hS
    refine lv_iload hx hb dX5_dropOldestRecord_27 (lv_at hl 0 rfl) ?_
    refine lv_iload_n hx hb dX5_dropOldestRecord_29 rfl (lv_at hl 2 rfl) ?_
    refine fn_icmp_ge (x := ((i : Nat) : Int)) (y := ((lf 0 : Nat) : Int)) (tgt := 79) hx hb dX5_dropOldestRecord_30 (by decide) ⟨by omega, by omega⟩ ⟨by omega, by omega⟩ (fun c4 => ?_) (fun c4 => ?_)
    · refine lv_aload_n hx hb dX5_dropOldestRecord_79 rfl (lv_at hl 3 rfl) ?_
      refine lv_iload_n hx hb dX5_dropOldestRecord_80 rfl (lv_at hl 2 rfl) ?_
      refine fw_callV (ci := 5) (fs := [.ref (jc), .ref (js), .ref (jl), .int (iI (((sz : Nat) : Int))), .int (iI (((rc : Nat) : Int))), .int (iI (((sp - q : Nat) : Int)))]) (T := TX5) (N := 6) (b := h0) (As := [.int (iI ((((lf 0) : Nat) : Int)))]) (rest := []) hx hb hml hown hts hK hG hP hS hl mM_X5_moveThingsDown mV_X5_moveThingsDown mLX5_58 (cm_Jrn_moveThings l D ta B (n) (fw_up (fw_up (fw_up (w) (p0) (.inr (4, [.ref (pa), .int (iI (((bs.length + q : Nat) : Int)))]))) (pa) (.inl (ta 3, PN, .inr (.inr (.inr (.inr (pf2))))))) (h0) (.inr (5, [.ref (jc), .ref (js), .ref (jl), .int (iI (((sz : Nat) : Int))), .int (iI (((rc : Nat) : Int))), .int (iI (((sp - q : Nat) : Int)))]))) (h0) (jc) (js) (jl) (sz) (rc) (sp - q) (N) (cf) (sb) (lf 0) (ca) (cx) (fw_same _ _ _) (fw_at n_e0_e1.symm (fw_at n_e1_e5 (fw_at n_e1_e4 e1))) (fw_at n_e0_e2.symm (fw_at n_e2_e5 (fw_at n_e2_e4 e2))) (by omega) (by omega) (by omega) (fun j hj => ⟨(hcs j hj).1, (cn_upO (cn_upQ (cn_upO (hcs j hj).2 e4 (by decide)) (fw_at n_e4_e5.symm e5)) (fw_at n_e0_e5 (fw_at n_e0_e4 e0)) (by decide))⟩)) (fw_same _ _ _) rfl rfl rfl (Nat.le_of_ble_eq_true rfl) ⟨Nat.le_of_ble_eq_true rfl, Nat.le_of_ble_eq_true rfl⟩ ⟨Nat.le_of_ble_eq_true rfl, Nat.le_of_ble_eq_true rfl⟩ dX5_dropOldestRecord_81 (fun r w5 n1 H locs hq hP hS => ?_)
      obtain ⟨f3, s3, hmt, rfl, hw1, hn1⟩ := hq
      replace hw1 := hw1.symm; replace hn1 := hn1.symm; subst hw1; subst hn1
      refine W.eq (g2 := F0 m 84 ls []) rfl ?_
      have hP : fw_P D vwCl B (n) (fw_up (fw_up (fw_up (fw_up (fw_up (w) (p0) (.inr (4, [.ref (pa), .int (iI (((bs.length + q : Nat) : Int)))]))) (pa) (.inl (ta 3, PN, .inr (.inr (.inr (.inr (pf2))))))) (h0) (.inr (5, [.ref (jc), .ref (js), .ref (jl), .int (iI (((sz - (lf 0) : Nat) : Int))), .int (iI (((rc : Nat) : Int))), .int (iI ((((sp - q) : Nat) : Int)))]))) (jc) (.inl (ta 3, N, .inr (.inr (.inr (.inr (f3))))))) (js) (.inl (ta 2, N, .inl (fun z_ => bI ((s3) z_))))) H := fw_P.eqw (fw_swap n_e0_e2.symm (fw_swap n_e0_e1.symm (fw_twice _ _ _ _))) hP
      refine lv_aload_n hx hb dX5_dropOldestRecord_84 rfl (lv_at hl 3 rfl) ?_
      refine fw_callV (ci := 5) (fs := [.ref (jc), .ref (js), .ref (jl), .int (iI (((sz - (lf 0) : Nat) : Int))), .int (iI (((rc : Nat) : Int))), .int (iI ((((sp - q) : Nat) : Int)))]) (T := TX5) (N := 6) (b := h0) (As := []) (rest := []) hx hb hml hown hts hK hG hP hS hl mM_X5_moveRecordsDown mV_X5_moveRecordsDown mLX5_62 (cm_Jrn_moveRecords l D ta B (n) (fw_up (fw_up (fw_up (fw_up (fw_up (w) (p0) (.inr (4, [.ref (pa), .int (iI (((bs.length + q : Nat) : Int)))]))) (pa) (.inl (ta 3, PN, .inr (.inr (.inr (.inr (pf2))))))) (h0) (.inr (5, [.ref (jc), .ref (js), .ref (jl), .int (iI (((sz - (lf 0) : Nat) : Int))), .int (iI (((rc : Nat) : Int))), .int (iI ((((sp - q) : Nat) : Int)))]))) (jc) (.inl (ta 3, N, .inr (.inr (.inr (.inr (f3))))))) (js) (.inl (ta 2, N, .inl (fun z_ => bI ((s3) z_))))) (h0) (jc) (js) (jl) (sz - (lf 0)) (rc) ((sp - q)) (lf) (fw_at n_e0_e2 (fw_at n_e0_e1 (fw_same _ _ _))) (fw_at n_e2_e3.symm (fw_at n_e1_e3.symm (fw_at n_e0_e3.symm (fw_at n_e3_e5 (fw_at n_e3_e4 e3))))) (by omega) (by omega)) (fw_at n_e0_e2 (fw_at n_e0_e1 (fw_same _ _ _))) rfl rfl rfl (Nat.le_of_ble_eq_true rfl) ⟨Nat.le_of_ble_eq_true rfl, Nat.le_of_ble_eq_true rfl⟩ ⟨Nat.le_of_ble_eq_true rfl, Nat.le_of_ble_eq_true rfl⟩ dX5_dropOldestRecord_85 (fun r w6 n1 H locs hq hP hS => ?_)
      obtain ⟨l3, hmr, rfl, hw1, hn1⟩ := hq
      replace hw1 := hw1.symm; replace hn1 := hn1.symm; subst hw1; subst hn1
      refine W.eq (g2 := F0 m 88 ls []) rfl ?_
      have hP : fw_P D vwCl B (n) (fw_up (fw_up (fw_up (fw_up (fw_up (fw_up (w) (p0) (.inr (4, [.ref (pa), .int (iI (((bs.length + q : Nat) : Int)))]))) (pa) (.inl (ta 3, PN, .inr (.inr (.inr (.inr (pf2))))))) (h0) (.inr (5, [.ref (jc), .ref (js), .ref (jl), .int (iI ((((sz - (lf 0)) : Nat) : Int))), .int (iI (((rc - 1 : Nat) : Int))), .int (iI ((((sp - q) : Nat) : Int)))]))) (jc) (.inl (ta 3, N, .inr (.inr (.inr (.inr (f3))))))) (js) (.inl (ta 2, N, .inl (fun z_ => bI ((s3) z_))))) (jl) (.inl (ta 1, 64, .inl (fun z_ => iI (((l3) z_ : Nat) : Int))))) H := fw_P.eqw (fw_swap n_e0_e3.symm (fw_swap n_e0_e2.symm (fw_swap n_e0_e1.symm (fw_twice _ _ _ _)))) hP
      refine lv_iload_n hx hb dX5_dropOldestRecord_88 rfl (lv_at hl 1 rfl) ?_
      refine lv_aload_n hx hb dX5_dropOldestRecord_89 rfl (lv_at hl 3 rfl) ?_
      refine fw_get (ci := 5) (fs := [.ref (jc), .ref (js), .ref (jl), .int (iI ((((sz - (lf 0)) : Nat) : Int))), .int (iI (((rc - 1 : Nat) : Int))), .int (iI ((((sp - q) : Nat) : Int)))]) (k := 5) (v := .int (iI ((((sp - q) : Nat) : Int)))) (C := RX5) (T := TX5) (N := 6) hx hb hts inFX5 hown hK hP (fw_at n_e0_e3 (fw_at n_e0_e2 (fw_at n_e0_e1 (fw_same _ _ _)))) rfl (by decide) mFX5_35 rfl dX5_dropOldestRecord_90 ?_
      refine fn_isub (x := ((sp : Nat) : Int)) (y := (((sp - q) : Nat) : Int)) hx hb dX5_dropOldestRecord_93 ?_
      refine fn_topz (y := ((q : Nat) : Int)) (by omega) ?_
      exact fw_iret hx hb hr hlocks hP hS dX5_dropOldestRecord_94 (Nat.le_of_ble_eq_true rfl) (Nat.le_of_ble_eq_true rfl) (by
        obtain rfl : i = lf 0 := by omega
        subst hq
        exact ⟨pf2, f3, s3, l3, hrr, hmt, hmr, rfl, rfl, rfl⟩)
    · refine lv_aload_n hx hb dX5_dropOldestRecord_33 rfl (lv_at hl 3 rfl) ?_
      refine lv_iload hx hb dX5_dropOldestRecord_34 (lv_at hl 0 rfl) ?_
      refine fw_callV (ci := 5) (fs := [.ref (jc), .ref (js), .ref (jl), .int (iI (((sz : Nat) : Int))), .int (iI (((rc : Nat) : Int))), .int (iI (((sp - q : Nat) : Int)))]) (T := TX5) (N := 6) (b := h0) (As := [.int (iI (((i : Nat) : Int)))]) (rest := []) hx hb hml hown hts hK hG hP hS hl mM_X5_hasRoomAt mV_X5_hasRoomAt mLX5_45 (cm_Jrn_hasRoomAt l D ta B (n) (fw_up (fw_up (fw_up (w) (p0) (.inr (4, [.ref (pa), .int (iI (((bs.length + q : Nat) : Int)))]))) (pa) (.inl (ta 3, PN, .inr (.inr (.inr (.inr (pf2))))))) (h0) (.inr (5, [.ref (jc), .ref (js), .ref (jl), .int (iI (((sz : Nat) : Int))), .int (iI (((rc : Nat) : Int))), .int (iI (((sp - q : Nat) : Int)))]))) (h0) (jc) (js) (jl) (sz) (rc) (sp - q) (N) (cf) (sb) (((i : Nat) : Int)) (fw_same _ _ _) (fw_at n_e0_e1.symm (fw_at n_e1_e5 (fw_at n_e1_e4 e1))) (fw_at n_e0_e2.symm (fw_at n_e2_e5 (fw_at n_e2_e4 e2))) (by omega) ⟨by omega, by omega⟩) (fw_same _ _ _) rfl rfl rfl (Nat.le_of_ble_eq_true rfl) ⟨Nat.le_of_ble_eq_true rfl, Nat.le_of_ble_eq_true rfl⟩ ⟨Nat.le_of_ble_eq_true rfl, Nat.le_of_ble_eq_true rfl⟩ dX5_dropOldestRecord_36 (fun r w7 n1 H locs hq hP hS => ?_)
      obtain ⟨rfl, hw1, hn1⟩ := hq
      replace hw1 := hw1.symm; replace hn1 := hn1.symm; subst hw1; subst hn1
      refine W.eq (g2 := F0 m 39 ls [.int (bI (decide (0 ≤ ((i : Nat) : Int) ∧ ((i : Nat) : Int) < ((N : Nat) : Int))))]) rfl ?_
      refine fn_bif_eq (x := decide (0 ≤ ((i : Nat) : Int) ∧ ((i : Nat) : Int) < ((N : Nat) : Int))) (tgt := 79) hx hb dX5_dropOldestRecord_39 (by decide) (fun c8 => False.elim (by have q := of_decide_eq_false c8; omega)) (fun c8 => ?_)
      refine lv_aload_n hx hb dX5_dropOldestRecord_42 rfl (lv_at hl 3 rfl) ?_
      refine fw_get (ci := 5) (fs := [.ref (jc), .ref (js), .ref (jl), .int (iI (((sz : Nat) : Int))), .int (iI (((rc : Nat) : Int))), .int (iI (((sp - q : Nat) : Int)))]) (k := 1) (v := .ref (js)) (C := RX5) (T := TX5) (N := 6) hx hb hts inFX5 hown hK hP (fw_same _ _ _) rfl (by decide) mFX5_27 rfl dX5_dropOldestRecord_43 ?_
      refine lv_iload hx hb dX5_dropOldestRecord_46 (lv_at hl 0 rfl) ?_
      refine fn_zaldB (sb := sb) (k := i) hx hb hK hP 2 (fw_at n_e0_e2.symm (fw_at n_e2_e5 (fw_at n_e2_e4 e2))) rfl (by omega) (by omega) dX5_dropOldestRecord_48 ?_
      refine fn_bif_eq (x := sb i) (tgt := 73) hx hb dX5_dropOldestRecord_49 (by decide) (fun c9 => ?_) (fun c9 => ?_)
      · have cS : sb i = false := c9
        refine lv_iinc (k := 0) (v := (iI (((i + 1 : Nat) : Int)))) (lv' := [(4, .int (iI (((i + 1 : Nat) : Int)))), (3, .int (iI (((sp : Nat) : Int)))), (2, .int (iI (((lf 0 : Nat) : Int)))), (0, .ref (h0)), (1, .ref (p0))]) hx hb dX5_dropOldestRecord_73 hl rfl (iI_inc _ 1) (by decide) rfl (fun ls hl => ?_)
        refine lv_goto (tgt := 27) hx hb dX5_dropOldestRecord_76 (by decide) ?_
        exact ih27 (i + 1) (by omega) (q) (pf2) H locs ls (by omega) (by simp only [sadd, cS]; exact hq) hqs (by simp only [sadd, cS]; exact hrr) hl hP hS
      · have cS : sb i = true := c9
        have hs1 : (sadd ca sb (i + 1)).length = q + 1 := by simp [sadd, cS, hq]
        have hm := sadd_mono ca sb (show i + 1 ≤ lf 0 by omega)
        refine lv_aload_n hx hb dX5_dropOldestRecord_52 rfl (lv_at hl 4 rfl) ?_
        refine lv_aload_n hx hb dX5_dropOldestRecord_53 rfl (lv_at hl 3 rfl) ?_
        refine fw_get (ci := 5) (fs := [.ref (jc), .ref (js), .ref (jl), .int (iI (((sz : Nat) : Int))), .int (iI (((rc : Nat) : Int))), .int (iI (((sp - q : Nat) : Int)))]) (k := 0) (v := .ref (jc)) (C := RX5) (T := TX5) (N := 6) hx hb hts inFX5 hown hK hP (fw_same _ _ _) rfl (by decide) mFX5_23 rfl dX5_dropOldestRecord_54 ?_
        refine lv_iload hx hb dX5_dropOldestRecord_57 (lv_at hl 0 rfl) ?_
        obtain ⟨hq0, hq1, hq2, hq3, hq4⟩ := hcs i (by omega)
        have ne10 : (ca i : Nat) ≠ h0 := fw_noo hq1 e0 (by decide)
        have ne11 : (ca i : Nat) ≠ jc := (fw_nio e1 hq1).symm
        have ne12 : (ca i : Nat) ≠ js := (fw_nio e2 hq1).symm
        have ne13 : (ca i : Nat) ≠ jl := (fw_nio e3 hq1).symm
        have ne14 : (ca i : Nat) ≠ p0 := fw_noo hq1 e4 (by decide)
        have ne15 : (ca i : Nat) ≠ pa := (fw_nio e5 hq1).symm
        refine fn_aald (k := i) hx hb hK hP 3 (fw_at n_e0_e1.symm (fw_at n_e1_e5 (fw_at n_e1_e4 e1))) rfl (by omega) (by omega) dX5_dropOldestRecord_59 ?_
        refine fn_topq (x := ca i) hq0 ?_
        refine fw_callV (ci := 4) (fs := [.ref (pa), .int (iI (((bs.length + q : Nat) : Int)))]) (T := TX4) (N := 2) (b := p0) (As := [.ref (ca i)]) (rest := []) hx hb hml hown hts hK hG hP hS hl mM_X4_add mV_X4_add mLX5_52 (cm_Pile_add l D ta B (n) (fw_up (fw_up (fw_up (w) (p0) (.inr (4, [.ref (pa), .int (iI (((bs.length + q : Nat) : Int)))]))) (pa) (.inl (ta 3, PN, .inr (.inr (.inr (.inr (pf2))))))) (h0) (.inr (5, [.ref (jc), .ref (js), .ref (jl), .int (iI (((sz : Nat) : Int))), .int (iI (((rc : Nat) : Int))), .int (iI (((sp - q : Nat) : Int)))]))) (p0) (pa) (bs.length + q) (PN) (pf2) (ca i) (ca i + 1) (ca i + 2) ((cx i).2.2.1) (((cx i).2.2.2.1)) ((cx i).2.2.2.2) (fw_at n_e0_e4.symm (fw_at n_e4_e5 (fw_same _ _ _))) (fw_at n_e0_e5.symm (fw_same _ _ _)) (fw_at ne10 (fw_at ne15 (fw_at ne14 hq1))) (by omega) (by omega)) (fw_at n_e0_e4.symm (fw_at n_e4_e5 (fw_same _ _ _))) rfl rfl rfl (Nat.le_of_ble_eq_true rfl) ⟨Nat.le_of_ble_eq_true rfl, Nat.le_of_ble_eq_true rfl⟩ ⟨Nat.le_of_ble_eq_true rfl, Nat.le_of_ble_eq_true rfl⟩ dX5_dropOldestRecord_60 (fun r w16 n1 H locs hq hP hS => ?_)
        obtain ⟨rfl, hw1, hn1⟩ := hq
        replace hw1 := hw1.symm; replace hn1 := hn1.symm; subst hw1; subst hn1
        refine W.eq (g2 := F0 m 63 ls []) rfl ?_
        have hP : fw_P D vwCl B (n) (fw_up (fw_up (fw_up (w) (p0) (.inr (4, [.ref (pa), .int (iI ((((bs.length + q) + 1 : Nat) : Int)))]))) (pa) (.inl (ta 3, PN, .inr (.inr (.inr (.inr (va_up (pf2) ((bs.length + q)) (some ((ca i)))))))))) (h0) (.inr (5, [.ref (jc), .ref (js), .ref (jl), .int (iI (((sz : Nat) : Int))), .int (iI (((rc : Nat) : Int))), .int (iI (((sp - q : Nat) : Int)))]))) H := fw_P.eqw ((fw_under (fw_swap n_e0_e5 (fw_twice _ _ _ _)) _ _).trans (fw_swap n_e0_e4 (fw_swap n_e4_e5.symm (fw_twice _ _ _ _)))) hP
        refine lv_aload_n hx hb dX5_dropOldestRecord_63 rfl (lv_at hl 3 rfl) ?_
        refine lv_dup hx hb dX5_dropOldestRecord_64 rfl ?_
        refine fw_get (ci := 5) (fs := [.ref (jc), .ref (js), .ref (jl), .int (iI (((sz : Nat) : Int))), .int (iI (((rc : Nat) : Int))), .int (iI (((sp - q : Nat) : Int)))]) (k := 5) (v := .int (iI (((sp - q : Nat) : Int)))) (C := RX5) (T := TX5) (N := 6) hx hb hts inFX5 hown hK hP (fw_same _ _ _) rfl (by decide) mFX5_35 rfl dX5_dropOldestRecord_65 ?_
        refine lv_iconst (v := (iI (((1 : Nat) : Int)))) hx hb dX5_dropOldestRecord_68 rfl ?_
        refine fn_isub (x := ((sp - q : Nat) : Int)) (y := ((1 : Nat) : Int)) hx hb dX5_dropOldestRecord_69 ?_
        refine fn_topz (y := ((sp - (q + 1) : Nat) : Int)) (by omega) ?_
        refine fw_put (ci := 5) (fs := [.ref (jc), .ref (js), .ref (jl), .int (iI (((sz : Nat) : Int))), .int (iI (((rc : Nat) : Int))), .int (iI (((sp - q : Nat) : Int)))]) (k := 5) (v := .int (iI (((sp - (q + 1) : Nat) : Int)))) (C := RX5) (T := TX5) (N := 6) hx hb hts inFX5 tyX5 tyX5_ok nmX5 hown hK hP hS (fw_same _ _ _) rfl (by decide) mFX5_35 rfl rfl rfl rfl (Nat.le_of_ble_eq_true rfl) dX5_dropOldestRecord_70 (fun H locs hP hS => ?_)
        have hP : fw_P D vwCl B (n) (fw_up (fw_up (fw_up (w) (p0) (.inr (4, [.ref (pa), .int (iI ((((bs.length + q) + 1 : Nat) : Int)))]))) (pa) (.inl (ta 3, PN, .inr (.inr (.inr (.inr (va_up (pf2) ((bs.length + q)) (some ((ca i)))))))))) (h0) (.inr (5, [.ref (jc), .ref (js), .ref (jl), .int (iI (((sz : Nat) : Int))), .int (iI (((rc : Nat) : Int))), .int (iI (((sp - (q + 1) : Nat) : Int)))]))) H := fw_P.eqw (fw_twice _ _ _ _) hP
        refine lv_iinc (k := 0) (v := (iI (((i + 1 : Nat) : Int)))) (lv' := [(4, .int (iI (((i + 1 : Nat) : Int)))), (3, .int (iI (((sp : Nat) : Int)))), (2, .int (iI (((lf 0 : Nat) : Int)))), (0, .ref (h0)), (1, .ref (p0))]) hx hb dX5_dropOldestRecord_73 hl rfl (iI_inc _ 1) (by decide) rfl (fun ls hl => ?_)
        refine lv_goto (tgt := 27) hx hb dX5_dropOldestRecord_76 (by decide) ?_
        exact ih27 (i + 1) (by omega) (q + 1) (va_up pf2 (bs.length + q) (some (ca i))) H locs ls (by omega) hs1 (by omega) (by have h2 := rl_add hrr (ca i); rw [List.length_append, hq] at h2; simp only [sadd, cS, if_true]; rw [← List.append_assoc]; exact h2) hl hP hS
  have hP : fw_P D vwCl B (n) (fw_up (w) (p0) (.inr (4, [.ref (pa), .int (iI (((bs.length : Nat) : Int)))]))) H := fw_P.eqw (fw_id e4).symm hP
  have hP : fw_P D vwCl B (n) (fw_up (fw_up (w) (p0) (.inr (4, [.ref (pa), .int (iI (((bs.length : Nat) : Int)))]))) (pa) (.inl (ta 3, PN, .inr (.inr (.inr (.inr (pf))))))) H := fw_P.eqw (fw_id (fw_at n_e4_e5.symm e5)).symm hP
  have hP : fw_P D vwCl B (n) (fw_up (fw_up (fw_up (w) (p0) (.inr (4, [.ref (pa), .int (iI (((bs.length : Nat) : Int)))]))) (pa) (.inl (ta 3, PN, .inr (.inr (.inr (.inr (pf))))))) (h0) (.inr (5, [.ref (jc), .ref (js), .ref (jl), .int (iI (((sz : Nat) : Int))), .int (iI (((rc : Nat) : Int))), .int (iI (((sp : Nat) : Int)))]))) H := fw_P.eqw (fw_id (fw_at n_e0_e5 (fw_at n_e0_e4 e0))).symm hP
  exact lp3 (0) (0) (pf) H locs ls (by omega) rfl (by omega) (by rw [show sadd ca sb 0 = [] from rfl, List.append_nil]; exact hrl) hl hP hS
