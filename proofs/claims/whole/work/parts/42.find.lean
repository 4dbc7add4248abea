set_option maxHeartbeats 4000000 in
set_option maxRecDepth 100000 in
theorem mm_find_hit (l : Launch) (D : va_G) (ta : Nat → ClassId) (B n : Nat) (w : fw_W) (g0 : Nat) (U : Nat) (ix : Int32) (L : Nat) (nd : Nat) (od : Nat) (hh : Nat) (op : Bool) (stt : Nat → Nat) (kys : Nat → Int64) (idx : Nat → Int32) (kyh : Nat → Int64) (j : Nat) (m0 : w (g0) = some (.inr (6, [.int (iI (((U : Nat) : Int))), .ref (g0 + 1), .ref (g0 + 2), .ref (g0 + 3), .ref (g0 + 4), .ref (g0 + 5), .ref (g0 + 6), .ref (g0 + 7), .ref (g0 + 8), .ref (g0 + 9), .ref (g0 + 10), .ref (g0 + 11), .ref (g0 + 12), .ref (g0 + 13), .ref (g0 + 14), .ref (g0 + 15), .int (ix), .ref (g0 + 16), .int (iI (((L : Nat) : Int))), .int (iI (((nd : Nat) : Int))), .ref (g0 + 17), .ref (g0 + 18), .ref (g0 + 19), .int (iI (((od : Nat) : Int))), .int (iI (((hh : Nat) : Int))), .int (bI (op))]))) (m1 : w (g0 + 1) = some (.inl (ta 1, 600, .inl (fun z_ => iI (((stt) z_ : Nat) : Int))))) (m2 : w (g0 + 2) = some (.inl (ta 4, 2400, .inr (.inl (kys))))) (m3 : w (g0 + 3) = some (.inl (ta 1, 600, .inl (idx)))) (m15 : w (g0 + 15) = some (.inl (ta 4, 4, .inr (.inl (kyh))))) (hsb : ∀ j, j < 600 → stt j < 3) (hj : j < 600) (hkj : mmb stt idx ix kys kyh j 4 = true) (huq : ∀ i, i < 600 → mmb stt idx ix kys kyh i 4 = true → i = j) : fw_C l D vwCl (tyL ta) B yX6_find cX6_find 4 (some .int) ({ frames := 0, cells := 0, slots := 0, locals := 0 } : Room) [.ref (g0)] n w (fun r w1 n1 => r = some (.int (iI (((j : Nat) : Int)))) ∧ w1 = w ∧ n1 = n) := by
  refine fw_enter (by decide) (Nat.le_of_ble_eq_true rfl) ?_
  intro p e s m below meth c hx hb hr hml hown hlocks hin hG hts hK H locs hP hS ls hl
  have hown : s.vm.findClass RX6 = some m.cls := hown
  replace hl : lv_has ls 4 [(0, .ref (g0))] := hl
  have lt_m0 := hP.lt m0
  have lt_m1 := hP.lt m1
  have lt_m2 := hP.lt m2
  have lt_m3 := hP.lt m3
  have lt_m15 := hP.lt m15
  refine lv_iconst (v := (iI (((0 : Nat) : Int)))) hx hb dX6_find_0 rfl ?_
  refine lv_istore_n (lv' := [(1, .int (iI (((0 : Nat) : Int)))), (0, .ref (g0))]) hx hb dX6_find_1 rfl hl (by decide) rfl (fun ls hl => ?_)
  have lp1 : ∀ (i : Nat)  (H : Heap) (locs : List Loc) (ls : Array Slot), i ≤ j → lv_has ls 4 [(1, .int (iI (((i : Nat) : Int)))), (0, .ref (g0))] → fw_P D vwCl B (n) (w) H → fw_S B s.heap H locs → fw_K p l e ({ frames := 0, cells := 0, slots := 0, locals := 0 } : Room) s m [.ref (g0)] below meth c D vwCl B (fun r w1 n1 => r = some (.int (iI (((j : Nat) : Int)))) ∧ w1 = w ∧ n1 = n) H locs (0) (0) (F0 m 2 ls []) := by
    refine fw_loop (fun i : Nat => 600 - i) ?_
    intro i ih2  H locs ls hi hl hP hS
    refine lv_iload_n hx hb dX6_find_2 rfl (lv_at hl 0 rfl) ?_
    refine lv_sipush (v := (iI (((600 : Nat) : Int)))) hx hb dX6_find_3 (by decide) ?_
    refine fn_icmp_ge (x := ((i : Nat) : Int)) (y := ((600 : Nat) : Int)) (tgt := 93) hx hb dX6_find_6 (by decide) ⟨by omega, by omega⟩ ⟨by omega, by omega⟩ (fun c2 => False.elim (by omega)) (fun c2 => ?_)
    refine lv_aload_n hx hb dX6_find_9 rfl (lv_at hl 1 rfl) ?_
    refine fw_get (ci := 6) (fs := [.int (iI (((U : Nat) : Int))), .ref (g0 + 1), .ref (g0 + 2), .ref (g0 + 3), .ref (g0 + 4), .ref (g0 + 5), .ref (g0 + 6), .ref (g0 + 7), .ref (g0 + 8), .ref (g0 + 9), .ref (g0 + 10), .ref (g0 + 11), .ref (g0 + 12), .ref (g0 + 13), .ref (g0 + 14), .ref (g0 + 15), .int (ix), .ref (g0 + 16), .int (iI (((L : Nat) : Int))), .int (iI (((nd : Nat) : Int))), .ref (g0 + 17), .ref (g0 + 18), .ref (g0 + 19), .int (iI (((od : Nat) : Int))), .int (iI (((hh : Nat) : Int))), .int (bI (op))]) (k := 1) (v := .ref (g0 + 1)) (C := RX6) (T := TX6) (N := 26) hx hb hts inFX6 hown hK hP m0 rfl (by decide) mFX6_7 rfl dX6_find_10 ?_
    refine lv_iload_n hx hb dX6_find_13 rfl (lv_at hl 0 rfl) ?_
    refine fn_ialdN (g := stt) (k := i) hx hb hK hP 1 m1 rfl (by omega) (by omega) dX6_find_14 ?_
    refine lv_iconst (v := (iI (((1 : Nat) : Int)))) hx hb dX6_find_15 rfl ?_
    have hsi := hsb i (by omega)
    refine fn_icmp_ne (x := ((stt i : Nat) : Int)) (y := ((1 : Nat) : Int)) (tgt := 36) hx hb dX6_find_16 (by decide) ⟨by omega, by omega⟩ ⟨by omega, by omega⟩ (fun c3 => ?_) (fun c3 => ?_)
    · refine lv_iconst (v := (iI (((0 : Nat) : Int)))) hx hb dX6_find_36 rfl ?_
      refine lv_istore_n (lv' := [(2, .int (iI (((0 : Nat) : Int)))), (1, .int (iI (((i : Nat) : Int)))), (0, .ref (g0))]) hx hb dX6_find_37 rfl hl (by decide) rfl (fun ls hl => ?_)
      refine lv_iconst (v := (iI (((0 : Nat) : Int)))) hx hb dX6_find_38 rfl ?_
      refine lv_istore_n (lv' := [(3, .int (iI (((0 : Nat) : Int)))), (2, .int (iI (((0 : Nat) : Int)))), (1, .int (iI (((i : Nat) : Int)))), (0, .ref (g0))]) hx hb dX6_find_39 rfl hl (by decide) rfl (fun ls hl => ?_)
      have lp4 : ∀ (q : Nat)  (H : Heap) (locs : List Loc) (ls : Array Slot), q ≤ 4 → lv_has ls 4 [(3, .int (iI (((q : Nat) : Int)))), (2, .int (bI (mmb stt idx ix kys kyh i q))), (1, .int (iI (((i : Nat) : Int)))), (0, .ref (g0))] → fw_P D vwCl B (n) (w) H → fw_S B s.heap H locs → fw_K p l e ({ frames := 0, cells := 0, slots := 0, locals := 0 } : Room) s m [.ref (g0)] below meth c D vwCl B (fun r w1 n1 => r = some (.int (iI (((j : Nat) : Int)))) ∧ w1 = w ∧ n1 = n) H locs (0) (0) (F0 m 40 ls []) := by
        refine fw_loop (fun q : Nat => 4 - q) ?_
        intro q ih40  H locs ls hq hl hP hS
        refine lv_iload_n hx hb dX6_find_40 rfl (lv_at hl 0 rfl) ?_
        refine lv_iconst (v := (iI (((4 : Nat) : Int)))) hx hb dX6_find_41 rfl ?_
        refine fn_icmp_ge (x := ((q : Nat) : Int)) (y := ((4 : Nat) : Int)) (tgt := 81) hx hb dX6_find_42 (by decide) ⟨by omega, by omega⟩ ⟨by omega, by omega⟩ (fun c5 => ?_) (fun c5 => ?_)
        · refine lv_iload_n hx hb dX6_find_81 rfl (lv_at hl 1 rfl) ?_
          refine fn_bif_eq (x := mmb stt idx ix kys kyh i q) (tgt := 87) hx hb dX6_find_82 (by decide) (fun c6 => ?_) (fun c6 => ?_)
          · have c_miss := c6
            refine lv_iinc (k := 2) (v := (iI (((i + 1 : Nat) : Int)))) (lv' := [(1, .int (iI (((i + 1 : Nat) : Int)))), (3, .int (iI (((q : Nat) : Int)))), (2, .int (bI (mmb stt idx ix kys kyh i q))), (0, .ref (g0))]) hx hb dX6_find_87 hl rfl (iI_inc _ 1) (by decide) rfl (fun ls hl => ?_)
            refine lv_goto (tgt := 2) hx hb dX6_find_90 (by decide) ?_
            replace hl : lv_has ls 4 [(1, .int (iI (((i + 1 : Nat) : Int)))), (0, .ref (g0))] := by
              refine ⟨hl.1, hl.2.1, fun q hq => hl.2.2 q ?_⟩
              simp only [List.mem_cons, List.not_mem_nil, or_false] at hq
              rcases hq with rfl | rfl
              · exact List.mem_of_getElem? (i := 0) rfl
              · exact List.mem_of_getElem? (i := 3) rfl
            exact ih2 (i + 1) (by omega)  H locs ls (by have hq4 : q = 4 := (by omega); subst hq4; have hne : i ≠ j := (fun e => by rw [e, hkj] at c_miss; cases c_miss); omega) hl hP hS
          · have c_hit := c6
            refine lv_iload_n hx hb dX6_find_85 rfl (lv_at hl 2 rfl) ?_
            exact fw_iret hx hb hr hlocks hP hS dX6_find_86 (Nat.le_of_ble_eq_true rfl) (Nat.le_of_ble_eq_true rfl) (by
        have hq4 : q = 4 := by omega
        subst hq4
        obtain rfl : i = j := huq i (by omega) c_hit
        exact ⟨rfl, rfl, rfl⟩)
        · refine lv_iload_n hx hb dX6_find_45 rfl (lv_at hl 1 rfl) ?_
          refine fn_bif_eq (x := mmb stt idx ix kys kyh i q) (tgt := 73) hx hb dX6_find_46 (by decide) (fun c7 => ?_) (fun c7 => ?_)
          · refine lv_iconst (v := (iI (((0 : Nat) : Int)))) hx hb dX6_find_73 rfl ?_
            refine lv_istore_n (lv' := [(2, .int (iI (((0 : Nat) : Int)))), (3, .int (iI (((q : Nat) : Int)))), (1, .int (iI (((i : Nat) : Int)))), (0, .ref (g0))]) hx hb dX6_find_74 rfl hl (by decide) rfl (fun ls hl => ?_)
            refine lv_iinc (k := 1) (v := (iI (((q + 1 : Nat) : Int)))) (lv' := [(3, .int (iI (((q + 1 : Nat) : Int)))), (2, .int (iI (((0 : Nat) : Int)))), (1, .int (iI (((i : Nat) : Int)))), (0, .ref (g0))]) hx hb dX6_find_75 hl rfl (iI_inc _ 1) (by decide) rfl (fun ls hl => ?_)
            refine lv_goto (tgt := 40) hx hb dX6_find_78 (by decide) ?_
            replace hl : lv_has ls 4 [(3, .int (iI (((q + 1 : Nat) : Int)))), (2, .int (bI (mmb stt idx ix kys kyh i (q + 1)))), (1, .int (iI (((i : Nat) : Int)))), (0, .ref (g0))] := by
              refine ⟨hl.1, hl.2.1, fun q hq => hl.2.2 q ?_⟩
              simp only [List.mem_cons, List.not_mem_nil, or_false] at hq
              rcases hq with rfl | rfl | rfl | rfl
              · exact List.mem_of_getElem? (i := 0) rfl
              · rw [show mmb stt idx ix kys kyh i (q + 1) = false from (by simp only [mmb, c7, Bool.false_and])]; exact List.mem_of_getElem? (i := 1) rfl
              · exact List.mem_of_getElem? (i := 2) rfl
              · exact List.mem_of_getElem? (i := 3) rfl
            exact ih40 (q + 1) (by omega)  H locs ls (by omega) hl hP hS
          · refine lv_aload_n hx hb dX6_find_49 rfl (lv_at hl 3 rfl) ?_
            refine fw_get (ci := 6) (fs := [.int (iI (((U : Nat) : Int))), .ref (g0 + 1), .ref (g0 + 2), .ref (g0 + 3), .ref (g0 + 4), .ref (g0 + 5), .ref (g0 + 6), .ref (g0 + 7), .ref (g0 + 8), .ref (g0 + 9), .ref (g0 + 10), .ref (g0 + 11), .ref (g0 + 12), .ref (g0 + 13), .ref (g0 + 14), .ref (g0 + 15), .int (ix), .ref (g0 + 16), .int (iI (((L : Nat) : Int))), .int (iI (((nd : Nat) : Int))), .ref (g0 + 17), .ref (g0 + 18), .ref (g0 + 19), .int (iI (((od : Nat) : Int))), .int (iI (((hh : Nat) : Int))), .int (bI (op))]) (k := 2) (v := .ref (g0 + 2)) (C := RX6) (T := TX6) (N := 26) hx hb hts inFX6 hown hK hP m0 rfl (by decide) mFX6_13 rfl dX6_find_50 ?_
            refine lv_iconst (v := (iI (((4 : Nat) : Int)))) hx hb dX6_find_53 rfl ?_
            refine lv_iload_n hx hb dX6_find_54 rfl (lv_at hl 2 rfl) ?_
            refine fn_imul (x := ((4 : Nat) : Int)) (y := ((i : Nat) : Int)) hx hb dX6_find_55 ?_
            refine fn_topz (y := (((4) * i : Nat) : Int)) (by omega) ?_
            refine lv_iload_n hx hb dX6_find_56 rfl (lv_at hl 0 rfl) ?_
            refine fn_iadd (x := (((4) * i : Nat) : Int)) (y := ((q : Nat) : Int)) hx hb dX6_find_57 ?_
            refine fn_topz (y := (((4) * i + q : Nat) : Int)) (by omega) ?_
            refine fn_lald (k := (4) * i + q) hx hb hK hP 4 m2 rfl (by omega) (by omega) dX6_find_58 ?_
            refine lv_aload_n hx hb dX6_find_59 rfl (lv_at hl 3 rfl) ?_
            refine fw_get (ci := 6) (fs := [.int (iI (((U : Nat) : Int))), .ref (g0 + 1), .ref (g0 + 2), .ref (g0 + 3), .ref (g0 + 4), .ref (g0 + 5), .ref (g0 + 6), .ref (g0 + 7), .ref (g0 + 8), .ref (g0 + 9), .ref (g0 + 10), .ref (g0 + 11), .ref (g0 + 12), .ref (g0 + 13), .ref (g0 + 14), .ref (g0 + 15), .int (ix), .ref (g0 + 16), .int (iI (((L : Nat) : Int))), .int (iI (((nd : Nat) : Int))), .ref (g0 + 17), .ref (g0 + 18), .ref (g0 + 19), .int (iI (((od : Nat) : Int))), .int (iI (((hh : Nat) : Int))), .int (bI (op))]) (k := 15) (v := .ref (g0 + 15)) (C := RX6) (T := TX6) (N := 26) hx hb hts inFX6 hown hK hP m0 rfl (by decide) mFX6_55 rfl dX6_find_60 ?_
            refine lv_iload_n hx hb dX6_find_63 rfl (lv_at hl 0 rfl) ?_
            refine fn_lald (k := q) hx hb hK hP 4 m15 rfl (by omega) (by omega) dX6_find_64 ?_
            refine W.lcmp hx hb dX6_find_65 ?_
            refine fn_lif_ne (tgt := 73) hx hb dX6_find_66 (by decide) (fun c8 => ?_) (fun c8 => ?_)
            · refine lv_iconst (v := (iI (((0 : Nat) : Int)))) hx hb dX6_find_73 rfl ?_
              refine lv_istore_n (lv' := [(2, .int (iI (((0 : Nat) : Int)))), (3, .int (iI (((q : Nat) : Int)))), (1, .int (iI (((i : Nat) : Int)))), (0, .ref (g0))]) hx hb dX6_find_74 rfl hl (by decide) rfl (fun ls hl => ?_)
              refine lv_iinc (k := 1) (v := (iI (((q + 1 : Nat) : Int)))) (lv' := [(3, .int (iI (((q + 1 : Nat) : Int)))), (2, .int (iI (((0 : Nat) : Int)))), (1, .int (iI (((i : Nat) : Int)))), (0, .ref (g0))]) hx hb dX6_find_75 hl rfl (iI_inc _ 1) (by decide) rfl (fun ls hl => ?_)
              refine lv_goto (tgt := 40) hx hb dX6_find_78 (by decide) ?_
              replace hl : lv_has ls 4 [(3, .int (iI (((q + 1 : Nat) : Int)))), (2, .int (bI (mmb stt idx ix kys kyh i (q + 1)))), (1, .int (iI (((i : Nat) : Int)))), (0, .ref (g0))] := by
                refine ⟨hl.1, hl.2.1, fun q hq => hl.2.2 q ?_⟩
                simp only [List.mem_cons, List.not_mem_nil, or_false] at hq
                rcases hq with rfl | rfl | rfl | rfl
                · exact List.mem_of_getElem? (i := 0) rfl
                · rw [show mmb stt idx ix kys kyh i (q + 1) = false from (by simp only [mmb, c7, Bool.true_and]; exact decide_eq_false c8)]; exact List.mem_of_getElem? (i := 1) rfl
                · exact List.mem_of_getElem? (i := 2) rfl
                · exact List.mem_of_getElem? (i := 3) rfl
              exact ih40 (q + 1) (by omega)  H locs ls (by omega) hl hP hS
            · refine lv_iconst (v := (iI (((1 : Nat) : Int)))) hx hb dX6_find_69 rfl ?_
              refine lv_goto (tgt := 74) hx hb dX6_find_70 (by decide) ?_
              refine lv_istore_n (lv' := [(2, .int (iI (((1 : Nat) : Int)))), (3, .int (iI (((q : Nat) : Int)))), (1, .int (iI (((i : Nat) : Int)))), (0, .ref (g0))]) hx hb dX6_find_74 rfl hl (by decide) rfl (fun ls hl => ?_)
              refine lv_iinc (k := 1) (v := (iI (((q + 1 : Nat) : Int)))) (lv' := [(3, .int (iI (((q + 1 : Nat) : Int)))), (2, .int (iI (((1 : Nat) : Int)))), (1, .int (iI (((i : Nat) : Int)))), (0, .ref (g0))]) hx hb dX6_find_75 hl rfl (iI_inc _ 1) (by decide) rfl (fun ls hl => ?_)
              refine lv_goto (tgt := 40) hx hb dX6_find_78 (by decide) ?_
              replace hl : lv_has ls 4 [(3, .int (iI (((q + 1 : Nat) : Int)))), (2, .int (bI (mmb stt idx ix kys kyh i (q + 1)))), (1, .int (iI (((i : Nat) : Int)))), (0, .ref (g0))] := by
                refine ⟨hl.1, hl.2.1, fun q hq => hl.2.2 q ?_⟩
                simp only [List.mem_cons, List.not_mem_nil, or_false] at hq
                rcases hq with rfl | rfl | rfl | rfl
                · exact List.mem_of_getElem? (i := 0) rfl
                · rw [show mmb stt idx ix kys kyh i (q + 1) = true from (by simp only [mmb, c7, Bool.true_and]; exact decide_eq_true c8)]; exact List.mem_of_getElem? (i := 1) rfl
                · exact List.mem_of_getElem? (i := 2) rfl
                · exact List.mem_of_getElem? (i := 3) rfl
              exact ih40 (q + 1) (by omega)  H locs ls (by omega) hl hP hS
      replace hl : lv_has ls 4 [(3, .int (iI (((0 : Nat) : Int)))), (2, .int (bI (mmb stt idx ix kys kyh i 0))), (1, .int (iI (((i : Nat) : Int)))), (0, .ref (g0))] := by
        refine ⟨hl.1, hl.2.1, fun q hq => hl.2.2 q ?_⟩
        simp only [List.mem_cons, List.not_mem_nil, or_false] at hq
        rcases hq with rfl | rfl | rfl | rfl
        · exact List.mem_of_getElem? (i := 0) rfl
        · rw [show mmb stt idx ix kys kyh i 0 = false from (decide_eq_false (fun h => absurd h.1 (by omega)))]; exact List.mem_of_getElem? (i := 1) rfl
        · exact List.mem_of_getElem? (i := 2) rfl
        · exact List.mem_of_getElem? (i := 3) rfl
      exact lp4 (0) H locs ls (by omega) hl hP hS
    · refine lv_aload_n hx hb dX6_find_19 rfl (lv_at hl 1 rfl) ?_
      refine fw_get (ci := 6) (fs := [.int (iI (((U : Nat) : Int))), .ref (g0 + 1), .ref (g0 + 2), .ref (g0 + 3), .ref (g0 + 4), .ref (g0 + 5), .ref (g0 + 6), .ref (g0 + 7), .ref (g0 + 8), .ref (g0 + 9), .ref (g0 + 10), .ref (g0 + 11), .ref (g0 + 12), .ref (g0 + 13), .ref (g0 + 14), .ref (g0 + 15), .int (ix), .ref (g0 + 16), .int (iI (((L : Nat) : Int))), .int (iI (((nd : Nat) : Int))), .ref (g0 + 17), .ref (g0 + 18), .ref (g0 + 19), .int (iI (((od : Nat) : Int))), .int (iI (((hh : Nat) : Int))), .int (bI (op))]) (k := 3) (v := .ref (g0 + 3)) (C := RX6) (T := TX6) (N := 26) hx hb hts inFX6 hown hK hP m0 rfl (by decide) mFX6_17 rfl dX6_find_20 ?_
      refine lv_iload_n hx hb dX6_find_23 rfl (lv_at hl 0 rfl) ?_
      refine fn_iald (k := i) hx hb hK hP 1 m3 rfl (by omega) (by omega) dX6_find_24 ?_
      refine lv_aload_n hx hb dX6_find_25 rfl (lv_at hl 1 rfl) ?_
      refine fw_get (ci := 6) (fs := [.int (iI (((U : Nat) : Int))), .ref (g0 + 1), .ref (g0 + 2), .ref (g0 + 3), .ref (g0 + 4), .ref (g0 + 5), .ref (g0 + 6), .ref (g0 + 7), .ref (g0 + 8), .ref (g0 + 9), .ref (g0 + 10), .ref (g0 + 11), .ref (g0 + 12), .ref (g0 + 13), .ref (g0 + 14), .ref (g0 + 15), .int (ix), .ref (g0 + 16), .int (iI (((L : Nat) : Int))), .int (iI (((nd : Nat) : Int))), .ref (g0 + 17), .ref (g0 + 18), .ref (g0 + 19), .int (iI (((od : Nat) : Int))), .int (iI (((hh : Nat) : Int))), .int (bI (op))]) (k := 16) (v := .int (ix)) (C := RX6) (T := TX6) (N := 26) hx hb hts inFX6 hown hK hP m0 rfl (by decide) mFX6_74 rfl dX6_find_26 ?_
      refine lv_icmp_ne (x := (idx i)) (y := (ix)) (tgt := 36) hx hb dX6_find_29 (by decide) (fun c9 => ?_) (fun c9 => ?_)
      · refine lv_iconst (v := (iI (((0 : Nat) : Int)))) hx hb dX6_find_36 rfl ?_
        refine lv_istore_n (lv' := [(2, .int (iI (((0 : Nat) : Int)))), (1, .int (iI (((i : Nat) : Int)))), (0, .ref (g0))]) hx hb dX6_find_37 rfl hl (by decide) rfl (fun ls hl => ?_)
        refine lv_iconst (v := (iI (((0 : Nat) : Int)))) hx hb dX6_find_38 rfl ?_
        refine lv_istore_n (lv' := [(3, .int (iI (((0 : Nat) : Int)))), (2, .int (iI (((0 : Nat) : Int)))), (1, .int (iI (((i : Nat) : Int)))), (0, .ref (g0))]) hx hb dX6_find_39 rfl hl (by decide) rfl (fun ls hl => ?_)
        have lp10 : ∀ (q : Nat)  (H : Heap) (locs : List Loc) (ls : Array Slot), q ≤ 4 → lv_has ls 4 [(3, .int (iI (((q : Nat) : Int)))), (2, .int (bI (mmb stt idx ix kys kyh i q))), (1, .int (iI (((i : Nat) : Int)))), (0, .ref (g0))] → fw_P D vwCl B (n) (w) H → fw_S B s.heap H locs → fw_K p l e ({ frames := 0, cells := 0, slots := 0, locals := 0 } : Room) s m [.ref (g0)] below meth c D vwCl B (fun r w1 n1 => r = some (.int (iI (((j : Nat) : Int)))) ∧ w1 = w ∧ n1 = n) H locs (0) (0) (F0 m 40 ls []) := by
          refine fw_loop (fun q : Nat => 4 - q) ?_
          intro q ih40  H locs ls hq hl hP hS
          refine lv_iload_n hx hb dX6_find_40 rfl (lv_at hl 0 rfl) ?_
          refine lv_iconst (v := (iI (((4 : Nat) : Int)))) hx hb dX6_find_41 rfl ?_
          refine fn_icmp_ge (x := ((q : Nat) : Int)) (y := ((4 : Nat) : Int)) (tgt := 81) hx hb dX6_find_42 (by decide) ⟨by omega, by omega⟩ ⟨by omega, by omega⟩ (fun c11 => ?_) (fun c11 => ?_)
          · refine lv_iload_n hx hb dX6_find_81 rfl (lv_at hl 1 rfl) ?_
            refine fn_bif_eq (x := mmb stt idx ix kys kyh i q) (tgt := 87) hx hb dX6_find_82 (by decide) (fun c12 => ?_) (fun c12 => ?_)
            · have c_miss := c12
              refine lv_iinc (k := 2) (v := (iI (((i + 1 : Nat) : Int)))) (lv' := [(1, .int (iI (((i + 1 : Nat) : Int)))), (3, .int (iI (((q : Nat) : Int)))), (2, .int (bI (mmb stt idx ix kys kyh i q))), (0, .ref (g0))]) hx hb dX6_find_87 hl rfl (iI_inc _ 1) (by decide) rfl (fun ls hl => ?_)
              refine lv_goto (tgt := 2) hx hb dX6_find_90 (by decide) ?_
              replace hl : lv_has ls 4 [(1, .int (iI (((i + 1 : Nat) : Int)))), (0, .ref (g0))] := by
                refine ⟨hl.1, hl.2.1, fun q hq => hl.2.2 q ?_⟩
                simp only [List.mem_cons, List.not_mem_nil, or_false] at hq
                rcases hq with rfl | rfl
                · exact List.mem_of_getElem? (i := 0) rfl
                · exact List.mem_of_getElem? (i := 3) rfl
              exact ih2 (i + 1) (by omega)  H locs ls (by have hq4 : q = 4 := (by omega); subst hq4; have hne : i ≠ j := (fun e => by rw [e, hkj] at c_miss; cases c_miss); omega) hl hP hS
            · have c_hit := c12
              refine lv_iload_n hx hb dX6_find_85 rfl (lv_at hl 2 rfl) ?_
              exact fw_iret hx hb hr hlocks hP hS dX6_find_86 (Nat.le_of_ble_eq_true rfl) (Nat.le_of_ble_eq_true rfl) (by
        have hq4 : q = 4 := by omega
        subst hq4
        obtain rfl : i = j := huq i (by omega) c_hit
        exact ⟨rfl, rfl, rfl⟩)
          · refine lv_iload_n hx hb dX6_find_45 rfl (lv_at hl 1 rfl) ?_
            refine fn_bif_eq (x := mmb stt idx ix kys kyh i q) (tgt := 73) hx hb dX6_find_46 (by decide) (fun c13 => ?_) (fun c13 => ?_)
            · refine lv_iconst (v := (iI (((0 : Nat) : Int)))) hx hb dX6_find_73 rfl ?_
              refine lv_istore_n (lv' := [(2, .int (iI (((0 : Nat) : Int)))), (3, .int (iI (((q : Nat) : Int)))), (1, .int (iI (((i : Nat) : Int)))), (0, .ref (g0))]) hx hb dX6_find_74 rfl hl (by decide) rfl (fun ls hl => ?_)
              refine lv_iinc (k := 1) (v := (iI (((q + 1 : Nat) : Int)))) (lv' := [(3, .int (iI (((q + 1 : Nat) : Int)))), (2, .int (iI (((0 : Nat) : Int)))), (1, .int (iI (((i : Nat) : Int)))), (0, .ref (g0))]) hx hb dX6_find_75 hl rfl (iI_inc _ 1) (by decide) rfl (fun ls hl => ?_)
              refine lv_goto (tgt := 40) hx hb dX6_find_78 (by decide) ?_
              replace hl : lv_has ls 4 [(3, .int (iI (((q + 1 : Nat) : Int)))), (2, .int (bI (mmb stt idx ix kys kyh i (q + 1)))), (1, .int (iI (((i : Nat) : Int)))), (0, .ref (g0))] := by
                refine ⟨hl.1, hl.2.1, fun q hq => hl.2.2 q ?_⟩
                simp only [List.mem_cons, List.not_mem_nil, or_false] at hq
                rcases hq with rfl | rfl | rfl | rfl
                · exact List.mem_of_getElem? (i := 0) rfl
                · rw [show mmb stt idx ix kys kyh i (q + 1) = false from (by simp only [mmb, c13, Bool.false_and])]; exact List.mem_of_getElem? (i := 1) rfl
                · exact List.mem_of_getElem? (i := 2) rfl
                · exact List.mem_of_getElem? (i := 3) rfl
              exact ih40 (q + 1) (by omega)  H locs ls (by omega) hl hP hS
            · refine lv_aload_n hx hb dX6_find_49 rfl (lv_at hl 3 rfl) ?_
              refine fw_get (ci := 6) (fs := [.int (iI (((U : Nat) : Int))), .ref (g0 + 1), .ref (g0 + 2), .ref (g0 + 3), .ref (g0 + 4), .ref (g0 + 5), .ref (g0 + 6), .ref (g0 + 7), .ref (g0 + 8), .ref (g0 + 9), .ref (g0 + 10), .ref (g0 + 11), .ref (g0 + 12), .ref (g0 + 13), .ref (g0 + 14), .ref (g0 + 15), .int (ix), .ref (g0 + 16), .int (iI (((L : Nat) : Int))), .int (iI (((nd : Nat) : Int))), .ref (g0 + 17), .ref (g0 + 18), .ref (g0 + 19), .int (iI (((od : Nat) : Int))), .int (iI (((hh : Nat) : Int))), .int (bI (op))]) (k := 2) (v := .ref (g0 + 2)) (C := RX6) (T := TX6) (N := 26) hx hb hts inFX6 hown hK hP m0 rfl (by decide) mFX6_13 rfl dX6_find_50 ?_
              refine lv_iconst (v := (iI (((4 : Nat) : Int)))) hx hb dX6_find_53 rfl ?_
              refine lv_iload_n hx hb dX6_find_54 rfl (lv_at hl 2 rfl) ?_
              refine fn_imul (x := ((4 : Nat) : Int)) (y := ((i : Nat) : Int)) hx hb dX6_find_55 ?_
              refine fn_topz (y := (((4) * i : Nat) : Int)) (by omega) ?_
              refine lv_iload_n hx hb dX6_find_56 rfl (lv_at hl 0 rfl) ?_
              refine fn_iadd (x := (((4) * i : Nat) : Int)) (y := ((q : Nat) : Int)) hx hb dX6_find_57 ?_
              refine fn_topz (y := (((4) * i + q : Nat) : Int)) (by omega) ?_
              refine fn_lald (k := (4) * i + q) hx hb hK hP 4 m2 rfl (by omega) (by omega) dX6_find_58 ?_
              refine lv_aload_n hx hb dX6_find_59 rfl (lv_at hl 3 rfl) ?_
              refine fw_get (ci := 6) (fs := [.int (iI (((U : Nat) : Int))), .ref (g0 + 1), .ref (g0 + 2), .ref (g0 + 3), .ref (g0 + 4), .ref (g0 + 5), .ref (g0 + 6), .ref (g0 + 7), .ref (g0 + 8), .ref (g0 + 9), .ref (g0 + 10), .ref (g0 + 11), .ref (g0 + 12), .ref (g0 + 13), .ref (g0 + 14), .ref (g0 + 15), .int (ix), .ref (g0 + 16), .int (iI (((L : Nat) : Int))), .int (iI (((nd : Nat) : Int))), .ref (g0 + 17), .ref (g0 + 18), .ref (g0 + 19), .int (iI (((od : Nat) : Int))), .int (iI (((hh : Nat) : Int))), .int (bI (op))]) (k := 15) (v := .ref (g0 + 15)) (C := RX6) (T := TX6) (N := 26) hx hb hts inFX6 hown hK hP m0 rfl (by decide) mFX6_55 rfl dX6_find_60 ?_
              refine lv_iload_n hx hb dX6_find_63 rfl (lv_at hl 0 rfl) ?_
              refine fn_lald (k := q) hx hb hK hP 4 m15 rfl (by omega) (by omega) dX6_find_64 ?_
              refine W.lcmp hx hb dX6_find_65 ?_
              refine fn_lif_ne (tgt := 73) hx hb dX6_find_66 (by decide) (fun c14 => ?_) (fun c14 => ?_)
              · refine lv_iconst (v := (iI (((0 : Nat) : Int)))) hx hb dX6_find_73 rfl ?_
                refine lv_istore_n (lv' := [(2, .int (iI (((0 : Nat) : Int)))), (3, .int (iI (((q : Nat) : Int)))), (1, .int (iI (((i : Nat) : Int)))), (0, .ref (g0))]) hx hb dX6_find_74 rfl hl (by decide) rfl (fun ls hl => ?_)
                refine lv_iinc (k := 1) (v := (iI (((q + 1 : Nat) : Int)))) (lv' := [(3, .int (iI (((q + 1 : Nat) : Int)))), (2, .int (iI (((0 : Nat) : Int)))), (1, .int (iI (((i : Nat) : Int)))), (0, .ref (g0))]) hx hb dX6_find_75 hl rfl (iI_inc _ 1) (by decide) rfl (fun ls hl => ?_)
                refine lv_goto (tgt := 40) hx hb dX6_find_78 (by decide) ?_
                replace hl : lv_has ls 4 [(3, .int (iI (((q + 1 : Nat) : Int)))), (2, .int (bI (mmb stt idx ix kys kyh i (q + 1)))), (1, .int (iI (((i : Nat) : Int)))), (0, .ref (g0))] := by
                  refine ⟨hl.1, hl.2.1, fun q hq => hl.2.2 q ?_⟩
                  simp only [List.mem_cons, List.not_mem_nil, or_false] at hq
                  rcases hq with rfl | rfl | rfl | rfl
                  · exact List.mem_of_getElem? (i := 0) rfl
                  · rw [show mmb stt idx ix kys kyh i (q + 1) = false from (by simp only [mmb, c13, Bool.true_and]; exact decide_eq_false c14)]; exact List.mem_of_getElem? (i := 1) rfl
                  · exact List.mem_of_getElem? (i := 2) rfl
                  · exact List.mem_of_getElem? (i := 3) rfl
                exact ih40 (q + 1) (by omega)  H locs ls (by omega) hl hP hS
              · refine lv_iconst (v := (iI (((1 : Nat) : Int)))) hx hb dX6_find_69 rfl ?_
                refine lv_goto (tgt := 74) hx hb dX6_find_70 (by decide) ?_
                refine lv_istore_n (lv' := [(2, .int (iI (((1 : Nat) : Int)))), (3, .int (iI (((q : Nat) : Int)))), (1, .int (iI (((i : Nat) : Int)))), (0, .ref (g0))]) hx hb dX6_find_74 rfl hl (by decide) rfl (fun ls hl => ?_)
                refine lv_iinc (k := 1) (v := (iI (((q + 1 : Nat) : Int)))) (lv' := [(3, .int (iI (((q + 1 : Nat) : Int)))), (2, .int (iI (((1 : Nat) : Int)))), (1, .int (iI (((i : Nat) : Int)))), (0, .ref (g0))]) hx hb dX6_find_75 hl rfl (iI_inc _ 1) (by decide) rfl (fun ls hl => ?_)
                refine lv_goto (tgt := 40) hx hb dX6_find_78 (by decide) ?_
                replace hl : lv_has ls 4 [(3, .int (iI (((q + 1 : Nat) : Int)))), (2, .int (bI (mmb stt idx ix kys kyh i (q + 1)))), (1, .int (iI (((i : Nat) : Int)))), (0, .ref (g0))] := by
                  refine ⟨hl.1, hl.2.1, fun q hq => hl.2.2 q ?_⟩
                  simp only [List.mem_cons, List.not_mem_nil, or_false] at hq
                  rcases hq with rfl | rfl | rfl | rfl
                  · exact List.mem_of_getElem? (i := 0) rfl
                  · rw [show mmb stt idx ix kys kyh i (q + 1) = true from (by simp only [mmb, c13, Bool.true_and]; exact decide_eq_true c14)]; exact List.mem_of_getElem? (i := 1) rfl
                  · exact List.mem_of_getElem? (i := 2) rfl
                  · exact List.mem_of_getElem? (i := 3) rfl
                exact ih40 (q + 1) (by omega)  H locs ls (by omega) hl hP hS
        replace hl : lv_has ls 4 [(3, .int (iI (((0 : Nat) : Int)))), (2, .int (bI (mmb stt idx ix kys kyh i 0))), (1, .int (iI (((i : Nat) : Int)))), (0, .ref (g0))] := by
          refine ⟨hl.1, hl.2.1, fun q hq => hl.2.2 q ?_⟩
          simp only [List.mem_cons, List.not_mem_nil, or_false] at hq
          rcases hq with rfl | rfl | rfl | rfl
          · exact List.mem_of_getElem? (i := 0) rfl
          · rw [show mmb stt idx ix kys kyh i 0 = false from (decide_eq_false (fun h => c9 h.2))]; exact List.mem_of_getElem? (i := 1) rfl
          · exact List.mem_of_getElem? (i := 2) rfl
          · exact List.mem_of_getElem? (i := 3) rfl
        exact lp10 (0) H locs ls (by omega) hl hP hS
      · refine lv_iconst (v := (iI (((1 : Nat) : Int)))) hx hb dX6_find_32 rfl ?_
        refine lv_goto (tgt := 37) hx hb dX6_find_33 (by decide) ?_
        refine lv_istore_n (lv' := [(2, .int (iI (((1 : Nat) : Int)))), (1, .int (iI (((i : Nat) : Int)))), (0, .ref (g0))]) hx hb dX6_find_37 rfl hl (by decide) rfl (fun ls hl => ?_)
        refine lv_iconst (v := (iI (((0 : Nat) : Int)))) hx hb dX6_find_38 rfl ?_
        refine lv_istore_n (lv' := [(3, .int (iI (((0 : Nat) : Int)))), (2, .int (iI (((1 : Nat) : Int)))), (1, .int (iI (((i : Nat) : Int)))), (0, .ref (g0))]) hx hb dX6_find_39 rfl hl (by decide) rfl (fun ls hl => ?_)
        have lp15 : ∀ (q : Nat)  (H : Heap) (locs : List Loc) (ls : Array Slot), q ≤ 4 → lv_has ls 4 [(3, .int (iI (((q : Nat) : Int)))), (2, .int (bI (mmb stt idx ix kys kyh i q))), (1, .int (iI (((i : Nat) : Int)))), (0, .ref (g0))] → fw_P D vwCl B (n) (w) H → fw_S B s.heap H locs → fw_K p l e ({ frames := 0, cells := 0, slots := 0, locals := 0 } : Room) s m [.ref (g0)] below meth c D vwCl B (fun r w1 n1 => r = some (.int (iI (((j : Nat) : Int)))) ∧ w1 = w ∧ n1 = n) H locs (0) (0) (F0 m 40 ls []) := by
          refine fw_loop (fun q : Nat => 4 - q) ?_
          intro q ih40  H locs ls hq hl hP hS
          refine lv_iload_n hx hb dX6_find_40 rfl (lv_at hl 0 rfl) ?_
          refine lv_iconst (v := (iI (((4 : Nat) : Int)))) hx hb dX6_find_41 rfl ?_
          refine fn_icmp_ge (x := ((q : Nat) : Int)) (y := ((4 : Nat) : Int)) (tgt := 81) hx hb dX6_find_42 (by decide) ⟨by omega, by omega⟩ ⟨by omega, by omega⟩ (fun c16 => ?_) (fun c16 => ?_)
          · refine lv_iload_n hx hb dX6_find_81 rfl (lv_at hl 1 rfl) ?_
            refine fn_bif_eq (x := mmb stt idx ix kys kyh i q) (tgt := 87) hx hb dX6_find_82 (by decide) (fun c17 => ?_) (fun c17 => ?_)
            · have c_miss := c17
              refine lv_iinc (k := 2) (v := (iI (((i + 1 : Nat) : Int)))) (lv' := [(1, .int (iI (((i + 1 : Nat) : Int)))), (3, .int (iI (((q : Nat) : Int)))), (2, .int (bI (mmb stt idx ix kys kyh i q))), (0, .ref (g0))]) hx hb dX6_find_87 hl rfl (iI_inc _ 1) (by decide) rfl (fun ls hl => ?_)
              refine lv_goto (tgt := 2) hx hb dX6_find_90 (by decide) ?_
              replace hl : lv_has ls 4 [(1, .int (iI (((i + 1 : Nat) : Int)))), (0, .ref (g0))] := by
                refine ⟨hl.1, hl.2.1, fun q hq => hl.2.2 q ?_⟩
                simp only [List.mem_cons, List.not_mem_nil, or_false] at hq
                rcases hq with rfl | rfl
                · exact List.mem_of_getElem? (i := 0) rfl
                · exact List.mem_of_getElem? (i := 3) rfl
              exact ih2 (i + 1) (by omega)  H locs ls (by have hq4 : q = 4 := (by omega); subst hq4; have hne : i ≠ j := (fun e => by rw [e, hkj] at c_miss; cases c_miss); omega) hl hP hS
            · have c_hit := c17
              refine lv_iload_n hx hb dX6_find_85 rfl (lv_at hl 2 rfl) ?_
              exact fw_iret hx hb hr hlocks hP hS dX6_find_86 (Nat.le_of_ble_eq_true rfl) (Nat.le_of_ble_eq_true rfl) (by
        have hq4 : q = 4 := by omega
        subst hq4
        obtain rfl : i = j := huq i (by omega) c_hit
        exact ⟨rfl, rfl, rfl⟩)
          · refine lv_iload_n hx hb dX6_find_45 rfl (lv_at hl 1 rfl) ?_
            refine fn_bif_eq (x := mmb stt idx ix kys kyh i q) (tgt := 73) hx hb dX6_find_46 (by decide) (fun c18 => ?_) (fun c18 => ?_)
            · refine lv_iconst (v := (iI (((0 : Nat) : Int)))) hx hb dX6_find_73 rfl ?_
              refine lv_istore_n (lv' := [(2, .int (iI (((0 : Nat) : Int)))), (3, .int (iI (((q : Nat) : Int)))), (1, .int (iI (((i : Nat) : Int)))), (0, .ref (g0))]) hx hb dX6_find_74 rfl hl (by decide) rfl (fun ls hl => ?_)
              refine lv_iinc (k := 1) (v := (iI (((q + 1 : Nat) : Int)))) (lv' := [(3, .int (iI (((q + 1 : Nat) : Int)))), (2, .int (iI (((0 : Nat) : Int)))), (1, .int (iI (((i : Nat) : Int)))), (0, .ref (g0))]) hx hb dX6_find_75 hl rfl (iI_inc _ 1) (by decide) rfl (fun ls hl => ?_)
              refine lv_goto (tgt := 40) hx hb dX6_find_78 (by decide) ?_
              replace hl : lv_has ls 4 [(3, .int (iI (((q + 1 : Nat) : Int)))), (2, .int (bI (mmb stt idx ix kys kyh i (q + 1)))), (1, .int (iI (((i : Nat) : Int)))), (0, .ref (g0))] := by
                refine ⟨hl.1, hl.2.1, fun q hq => hl.2.2 q ?_⟩
                simp only [List.mem_cons, List.not_mem_nil, or_false] at hq
                rcases hq with rfl | rfl | rfl | rfl
                · exact List.mem_of_getElem? (i := 0) rfl
                · rw [show mmb stt idx ix kys kyh i (q + 1) = false from (by simp only [mmb, c18, Bool.false_and])]; exact List.mem_of_getElem? (i := 1) rfl
                · exact List.mem_of_getElem? (i := 2) rfl
                · exact List.mem_of_getElem? (i := 3) rfl
              exact ih40 (q + 1) (by omega)  H locs ls (by omega) hl hP hS
            · refine lv_aload_n hx hb dX6_find_49 rfl (lv_at hl 3 rfl) ?_
              refine fw_get (ci := 6) (fs := [.int (iI (((U : Nat) : Int))), .ref (g0 + 1), .ref (g0 + 2), .ref (g0 + 3), .ref (g0 + 4), .ref (g0 + 5), .ref (g0 + 6), .ref (g0 + 7), .ref (g0 + 8), .ref (g0 + 9), .ref (g0 + 10), .ref (g0 + 11), .ref (g0 + 12), .ref (g0 + 13), .ref (g0 + 14), .ref (g0 + 15), .int (ix), .ref (g0 + 16), .int (iI (((L : Nat) : Int))), .int (iI (((nd : Nat) : Int))), .ref (g0 + 17), .ref (g0 + 18), .ref (g0 + 19), .int (iI (((od : Nat) : Int))), .int (iI (((hh : Nat) : Int))), .int (bI (op))]) (k := 2) (v := .ref (g0 + 2)) (C := RX6) (T := TX6) (N := 26) hx hb hts inFX6 hown hK hP m0 rfl (by decide) mFX6_13 rfl dX6_find_50 ?_
              refine lv_iconst (v := (iI (((4 : Nat) : Int)))) hx hb dX6_find_53 rfl ?_
              refine lv_iload_n hx hb dX6_find_54 rfl (lv_at hl 2 rfl) ?_
              refine fn_imul (x := ((4 : Nat) : Int)) (y := ((i : Nat) : Int)) hx hb dX6_find_55 ?_
              refine fn_topz (y := (((4) * i : Nat) : Int)) (by omega) ?_
              refine lv_iload_n hx hb dX6_find_56 rfl (lv_at hl 0 rfl) ?_
              refine fn_iadd (x := (((4) * i : Nat) : Int)) (y := ((q : Nat) : Int)) hx hb dX6_find_57 ?_
              refine fn_topz (y := (((4) * i + q : Nat) : Int)) (by omega) ?_
              refine fn_lald (k := (4) * i + q) hx hb hK hP 4 m2 rfl (by omega) (by omega) dX6_find_58 ?_
              refine lv_aload_n hx hb dX6_find_59 rfl (lv_at hl 3 rfl) ?_
              refine fw_get (ci := 6) (fs := [.int (iI (((U : Nat) : Int))), .ref (g0 + 1), .ref (g0 + 2), .ref (g0 + 3), .ref (g0 + 4), .ref (g0 + 5), .ref (g0 + 6), .ref (g0 + 7), .ref (g0 + 8), .ref (g0 + 9), .ref (g0 + 10), .ref (g0 + 11), .ref (g0 + 12), .ref (g0 + 13), .ref (g0 + 14), .ref (g0 + 15), .int (ix), .ref (g0 + 16), .int (iI (((L : Nat) : Int))), .int (iI (((nd : Nat) : Int))), .ref (g0 + 17), .ref (g0 + 18), .ref (g0 + 19), .int (iI (((od : Nat) : Int))), .int (iI (((hh : Nat) : Int))), .int (bI (op))]) (k := 15) (v := .ref (g0 + 15)) (C := RX6) (T := TX6) (N := 26) hx hb hts inFX6 hown hK hP m0 rfl (by decide) mFX6_55 rfl dX6_find_60 ?_
              refine lv_iload_n hx hb dX6_find_63 rfl (lv_at hl 0 rfl) ?_
              refine fn_lald (k := q) hx hb hK hP 4 m15 rfl (by omega) (by omega) dX6_find_64 ?_
              refine W.lcmp hx hb dX6_find_65 ?_
              refine fn_lif_ne (tgt := 73) hx hb dX6_find_66 (by decide) (fun c19 => ?_) (fun c19 => ?_)
              · refine lv_iconst (v := (iI (((0 : Nat) : Int)))) hx hb dX6_find_73 rfl ?_
                refine lv_istore_n (lv' := [(2, .int (iI (((0 : Nat) : Int)))), (3, .int (iI (((q : Nat) : Int)))), (1, .int (iI (((i : Nat) : Int)))), (0, .ref (g0))]) hx hb dX6_find_74 rfl hl (by decide) rfl (fun ls hl => ?_)
                refine lv_iinc (k := 1) (v := (iI (((q + 1 : Nat) : Int)))) (lv' := [(3, .int (iI (((q + 1 : Nat) : Int)))), (2, .int (iI (((0 : Nat) : Int)))), (1, .int (iI (((i : Nat) : Int)))), (0, .ref (g0))]) hx hb dX6_find_75 hl rfl (iI_inc _ 1) (by decide) rfl (fun ls hl => ?_)
                refine lv_goto (tgt := 40) hx hb dX6_find_78 (by decide) ?_
                replace hl : lv_has ls 4 [(3, .int (iI (((q + 1 : Nat) : Int)))), (2, .int (bI (mmb stt idx ix kys kyh i (q + 1)))), (1, .int (iI (((i : Nat) : Int)))), (0, .ref (g0))] := by
                  refine ⟨hl.1, hl.2.1, fun q hq => hl.2.2 q ?_⟩
                  simp only [List.mem_cons, List.not_mem_nil, or_false] at hq
                  rcases hq with rfl | rfl | rfl | rfl
                  · exact List.mem_of_getElem? (i := 0) rfl
                  · rw [show mmb stt idx ix kys kyh i (q + 1) = false from (by simp only [mmb, c18, Bool.true_and]; exact decide_eq_false c19)]; exact List.mem_of_getElem? (i := 1) rfl
                  · exact List.mem_of_getElem? (i := 2) rfl
                  · exact List.mem_of_getElem? (i := 3) rfl
                exact ih40 (q + 1) (by omega)  H locs ls (by omega) hl hP hS
              · refine lv_iconst (v := (iI (((1 : Nat) : Int)))) hx hb dX6_find_69 rfl ?_
                refine lv_goto (tgt := 74) hx hb dX6_find_70 (by decide) ?_
                refine lv_istore_n (lv' := [(2, .int (iI (((1 : Nat) : Int)))), (3, .int (iI (((q : Nat) : Int)))), (1, .int (iI (((i : Nat) : Int)))), (0, .ref (g0))]) hx hb dX6_find_74 rfl hl (by decide) rfl (fun ls hl => ?_)
                refine lv_iinc (k := 1) (v := (iI (((q + 1 : Nat) : Int)))) (lv' := [(3, .int (iI (((q + 1 : Nat) : Int)))), (2, .int (iI (((1 : Nat) : Int)))), (1, .int (iI (((i : Nat) : Int)))), (0, .ref (g0))]) hx hb dX6_find_75 hl rfl (iI_inc _ 1) (by decide) rfl (fun ls hl => ?_)
                refine lv_goto (tgt := 40) hx hb dX6_find_78 (by decide) ?_
                replace hl : lv_has ls 4 [(3, .int (iI (((q + 1 : Nat) : Int)))), (2, .int (bI (mmb stt idx ix kys kyh i (q + 1)))), (1, .int (iI (((i : Nat) : Int)))), (0, .ref (g0))] := by
                  refine ⟨hl.1, hl.2.1, fun q hq => hl.2.2 q ?_⟩
                  simp only [List.mem_cons, List.not_mem_nil, or_false] at hq
                  rcases hq with rfl | rfl | rfl | rfl
                  · exact List.mem_of_getElem? (i := 0) rfl
                  · rw [show mmb stt idx ix kys kyh i (q + 1) = true from (by simp only [mmb, c18, Bool.true_and]; exact decide_eq_true c19)]; exact List.mem_of_getElem? (i := 1) rfl
                  · exact List.mem_of_getElem? (i := 2) rfl
                  · exact List.mem_of_getElem? (i := 3) rfl
                exact ih40 (q + 1) (by omega)  H locs ls (by omega) hl hP hS
        replace hl : lv_has ls 4 [(3, .int (iI (((0 : Nat) : Int)))), (2, .int (bI (mmb stt idx ix kys kyh i 0))), (1, .int (iI (((i : Nat) : Int)))), (0, .ref (g0))] := by
          refine ⟨hl.1, hl.2.1, fun q hq => hl.2.2 q ?_⟩
          simp only [List.mem_cons, List.not_mem_nil, or_false] at hq
          rcases hq with rfl | rfl | rfl | rfl
          · exact List.mem_of_getElem? (i := 0) rfl
          · rw [show mmb stt idx ix kys kyh i 0 = true from (decide_eq_true ⟨by omega, c9⟩)]; exact List.mem_of_getElem? (i := 1) rfl
          · exact List.mem_of_getElem? (i := 2) rfl
          · exact List.mem_of_getElem? (i := 3) rfl
        exact lp15 (0) H locs ls (by omega) hl hP hS
  exact lp1 (0) H locs ls (by omega) hl hP hS
set_option maxHeartbeats 4000000 in
set_option maxRecDepth 100000 in
theorem mm_find_miss (l : Launch) (D : va_G) (ta : Nat → ClassId) (B n : Nat) (w : fw_W) (g0 : Nat) (U : Nat) (ix : Int32) (L : Nat) (nd : Nat) (od : Nat) (hh : Nat) (op : Bool) (stt : Nat → Nat) (kys : Nat → Int64) (idx : Nat → Int32) (kyh : Nat → Int64) (m0 : w (g0) = some (.inr (6, [.int (iI (((U : Nat) : Int))), .ref (g0 + 1), .ref (g0 + 2), .ref (g0 + 3), .ref (g0 + 4), .ref (g0 + 5), .ref (g0 + 6), .ref (g0 + 7), .ref (g0 + 8), .ref (g0 + 9), .ref (g0 + 10), .ref (g0 + 11), .ref (g0 + 12), .ref (g0 + 13), .ref (g0 + 14), .ref (g0 + 15), .int (ix), .ref (g0 + 16), .int (iI (((L : Nat) : Int))), .int (iI (((nd : Nat) : Int))), .ref (g0 + 17), .ref (g0 + 18), .ref (g0 + 19), .int (iI (((od : Nat) : Int))), .int (iI (((hh : Nat) : Int))), .int (bI (op))]))) (m1 : w (g0 + 1) = some (.inl (ta 1, 600, .inl (fun z_ => iI (((stt) z_ : Nat) : Int))))) (m2 : w (g0 + 2) = some (.inl (ta 4, 2400, .inr (.inl (kys))))) (m3 : w (g0 + 3) = some (.inl (ta 1, 600, .inl (idx)))) (m15 : w (g0 + 15) = some (.inl (ta 4, 4, .inr (.inl (kyh))))) (hsb : ∀ j, j < 600 → stt j < 3) (hms : ∀ i, i < 600 → mmb stt idx ix kys kyh i 4 = false) : fw_C l D vwCl (tyL ta) B yX6_find cX6_find 4 (some .int) ({ frames := 0, cells := 0, slots := 0, locals := 0 } : Room) [.ref (g0)] n w (fun r w1 n1 => r = some (.int (iI ((-1)))) ∧ w1 = w ∧ n1 = n) := by
  refine fw_enter (by decide) (Nat.le_of_ble_eq_true rfl) ?_
  intro p e s m below meth c hx hb hr hml hown hlocks hin hG hts hK H locs hP hS ls hl
  have hown : s.vm.findClass RX6 = some m.cls := hown
  replace hl : lv_has ls 4 [(0, .ref (g0))] := hl
  have lt_m0 := hP.lt m0
  have lt_m1 := hP.lt m1
  have lt_m2 := hP.lt m2
  have lt_m3 := hP.lt m3
  have lt_m15 := hP.lt m15
  refine lv_iconst (v := (iI (((0 : Nat) : Int)))) hx hb dX6_find_0 rfl ?_
  refine lv_istore_n (lv' := [(1, .int (iI (((0 : Nat) : Int)))), (0, .ref (g0))]) hx hb dX6_find_1 rfl hl (by decide) rfl (fun ls hl => ?_)
  have lp1 : ∀ (i : Nat)  (H : Heap) (locs : List Loc) (ls : Array Slot), i ≤ 600 → lv_has ls 4 [(1, .int (iI (((i : Nat) : Int)))), (0, .ref (g0))] → fw_P D vwCl B (n) (w) H → fw_S B s.heap H locs → fw_K p l e ({ frames := 0, cells := 0, slots := 0, locals := 0 } : Room) s m [.ref (g0)] below meth c D vwCl B (fun r w1 n1 => r = some (.int (iI ((-1)))) ∧ w1 = w ∧ n1 = n) H locs (0) (0) (F0 m 2 ls []) := by
    refine fw_loop (fun i : Nat => 600 - i) ?_
    intro i ih2  H locs ls hi hl hP hS
    refine lv_iload_n hx hb dX6_find_2 rfl (lv_at hl 0 rfl) ?_
    refine lv_sipush (v := (iI (((600 : Nat) : Int)))) hx hb dX6_find_3 (by decide) ?_
    refine fn_icmp_ge (x := ((i : Nat) : Int)) (y := ((600 : Nat) : Int)) (tgt := 93) hx hb dX6_find_6 (by decide) ⟨by omega, by omega⟩ ⟨by omega, by omega⟩ (fun c2 => ?_) (fun c2 => ?_)
    · refine lv_iconst (v := (iI ((-1)))) hx hb dX6_find_93 rfl ?_
      exact fw_iret hx hb hr hlocks hP hS dX6_find_94 (Nat.le_of_ble_eq_true rfl) (Nat.le_of_ble_eq_true rfl) ⟨rfl, rfl, rfl⟩
    · refine lv_aload_n hx hb dX6_find_9 rfl (lv_at hl 1 rfl) ?_
      refine fw_get (ci := 6) (fs := [.int (iI (((U : Nat) : Int))), .ref (g0 + 1), .ref (g0 + 2), .ref (g0 + 3), .ref (g0 + 4), .ref (g0 + 5), .ref (g0 + 6), .ref (g0 + 7), .ref (g0 + 8), .ref (g0 + 9), .ref (g0 + 10), .ref (g0 + 11), .ref (g0 + 12), .ref (g0 + 13), .ref (g0 + 14), .ref (g0 + 15), .int (ix), .ref (g0 + 16), .int (iI (((L : Nat) : Int))), .int (iI (((nd : Nat) : Int))), .ref (g0 + 17), .ref (g0 + 18), .ref (g0 + 19), .int (iI (((od : Nat) : Int))), .int (iI (((hh : Nat) : Int))), .int (bI (op))]) (k := 1) (v := .ref (g0 + 1)) (C := RX6) (T := TX6) (N := 26) hx hb hts inFX6 hown hK hP m0 rfl (by decide) mFX6_7 rfl dX6_find_10 ?_
      refine lv_iload_n hx hb dX6_find_13 rfl (lv_at hl 0 rfl) ?_
      refine fn_ialdN (g := stt) (k := i) hx hb hK hP 1 m1 rfl (by omega) (by omega) dX6_find_14 ?_
      refine lv_iconst (v := (iI (((1 : Nat) : Int)))) hx hb dX6_find_15 rfl ?_
      have hsi := hsb i (by omega)
      refine fn_icmp_ne (x := ((stt i : Nat) : Int)) (y := ((1 : Nat) : Int)) (tgt := 36) hx hb dX6_find_16 (by decide) ⟨by omega, by omega⟩ ⟨by omega, by omega⟩ (fun c3 => ?_) (fun c3 => ?_)
      · refine lv_iconst (v := (iI (((0 : Nat) : Int)))) hx hb dX6_find_36 rfl ?_
        refine lv_istore_n (lv' := [(2, .int (iI (((0 : Nat) : Int)))), (1, .int (iI (((i : Nat) : Int)))), (0, .ref (g0))]) hx hb dX6_find_37 rfl hl (by decide) rfl (fun ls hl => ?_)
        refine lv_iconst (v := (iI (((0 : Nat) : Int)))) hx hb dX6_find_38 rfl ?_
        refine lv_istore_n (lv' := [(3, .int (iI (((0 : Nat) : Int)))), (2, .int (iI (((0 : Nat) : Int)))), (1, .int (iI (((i : Nat) : Int)))), (0, .ref (g0))]) hx hb dX6_find_39 rfl hl (by decide) rfl (fun ls hl => ?_)
        have lp4 : ∀ (q : Nat)  (H : Heap) (locs : List Loc) (ls : Array Slot), q ≤ 4 → lv_has ls 4 [(3, .int (iI (((q : Nat) : Int)))), (2, .int (bI (mmb stt idx ix kys kyh i q))), (1, .int (iI (((i : Nat) : Int)))), (0, .ref (g0))] → fw_P D vwCl B (n) (w) H → fw_S B s.heap H locs → fw_K p l e ({ frames := 0, cells := 0, slots := 0, locals := 0 } : Room) s m [.ref (g0)] below meth c D vwCl B (fun r w1 n1 => r = some (.int (iI ((-1)))) ∧ w1 = w ∧ n1 = n) H locs (0) (0) (F0 m 40 ls []) := by
          refine fw_loop (fun q : Nat => 4 - q) ?_
          intro q ih40  H locs ls hq hl hP hS
          refine lv_iload_n hx hb dX6_find_40 rfl (lv_at hl 0 rfl) ?_
          refine lv_iconst (v := (iI (((4 : Nat) : Int)))) hx hb dX6_find_41 rfl ?_
          refine fn_icmp_ge (x := ((q : Nat) : Int)) (y := ((4 : Nat) : Int)) (tgt := 81) hx hb dX6_find_42 (by decide) ⟨by omega, by omega⟩ ⟨by omega, by omega⟩ (fun c5 => ?_) (fun c5 => ?_)
          · refine lv_iload_n hx hb dX6_find_81 rfl (lv_at hl 1 rfl) ?_
            refine fn_bif_eq (x := mmb stt idx ix kys kyh i q) (tgt := 87) hx hb dX6_find_82 (by decide) (fun c6 => ?_) (fun c6 => False.elim (by have hq4 : q = 4 := (by omega); subst hq4; rw [hms i (by omega)] at c6; cases c6))
            refine lv_iinc (k := 2) (v := (iI (((i + 1 : Nat) : Int)))) (lv' := [(1, .int (iI (((i + 1 : Nat) : Int)))), (3, .int (iI (((q : Nat) : Int)))), (2, .int (bI (mmb stt idx ix kys kyh i q))), (0, .ref (g0))]) hx hb dX6_find_87 hl rfl (iI_inc _ 1) (by decide) rfl (fun ls hl => ?_)
            refine lv_goto (tgt := 2) hx hb dX6_find_90 (by decide) ?_
            replace hl : lv_has ls 4 [(1, .int (iI (((i + 1 : Nat) : Int)))), (0, .ref (g0))] := by
              refine ⟨hl.1, hl.2.1, fun q hq => hl.2.2 q ?_⟩
              simp only [List.mem_cons, List.not_mem_nil, or_false] at hq
              rcases hq with rfl | rfl
              · exact List.mem_of_getElem? (i := 0) rfl
              · exact List.mem_of_getElem? (i := 3) rfl
            exact ih2 (i + 1) (by omega)  H locs ls (by omega) hl hP hS
          · refine lv_iload_n hx hb dX6_find_45 rfl (lv_at hl 1 rfl) ?_
            refine fn_bif_eq (x := mmb stt idx ix kys kyh i q) (tgt := 73) hx hb dX6_find_46 (by decide) (fun c7 => ?_) (fun c7 => ?_)
            · refine lv_iconst (v := (iI (((0 : Nat) : Int)))) hx hb dX6_find_73 rfl ?_
              refine lv_istore_n (lv' := [(2, .int (iI (((0 : Nat) : Int)))), (3, .int (iI (((q : Nat) : Int)))), (1, .int (iI (((i : Nat) : Int)))), (0, .ref (g0))]) hx hb dX6_find_74 rfl hl (by decide) rfl (fun ls hl => ?_)
              refine lv_iinc (k := 1) (v := (iI (((q + 1 : Nat) : Int)))) (lv' := [(3, .int (iI (((q + 1 : Nat) : Int)))), (2, .int (iI (((0 : Nat) : Int)))), (1, .int (iI (((i : Nat) : Int)))), (0, .ref (g0))]) hx hb dX6_find_75 hl rfl (iI_inc _ 1) (by decide) rfl (fun ls hl => ?_)
              refine lv_goto (tgt := 40) hx hb dX6_find_78 (by decide) ?_
              replace hl : lv_has ls 4 [(3, .int (iI (((q + 1 : Nat) : Int)))), (2, .int (bI (mmb stt idx ix kys kyh i (q + 1)))), (1, .int (iI (((i : Nat) : Int)))), (0, .ref (g0))] := by
                refine ⟨hl.1, hl.2.1, fun q hq => hl.2.2 q ?_⟩
                simp only [List.mem_cons, List.not_mem_nil, or_false] at hq
                rcases hq with rfl | rfl | rfl | rfl
                · exact List.mem_of_getElem? (i := 0) rfl
                · rw [show mmb stt idx ix kys kyh i (q + 1) = false from (by simp only [mmb, c7, Bool.false_and])]; exact List.mem_of_getElem? (i := 1) rfl
                · exact List.mem_of_getElem? (i := 2) rfl
                · exact List.mem_of_getElem? (i := 3) rfl
              exact ih40 (q + 1) (by omega)  H locs ls (by omega) hl hP hS
            · refine lv_aload_n hx hb dX6_find_49 rfl (lv_at hl 3 rfl) ?_
              refine fw_get (ci := 6) (fs := [.int (iI (((U : Nat) : Int))), .ref (g0 + 1), .ref (g0 + 2), .ref (g0 + 3), .ref (g0 + 4), .ref (g0 + 5), .ref (g0 + 6), .ref (g0 + 7), .ref (g0 + 8), .ref (g0 + 9), .ref (g0 + 10), .ref (g0 + 11), .ref (g0 + 12), .ref (g0 + 13), .ref (g0 + 14), .ref (g0 + 15), .int (ix), .ref (g0 + 16), .int (iI (((L : Nat) : Int))), .int (iI (((nd : Nat) : Int))), .ref (g0 + 17), .ref (g0 + 18), .ref (g0 + 19), .int (iI (((od : Nat) : Int))), .int (iI (((hh : Nat) : Int))), .int (bI (op))]) (k := 2) (v := .ref (g0 + 2)) (C := RX6) (T := TX6) (N := 26) hx hb hts inFX6 hown hK hP m0 rfl (by decide) mFX6_13 rfl dX6_find_50 ?_
              refine lv_iconst (v := (iI (((4 : Nat) : Int)))) hx hb dX6_find_53 rfl ?_
              refine lv_iload_n hx hb dX6_find_54 rfl (lv_at hl 2 rfl) ?_
              refine fn_imul (x := ((4 : Nat) : Int)) (y := ((i : Nat) : Int)) hx hb dX6_find_55 ?_
              refine fn_topz (y := (((4) * i : Nat) : Int)) (by omega) ?_
              refine lv_iload_n hx hb dX6_find_56 rfl (lv_at hl 0 rfl) ?_
              refine fn_iadd (x := (((4) * i : Nat) : Int)) (y := ((q : Nat) : Int)) hx hb dX6_find_57 ?_
              refine fn_topz (y := (((4) * i + q : Nat) : Int)) (by omega) ?_
              refine fn_lald (k := (4) * i + q) hx hb hK hP 4 m2 rfl (by omega) (by omega) dX6_find_58 ?_
              refine lv_aload_n hx hb dX6_find_59 rfl (lv_at hl 3 rfl) ?_
              refine fw_get (ci := 6) (fs := [.int (iI (((U : Nat) : Int))), .ref (g0 + 1), .ref (g0 + 2), .ref (g0 + 3), .ref (g0 + 4), .ref (g0 + 5), .ref (g0 + 6), .ref (g0 + 7), .ref (g0 + 8), .ref (g0 + 9), .ref (g0 + 10), .ref (g0 + 11), .ref (g0 + 12), .ref (g0 + 13), .ref (g0 + 14), .ref (g0 + 15), .int (ix), .ref (g0 + 16), .int (iI (((L : Nat) : Int))), .int (iI (((nd : Nat) : Int))), .ref (g0 + 17), .ref (g0 + 18), .ref (g0 + 19), .int (iI (((od : Nat) : Int))), .int (iI (((hh : Nat) : Int))), .int (bI (op))]) (k := 15) (v := .ref (g0 + 15)) (C := RX6) (T := TX6) (N := 26) hx hb hts inFX6 hown hK hP m0 rfl (by decide) mFX6_55 rfl dX6_find_60 ?_
              refine lv_iload_n hx hb dX6_find_63 rfl (lv_at hl 0 rfl) ?_
              refine fn_lald (k := q) hx hb hK hP 4 m15 rfl (by omega) (by omega) dX6_find_64 ?_
              refine W.lcmp hx hb dX6_find_65 ?_
              refine fn_lif_ne (tgt := 73) hx hb dX6_find_66 (by decide) (fun c8 => ?_) (fun c8 => ?_)
              · refine lv_iconst (v := (iI (((0 : Nat) : Int)))) hx hb dX6_find_73 rfl ?_
                refine lv_istore_n (lv' := [(2, .int (iI (((0 : Nat) : Int)))), (3, .int (iI (((q : Nat) : Int)))), (1, .int (iI (((i : Nat) : Int)))), (0, .ref (g0))]) hx hb dX6_find_74 rfl hl (by decide) rfl (fun ls hl => ?_)
                refine lv_iinc (k := 1) (v := (iI (((q + 1 : Nat) : Int)))) (lv' := [(3, .int (iI (((q + 1 : Nat) : Int)))), (2, .int (iI (((0 : Nat) : Int)))), (1, .int (iI (((i : Nat) : Int)))), (0, .ref (g0))]) hx hb dX6_find_75 hl rfl (iI_inc _ 1) (by decide) rfl (fun ls hl => ?_)
                refine lv_goto (tgt := 40) hx hb dX6_find_78 (by decide) ?_
                replace hl : lv_has ls 4 [(3, .int (iI (((q + 1 : Nat) : Int)))), (2, .int (bI (mmb stt idx ix kys kyh i (q + 1)))), (1, .int (iI (((i : Nat) : Int)))), (0, .ref (g0))] := by
                  refine ⟨hl.1, hl.2.1, fun q hq => hl.2.2 q ?_⟩
                  simp only [List.mem_cons, List.not_mem_nil, or_false] at hq
                  rcases hq with rfl | rfl | rfl | rfl
                  · exact List.mem_of_getElem? (i := 0) rfl
                  · rw [show mmb stt idx ix kys kyh i (q + 1) = false from (by simp only [mmb, c7, Bool.true_and]; exact decide_eq_false c8)]; exact List.mem_of_getElem? (i := 1) rfl
                  · exact List.mem_of_getElem? (i := 2) rfl
                  · exact List.mem_of_getElem? (i := 3) rfl
                exact ih40 (q + 1) (by omega)  H locs ls (by omega) hl hP hS
              · refine lv_iconst (v := (iI (((1 : Nat) : Int)))) hx hb dX6_find_69 rfl ?_
                refine lv_goto (tgt := 74) hx hb dX6_find_70 (by decide) ?_
                refine lv_istore_n (lv' := [(2, .int (iI (((1 : Nat) : Int)))), (3, .int (iI (((q : Nat) : Int)))), (1, .int (iI (((i : Nat) : Int)))), (0, .ref (g0))]) hx hb dX6_find_74 rfl hl (by decide) rfl (fun ls hl => ?_)
                refine lv_iinc (k := 1) (v := (iI (((q + 1 : Nat) : Int)))) (lv' := [(3, .int (iI (((q + 1 : Nat) : Int)))), (2, .int (iI (((1 : Nat) : Int)))), (1, .int (iI (((i : Nat) : Int)))), (0, .ref (g0))]) hx hb dX6_find_75 hl rfl (iI_inc _ 1) (by decide) rfl (fun ls hl => ?_)
                refine lv_goto (tgt := 40) hx hb dX6_find_78 (by decide) ?_
                replace hl : lv_has ls 4 [(3, .int (iI (((q + 1 : Nat) : Int)))), (2, .int (bI (mmb stt idx ix kys kyh i (q + 1)))), (1, .int (iI (((i : Nat) : Int)))), (0, .ref (g0))] := by
                  refine ⟨hl.1, hl.2.1, fun q hq => hl.2.2 q ?_⟩
                  simp only [List.mem_cons, List.not_mem_nil, or_false] at hq
                  rcases hq with rfl | rfl | rfl | rfl
                  · exact List.mem_of_getElem? (i := 0) rfl
                  · rw [show mmb stt idx ix kys kyh i (q + 1) = true from (by simp only [mmb, c7, Bool.true_and]; exact decide_eq_true c8)]; exact List.mem_of_getElem? (i := 1) rfl
                  · exact List.mem_of_getElem? (i := 2) rfl
                  · exact List.mem_of_getElem? (i := 3) rfl
                exact ih40 (q + 1) (by omega)  H locs ls (by omega) hl hP hS
        replace hl : lv_has ls 4 [(3, .int (iI (((0 : Nat) : Int)))), (2, .int (bI (mmb stt idx ix kys kyh i 0))), (1, .int (iI (((i : Nat) : Int)))), (0, .ref (g0))] := by
          refine ⟨hl.1, hl.2.1, fun q hq => hl.2.2 q ?_⟩
          simp only [List.mem_cons, List.not_mem_nil, or_false] at hq
          rcases hq with rfl | rfl | rfl | rfl
          · exact List.mem_of_getElem? (i := 0) rfl
          · rw [show mmb stt idx ix kys kyh i 0 = false from (decide_eq_false (fun h => absurd h.1 (by omega)))]; exact List.mem_of_getElem? (i := 1) rfl
          · exact List.mem_of_getElem? (i := 2) rfl
          · exact List.mem_of_getElem? (i := 3) rfl
        exact lp4 (0) H locs ls (by omega) hl hP hS
      · refine lv_aload_n hx hb dX6_find_19 rfl (lv_at hl 1 rfl) ?_
        refine fw_get (ci := 6) (fs := [.int (iI (((U : Nat) : Int))), .ref (g0 + 1), .ref (g0 + 2), .ref (g0 + 3), .ref (g0 + 4), .ref (g0 + 5), .ref (g0 + 6), .ref (g0 + 7), .ref (g0 + 8), .ref (g0 + 9), .ref (g0 + 10), .ref (g0 + 11), .ref (g0 + 12), .ref (g0 + 13), .ref (g0 + 14), .ref (g0 + 15), .int (ix), .ref (g0 + 16), .int (iI (((L : Nat) : Int))), .int (iI (((nd : Nat) : Int))), .ref (g0 + 17), .ref (g0 + 18), .ref (g0 + 19), .int (iI (((od : Nat) : Int))), .int (iI (((hh : Nat) : Int))), .int (bI (op))]) (k := 3) (v := .ref (g0 + 3)) (C := RX6) (T := TX6) (N := 26) hx hb hts inFX6 hown hK hP m0 rfl (by decide) mFX6_17 rfl dX6_find_20 ?_
        refine lv_iload_n hx hb dX6_find_23 rfl (lv_at hl 0 rfl) ?_
        refine fn_iald (k := i) hx hb hK hP 1 m3 rfl (by omega) (by omega) dX6_find_24 ?_
        refine lv_aload_n hx hb dX6_find_25 rfl (lv_at hl 1 rfl) ?_
        refine fw_get (ci := 6) (fs := [.int (iI (((U : Nat) : Int))), .ref (g0 + 1), .ref (g0 + 2), .ref (g0 + 3), .ref (g0 + 4), .ref (g0 + 5), .ref (g0 + 6), .ref (g0 + 7), .ref (g0 + 8), .ref (g0 + 9), .ref (g0 + 10), .ref (g0 + 11), .ref (g0 + 12), .ref (g0 + 13), .ref (g0 + 14), .ref (g0 + 15), .int (ix), .ref (g0 + 16), .int (iI (((L : Nat) : Int))), .int (iI (((nd : Nat) : Int))), .ref (g0 + 17), .ref (g0 + 18), .ref (g0 + 19), .int (iI (((od : Nat) : Int))), .int (iI (((hh : Nat) : Int))), .int (bI (op))]) (k := 16) (v := .int (ix)) (C := RX6) (T := TX6) (N := 26) hx hb hts inFX6 hown hK hP m0 rfl (by decide) mFX6_74 rfl dX6_find_26 ?_
        refine lv_icmp_ne (x := (idx i)) (y := (ix)) (tgt := 36) hx hb dX6_find_29 (by decide) (fun c9 => ?_) (fun c9 => ?_)
        · refine lv_iconst (v := (iI (((0 : Nat) : Int)))) hx hb dX6_find_36 rfl ?_
          refine lv_istore_n (lv' := [(2, .int (iI (((0 : Nat) : Int)))), (1, .int (iI (((i : Nat) : Int)))), (0, .ref (g0))]) hx hb dX6_find_37 rfl hl (by decide) rfl (fun ls hl => ?_)
          refine lv_iconst (v := (iI (((0 : Nat) : Int)))) hx hb dX6_find_38 rfl ?_
          refine lv_istore_n (lv' := [(3, .int (iI (((0 : Nat) : Int)))), (2, .int (iI (((0 : Nat) : Int)))), (1, .int (iI (((i : Nat) : Int)))), (0, .ref (g0))]) hx hb dX6_find_39 rfl hl (by decide) rfl (fun ls hl => ?_)
          have lp10 : ∀ (q : Nat)  (H : Heap) (locs : List Loc) (ls : Array Slot), q ≤ 4 → lv_has ls 4 [(3, .int (iI (((q : Nat) : Int)))), (2, .int (bI (mmb stt idx ix kys kyh i q))), (1, .int (iI (((i : Nat) : Int)))), (0, .ref (g0))] → fw_P D vwCl B (n) (w) H → fw_S B s.heap H locs → fw_K p l e ({ frames := 0, cells := 0, slots := 0, locals := 0 } : Room) s m [.ref (g0)] below meth c D vwCl B (fun r w1 n1 => r = some (.int (iI ((-1)))) ∧ w1 = w ∧ n1 = n) H locs (0) (0) (F0 m 40 ls []) := by
            refine fw_loop (fun q : Nat => 4 - q) ?_
            intro q ih40  H locs ls hq hl hP hS
            refine lv_iload_n hx hb dX6_find_40 rfl (lv_at hl 0 rfl) ?_
            refine lv_iconst (v := (iI (((4 : Nat) : Int)))) hx hb dX6_find_41 rfl ?_
            refine fn_icmp_ge (x := ((q : Nat) : Int)) (y := ((4 : Nat) : Int)) (tgt := 81) hx hb dX6_find_42 (by decide) ⟨by omega, by omega⟩ ⟨by omega, by omega⟩ (fun c11 => ?_) (fun c11 => ?_)
            · refine lv_iload_n hx hb dX6_find_81 rfl (lv_at hl 1 rfl) ?_
              refine fn_bif_eq (x := mmb stt idx ix kys kyh i q) (tgt := 87) hx hb dX6_find_82 (by decide) (fun c12 => ?_) (fun c12 => False.elim (by have hq4 : q = 4 := (by omega); subst hq4; rw [hms i (by omega)] at c12; cases c12))
              refine lv_iinc (k := 2) (v := (iI (((i + 1 : Nat) : Int)))) (lv' := [(1, .int (iI (((i + 1 : Nat) : Int)))), (3, .int (iI (((q : Nat) : Int)))), (2, .int (bI (mmb stt idx ix kys kyh i q))), (0, .ref (g0))]) hx hb dX6_find_87 hl rfl (iI_inc _ 1) (by decide) rfl (fun ls hl => ?_)
              refine lv_goto (tgt := 2) hx hb dX6_find_90 (by decide) ?_
              replace hl : lv_has ls 4 [(1, .int (iI (((i + 1 : Nat) : Int)))), (0, .ref (g0))] := by
                refine ⟨hl.1, hl.2.1, fun q hq => hl.2.2 q ?_⟩
                simp only [List.mem_cons, List.not_mem_nil, or_false] at hq
                rcases hq with rfl | rfl
                · exact List.mem_of_getElem? (i := 0) rfl
                · exact List.mem_of_getElem? (i := 3) rfl
              exact ih2 (i + 1) (by omega)  H locs ls (by omega) hl hP hS
            · refine lv_iload_n hx hb dX6_find_45 rfl (lv_at hl 1 rfl) ?_
              refine fn_bif_eq (x := mmb stt idx ix kys kyh i q) (tgt := 73) hx hb dX6_find_46 (by decide) (fun c13 => ?_) (fun c13 => ?_)
              · refine lv_iconst (v := (iI (((0 : Nat) : Int)))) hx hb dX6_find_73 rfl ?_
                refine lv_istore_n (lv' := [(2, .int (iI (((0 : Nat) : Int)))), (3, .int (iI (((q : Nat) : Int)))), (1, .int (iI (((i : Nat) : Int)))), (0, .ref (g0))]) hx hb dX6_find_74 rfl hl (by decide) rfl (fun ls hl => ?_)
                refine lv_iinc (k := 1) (v := (iI (((q + 1 : Nat) : Int)))) (lv' := [(3, .int (iI (((q + 1 : Nat) : Int)))), (2, .int (iI (((0 : Nat) : Int)))), (1, .int (iI (((i : Nat) : Int)))), (0, .ref (g0))]) hx hb dX6_find_75 hl rfl (iI_inc _ 1) (by decide) rfl (fun ls hl => ?_)
                refine lv_goto (tgt := 40) hx hb dX6_find_78 (by decide) ?_
                replace hl : lv_has ls 4 [(3, .int (iI (((q + 1 : Nat) : Int)))), (2, .int (bI (mmb stt idx ix kys kyh i (q + 1)))), (1, .int (iI (((i : Nat) : Int)))), (0, .ref (g0))] := by
                  refine ⟨hl.1, hl.2.1, fun q hq => hl.2.2 q ?_⟩
                  simp only [List.mem_cons, List.not_mem_nil, or_false] at hq
                  rcases hq with rfl | rfl | rfl | rfl
                  · exact List.mem_of_getElem? (i := 0) rfl
                  · rw [show mmb stt idx ix kys kyh i (q + 1) = false from (by simp only [mmb, c13, Bool.false_and])]; exact List.mem_of_getElem? (i := 1) rfl
                  · exact List.mem_of_getElem? (i := 2) rfl
                  · exact List.mem_of_getElem? (i := 3) rfl
                exact ih40 (q + 1) (by omega)  H locs ls (by omega) hl hP hS
              · refine lv_aload_n hx hb dX6_find_49 rfl (lv_at hl 3 rfl) ?_
                refine fw_get (ci := 6) (fs := [.int (iI (((U : Nat) : Int))), .ref (g0 + 1), .ref (g0 + 2), .ref (g0 + 3), .ref (g0 + 4), .ref (g0 + 5), .ref (g0 + 6), .ref (g0 + 7), .ref (g0 + 8), .ref (g0 + 9), .ref (g0 + 10), .ref (g0 + 11), .ref (g0 + 12), .ref (g0 + 13), .ref (g0 + 14), .ref (g0 + 15), .int (ix), .ref (g0 + 16), .int (iI (((L : Nat) : Int))), .int (iI (((nd : Nat) : Int))), .ref (g0 + 17), .ref (g0 + 18), .ref (g0 + 19), .int (iI (((od : Nat) : Int))), .int (iI (((hh : Nat) : Int))), .int (bI (op))]) (k := 2) (v := .ref (g0 + 2)) (C := RX6) (T := TX6) (N := 26) hx hb hts inFX6 hown hK hP m0 rfl (by decide) mFX6_13 rfl dX6_find_50 ?_
                refine lv_iconst (v := (iI (((4 : Nat) : Int)))) hx hb dX6_find_53 rfl ?_
                refine lv_iload_n hx hb dX6_find_54 rfl (lv_at hl 2 rfl) ?_
                refine fn_imul (x := ((4 : Nat) : Int)) (y := ((i : Nat) : Int)) hx hb dX6_find_55 ?_
                refine fn_topz (y := (((4) * i : Nat) : Int)) (by omega) ?_
                refine lv_iload_n hx hb dX6_find_56 rfl (lv_at hl 0 rfl) ?_
                refine fn_iadd (x := (((4) * i : Nat) : Int)) (y := ((q : Nat) : Int)) hx hb dX6_find_57 ?_
                refine fn_topz (y := (((4) * i + q : Nat) : Int)) (by omega) ?_
                refine fn_lald (k := (4) * i + q) hx hb hK hP 4 m2 rfl (by omega) (by omega) dX6_find_58 ?_
                refine lv_aload_n hx hb dX6_find_59 rfl (lv_at hl 3 rfl) ?_
                refine fw_get (ci := 6) (fs := [.int (iI (((U : Nat) : Int))), .ref (g0 + 1), .ref (g0 + 2), .ref (g0 + 3), .ref (g0 + 4), .ref (g0 + 5), .ref (g0 + 6), .ref (g0 + 7), .ref (g0 + 8), .ref (g0 + 9), .ref (g0 + 10), .ref (g0 + 11), .ref (g0 + 12), .ref (g0 + 13), .ref (g0 + 14), .ref (g0 + 15), .int (ix), .ref (g0 + 16), .int (iI (((L : Nat) : Int))), .int (iI (((nd : Nat) : Int))), .ref (g0 + 17), .ref (g0 + 18), .ref (g0 + 19), .int (iI (((od : Nat) : Int))), .int (iI (((hh : Nat) : Int))), .int (bI (op))]) (k := 15) (v := .ref (g0 + 15)) (C := RX6) (T := TX6) (N := 26) hx hb hts inFX6 hown hK hP m0 rfl (by decide) mFX6_55 rfl dX6_find_60 ?_
                refine lv_iload_n hx hb dX6_find_63 rfl (lv_at hl 0 rfl) ?_
                refine fn_lald (k := q) hx hb hK hP 4 m15 rfl (by omega) (by omega) dX6_find_64 ?_
                refine W.lcmp hx hb dX6_find_65 ?_
                refine fn_lif_ne (tgt := 73) hx hb dX6_find_66 (by decide) (fun c14 => ?_) (fun c14 => ?_)
                · refine lv_iconst (v := (iI (((0 : Nat) : Int)))) hx hb dX6_find_73 rfl ?_
                  refine lv_istore_n (lv' := [(2, .int (iI (((0 : Nat) : Int)))), (3, .int (iI (((q : Nat) : Int)))), (1, .int (iI (((i : Nat) : Int)))), (0, .ref (g0))]) hx hb dX6_find_74 rfl hl (by decide) rfl (fun ls hl => ?_)
                  refine lv_iinc (k := 1) (v := (iI (((q + 1 : Nat) : Int)))) (lv' := [(3, .int (iI (((q + 1 : Nat) : Int)))), (2, .int (iI (((0 : Nat) : Int)))), (1, .int (iI (((i : Nat) : Int)))), (0, .ref (g0))]) hx hb dX6_find_75 hl rfl (iI_inc _ 1) (by decide) rfl (fun ls hl => ?_)
                  refine lv_goto (tgt := 40) hx hb dX6_find_78 (by decide) ?_
                  replace hl : lv_has ls 4 [(3, .int (iI (((q + 1 : Nat) : Int)))), (2, .int (bI (mmb stt idx ix kys kyh i (q + 1)))), (1, .int (iI (((i : Nat) : Int)))), (0, .ref (g0))] := by
                    refine ⟨hl.1, hl.2.1, fun q hq => hl.2.2 q ?_⟩
                    simp only [List.mem_cons, List.not_mem_nil, or_false] at hq
                    rcases hq with rfl | rfl | rfl | rfl
                    · exact List.mem_of_getElem? (i := 0) rfl
                    · rw [show mmb stt idx ix kys kyh i (q + 1) = false from (by simp only [mmb, c13, Bool.true_and]; exact decide_eq_false c14)]; exact List.mem_of_getElem? (i := 1) rfl
                    · exact List.mem_of_getElem? (i := 2) rfl
                    · exact List.mem_of_getElem? (i := 3) rfl
                  exact ih40 (q + 1) (by omega)  H locs ls (by omega) hl hP hS
                · refine lv_iconst (v := (iI (((1 : Nat) : Int)))) hx hb dX6_find_69 rfl ?_
                  refine lv_goto (tgt := 74) hx hb dX6_find_70 (by decide) ?_
                  refine lv_istore_n (lv' := [(2, .int (iI (((1 : Nat) : Int)))), (3, .int (iI (((q : Nat) : Int)))), (1, .int (iI (((i : Nat) : Int)))), (0, .ref (g0))]) hx hb dX6_find_74 rfl hl (by decide) rfl (fun ls hl => ?_)
                  refine lv_iinc (k := 1) (v := (iI (((q + 1 : Nat) : Int)))) (lv' := [(3, .int (iI (((q + 1 : Nat) : Int)))), (2, .int (iI (((1 : Nat) : Int)))), (1, .int (iI (((i : Nat) : Int)))), (0, .ref (g0))]) hx hb dX6_find_75 hl rfl (iI_inc _ 1) (by decide) rfl (fun ls hl => ?_)
                  refine lv_goto (tgt := 40) hx hb dX6_find_78 (by decide) ?_
                  replace hl : lv_has ls 4 [(3, .int (iI (((q + 1 : Nat) : Int)))), (2, .int (bI (mmb stt idx ix kys kyh i (q + 1)))), (1, .int (iI (((i : Nat) : Int)))), (0, .ref (g0))] := by
                    refine ⟨hl.1, hl.2.1, fun q hq => hl.2.2 q ?_⟩
                    simp only [List.mem_cons, List.not_mem_nil, or_false] at hq
                    rcases hq with rfl | rfl | rfl | rfl
                    · exact List.mem_of_getElem? (i := 0) rfl
                    · rw [show mmb stt idx ix kys kyh i (q + 1) = true from (by simp only [mmb, c13, Bool.true_and]; exact decide_eq_true c14)]; exact List.mem_of_getElem? (i := 1) rfl
                    · exact List.mem_of_getElem? (i := 2) rfl
                    · exact List.mem_of_getElem? (i := 3) rfl
                  exact ih40 (q + 1) (by omega)  H locs ls (by omega) hl hP hS
          replace hl : lv_has ls 4 [(3, .int (iI (((0 : Nat) : Int)))), (2, .int (bI (mmb stt idx ix kys kyh i 0))), (1, .int (iI (((i : Nat) : Int)))), (0, .ref (g0))] := by
            refine ⟨hl.1, hl.2.1, fun q hq => hl.2.2 q ?_⟩
            simp only [List.mem_cons, List.not_mem_nil, or_false] at hq
            rcases hq with rfl | rfl | rfl | rfl
            · exact List.mem_of_getElem? (i := 0) rfl
            · rw [show mmb stt idx ix kys kyh i 0 = false from (decide_eq_false (fun h => c9 h.2))]; exact List.mem_of_getElem? (i := 1) rfl
            · exact List.mem_of_getElem? (i := 2) rfl
            · exact List.mem_of_getElem? (i := 3) rfl
          exact lp10 (0) H locs ls (by omega) hl hP hS
        · refine lv_iconst (v := (iI (((1 : Nat) : Int)))) hx hb dX6_find_32 rfl ?_
          refine lv_goto (tgt := 37) hx hb dX6_find_33 (by decide) ?_
          refine lv_istore_n (lv' := [(2, .int (iI (((1 : Nat) : Int)))), (1, .int (iI (((i : Nat) : Int)))), (0, .ref (g0))]) hx hb dX6_find_37 rfl hl (by decide) rfl (fun ls hl => ?_)
          refine lv_iconst (v := (iI (((0 : Nat) : Int)))) hx hb dX6_find_38 rfl ?_
          refine lv_istore_n (lv' := [(3, .int (iI (((0 : Nat) : Int)))), (2, .int (iI (((1 : Nat) : Int)))), (1, .int (iI (((i : Nat) : Int)))), (0, .ref (g0))]) hx hb dX6_find_39 rfl hl (by decide) rfl (fun ls hl => ?_)
          have lp15 : ∀ (q : Nat)  (H : Heap) (locs : List Loc) (ls : Array Slot), q ≤ 4 → lv_has ls 4 [(3, .int (iI (((q : Nat) : Int)))), (2, .int (bI (mmb stt idx ix kys kyh i q))), (1, .int (iI (((i : Nat) : Int)))), (0, .ref (g0))] → fw_P D vwCl B (n) (w) H → fw_S B s.heap H locs → fw_K p l e ({ frames := 0, cells := 0, slots := 0, locals := 0 } : Room) s m [.ref (g0)] below meth c D vwCl B (fun r w1 n1 => r = some (.int (iI ((-1)))) ∧ w1 = w ∧ n1 = n) H locs (0) (0) (F0 m 40 ls []) := by
            refine fw_loop (fun q : Nat => 4 - q) ?_
            intro q ih40  H locs ls hq hl hP hS
            refine lv_iload_n hx hb dX6_find_40 rfl (lv_at hl 0 rfl) ?_
            refine lv_iconst (v := (iI (((4 : Nat) : Int)))) hx hb dX6_find_41 rfl ?_
            refine fn_icmp_ge (x := ((q : Nat) : Int)) (y := ((4 : Nat) : Int)) (tgt := 81) hx hb dX6_find_42 (by decide) ⟨by omega, by omega⟩ ⟨by omega, by omega⟩ (fun c16 => ?_) (fun c16 => ?_)
            · refine lv_iload_n hx hb dX6_find_81 rfl (lv_at hl 1 rfl) ?_
              refine fn_bif_eq (x := mmb stt idx ix kys kyh i q) (tgt := 87) hx hb dX6_find_82 (by decide) (fun c17 => ?_) (fun c17 => False.elim (by have hq4 : q = 4 := (by omega); subst hq4; rw [hms i (by omega)] at c17; cases c17))
              refine lv_iinc (k := 2) (v := (iI (((i + 1 : Nat) : Int)))) (lv' := [(1, .int (iI (((i + 1 : Nat) : Int)))), (3, .int (iI (((q : Nat) : Int)))), (2, .int (bI (mmb stt idx ix kys kyh i q))), (0, .ref (g0))]) hx hb dX6_find_87 hl rfl (iI_inc _ 1) (by decide) rfl (fun ls hl => ?_)
              refine lv_goto (tgt := 2) hx hb dX6_find_90 (by decide) ?_
              replace hl : lv_has ls 4 [(1, .int (iI (((i + 1 : Nat) : Int)))), (0, .ref (g0))] := by
                refine ⟨hl.1, hl.2.1, fun q hq => hl.2.2 q ?_⟩
                simp only [List.mem_cons, List.not_mem_nil, or_false] at hq
                rcases hq with rfl | rfl
                · exact List.mem_of_getElem? (i := 0) rfl
                · exact List.mem_of_getElem? (i := 3) rfl
              exact ih2 (i + 1) (by omega)  H locs ls (by omega) hl hP hS
            · refine lv_iload_n hx hb dX6_find_45 rfl (lv_at hl 1 rfl) ?_
              refine fn_bif_eq (x := mmb stt idx ix kys kyh i q) (tgt := 73) hx hb dX6_find_46 (by decide) (fun c18 => ?_) (fun c18 => ?_)
              · refine lv_iconst (v := (iI (((0 : Nat) : Int)))) hx hb dX6_find_73 rfl ?_
                refine lv_istore_n (lv' := [(2, .int (iI (((0 : Nat) : Int)))), (3, .int (iI (((q : Nat) : Int)))), (1, .int (iI (((i : Nat) : Int)))), (0, .ref (g0))]) hx hb dX6_find_74 rfl hl (by decide) rfl (fun ls hl => ?_)
                refine lv_iinc (k := 1) (v := (iI (((q + 1 : Nat) : Int)))) (lv' := [(3, .int (iI (((q + 1 : Nat) : Int)))), (2, .int (iI (((0 : Nat) : Int)))), (1, .int (iI (((i : Nat) : Int)))), (0, .ref (g0))]) hx hb dX6_find_75 hl rfl (iI_inc _ 1) (by decide) rfl (fun ls hl => ?_)
                refine lv_goto (tgt := 40) hx hb dX6_find_78 (by decide) ?_
                replace hl : lv_has ls 4 [(3, .int (iI (((q + 1 : Nat) : Int)))), (2, .int (bI (mmb stt idx ix kys kyh i (q + 1)))), (1, .int (iI (((i : Nat) : Int)))), (0, .ref (g0))] := by
                  refine ⟨hl.1, hl.2.1, fun q hq => hl.2.2 q ?_⟩
                  simp only [List.mem_cons, List.not_mem_nil, or_false] at hq
                  rcases hq with rfl | rfl | rfl | rfl
                  · exact List.mem_of_getElem? (i := 0) rfl
                  · rw [show mmb stt idx ix kys kyh i (q + 1) = false from (by simp only [mmb, c18, Bool.false_and])]; exact List.mem_of_getElem? (i := 1) rfl
                  · exact List.mem_of_getElem? (i := 2) rfl
                  · exact List.mem_of_getElem? (i := 3) rfl
                exact ih40 (q + 1) (by omega)  H locs ls (by omega) hl hP hS
              · refine lv_aload_n hx hb dX6_find_49 rfl (lv_at hl 3 rfl) ?_
                refine fw_get (ci := 6) (fs := [.int (iI (((U : Nat) : Int))), .ref (g0 + 1), .ref (g0 + 2), .ref (g0 + 3), .ref (g0 + 4), .ref (g0 + 5), .ref (g0 + 6), .ref (g0 + 7), .ref (g0 + 8), .ref (g0 + 9), .ref (g0 + 10), .ref (g0 + 11), .ref (g0 + 12), .ref (g0 + 13), .ref (g0 + 14), .ref (g0 + 15), .int (ix), .ref (g0 + 16), .int (iI (((L : Nat) : Int))), .int (iI (((nd : Nat) : Int))), .ref (g0 + 17), .ref (g0 + 18), .ref (g0 + 19), .int (iI (((od : Nat) : Int))), .int (iI (((hh : Nat) : Int))), .int (bI (op))]) (k := 2) (v := .ref (g0 + 2)) (C := RX6) (T := TX6) (N := 26) hx hb hts inFX6 hown hK hP m0 rfl (by decide) mFX6_13 rfl dX6_find_50 ?_
                refine lv_iconst (v := (iI (((4 : Nat) : Int)))) hx hb dX6_find_53 rfl ?_
                refine lv_iload_n hx hb dX6_find_54 rfl (lv_at hl 2 rfl) ?_
                refine fn_imul (x := ((4 : Nat) : Int)) (y := ((i : Nat) : Int)) hx hb dX6_find_55 ?_
                refine fn_topz (y := (((4) * i : Nat) : Int)) (by omega) ?_
                refine lv_iload_n hx hb dX6_find_56 rfl (lv_at hl 0 rfl) ?_
                refine fn_iadd (x := (((4) * i : Nat) : Int)) (y := ((q : Nat) : Int)) hx hb dX6_find_57 ?_
                refine fn_topz (y := (((4) * i + q : Nat) : Int)) (by omega) ?_
                refine fn_lald (k := (4) * i + q) hx hb hK hP 4 m2 rfl (by omega) (by omega) dX6_find_58 ?_
                refine lv_aload_n hx hb dX6_find_59 rfl (lv_at hl 3 rfl) ?_
                refine fw_get (ci := 6) (fs := [.int (iI (((U : Nat) : Int))), .ref (g0 + 1), .ref (g0 + 2), .ref (g0 + 3), .ref (g0 + 4), .ref (g0 + 5), .ref (g0 + 6), .ref (g0 + 7), .ref (g0 + 8), .ref (g0 + 9), .ref (g0 + 10), .ref (g0 + 11), .ref (g0 + 12), .ref (g0 + 13), .ref (g0 + 14), .ref (g0 + 15), .int (ix), .ref (g0 + 16), .int (iI (((L : Nat) : Int))), .int (iI (((nd : Nat) : Int))), .ref (g0 + 17), .ref (g0 + 18), .ref (g0 + 19), .int (iI (((od : Nat) : Int))), .int (iI (((hh : Nat) : Int))), .int (bI (op))]) (k := 15) (v := .ref (g0 + 15)) (C := RX6) (T := TX6) (N := 26) hx hb hts inFX6 hown hK hP m0 rfl (by decide) mFX6_55 rfl dX6_find_60 ?_
                refine lv_iload_n hx hb dX6_find_63 rfl (lv_at hl 0 rfl) ?_
                refine fn_lald (k := q) hx hb hK hP 4 m15 rfl (by omega) (by omega) dX6_find_64 ?_
                refine W.lcmp hx hb dX6_find_65 ?_
                refine fn_lif_ne (tgt := 73) hx hb dX6_find_66 (by decide) (fun c19 => ?_) (fun c19 => ?_)
                · refine lv_iconst (v := (iI (((0 : Nat) : Int)))) hx hb dX6_find_73 rfl ?_
                  refine lv_istore_n (lv' := [(2, .int (iI (((0 : Nat) : Int)))), (3, .int (iI (((q : Nat) : Int)))), (1, .int (iI (((i : Nat) : Int)))), (0, .ref (g0))]) hx hb dX6_find_74 rfl hl (by decide) rfl (fun ls hl => ?_)
                  refine lv_iinc (k := 1) (v := (iI (((q + 1 : Nat) : Int)))) (lv' := [(3, .int (iI (((q + 1 : Nat) : Int)))), (2, .int (iI (((0 : Nat) : Int)))), (1, .int (iI (((i : Nat) : Int)))), (0, .ref (g0))]) hx hb dX6_find_75 hl rfl (iI_inc _ 1) (by decide) rfl (fun ls hl => ?_)
                  refine lv_goto (tgt := 40) hx hb dX6_find_78 (by decide) ?_
                  replace hl : lv_has ls 4 [(3, .int (iI (((q + 1 : Nat) : Int)))), (2, .int (bI (mmb stt idx ix kys kyh i (q + 1)))), (1, .int (iI (((i : Nat) : Int)))), (0, .ref (g0))] := by
                    refine ⟨hl.1, hl.2.1, fun q hq => hl.2.2 q ?_⟩
                    simp only [List.mem_cons, List.not_mem_nil, or_false] at hq
                    rcases hq with rfl | rfl | rfl | rfl
                    · exact List.mem_of_getElem? (i := 0) rfl
                    · rw [show mmb stt idx ix kys kyh i (q + 1) = false from (by simp only [mmb, c18, Bool.true_and]; exact decide_eq_false c19)]; exact List.mem_of_getElem? (i := 1) rfl
                    · exact List.mem_of_getElem? (i := 2) rfl
                    · exact List.mem_of_getElem? (i := 3) rfl
                  exact ih40 (q + 1) (by omega)  H locs ls (by omega) hl hP hS
                · refine lv_iconst (v := (iI (((1 : Nat) : Int)))) hx hb dX6_find_69 rfl ?_
                  refine lv_goto (tgt := 74) hx hb dX6_find_70 (by decide) ?_
                  refine lv_istore_n (lv' := [(2, .int (iI (((1 : Nat) : Int)))), (3, .int (iI (((q : Nat) : Int)))), (1, .int (iI (((i : Nat) : Int)))), (0, .ref (g0))]) hx hb dX6_find_74 rfl hl (by decide) rfl (fun ls hl => ?_)
                  refine lv_iinc (k := 1) (v := (iI (((q + 1 : Nat) : Int)))) (lv' := [(3, .int (iI (((q + 1 : Nat) : Int)))), (2, .int (iI (((1 : Nat) : Int)))), (1, .int (iI (((i : Nat) : Int)))), (0, .ref (g0))]) hx hb dX6_find_75 hl rfl (iI_inc _ 1) (by decide) rfl (fun ls hl => ?_)
                  refine lv_goto (tgt := 40) hx hb dX6_find_78 (by decide) ?_
                  replace hl : lv_has ls 4 [(3, .int (iI (((q + 1 : Nat) : Int)))), (2, .int (bI (mmb stt idx ix kys kyh i (q + 1)))), (1, .int (iI (((i : Nat) : Int)))), (0, .ref (g0))] := by
                    refine ⟨hl.1, hl.2.1, fun q hq => hl.2.2 q ?_⟩
                    simp only [List.mem_cons, List.not_mem_nil, or_false] at hq
                    rcases hq with rfl | rfl | rfl | rfl
                    · exact List.mem_of_getElem? (i := 0) rfl
                    · rw [show mmb stt idx ix kys kyh i (q + 1) = true from (by simp only [mmb, c18, Bool.true_and]; exact decide_eq_true c19)]; exact List.mem_of_getElem? (i := 1) rfl
                    · exact List.mem_of_getElem? (i := 2) rfl
                    · exact List.mem_of_getElem? (i := 3) rfl
                  exact ih40 (q + 1) (by omega)  H locs ls (by omega) hl hP hS
          replace hl : lv_has ls 4 [(3, .int (iI (((0 : Nat) : Int)))), (2, .int (bI (mmb stt idx ix kys kyh i 0))), (1, .int (iI (((i : Nat) : Int)))), (0, .ref (g0))] := by
            refine ⟨hl.1, hl.2.1, fun q hq => hl.2.2 q ?_⟩
            simp only [List.mem_cons, List.not_mem_nil, or_false] at hq
            rcases hq with rfl | rfl | rfl | rfl
            · exact List.mem_of_getElem? (i := 0) rfl
            · rw [show mmb stt idx ix kys kyh i 0 = true from (decide_eq_true ⟨by omega, c9⟩)]; exact List.mem_of_getElem? (i := 1) rfl
            · exact List.mem_of_getElem? (i := 2) rfl
            · exact List.mem_of_getElem? (i := 3) rfl
          exact lp15 (0) H locs ls (by omega) hl hP hS
  exact lp1 (0) H locs ls (by omega) hl hP hS
