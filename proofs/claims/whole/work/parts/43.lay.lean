set_option maxHeartbeats 4000000 in
set_option maxRecDepth 100000 in
theorem mm_lay (l : Launch) (D : va_G) (ta : Nat → ClassId) (B n : Nat) (w : fw_W) (g0 : Nat) (U : Nat) (ix : Int32) (L : Nat) (nd : Nat) (od : Nat) (hh : Nat) (op : Bool) (ss : Nat → Nat → Int32) (kp : Nat) (ip : Nat) (x : Int32) (m0 : w (g0) = some (.inr (6, [.int (iI (((U : Nat) : Int))), .ref (g0 + 1), .ref (g0 + 2), .ref (g0 + 3), .ref (g0 + 4), .ref (g0 + 5), .ref (g0 + 6), .ref (g0 + 7), .ref (g0 + 8), .ref (g0 + 9), .ref (g0 + 10), .ref (g0 + 11), .ref (g0 + 12), .ref (g0 + 13), .ref (g0 + 14), .ref (g0 + 15), .int (ix), .ref (g0 + 16), .int (iI (((L : Nat) : Int))), .int (iI (((nd : Nat) : Int))), .ref (g0 + 17), .ref (g0 + 18), .ref (g0 + 19), .int (iI (((od : Nat) : Int))), .int (iI (((hh : Nat) : Int))), .int (bI (op))]))) (m8 : w (g0 + 8) = some (.inl (ta 0, 19800, .inl (ss 0)))) (m9 : w (g0 + 9) = some (.inl (ta 0, 19800, .inl (ss 1)))) (m10 : w (g0 + 10) = some (.inl (ta 0, 19800, .inl (ss 2)))) (m11 : w (g0 + 11) = some (.inl (ta 0, 19800, .inl (ss 3)))) (m12 : w (g0 + 12) = some (.inl (ta 0, 19800, .inl (ss 4)))) (m13 : w (g0 + 13) = some (.inl (ta 0, 19800, .inl (ss 5)))) (m14 : w (g0 + 14) = some (.inl (ta 0, 19800, .inl (ss 6)))) (hk6 : kp < 600) (hi2 : ip < 200) (hx2 : vp_nar .byte x = x) : fw_C l D vwCl (tyL ta) B yX6_lay cX6_lay 5 none ({ frames := 0, cells := 0, slots := 0, locals := 0 } : Room) [.ref (g0), .int (iI (((kp : Nat) : Int))), .int (iI (((ip : Nat) : Int))), .int (x)] n w (fun r w1 n1 => ∃ ss2 : Nat → Nat → Int32, (∀ a b, ss2 a b = if a = kp / 99 ∧ b = 200 * (kp % 99) + ip then x else ss a b) ∧ r = none ∧ w1 = fw_up (fw_up (fw_up (fw_up (fw_up (fw_up (fw_up (w) (g0 + 8) (.inl (ta 0, 19800, .inl (ss2 0)))) (g0 + 9) (.inl (ta 0, 19800, .inl (ss2 1)))) (g0 + 10) (.inl (ta 0, 19800, .inl (ss2 2)))) (g0 + 11) (.inl (ta 0, 19800, .inl (ss2 3)))) (g0 + 12) (.inl (ta 0, 19800, .inl (ss2 4)))) (g0 + 13) (.inl (ta 0, 19800, .inl (ss2 5)))) (g0 + 14) (.inl (ta 0, 19800, .inl (ss2 6))) ∧ n1 = n) := by
  refine fw_enter (by decide) (Nat.le_of_ble_eq_true rfl) ?_
  intro p e s m below meth c hx hb hr hml hown hlocks hin hG hts hK H locs hP hS ls hl
  have hown : s.vm.findClass RX6 = some m.cls := hown
  replace hl : lv_has ls 5 [(0, .ref (g0)), (1, .int (iI (((kp : Nat) : Int)))), (2, .int (iI (((ip : Nat) : Int)))), (3, .int (x))] := hl
  have lt_m0 := hP.lt m0
  have lt_m8 := hP.lt m8
  have lt_m9 := hP.lt m9
  have lt_m10 := hP.lt m10
  have lt_m11 := hP.lt m11
  have lt_m12 := hP.lt m12
  have lt_m13 := hP.lt m13
  have lt_m14 := hP.lt m14
  have hP : fw_P D vwCl B (n) (fw_up (w) (g0 + 8) (.inl (ta 0, 19800, .inl (ss 0)))) H := fw_P.eqw (fw_id m8).symm hP
  have hP : fw_P D vwCl B (n) (fw_up (fw_up (w) (g0 + 8) (.inl (ta 0, 19800, .inl (ss 0)))) (g0 + 9) (.inl (ta 0, 19800, .inl (ss 1)))) H := fw_P.eqw (fw_id (fw_at (by omega) m9)).symm hP
  have hP : fw_P D vwCl B (n) (fw_up (fw_up (fw_up (w) (g0 + 8) (.inl (ta 0, 19800, .inl (ss 0)))) (g0 + 9) (.inl (ta 0, 19800, .inl (ss 1)))) (g0 + 10) (.inl (ta 0, 19800, .inl (ss 2)))) H := fw_P.eqw (fw_id (fw_at (by omega) (fw_at (by omega) m10))).symm hP
  have hP : fw_P D vwCl B (n) (fw_up (fw_up (fw_up (fw_up (w) (g0 + 8) (.inl (ta 0, 19800, .inl (ss 0)))) (g0 + 9) (.inl (ta 0, 19800, .inl (ss 1)))) (g0 + 10) (.inl (ta 0, 19800, .inl (ss 2)))) (g0 + 11) (.inl (ta 0, 19800, .inl (ss 3)))) H := fw_P.eqw (fw_id (fw_at (by omega) (fw_at (by omega) (fw_at (by omega) m11)))).symm hP
  have hP : fw_P D vwCl B (n) (fw_up (fw_up (fw_up (fw_up (fw_up (w) (g0 + 8) (.inl (ta 0, 19800, .inl (ss 0)))) (g0 + 9) (.inl (ta 0, 19800, .inl (ss 1)))) (g0 + 10) (.inl (ta 0, 19800, .inl (ss 2)))) (g0 + 11) (.inl (ta 0, 19800, .inl (ss 3)))) (g0 + 12) (.inl (ta 0, 19800, .inl (ss 4)))) H := fw_P.eqw (fw_id (fw_at (by omega) (fw_at (by omega) (fw_at (by omega) (fw_at (by omega) m12))))).symm hP
  have hP : fw_P D vwCl B (n) (fw_up (fw_up (fw_up (fw_up (fw_up (fw_up (w) (g0 + 8) (.inl (ta 0, 19800, .inl (ss 0)))) (g0 + 9) (.inl (ta 0, 19800, .inl (ss 1)))) (g0 + 10) (.inl (ta 0, 19800, .inl (ss 2)))) (g0 + 11) (.inl (ta 0, 19800, .inl (ss 3)))) (g0 + 12) (.inl (ta 0, 19800, .inl (ss 4)))) (g0 + 13) (.inl (ta 0, 19800, .inl (ss 5)))) H := fw_P.eqw (fw_id (fw_at (by omega) (fw_at (by omega) (fw_at (by omega) (fw_at (by omega) (fw_at (by omega) m13)))))).symm hP
  have hP : fw_P D vwCl B (n) (fw_up (fw_up (fw_up (fw_up (fw_up (fw_up (fw_up (w) (g0 + 8) (.inl (ta 0, 19800, .inl (ss 0)))) (g0 + 9) (.inl (ta 0, 19800, .inl (ss 1)))) (g0 + 10) (.inl (ta 0, 19800, .inl (ss 2)))) (g0 + 11) (.inl (ta 0, 19800, .inl (ss 3)))) (g0 + 12) (.inl (ta 0, 19800, .inl (ss 4)))) (g0 + 13) (.inl (ta 0, 19800, .inl (ss 5)))) (g0 + 14) (.inl (ta 0, 19800, .inl (ss 6)))) H := fw_P.eqw (fw_id (fw_at (by omega) (fw_at (by omega) (fw_at (by omega) (fw_at (by omega) (fw_at (by omega) (fw_at (by omega) m14))))))).symm hP
  refine lv_sipush (v := (iI (((200 : Nat) : Int)))) hx hb dX6_lay_0 (by decide) ?_
  refine lv_iload_n hx hb dX6_lay_3 rfl (lv_at hl 1 rfl) ?_
  refine lv_bipush (v := (iI (((99 : Nat) : Int)))) hx hb dX6_lay_4 (by decide) ?_
  refine fn_irem99 (x := kp) hx hb dX6_lay_6 (by omega) ?_
  refine fn_imul (x := ((200 : Nat) : Int)) (y := ((kp % 99 : Nat) : Int)) hx hb dX6_lay_7 ?_
  refine fn_topz (y := (((200) * (kp % 99) : Nat) : Int)) (by omega) ?_
  refine lv_iload_n hx hb dX6_lay_8 rfl (lv_at hl 2 rfl) ?_
  refine fn_iadd (x := (((200) * (kp % 99) : Nat) : Int)) (y := ((ip : Nat) : Int)) hx hb dX6_lay_9 ?_
  refine fn_topz (y := (((200) * (kp % 99) + ip : Nat) : Int)) (by omega) ?_
  refine lv_istore (lv' := [(4, .int (iI ((((200) * (kp % 99) + ip : Nat) : Int)))), (0, .ref (g0)), (1, .int (iI (((kp : Nat) : Int)))), (2, .int (iI (((ip : Nat) : Int)))), (3, .int (x))]) hx hb dX6_lay_10 hl (by decide) rfl (fun ls hl => ?_)
  refine lv_iload_n hx hb dX6_lay_12 rfl (lv_at hl 2 rfl) ?_
  refine lv_bipush (v := (iI (((99 : Nat) : Int)))) hx hb dX6_lay_13 (by decide) ?_
  refine fn_idiv99 (x := kp) hx hb dX6_lay_15 (by omega) ?_
  have ht : (iI ((kp / 99 : Nat) : Int)).toInt = ((kp / 99 : Nat) : Int) := iI_toInt ⟨by omega, by omega⟩
  have h3 : (kp / 99 : Nat) = 0 ∨ (kp / 99 : Nat) = 1 ∨ (kp / 99 : Nat) = 2 ∨ (kp / 99 : Nat) = 3 ∨ (kp / 99 : Nat) = 4 ∨ (kp / 99 : Nat) = 5 ∨ 5 < (kp / 99 : Nat) := by omega
  rcases h3 with h3 | h3 | h3 | h3 | h3 | h3 | h3
  · refine lv_tableIn (tgt := 56) hx hb dX6_lay_16 (by rw [ht]; omega) (by rw [ht]; omega) (by rw [ht, h3]; rfl) (by decide) ?_
    refine lv_aload_n hx hb dX6_lay_56 rfl (lv_at hl 1 rfl) ?_
    refine fw_get (ci := 6) (fs := [.int (iI (((U : Nat) : Int))), .ref (g0 + 1), .ref (g0 + 2), .ref (g0 + 3), .ref (g0 + 4), .ref (g0 + 5), .ref (g0 + 6), .ref (g0 + 7), .ref (g0 + 8), .ref (g0 + 9), .ref (g0 + 10), .ref (g0 + 11), .ref (g0 + 12), .ref (g0 + 13), .ref (g0 + 14), .ref (g0 + 15), .int (ix), .ref (g0 + 16), .int (iI (((L : Nat) : Int))), .int (iI (((nd : Nat) : Int))), .ref (g0 + 17), .ref (g0 + 18), .ref (g0 + 19), .int (iI (((od : Nat) : Int))), .int (iI (((hh : Nat) : Int))), .int (bI (op))]) (k := 8) (v := .ref (g0 + 8)) (C := RX6) (T := TX6) (N := 26) hx hb hts inFX6 hown hK hP (fw_at (by omega) (fw_at (by omega) (fw_at (by omega) (fw_at (by omega) (fw_at (by omega) (fw_at (by omega) (fw_at (by omega) m0))))))) rfl (by decide) mFX6_33 rfl dX6_lay_57 ?_
    refine lv_iload hx hb dX6_lay_60 (lv_at hl 0 rfl) ?_
    refine lv_iload_n hx hb dX6_lay_62 rfl (lv_at hl 4 rfl) ?_
    refine fn_bast (x := (x)) (k := (200) * (kp % 99) + ip) hx hb hK hP hS 0 (fw_at (by omega) (fw_at (by omega) (fw_at (by omega) (fw_at (by omega) (fw_at (by omega) (fw_at (by omega) (fw_same _ _ _))))))) rfl (by omega) (by omega) hx2 dX6_lay_63 (fun H locs hP hS => ?_)
    have hP : fw_P D vwCl B (n) (fw_up (fw_up (fw_up (fw_up (fw_up (fw_up (fw_up (w) (g0 + 8) (.inl (ta 0, 19800, .inl (upd (ss 0) ((200) * (kp % 99) + ip) (x))))) (g0 + 9) (.inl (ta 0, 19800, .inl (ss 1)))) (g0 + 10) (.inl (ta 0, 19800, .inl (ss 2)))) (g0 + 11) (.inl (ta 0, 19800, .inl (ss 3)))) (g0 + 12) (.inl (ta 0, 19800, .inl (ss 4)))) (g0 + 13) (.inl (ta 0, 19800, .inl (ss 5)))) (g0 + 14) (.inl (ta 0, 19800, .inl (ss 6)))) H := fw_P.eqw (fw_swap (by omega) (fw_swap (by omega) (fw_swap (by omega) (fw_swap (by omega) (fw_swap (by omega) (fw_swap (by omega) (fw_twice _ _ _ _))))))) hP
    refine lv_goto (tgt := 130) hx hb dX6_lay_64 (by decide) ?_
    exact fw_vret hx hb hr hlocks hP hS dX6_lay_130 (Nat.le_of_ble_eq_true rfl) (Nat.le_of_ble_eq_true rfl) (by
      have hqe : kp / 99 = 0 := by omega
      refine ⟨gup ss 0 (upd (ss 0) (200 * (kp % 99) + ip) x), fun a b => ?_, rfl, rfl, rfl⟩
      rw [hqe]
      by_cases ha : a = 0
      · subst ha
        rw [gup_same]
        by_cases hb : b = 200 * (kp % 99) + ip
        · subst hb; simp [upd]
        · simp [upd, hb]
      · rw [gup_ne ha]; simp [ha])
  · refine lv_tableIn (tgt := 67) hx hb dX6_lay_16 (by rw [ht]; omega) (by rw [ht]; omega) (by rw [ht, h3]; rfl) (by decide) ?_
    refine lv_aload_n hx hb dX6_lay_67 rfl (lv_at hl 1 rfl) ?_
    refine fw_get (ci := 6) (fs := [.int (iI (((U : Nat) : Int))), .ref (g0 + 1), .ref (g0 + 2), .ref (g0 + 3), .ref (g0 + 4), .ref (g0 + 5), .ref (g0 + 6), .ref (g0 + 7), .ref (g0 + 8), .ref (g0 + 9), .ref (g0 + 10), .ref (g0 + 11), .ref (g0 + 12), .ref (g0 + 13), .ref (g0 + 14), .ref (g0 + 15), .int (ix), .ref (g0 + 16), .int (iI (((L : Nat) : Int))), .int (iI (((nd : Nat) : Int))), .ref (g0 + 17), .ref (g0 + 18), .ref (g0 + 19), .int (iI (((od : Nat) : Int))), .int (iI (((hh : Nat) : Int))), .int (bI (op))]) (k := 9) (v := .ref (g0 + 9)) (C := RX6) (T := TX6) (N := 26) hx hb hts inFX6 hown hK hP (fw_at (by omega) (fw_at (by omega) (fw_at (by omega) (fw_at (by omega) (fw_at (by omega) (fw_at (by omega) (fw_at (by omega) m0))))))) rfl (by decide) mFX6_37 rfl dX6_lay_68 ?_
    refine lv_iload hx hb dX6_lay_71 (lv_at hl 0 rfl) ?_
    refine lv_iload_n hx hb dX6_lay_73 rfl (lv_at hl 4 rfl) ?_
    refine fn_bast (x := (x)) (k := (200) * (kp % 99) + ip) hx hb hK hP hS 0 (fw_at (by omega) (fw_at (by omega) (fw_at (by omega) (fw_at (by omega) (fw_at (by omega) (fw_same _ _ _)))))) rfl (by omega) (by omega) hx2 dX6_lay_74 (fun H locs hP hS => ?_)
    have hP : fw_P D vwCl B (n) (fw_up (fw_up (fw_up (fw_up (fw_up (fw_up (fw_up (w) (g0 + 8) (.inl (ta 0, 19800, .inl (ss 0)))) (g0 + 9) (.inl (ta 0, 19800, .inl (upd (ss 1) ((200) * (kp % 99) + ip) (x))))) (g0 + 10) (.inl (ta 0, 19800, .inl (ss 2)))) (g0 + 11) (.inl (ta 0, 19800, .inl (ss 3)))) (g0 + 12) (.inl (ta 0, 19800, .inl (ss 4)))) (g0 + 13) (.inl (ta 0, 19800, .inl (ss 5)))) (g0 + 14) (.inl (ta 0, 19800, .inl (ss 6)))) H := fw_P.eqw (fw_swap (by omega) (fw_swap (by omega) (fw_swap (by omega) (fw_swap (by omega) (fw_swap (by omega) (fw_twice _ _ _ _)))))) hP
    refine lv_goto (tgt := 130) hx hb dX6_lay_75 (by decide) ?_
    exact fw_vret hx hb hr hlocks hP hS dX6_lay_130 (Nat.le_of_ble_eq_true rfl) (Nat.le_of_ble_eq_true rfl) (by
      have hqe : kp / 99 = 1 := by omega
      refine ⟨gup ss 1 (upd (ss 1) (200 * (kp % 99) + ip) x), fun a b => ?_, rfl, rfl, rfl⟩
      rw [hqe]
      by_cases ha : a = 1
      · subst ha
        rw [gup_same]
        by_cases hb : b = 200 * (kp % 99) + ip
        · subst hb; simp [upd]
        · simp [upd, hb]
      · rw [gup_ne ha]; simp [ha])
  · refine lv_tableIn (tgt := 78) hx hb dX6_lay_16 (by rw [ht]; omega) (by rw [ht]; omega) (by rw [ht, h3]; rfl) (by decide) ?_
    refine lv_aload_n hx hb dX6_lay_78 rfl (lv_at hl 1 rfl) ?_
    refine fw_get (ci := 6) (fs := [.int (iI (((U : Nat) : Int))), .ref (g0 + 1), .ref (g0 + 2), .ref (g0 + 3), .ref (g0 + 4), .ref (g0 + 5), .ref (g0 + 6), .ref (g0 + 7), .ref (g0 + 8), .ref (g0 + 9), .ref (g0 + 10), .ref (g0 + 11), .ref (g0 + 12), .ref (g0 + 13), .ref (g0 + 14), .ref (g0 + 15), .int (ix), .ref (g0 + 16), .int (iI (((L : Nat) : Int))), .int (iI (((nd : Nat) : Int))), .ref (g0 + 17), .ref (g0 + 18), .ref (g0 + 19), .int (iI (((od : Nat) : Int))), .int (iI (((hh : Nat) : Int))), .int (bI (op))]) (k := 10) (v := .ref (g0 + 10)) (C := RX6) (T := TX6) (N := 26) hx hb hts inFX6 hown hK hP (fw_at (by omega) (fw_at (by omega) (fw_at (by omega) (fw_at (by omega) (fw_at (by omega) (fw_at (by omega) (fw_at (by omega) m0))))))) rfl (by decide) mFX6_40 rfl dX6_lay_79 ?_
    refine lv_iload hx hb dX6_lay_82 (lv_at hl 0 rfl) ?_
    refine lv_iload_n hx hb dX6_lay_84 rfl (lv_at hl 4 rfl) ?_
    refine fn_bast (x := (x)) (k := (200) * (kp % 99) + ip) hx hb hK hP hS 0 (fw_at (by omega) (fw_at (by omega) (fw_at (by omega) (fw_at (by omega) (fw_same _ _ _))))) rfl (by omega) (by omega) hx2 dX6_lay_85 (fun H locs hP hS => ?_)
    have hP : fw_P D vwCl B (n) (fw_up (fw_up (fw_up (fw_up (fw_up (fw_up (fw_up (w) (g0 + 8) (.inl (ta 0, 19800, .inl (ss 0)))) (g0 + 9) (.inl (ta 0, 19800, .inl (ss 1)))) (g0 + 10) (.inl (ta 0, 19800, .inl (upd (ss 2) ((200) * (kp % 99) + ip) (x))))) (g0 + 11) (.inl (ta 0, 19800, .inl (ss 3)))) (g0 + 12) (.inl (ta 0, 19800, .inl (ss 4)))) (g0 + 13) (.inl (ta 0, 19800, .inl (ss 5)))) (g0 + 14) (.inl (ta 0, 19800, .inl (ss 6)))) H := fw_P.eqw (fw_swap (by omega) (fw_swap (by omega) (fw_swap (by omega) (fw_swap (by omega) (fw_twice _ _ _ _))))) hP
    refine lv_goto (tgt := 130) hx hb dX6_lay_86 (by decide) ?_
    exact fw_vret hx hb hr hlocks hP hS dX6_lay_130 (Nat.le_of_ble_eq_true rfl) (Nat.le_of_ble_eq_true rfl) (by
      have hqe : kp / 99 = 2 := by omega
      refine ⟨gup ss 2 (upd (ss 2) (200 * (kp % 99) + ip) x), fun a b => ?_, rfl, rfl, rfl⟩
      rw [hqe]
      by_cases ha : a = 2
      · subst ha
        rw [gup_same]
        by_cases hb : b = 200 * (kp % 99) + ip
        · subst hb; simp [upd]
        · simp [upd, hb]
      · rw [gup_ne ha]; simp [ha])
  · refine lv_tableIn (tgt := 89) hx hb dX6_lay_16 (by rw [ht]; omega) (by rw [ht]; omega) (by rw [ht, h3]; rfl) (by decide) ?_
    refine lv_aload_n hx hb dX6_lay_89 rfl (lv_at hl 1 rfl) ?_
    refine fw_get (ci := 6) (fs := [.int (iI (((U : Nat) : Int))), .ref (g0 + 1), .ref (g0 + 2), .ref (g0 + 3), .ref (g0 + 4), .ref (g0 + 5), .ref (g0 + 6), .ref (g0 + 7), .ref (g0 + 8), .ref (g0 + 9), .ref (g0 + 10), .ref (g0 + 11), .ref (g0 + 12), .ref (g0 + 13), .ref (g0 + 14), .ref (g0 + 15), .int (ix), .ref (g0 + 16), .int (iI (((L : Nat) : Int))), .int (iI (((nd : Nat) : Int))), .ref (g0 + 17), .ref (g0 + 18), .ref (g0 + 19), .int (iI (((od : Nat) : Int))), .int (iI (((hh : Nat) : Int))), .int (bI (op))]) (k := 11) (v := .ref (g0 + 11)) (C := RX6) (T := TX6) (N := 26) hx hb hts inFX6 hown hK hP (fw_at (by omega) (fw_at (by omega) (fw_at (by omega) (fw_at (by omega) (fw_at (by omega) (fw_at (by omega) (fw_at (by omega) m0))))))) rfl (by decide) mFX6_43 rfl dX6_lay_90 ?_
    refine lv_iload hx hb dX6_lay_93 (lv_at hl 0 rfl) ?_
    refine lv_iload_n hx hb dX6_lay_95 rfl (lv_at hl 4 rfl) ?_
    refine fn_bast (x := (x)) (k := (200) * (kp % 99) + ip) hx hb hK hP hS 0 (fw_at (by omega) (fw_at (by omega) (fw_at (by omega) (fw_same _ _ _)))) rfl (by omega) (by omega) hx2 dX6_lay_96 (fun H locs hP hS => ?_)
    have hP : fw_P D vwCl B (n) (fw_up (fw_up (fw_up (fw_up (fw_up (fw_up (fw_up (w) (g0 + 8) (.inl (ta 0, 19800, .inl (ss 0)))) (g0 + 9) (.inl (ta 0, 19800, .inl (ss 1)))) (g0 + 10) (.inl (ta 0, 19800, .inl (ss 2)))) (g0 + 11) (.inl (ta 0, 19800, .inl (upd (ss 3) ((200) * (kp % 99) + ip) (x))))) (g0 + 12) (.inl (ta 0, 19800, .inl (ss 4)))) (g0 + 13) (.inl (ta 0, 19800, .inl (ss 5)))) (g0 + 14) (.inl (ta 0, 19800, .inl (ss 6)))) H := fw_P.eqw (fw_swap (by omega) (fw_swap (by omega) (fw_swap (by omega) (fw_twice _ _ _ _)))) hP
    refine lv_goto (tgt := 130) hx hb dX6_lay_97 (by decide) ?_
    exact fw_vret hx hb hr hlocks hP hS dX6_lay_130 (Nat.le_of_ble_eq_true rfl) (Nat.le_of_ble_eq_true rfl) (by
      have hqe : kp / 99 = 3 := by omega
      refine ⟨gup ss 3 (upd (ss 3) (200 * (kp % 99) + ip) x), fun a b => ?_, rfl, rfl, rfl⟩
      rw [hqe]
      by_cases ha : a = 3
      · subst ha
        rw [gup_same]
        by_cases hb : b = 200 * (kp % 99) + ip
        · subst hb; simp [upd]
        · simp [upd, hb]
      · rw [gup_ne ha]; simp [ha])
  · refine lv_tableIn (tgt := 100) hx hb dX6_lay_16 (by rw [ht]; omega) (by rw [ht]; omega) (by rw [ht, h3]; rfl) (by decide) ?_
    refine lv_aload_n hx hb dX6_lay_100 rfl (lv_at hl 1 rfl) ?_
    refine fw_get (ci := 6) (fs := [.int (iI (((U : Nat) : Int))), .ref (g0 + 1), .ref (g0 + 2), .ref (g0 + 3), .ref (g0 + 4), .ref (g0 + 5), .ref (g0 + 6), .ref (g0 + 7), .ref (g0 + 8), .ref (g0 + 9), .ref (g0 + 10), .ref (g0 + 11), .ref (g0 + 12), .ref (g0 + 13), .ref (g0 + 14), .ref (g0 + 15), .int (ix), .ref (g0 + 16), .int (iI (((L : Nat) : Int))), .int (iI (((nd : Nat) : Int))), .ref (g0 + 17), .ref (g0 + 18), .ref (g0 + 19), .int (iI (((od : Nat) : Int))), .int (iI (((hh : Nat) : Int))), .int (bI (op))]) (k := 12) (v := .ref (g0 + 12)) (C := RX6) (T := TX6) (N := 26) hx hb hts inFX6 hown hK hP (fw_at (by omega) (fw_at (by omega) (fw_at (by omega) (fw_at (by omega) (fw_at (by omega) (fw_at (by omega) (fw_at (by omega) m0))))))) rfl (by decide) mFX6_46 rfl dX6_lay_101 ?_
    refine lv_iload hx hb dX6_lay_104 (lv_at hl 0 rfl) ?_
    refine lv_iload_n hx hb dX6_lay_106 rfl (lv_at hl 4 rfl) ?_
    refine fn_bast (x := (x)) (k := (200) * (kp % 99) + ip) hx hb hK hP hS 0 (fw_at (by omega) (fw_at (by omega) (fw_same _ _ _))) rfl (by omega) (by omega) hx2 dX6_lay_107 (fun H locs hP hS => ?_)
    have hP : fw_P D vwCl B (n) (fw_up (fw_up (fw_up (fw_up (fw_up (fw_up (fw_up (w) (g0 + 8) (.inl (ta 0, 19800, .inl (ss 0)))) (g0 + 9) (.inl (ta 0, 19800, .inl (ss 1)))) (g0 + 10) (.inl (ta 0, 19800, .inl (ss 2)))) (g0 + 11) (.inl (ta 0, 19800, .inl (ss 3)))) (g0 + 12) (.inl (ta 0, 19800, .inl (upd (ss 4) ((200) * (kp % 99) + ip) (x))))) (g0 + 13) (.inl (ta 0, 19800, .inl (ss 5)))) (g0 + 14) (.inl (ta 0, 19800, .inl (ss 6)))) H := fw_P.eqw (fw_swap (by omega) (fw_swap (by omega) (fw_twice _ _ _ _))) hP
    refine lv_goto (tgt := 130) hx hb dX6_lay_108 (by decide) ?_
    exact fw_vret hx hb hr hlocks hP hS dX6_lay_130 (Nat.le_of_ble_eq_true rfl) (Nat.le_of_ble_eq_true rfl) (by
      have hqe : kp / 99 = 4 := by omega
      refine ⟨gup ss 4 (upd (ss 4) (200 * (kp % 99) + ip) x), fun a b => ?_, rfl, rfl, rfl⟩
      rw [hqe]
      by_cases ha : a = 4
      · subst ha
        rw [gup_same]
        by_cases hb : b = 200 * (kp % 99) + ip
        · subst hb; simp [upd]
        · simp [upd, hb]
      · rw [gup_ne ha]; simp [ha])
  · refine lv_tableIn (tgt := 111) hx hb dX6_lay_16 (by rw [ht]; omega) (by rw [ht]; omega) (by rw [ht, h3]; rfl) (by decide) ?_
    refine lv_aload_n hx hb dX6_lay_111 rfl (lv_at hl 1 rfl) ?_
    refine fw_get (ci := 6) (fs := [.int (iI (((U : Nat) : Int))), .ref (g0 + 1), .ref (g0 + 2), .ref (g0 + 3), .ref (g0 + 4), .ref (g0 + 5), .ref (g0 + 6), .ref (g0 + 7), .ref (g0 + 8), .ref (g0 + 9), .ref (g0 + 10), .ref (g0 + 11), .ref (g0 + 12), .ref (g0 + 13), .ref (g0 + 14), .ref (g0 + 15), .int (ix), .ref (g0 + 16), .int (iI (((L : Nat) : Int))), .int (iI (((nd : Nat) : Int))), .ref (g0 + 17), .ref (g0 + 18), .ref (g0 + 19), .int (iI (((od : Nat) : Int))), .int (iI (((hh : Nat) : Int))), .int (bI (op))]) (k := 13) (v := .ref (g0 + 13)) (C := RX6) (T := TX6) (N := 26) hx hb hts inFX6 hown hK hP (fw_at (by omega) (fw_at (by omega) (fw_at (by omega) (fw_at (by omega) (fw_at (by omega) (fw_at (by omega) (fw_at (by omega) m0))))))) rfl (by decide) mFX6_49 rfl dX6_lay_112 ?_
    refine lv_iload hx hb dX6_lay_115 (lv_at hl 0 rfl) ?_
    refine lv_iload_n hx hb dX6_lay_117 rfl (lv_at hl 4 rfl) ?_
    refine fn_bast (x := (x)) (k := (200) * (kp % 99) + ip) hx hb hK hP hS 0 (fw_at (by omega) (fw_same _ _ _)) rfl (by omega) (by omega) hx2 dX6_lay_118 (fun H locs hP hS => ?_)
    have hP : fw_P D vwCl B (n) (fw_up (fw_up (fw_up (fw_up (fw_up (fw_up (fw_up (w) (g0 + 8) (.inl (ta 0, 19800, .inl (ss 0)))) (g0 + 9) (.inl (ta 0, 19800, .inl (ss 1)))) (g0 + 10) (.inl (ta 0, 19800, .inl (ss 2)))) (g0 + 11) (.inl (ta 0, 19800, .inl (ss 3)))) (g0 + 12) (.inl (ta 0, 19800, .inl (ss 4)))) (g0 + 13) (.inl (ta 0, 19800, .inl (upd (ss 5) ((200) * (kp % 99) + ip) (x))))) (g0 + 14) (.inl (ta 0, 19800, .inl (ss 6)))) H := fw_P.eqw (fw_swap (by omega) (fw_twice _ _ _ _)) hP
    refine lv_goto (tgt := 130) hx hb dX6_lay_119 (by decide) ?_
    exact fw_vret hx hb hr hlocks hP hS dX6_lay_130 (Nat.le_of_ble_eq_true rfl) (Nat.le_of_ble_eq_true rfl) (by
      have hqe : kp / 99 = 5 := by omega
      refine ⟨gup ss 5 (upd (ss 5) (200 * (kp % 99) + ip) x), fun a b => ?_, rfl, rfl, rfl⟩
      rw [hqe]
      by_cases ha : a = 5
      · subst ha
        rw [gup_same]
        by_cases hb : b = 200 * (kp % 99) + ip
        · subst hb; simp [upd]
        · simp [upd, hb]
      · rw [gup_ne ha]; simp [ha])
  · refine lv_tableOut (tgt := 122) hx hb dX6_lay_16 (Or.inr (by rw [ht]; omega)) (by decide) ?_
    refine lv_aload_n hx hb dX6_lay_122 rfl (lv_at hl 1 rfl) ?_
    refine fw_get (ci := 6) (fs := [.int (iI (((U : Nat) : Int))), .ref (g0 + 1), .ref (g0 + 2), .ref (g0 + 3), .ref (g0 + 4), .ref (g0 + 5), .ref (g0 + 6), .ref (g0 + 7), .ref (g0 + 8), .ref (g0 + 9), .ref (g0 + 10), .ref (g0 + 11), .ref (g0 + 12), .ref (g0 + 13), .ref (g0 + 14), .ref (g0 + 15), .int (ix), .ref (g0 + 16), .int (iI (((L : Nat) : Int))), .int (iI (((nd : Nat) : Int))), .ref (g0 + 17), .ref (g0 + 18), .ref (g0 + 19), .int (iI (((od : Nat) : Int))), .int (iI (((hh : Nat) : Int))), .int (bI (op))]) (k := 14) (v := .ref (g0 + 14)) (C := RX6) (T := TX6) (N := 26) hx hb hts inFX6 hown hK hP (fw_at (by omega) (fw_at (by omega) (fw_at (by omega) (fw_at (by omega) (fw_at (by omega) (fw_at (by omega) (fw_at (by omega) m0))))))) rfl (by decide) mFX6_52 rfl dX6_lay_123 ?_
    refine lv_iload hx hb dX6_lay_126 (lv_at hl 0 rfl) ?_
    refine lv_iload_n hx hb dX6_lay_128 rfl (lv_at hl 4 rfl) ?_
    refine fn_bast (x := (x)) (k := (200) * (kp % 99) + ip) hx hb hK hP hS 0 (fw_same _ _ _) rfl (by omega) (by omega) hx2 dX6_lay_129 (fun H locs hP hS => ?_)
    have hP : fw_P D vwCl B (n) (fw_up (fw_up (fw_up (fw_up (fw_up (fw_up (fw_up (w) (g0 + 8) (.inl (ta 0, 19800, .inl (ss 0)))) (g0 + 9) (.inl (ta 0, 19800, .inl (ss 1)))) (g0 + 10) (.inl (ta 0, 19800, .inl (ss 2)))) (g0 + 11) (.inl (ta 0, 19800, .inl (ss 3)))) (g0 + 12) (.inl (ta 0, 19800, .inl (ss 4)))) (g0 + 13) (.inl (ta 0, 19800, .inl (ss 5)))) (g0 + 14) (.inl (ta 0, 19800, .inl (upd (ss 6) ((200) * (kp % 99) + ip) (x))))) H := fw_P.eqw (fw_twice _ _ _ _) hP
    exact fw_vret hx hb hr hlocks hP hS dX6_lay_130 (Nat.le_of_ble_eq_true rfl) (Nat.le_of_ble_eq_true rfl) (by
      have hqe : kp / 99 = 6 := by omega
      refine ⟨gup ss 6 (upd (ss 6) (200 * (kp % 99) + ip) x), fun a b => ?_, rfl, rfl, rfl⟩
      rw [hqe]
      by_cases ha : a = 6
      · subst ha
        rw [gup_same]
        by_cases hb : b = 200 * (kp % 99) + ip
        · subst hb; simp [upd]
        · simp [upd, hb]
      · rw [gup_ne ha]; simp [ha])
set_option maxHeartbeats 4000000 in
set_option maxRecDepth 100000 in
theorem mm_byteAt (l : Launch) (D : va_G) (ta : Nat → ClassId) (B n : Nat) (w : fw_W) (g0 : Nat) (U : Nat) (ix : Int32) (L : Nat) (nd : Nat) (od : Nat) (hh : Nat) (op : Bool) (ss : Nat → Nat → Int32) (kp : Nat) (ip : Nat) (m0 : w (g0) = some (.inr (6, [.int (iI (((U : Nat) : Int))), .ref (g0 + 1), .ref (g0 + 2), .ref (g0 + 3), .ref (g0 + 4), .ref (g0 + 5), .ref (g0 + 6), .ref (g0 + 7), .ref (g0 + 8), .ref (g0 + 9), .ref (g0 + 10), .ref (g0 + 11), .ref (g0 + 12), .ref (g0 + 13), .ref (g0 + 14), .ref (g0 + 15), .int (ix), .ref (g0 + 16), .int (iI (((L : Nat) : Int))), .int (iI (((nd : Nat) : Int))), .ref (g0 + 17), .ref (g0 + 18), .ref (g0 + 19), .int (iI (((od : Nat) : Int))), .int (iI (((hh : Nat) : Int))), .int (bI (op))]))) (m8 : w (g0 + 8) = some (.inl (ta 0, 19800, .inl (ss 0)))) (m9 : w (g0 + 9) = some (.inl (ta 0, 19800, .inl (ss 1)))) (m10 : w (g0 + 10) = some (.inl (ta 0, 19800, .inl (ss 2)))) (m11 : w (g0 + 11) = some (.inl (ta 0, 19800, .inl (ss 3)))) (m12 : w (g0 + 12) = some (.inl (ta 0, 19800, .inl (ss 4)))) (m13 : w (g0 + 13) = some (.inl (ta 0, 19800, .inl (ss 5)))) (m14 : w (g0 + 14) = some (.inl (ta 0, 19800, .inl (ss 6)))) (hk6 : kp < 600) (hi2 : ip < 200) : fw_C l D vwCl (tyL ta) B yX6_byteAt cX6_byteAt 4 (some .int) ({ frames := 0, cells := 0, slots := 0, locals := 0 } : Room) [.ref (g0), .int (iI (((kp : Nat) : Int))), .int (iI (((ip : Nat) : Int)))] n w (fun r w1 n1 => r = some (.int (mget ss kp ip &&& iI ((255 : Nat) : Int))) ∧ w1 = w ∧ n1 = n) := by
  refine fw_enter (by decide) (Nat.le_of_ble_eq_true rfl) ?_
  intro p e s m below meth c hx hb hr hml hown hlocks hin hG hts hK H locs hP hS ls hl
  have hown : s.vm.findClass RX6 = some m.cls := hown
  replace hl : lv_has ls 4 [(0, .ref (g0)), (1, .int (iI (((kp : Nat) : Int)))), (2, .int (iI (((ip : Nat) : Int))))] := hl
  have lt_m0 := hP.lt m0
  have lt_m8 := hP.lt m8
  have lt_m9 := hP.lt m9
  have lt_m10 := hP.lt m10
  have lt_m11 := hP.lt m11
  have lt_m12 := hP.lt m12
  have lt_m13 := hP.lt m13
  have lt_m14 := hP.lt m14
  refine lv_sipush (v := (iI (((200 : Nat) : Int)))) hx hb dX6_byteAt_0 (by decide) ?_
  refine lv_iload_n hx hb dX6_byteAt_3 rfl (lv_at hl 1 rfl) ?_
  refine lv_bipush (v := (iI (((99 : Nat) : Int)))) hx hb dX6_byteAt_4 (by decide) ?_
  refine fn_irem99 (x := kp) hx hb dX6_byteAt_6 (by omega) ?_
  refine fn_imul (x := ((200 : Nat) : Int)) (y := ((kp % 99 : Nat) : Int)) hx hb dX6_byteAt_7 ?_
  refine fn_topz (y := (((200) * (kp % 99) : Nat) : Int)) (by omega) ?_
  refine lv_iload_n hx hb dX6_byteAt_8 rfl (lv_at hl 2 rfl) ?_
  refine fn_iadd (x := (((200) * (kp % 99) : Nat) : Int)) (y := ((ip : Nat) : Int)) hx hb dX6_byteAt_9 ?_
  refine fn_topz (y := (((200) * (kp % 99) + ip : Nat) : Int)) (by omega) ?_
  refine lv_istore_n (lv' := [(3, .int (iI ((((200) * (kp % 99) + ip : Nat) : Int)))), (0, .ref (g0)), (1, .int (iI (((kp : Nat) : Int)))), (2, .int (iI (((ip : Nat) : Int))))]) hx hb dX6_byteAt_10 rfl hl (by decide) rfl (fun ls hl => ?_)
  refine lv_iload_n hx hb dX6_byteAt_11 rfl (lv_at hl 2 rfl) ?_
  refine lv_bipush (v := (iI (((99 : Nat) : Int)))) hx hb dX6_byteAt_12 (by decide) ?_
  refine fn_idiv99 (x := kp) hx hb dX6_byteAt_14 (by omega) ?_
  have ht : (iI ((kp / 99 : Nat) : Int)).toInt = ((kp / 99 : Nat) : Int) := iI_toInt ⟨by omega, by omega⟩
  have h3 : (kp / 99 : Nat) = 0 ∨ (kp / 99 : Nat) = 1 ∨ (kp / 99 : Nat) = 2 ∨ (kp / 99 : Nat) = 3 ∨ (kp / 99 : Nat) = 4 ∨ (kp / 99 : Nat) = 5 ∨ 5 < (kp / 99 : Nat) := by omega
  rcases h3 with h3 | h3 | h3 | h3 | h3 | h3 | h3
  · refine lv_tableIn (tgt := 52) hx hb dX6_byteAt_15 (by rw [ht]; omega) (by rw [ht]; omega) (by rw [ht, h3]; rfl) (by decide) ?_
    refine lv_aload_n hx hb dX6_byteAt_52 rfl (lv_at hl 1 rfl) ?_
    refine fw_get (ci := 6) (fs := [.int (iI (((U : Nat) : Int))), .ref (g0 + 1), .ref (g0 + 2), .ref (g0 + 3), .ref (g0 + 4), .ref (g0 + 5), .ref (g0 + 6), .ref (g0 + 7), .ref (g0 + 8), .ref (g0 + 9), .ref (g0 + 10), .ref (g0 + 11), .ref (g0 + 12), .ref (g0 + 13), .ref (g0 + 14), .ref (g0 + 15), .int (ix), .ref (g0 + 16), .int (iI (((L : Nat) : Int))), .int (iI (((nd : Nat) : Int))), .ref (g0 + 17), .ref (g0 + 18), .ref (g0 + 19), .int (iI (((od : Nat) : Int))), .int (iI (((hh : Nat) : Int))), .int (bI (op))]) (k := 8) (v := .ref (g0 + 8)) (C := RX6) (T := TX6) (N := 26) hx hb hts inFX6 hown hK hP m0 rfl (by decide) mFX6_33 rfl dX6_byteAt_53 ?_
    refine lv_iload_n hx hb dX6_byteAt_56 rfl (lv_at hl 0 rfl) ?_
    refine fn_bald (k := (200) * (kp % 99) + ip) hx hb hK hP 0 m8 rfl (by omega) (by omega) dX6_byteAt_57 ?_
    refine lv_sipush (v := (iI (((255 : Nat) : Int)))) hx hb dX6_byteAt_58 (by decide) ?_
    refine lv_iand hx hb dX6_byteAt_61 ?_
    exact fw_iret hx hb hr hlocks hP hS dX6_byteAt_62 (Nat.le_of_ble_eq_true rfl) (Nat.le_of_ble_eq_true rfl) (by
      have hqe : kp / 99 = 0 := by omega
      refine ⟨?_, rfl, rfl⟩
      unfold mget
      rw [hqe])
  · refine lv_tableIn (tgt := 63) hx hb dX6_byteAt_15 (by rw [ht]; omega) (by rw [ht]; omega) (by rw [ht, h3]; rfl) (by decide) ?_
    refine lv_aload_n hx hb dX6_byteAt_63 rfl (lv_at hl 1 rfl) ?_
    refine fw_get (ci := 6) (fs := [.int (iI (((U : Nat) : Int))), .ref (g0 + 1), .ref (g0 + 2), .ref (g0 + 3), .ref (g0 + 4), .ref (g0 + 5), .ref (g0 + 6), .ref (g0 + 7), .ref (g0 + 8), .ref (g0 + 9), .ref (g0 + 10), .ref (g0 + 11), .ref (g0 + 12), .ref (g0 + 13), .ref (g0 + 14), .ref (g0 + 15), .int (ix), .ref (g0 + 16), .int (iI (((L : Nat) : Int))), .int (iI (((nd : Nat) : Int))), .ref (g0 + 17), .ref (g0 + 18), .ref (g0 + 19), .int (iI (((od : Nat) : Int))), .int (iI (((hh : Nat) : Int))), .int (bI (op))]) (k := 9) (v := .ref (g0 + 9)) (C := RX6) (T := TX6) (N := 26) hx hb hts inFX6 hown hK hP m0 rfl (by decide) mFX6_37 rfl dX6_byteAt_64 ?_
    refine lv_iload_n hx hb dX6_byteAt_67 rfl (lv_at hl 0 rfl) ?_
    refine fn_bald (k := (200) * (kp % 99) + ip) hx hb hK hP 0 m9 rfl (by omega) (by omega) dX6_byteAt_68 ?_
    refine lv_sipush (v := (iI (((255 : Nat) : Int)))) hx hb dX6_byteAt_69 (by decide) ?_
    refine lv_iand hx hb dX6_byteAt_72 ?_
    exact fw_iret hx hb hr hlocks hP hS dX6_byteAt_73 (Nat.le_of_ble_eq_true rfl) (Nat.le_of_ble_eq_true rfl) (by
      have hqe : kp / 99 = 1 := by omega
      refine ⟨?_, rfl, rfl⟩
      unfold mget
      rw [hqe])
  · refine lv_tableIn (tgt := 74) hx hb dX6_byteAt_15 (by rw [ht]; omega) (by rw [ht]; omega) (by rw [ht, h3]; rfl) (by decide) ?_
    refine lv_aload_n hx hb dX6_byteAt_74 rfl (lv_at hl 1 rfl) ?_
    refine fw_get (ci := 6) (fs := [.int (iI (((U : Nat) : Int))), .ref (g0 + 1), .ref (g0 + 2), .ref (g0 + 3), .ref (g0 + 4), .ref (g0 + 5), .ref (g0 + 6), .ref (g0 + 7), .ref (g0 + 8), .ref (g0 + 9), .ref (g0 + 10), .ref (g0 + 11), .ref (g0 + 12), .ref (g0 + 13), .ref (g0 + 14), .ref (g0 + 15), .int (ix), .ref (g0 + 16), .int (iI (((L : Nat) : Int))), .int (iI (((nd : Nat) : Int))), .ref (g0 + 17), .ref (g0 + 18), .ref (g0 + 19), .int (iI (((od : Nat) : Int))), .int (iI (((hh : Nat) : Int))), .int (bI (op))]) (k := 10) (v := .ref (g0 + 10)) (C := RX6) (T := TX6) (N := 26) hx hb hts inFX6 hown hK hP m0 rfl (by decide) mFX6_40 rfl dX6_byteAt_75 ?_
    refine lv_iload_n hx hb dX6_byteAt_78 rfl (lv_at hl 0 rfl) ?_
    refine fn_bald (k := (200) * (kp % 99) + ip) hx hb hK hP 0 m10 rfl (by omega) (by omega) dX6_byteAt_79 ?_
    refine lv_sipush (v := (iI (((255 : Nat) : Int)))) hx hb dX6_byteAt_80 (by decide) ?_
    refine lv_iand hx hb dX6_byteAt_83 ?_
    exact fw_iret hx hb hr hlocks hP hS dX6_byteAt_84 (Nat.le_of_ble_eq_true rfl) (Nat.le_of_ble_eq_true rfl) (by
      have hqe : kp / 99 = 2 := by omega
      refine ⟨?_, rfl, rfl⟩
      unfold mget
      rw [hqe])
  · refine lv_tableIn (tgt := 85) hx hb dX6_byteAt_15 (by rw [ht]; omega) (by rw [ht]; omega) (by rw [ht, h3]; rfl) (by decide) ?_
    refine lv_aload_n hx hb dX6_byteAt_85 rfl (lv_at hl 1 rfl) ?_
    refine fw_get (ci := 6) (fs := [.int (iI (((U : Nat) : Int))), .ref (g0 + 1), .ref (g0 + 2), .ref (g0 + 3), .ref (g0 + 4), .ref (g0 + 5), .ref (g0 + 6), .ref (g0 + 7), .ref (g0 + 8), .ref (g0 + 9), .ref (g0 + 10), .ref (g0 + 11), .ref (g0 + 12), .ref (g0 + 13), .ref (g0 + 14), .ref (g0 + 15), .int (ix), .ref (g0 + 16), .int (iI (((L : Nat) : Int))), .int (iI (((nd : Nat) : Int))), .ref (g0 + 17), .ref (g0 + 18), .ref (g0 + 19), .int (iI (((od : Nat) : Int))), .int (iI (((hh : Nat) : Int))), .int (bI (op))]) (k := 11) (v := .ref (g0 + 11)) (C := RX6) (T := TX6) (N := 26) hx hb hts inFX6 hown hK hP m0 rfl (by decide) mFX6_43 rfl dX6_byteAt_86 ?_
    refine lv_iload_n hx hb dX6_byteAt_89 rfl (lv_at hl 0 rfl) ?_
    refine fn_bald (k := (200) * (kp % 99) + ip) hx hb hK hP 0 m11 rfl (by omega) (by omega) dX6_byteAt_90 ?_
    refine lv_sipush (v := (iI (((255 : Nat) : Int)))) hx hb dX6_byteAt_91 (by decide) ?_
    refine lv_iand hx hb dX6_byteAt_94 ?_
    exact fw_iret hx hb hr hlocks hP hS dX6_byteAt_95 (Nat.le_of_ble_eq_true rfl) (Nat.le_of_ble_eq_true rfl) (by
      have hqe : kp / 99 = 3 := by omega
      refine ⟨?_, rfl, rfl⟩
      unfold mget
      rw [hqe])
  · refine lv_tableIn (tgt := 96) hx hb dX6_byteAt_15 (by rw [ht]; omega) (by rw [ht]; omega) (by rw [ht, h3]; rfl) (by decide) ?_
    refine lv_aload_n hx hb dX6_byteAt_96 rfl (lv_at hl 1 rfl) ?_
    refine fw_get (ci := 6) (fs := [.int (iI (((U : Nat) : Int))), .ref (g0 + 1), .ref (g0 + 2), .ref (g0 + 3), .ref (g0 + 4), .ref (g0 + 5), .ref (g0 + 6), .ref (g0 + 7), .ref (g0 + 8), .ref (g0 + 9), .ref (g0 + 10), .ref (g0 + 11), .ref (g0 + 12), .ref (g0 + 13), .ref (g0 + 14), .ref (g0 + 15), .int (ix), .ref (g0 + 16), .int (iI (((L : Nat) : Int))), .int (iI (((nd : Nat) : Int))), .ref (g0 + 17), .ref (g0 + 18), .ref (g0 + 19), .int (iI (((od : Nat) : Int))), .int (iI (((hh : Nat) : Int))), .int (bI (op))]) (k := 12) (v := .ref (g0 + 12)) (C := RX6) (T := TX6) (N := 26) hx hb hts inFX6 hown hK hP m0 rfl (by decide) mFX6_46 rfl dX6_byteAt_97 ?_
    refine lv_iload_n hx hb dX6_byteAt_100 rfl (lv_at hl 0 rfl) ?_
    refine fn_bald (k := (200) * (kp % 99) + ip) hx hb hK hP 0 m12 rfl (by omega) (by omega) dX6_byteAt_101 ?_
    refine lv_sipush (v := (iI (((255 : Nat) : Int)))) hx hb dX6_byteAt_102 (by decide) ?_
    refine lv_iand hx hb dX6_byteAt_105 ?_
    exact fw_iret hx hb hr hlocks hP hS dX6_byteAt_106 (Nat.le_of_ble_eq_true rfl) (Nat.le_of_ble_eq_true rfl) (by
      have hqe : kp / 99 = 4 := by omega
      refine ⟨?_, rfl, rfl⟩
      unfold mget
      rw [hqe])
  · refine lv_tableIn (tgt := 107) hx hb dX6_byteAt_15 (by rw [ht]; omega) (by rw [ht]; omega) (by rw [ht, h3]; rfl) (by decide) ?_
    refine lv_aload_n hx hb dX6_byteAt_107 rfl (lv_at hl 1 rfl) ?_
    refine fw_get (ci := 6) (fs := [.int (iI (((U : Nat) : Int))), .ref (g0 + 1), .ref (g0 + 2), .ref (g0 + 3), .ref (g0 + 4), .ref (g0 + 5), .ref (g0 + 6), .ref (g0 + 7), .ref (g0 + 8), .ref (g0 + 9), .ref (g0 + 10), .ref (g0 + 11), .ref (g0 + 12), .ref (g0 + 13), .ref (g0 + 14), .ref (g0 + 15), .int (ix), .ref (g0 + 16), .int (iI (((L : Nat) : Int))), .int (iI (((nd : Nat) : Int))), .ref (g0 + 17), .ref (g0 + 18), .ref (g0 + 19), .int (iI (((od : Nat) : Int))), .int (iI (((hh : Nat) : Int))), .int (bI (op))]) (k := 13) (v := .ref (g0 + 13)) (C := RX6) (T := TX6) (N := 26) hx hb hts inFX6 hown hK hP m0 rfl (by decide) mFX6_49 rfl dX6_byteAt_108 ?_
    refine lv_iload_n hx hb dX6_byteAt_111 rfl (lv_at hl 0 rfl) ?_
    refine fn_bald (k := (200) * (kp % 99) + ip) hx hb hK hP 0 m13 rfl (by omega) (by omega) dX6_byteAt_112 ?_
    refine lv_sipush (v := (iI (((255 : Nat) : Int)))) hx hb dX6_byteAt_113 (by decide) ?_
    refine lv_iand hx hb dX6_byteAt_116 ?_
    exact fw_iret hx hb hr hlocks hP hS dX6_byteAt_117 (Nat.le_of_ble_eq_true rfl) (Nat.le_of_ble_eq_true rfl) (by
      have hqe : kp / 99 = 5 := by omega
      refine ⟨?_, rfl, rfl⟩
      unfold mget
      rw [hqe])
  · refine lv_tableOut (tgt := 118) hx hb dX6_byteAt_15 (Or.inr (by rw [ht]; omega)) (by decide) ?_
    refine lv_aload_n hx hb dX6_byteAt_118 rfl (lv_at hl 1 rfl) ?_
    refine fw_get (ci := 6) (fs := [.int (iI (((U : Nat) : Int))), .ref (g0 + 1), .ref (g0 + 2), .ref (g0 + 3), .ref (g0 + 4), .ref (g0 + 5), .ref (g0 + 6), .ref (g0 + 7), .ref (g0 + 8), .ref (g0 + 9), .ref (g0 + 10), .ref (g0 + 11), .ref (g0 + 12), .ref (g0 + 13), .ref (g0 + 14), .ref (g0 + 15), .int (ix), .ref (g0 + 16), .int (iI (((L : Nat) : Int))), .int (iI (((nd : Nat) : Int))), .ref (g0 + 17), .ref (g0 + 18), .ref (g0 + 19), .int (iI (((od : Nat) : Int))), .int (iI (((hh : Nat) : Int))), .int (bI (op))]) (k := 14) (v := .ref (g0 + 14)) (C := RX6) (T := TX6) (N := 26) hx hb hts inFX6 hown hK hP m0 rfl (by decide) mFX6_52 rfl dX6_byteAt_119 ?_
    refine lv_iload_n hx hb dX6_byteAt_122 rfl (lv_at hl 0 rfl) ?_
    refine fn_bald (k := (200) * (kp % 99) + ip) hx hb hK hP 0 m14 rfl (by omega) (by omega) dX6_byteAt_123 ?_
    refine lv_sipush (v := (iI (((255 : Nat) : Int)))) hx hb dX6_byteAt_124 (by decide) ?_
    refine lv_iand hx hb dX6_byteAt_127 ?_
    exact fw_iret hx hb hr hlocks hP hS dX6_byteAt_128 (Nat.le_of_ble_eq_true rfl) (Nat.le_of_ble_eq_true rfl) (by
      have hqe : kp / 99 = 6 := by omega
      refine ⟨?_, rfl, rfl⟩
      unfold mget
      rw [hqe])
