set_option maxHeartbeats 8000000 in
set_option maxRecDepth 100000 in
/-- the law's loop -/
theorem law_loop {p : Program} {e : Env} {s : State} {m : MethodId} {below : List Frame} {meth : Method} {c : Code} (l : Launch) {D : va_G} {ta : Nat → ClassId} {b L B : Nat} {xs : Nat → Int32} (hL : L ≤ 5121) (C0 : lw_At p s m meth c b L xs) (hB : B = s.heap.size) (hK : va_K D vwCl (tyL ta) s) : ∀ (j n : Nat) (w : fw_W) (H : Heap) (locs : List Loc) (ls : Array Slot), 10 * j ≤ L → st_I ta B n w (1 + 10 * j) → fw_P D vwCl B n w H → fw_S B s.heap H locs → lv_has ls 4 [(3, .int (iI ((1 + 10 * j : Nat) : Int))), (2, .ref (B + 12)), (1, .ref B), (0, .ref b)] → W p l e room_1 s m #[Value.ref b] below meth c H locs (40 + 4 * j) (160000 + 220 * j) (lw_Z below #[Value.ref b] s) (F0 m 28 ls []) := by
  obtain ⟨hx, hb, hr, hml, hown, hts0, hX, hbl, hlocks, hgv⟩ := C0
  have hts : ∀ x ∈ fw_tbl, x.before #[Value.ref b] s = true := fun x hx => hts0 x (List.mem_filter.mp hx).1
  have hG : fw_G s := fw_G.of hts0
  have hown : s.vm.findClass RX7 = some m.cls := hown
  have hb : c.code = cX7_law := hb
  have hbA : ¬ B ≤ b := by omega
  refine fw_loop (fun j : Nat => L - 10 * j) ?_
  intro j ih n w H locs ls hj hI hP hS hl
  refine lv_iload_n hx hb dX7_law_28 rfl (lv_at hl 0 rfl) ?_
  refine lv_aload_n hx hb dX7_law_29 rfl (lv_at hl 3 rfl) ?_
  refine fn_slen hx hb hX hbl hbA hS dX7_law_30 ?_
  refine lv_bipush (v := (iI (((10 : Nat) : Int)))) hx hb dX7_law_31 (by decide) ?_
  refine fn_isub (x := ((L : Nat) : Int)) (y := ((10 : Nat) : Int)) hx hb dX7_law_33 ?_
  refine fn_icmp_gt (x := ((1 + 10 * j : Nat) : Int)) (y := ((L : Nat) : Int) - ((10 : Nat) : Int)) (tgt := 622) hx hb dX7_law_34 (by decide) ⟨by omega, by omega⟩ ⟨by omega, by omega⟩ (fun c1 => ?_) (fun c1 => ?_)
  · refine lv_iconst (v := (iI (((1 : Nat) : Int)))) hx hb dX7_law_622 rfl ?_
    refine va_forget (fun q hq => by have h := hS.2.2 q hq; rw [← hB]; exact h) ?_
    refine W.widen (k := 600000) (n := 7302250) (by omega) (by omega) ?_
    exact lw_ret hx hb hr hlocks dX7_law_623
  · refine lv_aload_n hx hb dX7_law_37 rfl (lv_at hl 3 rfl) ?_
    refine lv_iload_n hx hb dX7_law_38 rfl (lv_at hl 0 rfl) ?_
    refine fn_sld (k := 1 + 10 * j) hx hb hX hbl hbA hS (by omega) (by omega) dX7_law_39 ?_
    refine lv_bipush (v := (iI (((15 : Nat) : Int)))) hx hb dX7_law_40 (by decide) ?_
    refine lv_iand hx hb dX7_law_42 ?_
    by_cases hsw : ((xs (1 + 10 * j)) &&& (iI (((15 : Nat) : Int)))).toInt < 0 ∨ 13 < ((xs (1 + 10 * j)) &&& (iI (((15 : Nat) : Int)))).toInt
    · refine lv_tableOut (tgt := 616) hx hb dX7_law_43 hsw (by decide) ?_
      refine lv_iinc (k := 0) (v := (iI (((1 + 10 * j + 10 : Nat) : Int)))) (lv' := [(3, .int (iI (((1 + 10 * j + 10 : Nat) : Int)))), (2, .ref (B + 12)), (1, .ref (B)), (0, .ref (b))]) hx hb dX7_law_616 hl rfl (iI_inc _ 10) (by decide) rfl (fun ls hl => ?_)
      refine lv_goto (tgt := 28) hx hb dX7_law_619 (by decide) ?_
      replace hl : lv_has ls 4 [(3, .int (iI (((1 + 10 * (j + 1) : Nat) : Int)))), (2, .ref (B + 12)), (1, .ref (B)), (0, .ref (b))] := by
        refine ⟨hl.1, hl.2.1, fun q hq => hl.2.2 q ?_⟩
        rw [(show ((1 + 10 * j + 10 : Nat) : Int) = ((1 + 10 * (j + 1) : Nat) : Int) from (by omega))]
        simp only [List.mem_cons, List.not_mem_nil, or_false] at hq
        rcases hq with rfl | rfl | rfl | rfl
        · exact List.mem_of_getElem? (i := 0) rfl
        · exact List.mem_of_getElem? (i := 1) rfl
        · exact List.mem_of_getElem? (i := 2) rfl
        · exact List.mem_of_getElem? (i := 3) rfl
      refine W.widen (k := 40 + 4 * (j + 1)) (n := 160000 + 220 * (j + 1)) (by (try dsimp only); omega) (by (try dsimp only); omega) ?_
      exact ih (j + 1) (by omega) n w H locs ls (by omega) (hI.later _ (by omega)) hP hS hl
    · have h1 : ¬ ((xs (1 + 10 * j)) &&& (iI (((15 : Nat) : Int)))).toInt < 0 := fun q => hsw (Or.inl q)
      have h2 : ¬ 13 < ((xs (1 + 10 * j)) &&& (iI (((15 : Nat) : Int)))).toInt := fun q => hsw (Or.inr q)
      have h3 : ((xs (1 + 10 * j)) &&& (iI (((15 : Nat) : Int)))).toInt = 0 ∨ ((xs (1 + 10 * j)) &&& (iI (((15 : Nat) : Int)))).toInt = 1 ∨ ((xs (1 + 10 * j)) &&& (iI (((15 : Nat) : Int)))).toInt = 2 ∨ ((xs (1 + 10 * j)) &&& (iI (((15 : Nat) : Int)))).toInt = 3 ∨ ((xs (1 + 10 * j)) &&& (iI (((15 : Nat) : Int)))).toInt = 4 ∨ ((xs (1 + 10 * j)) &&& (iI (((15 : Nat) : Int)))).toInt = 5 ∨ ((xs (1 + 10 * j)) &&& (iI (((15 : Nat) : Int)))).toInt = 6 ∨ ((xs (1 + 10 * j)) &&& (iI (((15 : Nat) : Int)))).toInt = 7 ∨ ((xs (1 + 10 * j)) &&& (iI (((15 : Nat) : Int)))).toInt = 8 ∨ ((xs (1 + 10 * j)) &&& (iI (((15 : Nat) : Int)))).toInt = 9 ∨ ((xs (1 + 10 * j)) &&& (iI (((15 : Nat) : Int)))).toInt = 10 ∨ ((xs (1 + 10 * j)) &&& (iI (((15 : Nat) : Int)))).toInt = 11 ∨ ((xs (1 + 10 * j)) &&& (iI (((15 : Nat) : Int)))).toInt = 12 ∨ ((xs (1 + 10 * j)) &&& (iI (((15 : Nat) : Int)))).toInt = 13 := by omega
      rcases h3 with h3 | h3 | h3 | h3 | h3 | h3 | h3 | h3 | h3 | h3 | h3 | h3 | h3 | h3
      · refine lv_tableIn (tgt := 112) hx hb dX7_law_43 h1 h2 (by rw [h3]; rfl) (by decide) ?_
        refine lv_aload_n hx hb dX7_law_112 rfl (lv_at hl 2 rfl) ?_
        refine lv_aload_n hx hb dX7_law_113 rfl (lv_at hl 3 rfl) ?_
        refine lv_iload_n hx hb dX7_law_114 rfl (lv_at hl 0 rfl) ?_
        refine lv_iconst (v := (iI (((1 : Nat) : Int)))) hx hb dX7_law_115 rfl ?_
        refine fn_iadd (x := ((1 + 10 * j : Nat) : Int)) (y := ((1 : Nat) : Int)) hx hb dX7_law_116 ?_
        refine fn_topz (y := ((1 + 10 * j + 1 : Nat) : Int)) (by omega) ?_
        refine fn_sld (k := 1 + 10 * j + 1) hx hb hX hbl hbA hS (by omega) (by omega) dX7_law_117 ?_
        refine lv_i2l (v := ((xs (1 + 10 * j + 1))).toInt64) hx hb dX7_law_118 rfl ?_
        refine lv_bipush (v := (iI (((32 : Nat) : Int)))) hx hb dX7_law_119 (by decide) ?_
        refine lv_lshl (v := (((xs (1 + 10 * j + 1))).toInt64) <<< (((iI (((32 : Nat) : Int)))).toInt64 &&& 63)) hx hb dX7_law_121 rfl ?_
        refine lv_aload_n hx hb dX7_law_122 rfl (lv_at hl 3 rfl) ?_
        refine lv_iload_n hx hb dX7_law_123 rfl (lv_at hl 0 rfl) ?_
        refine lv_iconst (v := (iI (((2 : Nat) : Int)))) hx hb dX7_law_124 rfl ?_
        refine fn_iadd (x := ((1 + 10 * j : Nat) : Int)) (y := ((2 : Nat) : Int)) hx hb dX7_law_125 ?_
        refine fn_topz (y := ((1 + 10 * j + 2 : Nat) : Int)) (by omega) ?_
        refine fn_sld (k := 1 + 10 * j + 2) hx hb hX hbl hbA hS (by omega) (by omega) dX7_law_126 ?_
        refine lv_i2l (v := ((xs (1 + 10 * j + 2))).toInt64) hx hb dX7_law_127 rfl ?_
        refine lv_ldc2 (v := (4294967295)) hx hb hown (hts _ mDX7_21) dX7_law_128 ?_
        refine lv_land hx hb dX7_law_131 ?_
        refine lv_lor hx hb dX7_law_132 ?_
        refine lv_aload_n hx hb dX7_law_133 rfl (lv_at hl 3 rfl) ?_
        refine lv_iload_n hx hb dX7_law_134 rfl (lv_at hl 0 rfl) ?_
        refine lv_iconst (v := (iI (((3 : Nat) : Int)))) hx hb dX7_law_135 rfl ?_
        refine fn_iadd (x := ((1 + 10 * j : Nat) : Int)) (y := ((3 : Nat) : Int)) hx hb dX7_law_136 ?_
        refine fn_topz (y := ((1 + 10 * j + 3 : Nat) : Int)) (by omega) ?_
        refine fn_sld (k := 1 + 10 * j + 3) hx hb hX hbl hbA hS (by omega) (by omega) dX7_law_137 ?_
        refine lv_i2l (v := ((xs (1 + 10 * j + 3))).toInt64) hx hb dX7_law_138 rfl ?_
        refine lv_bipush (v := (iI (((32 : Nat) : Int)))) hx hb dX7_law_139 (by decide) ?_
        refine lv_lshl (v := (((xs (1 + 10 * j + 3))).toInt64) <<< (((iI (((32 : Nat) : Int)))).toInt64 &&& 63)) hx hb dX7_law_141 rfl ?_
        refine lv_aload_n hx hb dX7_law_142 rfl (lv_at hl 3 rfl) ?_
        refine lv_iload_n hx hb dX7_law_143 rfl (lv_at hl 0 rfl) ?_
        refine lv_iconst (v := (iI (((4 : Nat) : Int)))) hx hb dX7_law_144 rfl ?_
        refine fn_iadd (x := ((1 + 10 * j : Nat) : Int)) (y := ((4 : Nat) : Int)) hx hb dX7_law_145 ?_
        refine fn_topz (y := ((1 + 10 * j + 4 : Nat) : Int)) (by omega) ?_
        refine fn_sld (k := 1 + 10 * j + 4) hx hb hX hbl hbA hS (by omega) (by omega) dX7_law_146 ?_
        refine lv_i2l (v := ((xs (1 + 10 * j + 4))).toInt64) hx hb dX7_law_147 rfl ?_
        refine lv_ldc2 (v := (4294967295)) hx hb hown (hts _ mDX7_21) dX7_law_148 ?_
        refine lv_land hx hb dX7_law_151 ?_
        refine lv_lor hx hb dX7_law_152 ?_
        refine lv_aload_n hx hb dX7_law_153 rfl (lv_at hl 3 rfl) ?_
        refine lv_iload_n hx hb dX7_law_154 rfl (lv_at hl 0 rfl) ?_
        refine lv_iconst (v := (iI (((5 : Nat) : Int)))) hx hb dX7_law_155 rfl ?_
        refine fn_iadd (x := ((1 + 10 * j : Nat) : Int)) (y := ((5 : Nat) : Int)) hx hb dX7_law_156 ?_
        refine fn_topz (y := ((1 + 10 * j + 5 : Nat) : Int)) (by omega) ?_
        refine fn_sld (k := 1 + 10 * j + 5) hx hb hX hbl hbA hS (by omega) (by omega) dX7_law_157 ?_
        refine lv_i2l (v := ((xs (1 + 10 * j + 5))).toInt64) hx hb dX7_law_158 rfl ?_
        refine lv_bipush (v := (iI (((32 : Nat) : Int)))) hx hb dX7_law_159 (by decide) ?_
        refine lv_lshl (v := (((xs (1 + 10 * j + 5))).toInt64) <<< (((iI (((32 : Nat) : Int)))).toInt64 &&& 63)) hx hb dX7_law_161 rfl ?_
        refine lv_aload_n hx hb dX7_law_162 rfl (lv_at hl 3 rfl) ?_
        refine lv_iload_n hx hb dX7_law_163 rfl (lv_at hl 0 rfl) ?_
        refine lv_bipush (v := (iI (((6 : Nat) : Int)))) hx hb dX7_law_164 (by decide) ?_
        refine fn_iadd (x := ((1 + 10 * j : Nat) : Int)) (y := ((6 : Nat) : Int)) hx hb dX7_law_166 ?_
        refine fn_topz (y := ((1 + 10 * j + 6 : Nat) : Int)) (by omega) ?_
        refine fn_sld (k := 1 + 10 * j + 6) hx hb hX hbl hbA hS (by omega) (by omega) dX7_law_167 ?_
        refine lv_i2l (v := ((xs (1 + 10 * j + 6))).toInt64) hx hb dX7_law_168 rfl ?_
        refine lv_ldc2 (v := (4294967295)) hx hb hown (hts _ mDX7_21) dX7_law_169 ?_
        refine lv_land hx hb dX7_law_172 ?_
        refine lv_lor hx hb dX7_law_173 ?_
        refine lv_aload_n hx hb dX7_law_174 rfl (lv_at hl 3 rfl) ?_
        refine lv_iload_n hx hb dX7_law_175 rfl (lv_at hl 0 rfl) ?_
        refine lv_bipush (v := (iI (((7 : Nat) : Int)))) hx hb dX7_law_176 (by decide) ?_
        refine fn_iadd (x := ((1 + 10 * j : Nat) : Int)) (y := ((7 : Nat) : Int)) hx hb dX7_law_178 ?_
        refine fn_topz (y := ((1 + 10 * j + 7 : Nat) : Int)) (by omega) ?_
        refine fn_sld (k := 1 + 10 * j + 7) hx hb hX hbl hbA hS (by omega) (by omega) dX7_law_179 ?_
        refine lv_i2l (v := ((xs (1 + 10 * j + 7))).toInt64) hx hb dX7_law_180 rfl ?_
        refine lv_bipush (v := (iI (((32 : Nat) : Int)))) hx hb dX7_law_181 (by decide) ?_
        refine lv_lshl (v := (((xs (1 + 10 * j + 7))).toInt64) <<< (((iI (((32 : Nat) : Int)))).toInt64 &&& 63)) hx hb dX7_law_183 rfl ?_
        refine lv_aload_n hx hb dX7_law_184 rfl (lv_at hl 3 rfl) ?_
        refine lv_iload_n hx hb dX7_law_185 rfl (lv_at hl 0 rfl) ?_
        refine lv_bipush (v := (iI (((8 : Nat) : Int)))) hx hb dX7_law_186 (by decide) ?_
        refine fn_iadd (x := ((1 + 10 * j : Nat) : Int)) (y := ((8 : Nat) : Int)) hx hb dX7_law_188 ?_
        refine fn_topz (y := ((1 + 10 * j + 8 : Nat) : Int)) (by omega) ?_
        refine fn_sld (k := 1 + 10 * j + 8) hx hb hX hbl hbA hS (by omega) (by omega) dX7_law_189 ?_
        refine lv_i2l (v := ((xs (1 + 10 * j + 8))).toInt64) hx hb dX7_law_190 rfl ?_
        refine lv_ldc2 (v := (4294967295)) hx hb hown (hts _ mDX7_21) dX7_law_191 ?_
        refine lv_land hx hb dX7_law_194 ?_
        refine lv_lor hx hb dX7_law_195 ?_
        refine lv_aload_n hx hb dX7_law_196 rfl (lv_at hl 3 rfl) ?_
        refine lv_iload_n hx hb dX7_law_197 rfl (lv_at hl 0 rfl) ?_
        refine lv_bipush (v := (iI (((9 : Nat) : Int)))) hx hb dX7_law_198 (by decide) ?_
        refine fn_iadd (x := ((1 + 10 * j : Nat) : Int)) (y := ((9 : Nat) : Int)) hx hb dX7_law_200 ?_
        refine fn_topz (y := ((1 + 10 * j + 9 : Nat) : Int)) (by omega) ?_
        refine fn_sld (k := 1 + 10 * j + 9) hx hb hX hbl hbA hS (by omega) (by omega) dX7_law_201 ?_
        obtain ⟨Mid, hC, hM⟩ := st_key l D ta B n w B (1 + 10 * j) (((((xs (1 + 10 * j + 1))).toInt64) <<< (((iI (((32 : Nat) : Int)))).toInt64 &&& 63)) ||| ((((xs (1 + 10 * j + 2))).toInt64) &&& ((4294967295))), ((((xs (1 + 10 * j + 3))).toInt64) <<< (((iI (((32 : Nat) : Int)))).toInt64 &&& 63)) ||| ((((xs (1 + 10 * j + 4))).toInt64) &&& ((4294967295))), ((((xs (1 + 10 * j + 5))).toInt64) <<< (((iI (((32 : Nat) : Int)))).toInt64 &&& 63)) ||| ((((xs (1 + 10 * j + 6))).toInt64) &&& ((4294967295))), ((((xs (1 + 10 * j + 7))).toInt64) <<< (((iI (((32 : Nat) : Int)))).toInt64 &&& 63)) ||| ((((xs (1 + 10 * j + 8))).toInt64) &&& ((4294967295))), xs (1 + 10 * j + 9)) (by omega) hI
        obtain ⟨fs, hfs⟩ := hI.desk
        refine fw_callV (ci := 0) (fs := fs) (T := TX0) (N := 8) (b := B) (As := [.long (((((xs (1 + 10 * j + 1))).toInt64) <<< (((iI (((32 : Nat) : Int)))).toInt64 &&& 63)) ||| ((((xs (1 + 10 * j + 2))).toInt64) &&& ((4294967295)))), .long (((((xs (1 + 10 * j + 3))).toInt64) <<< (((iI (((32 : Nat) : Int)))).toInt64 &&& 63)) ||| ((((xs (1 + 10 * j + 4))).toInt64) &&& ((4294967295)))), .long (((((xs (1 + 10 * j + 5))).toInt64) <<< (((iI (((32 : Nat) : Int)))).toInt64 &&& 63)) ||| ((((xs (1 + 10 * j + 6))).toInt64) &&& ((4294967295)))), .long (((((xs (1 + 10 * j + 7))).toInt64) <<< (((iI (((32 : Nat) : Int)))).toInt64 &&& 63)) ||| ((((xs (1 + 10 * j + 8))).toInt64) &&& ((4294967295)))), .int (xs (1 + 10 * j + 9))]) (rest := []) hx hb hml hown hts hK hG hP hS hl mM_X0_key mV_X0_key mLX7_23 hC hfs rfl rfl rfl (Nat.le_of_ble_eq_true rfl) ⟨Nat.le_of_ble_eq_true rfl, Nat.le_of_ble_eq_true rfl⟩ ⟨by show _ ≤ 600000; (try dsimp only); omega, by show _ ≤ 7302250; (try dsimp only); omega⟩ dX7_law_202 (fun r w1 n1 H locs hq hP hS => ?_)
        obtain ⟨rfl, hMid⟩ := hq
        refine W.eq (g2 := F0 m 205 ls []) rfl ?_
        refine lv_aload_n hx hb dX7_law_205 rfl (lv_at hl 1 rfl) ?_
        refine lv_aload_n hx hb dX7_law_206 rfl (lv_at hl 3 rfl) ?_
        refine lv_iload_n hx hb dX7_law_207 rfl (lv_at hl 0 rfl) ?_
        refine lv_iconst (v := (iI (((1 : Nat) : Int)))) hx hb dX7_law_208 rfl ?_
        refine fn_iadd (x := ((1 + 10 * j : Nat) : Int)) (y := ((1 : Nat) : Int)) hx hb dX7_law_209 ?_
        refine fn_topz (y := ((1 + 10 * j + 1 : Nat) : Int)) (by omega) ?_
        refine fn_sld (k := 1 + 10 * j + 1) hx hb hX hbl hbA hS (by omega) (by omega) dX7_law_210 ?_
        refine lv_i2l (v := ((xs (1 + 10 * j + 1))).toInt64) hx hb dX7_law_211 rfl ?_
        refine lv_bipush (v := (iI (((32 : Nat) : Int)))) hx hb dX7_law_212 (by decide) ?_
        refine lv_lshl (v := (((xs (1 + 10 * j + 1))).toInt64) <<< (((iI (((32 : Nat) : Int)))).toInt64 &&& 63)) hx hb dX7_law_214 rfl ?_
        refine lv_aload_n hx hb dX7_law_215 rfl (lv_at hl 3 rfl) ?_
        refine lv_iload_n hx hb dX7_law_216 rfl (lv_at hl 0 rfl) ?_
        refine lv_iconst (v := (iI (((2 : Nat) : Int)))) hx hb dX7_law_217 rfl ?_
        refine fn_iadd (x := ((1 + 10 * j : Nat) : Int)) (y := ((2 : Nat) : Int)) hx hb dX7_law_218 ?_
        refine fn_topz (y := ((1 + 10 * j + 2 : Nat) : Int)) (by omega) ?_
        refine fn_sld (k := 1 + 10 * j + 2) hx hb hX hbl hbA hS (by omega) (by omega) dX7_law_219 ?_
        refine lv_i2l (v := ((xs (1 + 10 * j + 2))).toInt64) hx hb dX7_law_220 rfl ?_
        refine lv_ldc2 (v := (4294967295)) hx hb hown (hts _ mDX7_21) dX7_law_221 ?_
        refine lv_land hx hb dX7_law_224 ?_
        refine lv_lor hx hb dX7_law_225 ?_
        refine lv_aload_n hx hb dX7_law_226 rfl (lv_at hl 3 rfl) ?_
        refine lv_iload_n hx hb dX7_law_227 rfl (lv_at hl 0 rfl) ?_
        refine lv_iconst (v := (iI (((3 : Nat) : Int)))) hx hb dX7_law_228 rfl ?_
        refine fn_iadd (x := ((1 + 10 * j : Nat) : Int)) (y := ((3 : Nat) : Int)) hx hb dX7_law_229 ?_
        refine fn_topz (y := ((1 + 10 * j + 3 : Nat) : Int)) (by omega) ?_
        refine fn_sld (k := 1 + 10 * j + 3) hx hb hX hbl hbA hS (by omega) (by omega) dX7_law_230 ?_
        refine lv_i2l (v := ((xs (1 + 10 * j + 3))).toInt64) hx hb dX7_law_231 rfl ?_
        refine lv_bipush (v := (iI (((32 : Nat) : Int)))) hx hb dX7_law_232 (by decide) ?_
        refine lv_lshl (v := (((xs (1 + 10 * j + 3))).toInt64) <<< (((iI (((32 : Nat) : Int)))).toInt64 &&& 63)) hx hb dX7_law_234 rfl ?_
        refine lv_aload_n hx hb dX7_law_235 rfl (lv_at hl 3 rfl) ?_
        refine lv_iload_n hx hb dX7_law_236 rfl (lv_at hl 0 rfl) ?_
        refine lv_iconst (v := (iI (((4 : Nat) : Int)))) hx hb dX7_law_237 rfl ?_
        refine fn_iadd (x := ((1 + 10 * j : Nat) : Int)) (y := ((4 : Nat) : Int)) hx hb dX7_law_238 ?_
        refine fn_topz (y := ((1 + 10 * j + 4 : Nat) : Int)) (by omega) ?_
        refine fn_sld (k := 1 + 10 * j + 4) hx hb hX hbl hbA hS (by omega) (by omega) dX7_law_239 ?_
        refine lv_i2l (v := ((xs (1 + 10 * j + 4))).toInt64) hx hb dX7_law_240 rfl ?_
        refine lv_ldc2 (v := (4294967295)) hx hb hown (hts _ mDX7_21) dX7_law_241 ?_
        refine lv_land hx hb dX7_law_244 ?_
        refine lv_lor hx hb dX7_law_245 ?_
        refine lv_aload_n hx hb dX7_law_246 rfl (lv_at hl 3 rfl) ?_
        refine lv_iload_n hx hb dX7_law_247 rfl (lv_at hl 0 rfl) ?_
        refine lv_iconst (v := (iI (((5 : Nat) : Int)))) hx hb dX7_law_248 rfl ?_
        refine fn_iadd (x := ((1 + 10 * j : Nat) : Int)) (y := ((5 : Nat) : Int)) hx hb dX7_law_249 ?_
        refine fn_topz (y := ((1 + 10 * j + 5 : Nat) : Int)) (by omega) ?_
        refine fn_sld (k := 1 + 10 * j + 5) hx hb hX hbl hbA hS (by omega) (by omega) dX7_law_250 ?_
        refine lv_i2l (v := ((xs (1 + 10 * j + 5))).toInt64) hx hb dX7_law_251 rfl ?_
        refine lv_bipush (v := (iI (((32 : Nat) : Int)))) hx hb dX7_law_252 (by decide) ?_
        refine lv_lshl (v := (((xs (1 + 10 * j + 5))).toInt64) <<< (((iI (((32 : Nat) : Int)))).toInt64 &&& 63)) hx hb dX7_law_254 rfl ?_
        refine lv_aload_n hx hb dX7_law_255 rfl (lv_at hl 3 rfl) ?_
        refine lv_iload_n hx hb dX7_law_256 rfl (lv_at hl 0 rfl) ?_
        refine lv_bipush (v := (iI (((6 : Nat) : Int)))) hx hb dX7_law_257 (by decide) ?_
        refine fn_iadd (x := ((1 + 10 * j : Nat) : Int)) (y := ((6 : Nat) : Int)) hx hb dX7_law_259 ?_
        refine fn_topz (y := ((1 + 10 * j + 6 : Nat) : Int)) (by omega) ?_
        refine fn_sld (k := 1 + 10 * j + 6) hx hb hX hbl hbA hS (by omega) (by omega) dX7_law_260 ?_
        refine lv_i2l (v := ((xs (1 + 10 * j + 6))).toInt64) hx hb dX7_law_261 rfl ?_
        refine lv_ldc2 (v := (4294967295)) hx hb hown (hts _ mDX7_21) dX7_law_262 ?_
        refine lv_land hx hb dX7_law_265 ?_
        refine lv_lor hx hb dX7_law_266 ?_
        refine lv_aload_n hx hb dX7_law_267 rfl (lv_at hl 3 rfl) ?_
        refine lv_iload_n hx hb dX7_law_268 rfl (lv_at hl 0 rfl) ?_
        refine lv_bipush (v := (iI (((7 : Nat) : Int)))) hx hb dX7_law_269 (by decide) ?_
        refine fn_iadd (x := ((1 + 10 * j : Nat) : Int)) (y := ((7 : Nat) : Int)) hx hb dX7_law_271 ?_
        refine fn_topz (y := ((1 + 10 * j + 7 : Nat) : Int)) (by omega) ?_
        refine fn_sld (k := 1 + 10 * j + 7) hx hb hX hbl hbA hS (by omega) (by omega) dX7_law_272 ?_
        refine lv_i2l (v := ((xs (1 + 10 * j + 7))).toInt64) hx hb dX7_law_273 rfl ?_
        refine lv_bipush (v := (iI (((32 : Nat) : Int)))) hx hb dX7_law_274 (by decide) ?_
        refine lv_lshl (v := (((xs (1 + 10 * j + 7))).toInt64) <<< (((iI (((32 : Nat) : Int)))).toInt64 &&& 63)) hx hb dX7_law_276 rfl ?_
        refine lv_aload_n hx hb dX7_law_277 rfl (lv_at hl 3 rfl) ?_
        refine lv_iload_n hx hb dX7_law_278 rfl (lv_at hl 0 rfl) ?_
        refine lv_bipush (v := (iI (((8 : Nat) : Int)))) hx hb dX7_law_279 (by decide) ?_
        refine fn_iadd (x := ((1 + 10 * j : Nat) : Int)) (y := ((8 : Nat) : Int)) hx hb dX7_law_281 ?_
        refine fn_topz (y := ((1 + 10 * j + 8 : Nat) : Int)) (by omega) ?_
        refine fn_sld (k := 1 + 10 * j + 8) hx hb hX hbl hbA hS (by omega) (by omega) dX7_law_282 ?_
        refine lv_i2l (v := ((xs (1 + 10 * j + 8))).toInt64) hx hb dX7_law_283 rfl ?_
        refine lv_ldc2 (v := (4294967295)) hx hb hown (hts _ mDX7_21) dX7_law_284 ?_
        refine lv_land hx hb dX7_law_287 ?_
        refine lv_lor hx hb dX7_law_288 ?_
        refine lv_aload_n hx hb dX7_law_289 rfl (lv_at hl 3 rfl) ?_
        refine lv_iload_n hx hb dX7_law_290 rfl (lv_at hl 0 rfl) ?_
        refine lv_bipush (v := (iI (((9 : Nat) : Int)))) hx hb dX7_law_291 (by decide) ?_
        refine fn_iadd (x := ((1 + 10 * j : Nat) : Int)) (y := ((9 : Nat) : Int)) hx hb dX7_law_293 ?_
        refine fn_topz (y := ((1 + 10 * j + 9 : Nat) : Int)) (by omega) ?_
        refine fn_sld (k := 1 + 10 * j + 9) hx hb hX hbl hbA hS (by omega) (by omega) dX7_law_294 ?_
        obtain ⟨⟨fs2, hfs2⟩, hC2⟩ := hM w1 n1 hMid
        refine fw_callV (ci := 6) (fs := fs2) (T := TX6) (N := 26) (b := B + 12) (As := [.long (((((xs (1 + 10 * j + 1))).toInt64) <<< (((iI (((32 : Nat) : Int)))).toInt64 &&& 63)) ||| ((((xs (1 + 10 * j + 2))).toInt64) &&& ((4294967295)))), .long (((((xs (1 + 10 * j + 3))).toInt64) <<< (((iI (((32 : Nat) : Int)))).toInt64 &&& 63)) ||| ((((xs (1 + 10 * j + 4))).toInt64) &&& ((4294967295)))), .long (((((xs (1 + 10 * j + 5))).toInt64) <<< (((iI (((32 : Nat) : Int)))).toInt64 &&& 63)) ||| ((((xs (1 + 10 * j + 6))).toInt64) &&& ((4294967295)))), .long (((((xs (1 + 10 * j + 7))).toInt64) <<< (((iI (((32 : Nat) : Int)))).toInt64 &&& 63)) ||| ((((xs (1 + 10 * j + 8))).toInt64) &&& ((4294967295)))), .int (xs (1 + 10 * j + 9))]) (rest := []) hx hb hml hown hts hK hG hP hS hl mM_X6_key mV_X6_key mLX7_27 hC2 hfs2 rfl rfl rfl (Nat.le_of_ble_eq_true rfl) ⟨Nat.le_of_ble_eq_true rfl, Nat.le_of_ble_eq_true rfl⟩ ⟨by show _ ≤ 600000; (try dsimp only); omega, by show _ ≤ 7302250; (try dsimp only); omega⟩ dX7_law_295 (fun r w2 n2 H locs hq hP hS => ?_)
        obtain ⟨rfl, hI2⟩ := hq
        refine W.eq (g2 := F0 m 298 ls []) rfl ?_
        refine lv_goto (tgt := 616) hx hb dX7_law_298 (by decide) ?_
        refine lv_iinc (k := 0) (v := (iI (((1 + 10 * j + 10 : Nat) : Int)))) (lv' := [(3, .int (iI (((1 + 10 * j + 10 : Nat) : Int)))), (2, .ref (B + 12)), (1, .ref (B)), (0, .ref (b))]) hx hb dX7_law_616 hl rfl (iI_inc _ 10) (by decide) rfl (fun ls hl => ?_)
        refine lv_goto (tgt := 28) hx hb dX7_law_619 (by decide) ?_
        replace hl : lv_has ls 4 [(3, .int (iI (((1 + 10 * (j + 1) : Nat) : Int)))), (2, .ref (B + 12)), (1, .ref (B)), (0, .ref (b))] := by
          refine ⟨hl.1, hl.2.1, fun q hq => hl.2.2 q ?_⟩
          rw [(show ((1 + 10 * j + 10 : Nat) : Int) = ((1 + 10 * (j + 1) : Nat) : Int) from (by omega))]
          simp only [List.mem_cons, List.not_mem_nil, or_false] at hq
          rcases hq with rfl | rfl | rfl | rfl
          · exact List.mem_of_getElem? (i := 0) rfl
          · exact List.mem_of_getElem? (i := 1) rfl
          · exact List.mem_of_getElem? (i := 2) rfl
          · exact List.mem_of_getElem? (i := 3) rfl
        refine W.widen (k := 40 + 4 * (j + 1)) (n := 160000 + 220 * (j + 1)) (by (try dsimp only); omega) (by (try dsimp only); omega) ?_
        exact ih (j + 1) (by omega) n2 w2 H locs ls (by omega) (hI2.later _ (by omega)) hP hS hl
      · refine lv_tableIn (tgt := 301) hx hb dX7_law_43 h1 h2 (by rw [h3]; rfl) (by decide) ?_
        refine lv_aload_n hx hb dX7_law_301 rfl (lv_at hl 2 rfl) ?_
        obtain ⟨Mid, hC, hM⟩ := st_empty l D ta B n w B (1 + 10 * j)  (by omega) hI
        obtain ⟨fs, hfs⟩ := hI.desk
        refine fw_callV (ci := 0) (fs := fs) (T := TX0) (N := 8) (b := B) (As := []) (rest := []) hx hb hml hown hts hK hG hP hS hl mM_X0_empty mV_X0_empty mLX7_28 hC hfs rfl rfl rfl (Nat.le_of_ble_eq_true rfl) ⟨Nat.le_of_ble_eq_true rfl, Nat.le_of_ble_eq_true rfl⟩ ⟨by show _ ≤ 600000; (try dsimp only); omega, by show _ ≤ 7302250; (try dsimp only); omega⟩ dX7_law_302 (fun r w1 n1 H locs hq hP hS => ?_)
        obtain ⟨rfl, hMid⟩ := hq
        refine W.eq (g2 := F0 m 305 ls []) rfl ?_
        refine lv_aload_n hx hb dX7_law_305 rfl (lv_at hl 1 rfl) ?_
        obtain ⟨⟨fs2, hfs2⟩, hC2⟩ := hM w1 n1 hMid
        refine fw_callV (ci := 6) (fs := fs2) (T := TX6) (N := 26) (b := B + 12) (As := []) (rest := []) hx hb hml hown hts hK hG hP hS hl mM_X6_empty mV_X6_empty mLX7_31 hC2 hfs2 rfl rfl rfl (Nat.le_of_ble_eq_true rfl) ⟨Nat.le_of_ble_eq_true rfl, Nat.le_of_ble_eq_true rfl⟩ ⟨by show _ ≤ 600000; (try dsimp only); omega, by show _ ≤ 7302250; (try dsimp only); omega⟩ dX7_law_306 (fun r w2 n2 H locs hq hP hS => ?_)
        obtain ⟨rfl, hI2⟩ := hq
        refine W.eq (g2 := F0 m 309 ls []) rfl ?_
        refine lv_goto (tgt := 616) hx hb dX7_law_309 (by decide) ?_
        refine lv_iinc (k := 0) (v := (iI (((1 + 10 * j + 10 : Nat) : Int)))) (lv' := [(3, .int (iI (((1 + 10 * j + 10 : Nat) : Int)))), (2, .ref (B + 12)), (1, .ref (B)), (0, .ref (b))]) hx hb dX7_law_616 hl rfl (iI_inc _ 10) (by decide) rfl (fun ls hl => ?_)
        refine lv_goto (tgt := 28) hx hb dX7_law_619 (by decide) ?_
        replace hl : lv_has ls 4 [(3, .int (iI (((1 + 10 * (j + 1) : Nat) : Int)))), (2, .ref (B + 12)), (1, .ref (B)), (0, .ref (b))] := by
          refine ⟨hl.1, hl.2.1, fun q hq => hl.2.2 q ?_⟩
          rw [(show ((1 + 10 * j + 10 : Nat) : Int) = ((1 + 10 * (j + 1) : Nat) : Int) from (by omega))]
          simp only [List.mem_cons, List.not_mem_nil, or_false] at hq
          rcases hq with rfl | rfl | rfl | rfl
          · exact List.mem_of_getElem? (i := 0) rfl
          · exact List.mem_of_getElem? (i := 1) rfl
          · exact List.mem_of_getElem? (i := 2) rfl
          · exact List.mem_of_getElem? (i := 3) rfl
        refine W.widen (k := 40 + 4 * (j + 1)) (n := 160000 + 220 * (j + 1)) (by (try dsimp only); omega) (by (try dsimp only); omega) ?_
        exact ih (j + 1) (by omega) n2 w2 H locs ls (by omega) (hI2.later _ (by omega)) hP hS hl
      · refine lv_tableIn (tgt := 312) hx hb dX7_law_43 h1 h2 (by rw [h3]; rfl) (by decide) ?_
        refine lv_aload_n hx hb dX7_law_312 rfl (lv_at hl 2 rfl) ?_
        refine lv_aload_n hx hb dX7_law_313 rfl (lv_at hl 3 rfl) ?_
        refine lv_iload_n hx hb dX7_law_314 rfl (lv_at hl 0 rfl) ?_
        refine lv_iconst (v := (iI (((1 : Nat) : Int)))) hx hb dX7_law_315 rfl ?_
        refine fn_iadd (x := ((1 + 10 * j : Nat) : Int)) (y := ((1 : Nat) : Int)) hx hb dX7_law_316 ?_
        refine fn_topz (y := ((1 + 10 * j + 1 : Nat) : Int)) (by omega) ?_
        refine fn_sld (k := 1 + 10 * j + 1) hx hb hX hbl hbA hS (by omega) (by omega) dX7_law_317 ?_
        refine lv_i2l (v := ((xs (1 + 10 * j + 1))).toInt64) hx hb dX7_law_318 rfl ?_
        refine lv_bipush (v := (iI (((32 : Nat) : Int)))) hx hb dX7_law_319 (by decide) ?_
        refine lv_lshl (v := (((xs (1 + 10 * j + 1))).toInt64) <<< (((iI (((32 : Nat) : Int)))).toInt64 &&& 63)) hx hb dX7_law_321 rfl ?_
        refine lv_aload_n hx hb dX7_law_322 rfl (lv_at hl 3 rfl) ?_
        refine lv_iload_n hx hb dX7_law_323 rfl (lv_at hl 0 rfl) ?_
        refine lv_iconst (v := (iI (((2 : Nat) : Int)))) hx hb dX7_law_324 rfl ?_
        refine fn_iadd (x := ((1 + 10 * j : Nat) : Int)) (y := ((2 : Nat) : Int)) hx hb dX7_law_325 ?_
        refine fn_topz (y := ((1 + 10 * j + 2 : Nat) : Int)) (by omega) ?_
        refine fn_sld (k := 1 + 10 * j + 2) hx hb hX hbl hbA hS (by omega) (by omega) dX7_law_326 ?_
        refine lv_i2l (v := ((xs (1 + 10 * j + 2))).toInt64) hx hb dX7_law_327 rfl ?_
        refine lv_ldc2 (v := (4294967295)) hx hb hown (hts _ mDX7_21) dX7_law_328 ?_
        refine lv_land hx hb dX7_law_331 ?_
        refine lv_lor hx hb dX7_law_332 ?_
        refine lv_aload_n hx hb dX7_law_333 rfl (lv_at hl 3 rfl) ?_
        refine lv_iload_n hx hb dX7_law_334 rfl (lv_at hl 0 rfl) ?_
        refine lv_iconst (v := (iI (((3 : Nat) : Int)))) hx hb dX7_law_335 rfl ?_
        refine fn_iadd (x := ((1 + 10 * j : Nat) : Int)) (y := ((3 : Nat) : Int)) hx hb dX7_law_336 ?_
        refine fn_topz (y := ((1 + 10 * j + 3 : Nat) : Int)) (by omega) ?_
        refine fn_sld (k := 1 + 10 * j + 3) hx hb hX hbl hbA hS (by omega) (by omega) dX7_law_337 ?_
        refine fn_topi (y := iI ((xs (1 + 10 * j + 3)).toInt)) (iI_x _).symm ?_
        obtain ⟨x, Mid, hC, hM⟩ := st_put l D ta B n w B (1 + 10 * j) (((((xs (1 + 10 * j + 1))).toInt64) <<< (((iI (((32 : Nat) : Int)))).toInt64 &&& 63)) ||| ((((xs (1 + 10 * j + 2))).toInt64) &&& ((4294967295)))) ((xs (1 + 10 * j + 3)).toInt) (iK_x _) (by omega) hI
        obtain ⟨fs, hfs⟩ := hI.desk
        refine fw_callV (ci := 0) (fs := fs) (T := TX0) (N := 8) (b := B) (As := [.long (((((xs (1 + 10 * j + 1))).toInt64) <<< (((iI (((32 : Nat) : Int)))).toInt64 &&& 63)) ||| ((((xs (1 + 10 * j + 2))).toInt64) &&& ((4294967295)))), .int (iI ((xs (1 + 10 * j + 3)).toInt))]) (rest := []) hx hb hml hown hts hK hG hP hS hl mM_X0_put mV_X0_put mLX7_32 hC hfs rfl rfl rfl (Nat.le_of_ble_eq_true rfl) ⟨Nat.le_of_ble_eq_true rfl, Nat.le_of_ble_eq_true rfl⟩ ⟨by show _ ≤ 600000; (try dsimp only); omega, by show _ ≤ 7302250; (try dsimp only); omega⟩ dX7_law_338 (fun r w1 n1 H locs hq hP hS => ?_)
        obtain ⟨rfl, hMid⟩ := hq
        refine W.eq (g2 := F0 m 341 ls [.int (x)]) rfl ?_
        refine lv_aload_n hx hb dX7_law_341 rfl (lv_at hl 1 rfl) ?_
        refine lv_aload_n hx hb dX7_law_342 rfl (lv_at hl 3 rfl) ?_
        refine lv_iload_n hx hb dX7_law_343 rfl (lv_at hl 0 rfl) ?_
        refine lv_iconst (v := (iI (((1 : Nat) : Int)))) hx hb dX7_law_344 rfl ?_
        refine fn_iadd (x := ((1 + 10 * j : Nat) : Int)) (y := ((1 : Nat) : Int)) hx hb dX7_law_345 ?_
        refine fn_topz (y := ((1 + 10 * j + 1 : Nat) : Int)) (by omega) ?_
        refine fn_sld (k := 1 + 10 * j + 1) hx hb hX hbl hbA hS (by omega) (by omega) dX7_law_346 ?_
        refine lv_i2l (v := ((xs (1 + 10 * j + 1))).toInt64) hx hb dX7_law_347 rfl ?_
        refine lv_bipush (v := (iI (((32 : Nat) : Int)))) hx hb dX7_law_348 (by decide) ?_
        refine lv_lshl (v := (((xs (1 + 10 * j + 1))).toInt64) <<< (((iI (((32 : Nat) : Int)))).toInt64 &&& 63)) hx hb dX7_law_350 rfl ?_
        refine lv_aload_n hx hb dX7_law_351 rfl (lv_at hl 3 rfl) ?_
        refine lv_iload_n hx hb dX7_law_352 rfl (lv_at hl 0 rfl) ?_
        refine lv_iconst (v := (iI (((2 : Nat) : Int)))) hx hb dX7_law_353 rfl ?_
        refine fn_iadd (x := ((1 + 10 * j : Nat) : Int)) (y := ((2 : Nat) : Int)) hx hb dX7_law_354 ?_
        refine fn_topz (y := ((1 + 10 * j + 2 : Nat) : Int)) (by omega) ?_
        refine fn_sld (k := 1 + 10 * j + 2) hx hb hX hbl hbA hS (by omega) (by omega) dX7_law_355 ?_
        refine lv_i2l (v := ((xs (1 + 10 * j + 2))).toInt64) hx hb dX7_law_356 rfl ?_
        refine lv_ldc2 (v := (4294967295)) hx hb hown (hts _ mDX7_21) dX7_law_357 ?_
        refine lv_land hx hb dX7_law_360 ?_
        refine lv_lor hx hb dX7_law_361 ?_
        refine lv_aload_n hx hb dX7_law_362 rfl (lv_at hl 3 rfl) ?_
        refine lv_iload_n hx hb dX7_law_363 rfl (lv_at hl 0 rfl) ?_
        refine lv_iconst (v := (iI (((3 : Nat) : Int)))) hx hb dX7_law_364 rfl ?_
        refine fn_iadd (x := ((1 + 10 * j : Nat) : Int)) (y := ((3 : Nat) : Int)) hx hb dX7_law_365 ?_
        refine fn_topz (y := ((1 + 10 * j + 3 : Nat) : Int)) (by omega) ?_
        refine fn_sld (k := 1 + 10 * j + 3) hx hb hX hbl hbA hS (by omega) (by omega) dX7_law_366 ?_
        refine fn_topi (y := iI ((xs (1 + 10 * j + 3)).toInt)) (iI_x _).symm ?_
        obtain ⟨⟨fs2, hfs2⟩, hC2⟩ := hM w1 n1 hMid
        refine fw_callV (ci := 6) (fs := fs2) (T := TX6) (N := 26) (b := B + 12) (As := [.long (((((xs (1 + 10 * j + 1))).toInt64) <<< (((iI (((32 : Nat) : Int)))).toInt64 &&& 63)) ||| ((((xs (1 + 10 * j + 2))).toInt64) &&& ((4294967295)))), .int (iI ((xs (1 + 10 * j + 3)).toInt))]) (rest := [.int (x)]) hx hb hml hown hts hK hG hP hS hl mM_X6_put mV_X6_put mLX7_36 hC2 hfs2 rfl rfl rfl (Nat.le_of_ble_eq_true rfl) ⟨Nat.le_of_ble_eq_true rfl, Nat.le_of_ble_eq_true rfl⟩ ⟨by show _ ≤ 600000; (try dsimp only); omega, by show _ ≤ 7302250; (try dsimp only); omega⟩ dX7_law_367 (fun r w2 n2 H locs hq hP hS => ?_)
        obtain ⟨rfl, hI2⟩ := hq
        refine W.eq (g2 := F0 m 370 ls [.int (x), .int (x)]) rfl ?_
        refine lv_icmp_eq (x := (x)) (y := (x)) (tgt := 616) hx hb dX7_law_370 (by decide) (fun c2 => ?_) (fun c2 => False.elim (by exact c2 rfl))
        refine lv_iinc (k := 0) (v := (iI (((1 + 10 * j + 10 : Nat) : Int)))) (lv' := [(3, .int (iI (((1 + 10 * j + 10 : Nat) : Int)))), (2, .ref (B + 12)), (1, .ref (B)), (0, .ref (b))]) hx hb dX7_law_616 hl rfl (iI_inc _ 10) (by decide) rfl (fun ls hl => ?_)
        refine lv_goto (tgt := 28) hx hb dX7_law_619 (by decide) ?_
        replace hl : lv_has ls 4 [(3, .int (iI (((1 + 10 * (j + 1) : Nat) : Int)))), (2, .ref (B + 12)), (1, .ref (B)), (0, .ref (b))] := by
          refine ⟨hl.1, hl.2.1, fun q hq => hl.2.2 q ?_⟩
          rw [(show ((1 + 10 * j + 10 : Nat) : Int) = ((1 + 10 * (j + 1) : Nat) : Int) from (by omega))]
          simp only [List.mem_cons, List.not_mem_nil, or_false] at hq
          rcases hq with rfl | rfl | rfl | rfl
          · exact List.mem_of_getElem? (i := 0) rfl
          · exact List.mem_of_getElem? (i := 1) rfl
          · exact List.mem_of_getElem? (i := 2) rfl
          · exact List.mem_of_getElem? (i := 3) rfl
        refine W.widen (k := 40 + 4 * (j + 1)) (n := 160000 + 220 * (j + 1)) (by (try dsimp only); omega) (by (try dsimp only); omega) ?_
        exact ih (j + 1) (by omega) n2 w2 H locs ls (by omega) (hI2.later _ (by omega)) hP hS hl
      · refine lv_tableIn (tgt := 375) hx hb dX7_law_43 h1 h2 (by rw [h3]; rfl) (by decide) ?_
        refine lv_aload_n hx hb dX7_law_375 rfl (lv_at hl 2 rfl) ?_
        obtain ⟨x, Mid, hC, hM⟩ := st_begin l D ta B n w B (1 + 10 * j)  (by omega) hI
        obtain ⟨fs, hfs⟩ := hI.desk
        refine fw_callV (ci := 0) (fs := fs) (T := TX0) (N := 8) (b := B) (As := []) (rest := []) hx hb hml hown hts hK hG hP hS hl mM_X0_begin mV_X0_begin mLX7_37 hC hfs rfl rfl rfl (Nat.le_of_ble_eq_true rfl) ⟨Nat.le_of_ble_eq_true rfl, Nat.le_of_ble_eq_true rfl⟩ ⟨by show _ ≤ 600000; (try dsimp only); omega, by show _ ≤ 7302250; (try dsimp only); omega⟩ dX7_law_376 (fun r w1 n1 H locs hq hP hS => ?_)
        obtain ⟨rfl, hMid⟩ := hq
        refine W.eq (g2 := F0 m 379 ls [.int (x)]) rfl ?_
        refine lv_aload_n hx hb dX7_law_379 rfl (lv_at hl 1 rfl) ?_
        obtain ⟨⟨fs2, hfs2⟩, hC2⟩ := hM w1 n1 hMid
        refine fw_callV (ci := 6) (fs := fs2) (T := TX6) (N := 26) (b := B + 12) (As := []) (rest := [.int (x)]) hx hb hml hown hts hK hG hP hS hl mM_X6_begin mV_X6_begin mLX7_41 hC2 hfs2 rfl rfl rfl (Nat.le_of_ble_eq_true rfl) ⟨Nat.le_of_ble_eq_true rfl, Nat.le_of_ble_eq_true rfl⟩ ⟨by show _ ≤ 600000; (try dsimp only); omega, by show _ ≤ 7302250; (try dsimp only); omega⟩ dX7_law_380 (fun r w2 n2 H locs hq hP hS => ?_)
        obtain ⟨rfl, hI2⟩ := hq
        refine W.eq (g2 := F0 m 383 ls [.int (x), .int (x)]) rfl ?_
        refine lv_icmp_eq (x := (x)) (y := (x)) (tgt := 616) hx hb dX7_law_383 (by decide) (fun c3 => ?_) (fun c3 => False.elim (by exact c3 rfl))
        refine lv_iinc (k := 0) (v := (iI (((1 + 10 * j + 10 : Nat) : Int)))) (lv' := [(3, .int (iI (((1 + 10 * j + 10 : Nat) : Int)))), (2, .ref (B + 12)), (1, .ref (B)), (0, .ref (b))]) hx hb dX7_law_616 hl rfl (iI_inc _ 10) (by decide) rfl (fun ls hl => ?_)
        refine lv_goto (tgt := 28) hx hb dX7_law_619 (by decide) ?_
        replace hl : lv_has ls 4 [(3, .int (iI (((1 + 10 * (j + 1) : Nat) : Int)))), (2, .ref (B + 12)), (1, .ref (B)), (0, .ref (b))] := by
          refine ⟨hl.1, hl.2.1, fun q hq => hl.2.2 q ?_⟩
          rw [(show ((1 + 10 * j + 10 : Nat) : Int) = ((1 + 10 * (j + 1) : Nat) : Int) from (by omega))]
          simp only [List.mem_cons, List.not_mem_nil, or_false] at hq
          rcases hq with rfl | rfl | rfl | rfl
          · exact List.mem_of_getElem? (i := 0) rfl
          · exact List.mem_of_getElem? (i := 1) rfl
          · exact List.mem_of_getElem? (i := 2) rfl
          · exact List.mem_of_getElem? (i := 3) rfl
        refine W.widen (k := 40 + 4 * (j + 1)) (n := 160000 + 220 * (j + 1)) (by (try dsimp only); omega) (by (try dsimp only); omega) ?_
        exact ih (j + 1) (by omega) n2 w2 H locs ls (by omega) (hI2.later _ (by omega)) hP hS hl
      · refine lv_tableIn (tgt := 388) hx hb dX7_law_43 h1 h2 (by rw [h3]; rfl) (by decide) ?_
        refine lv_aload_n hx hb dX7_law_388 rfl (lv_at hl 2 rfl) ?_
        refine lv_aload_n hx hb dX7_law_389 rfl (lv_at hl 3 rfl) ?_
        refine lv_iload_n hx hb dX7_law_390 rfl (lv_at hl 0 rfl) ?_
        refine lv_iconst (v := (iI (((1 : Nat) : Int)))) hx hb dX7_law_391 rfl ?_
        refine fn_iadd (x := ((1 + 10 * j : Nat) : Int)) (y := ((1 : Nat) : Int)) hx hb dX7_law_392 ?_
        refine fn_topz (y := ((1 + 10 * j + 1 : Nat) : Int)) (by omega) ?_
        refine fn_sld (k := 1 + 10 * j + 1) hx hb hX hbl hbA hS (by omega) (by omega) dX7_law_393 ?_
        refine lv_i2l (v := ((xs (1 + 10 * j + 1))).toInt64) hx hb dX7_law_394 rfl ?_
        refine lv_bipush (v := (iI (((32 : Nat) : Int)))) hx hb dX7_law_395 (by decide) ?_
        refine lv_lshl (v := (((xs (1 + 10 * j + 1))).toInt64) <<< (((iI (((32 : Nat) : Int)))).toInt64 &&& 63)) hx hb dX7_law_397 rfl ?_
        refine lv_aload_n hx hb dX7_law_398 rfl (lv_at hl 3 rfl) ?_
        refine lv_iload_n hx hb dX7_law_399 rfl (lv_at hl 0 rfl) ?_
        refine lv_iconst (v := (iI (((2 : Nat) : Int)))) hx hb dX7_law_400 rfl ?_
        refine fn_iadd (x := ((1 + 10 * j : Nat) : Int)) (y := ((2 : Nat) : Int)) hx hb dX7_law_401 ?_
        refine fn_topz (y := ((1 + 10 * j + 2 : Nat) : Int)) (by omega) ?_
        refine fn_sld (k := 1 + 10 * j + 2) hx hb hX hbl hbA hS (by omega) (by omega) dX7_law_402 ?_
        refine lv_i2l (v := ((xs (1 + 10 * j + 2))).toInt64) hx hb dX7_law_403 rfl ?_
        refine lv_ldc2 (v := (4294967295)) hx hb hown (hts _ mDX7_21) dX7_law_404 ?_
        refine lv_land hx hb dX7_law_407 ?_
        refine lv_lor hx hb dX7_law_408 ?_
        refine lv_aload_n hx hb dX7_law_409 rfl (lv_at hl 3 rfl) ?_
        refine lv_iload_n hx hb dX7_law_410 rfl (lv_at hl 0 rfl) ?_
        refine lv_iconst (v := (iI (((3 : Nat) : Int)))) hx hb dX7_law_411 rfl ?_
        refine fn_iadd (x := ((1 + 10 * j : Nat) : Int)) (y := ((3 : Nat) : Int)) hx hb dX7_law_412 ?_
        refine fn_topz (y := ((1 + 10 * j + 3 : Nat) : Int)) (by omega) ?_
        refine fn_sld (k := 1 + 10 * j + 3) hx hb hX hbl hbA hS (by omega) (by omega) dX7_law_413 ?_
        refine lv_if_eq (x := xs (1 + 10 * j + 3)) (tgt := 421) hx hb dX7_law_414 (by decide) (fun c4 => ?_) (fun c4 => ?_)
        · refine lv_iconst (v := (iI (((0 : Nat) : Int)))) hx hb dX7_law_421 rfl ?_
          obtain ⟨x, Mid, hC, hM⟩ := st_make l D ta B n w B (1 + 10 * j) (((((xs (1 + 10 * j + 1))).toInt64) <<< (((iI (((32 : Nat) : Int)))).toInt64 &&& 63)) ||| ((((xs (1 + 10 * j + 2))).toInt64) &&& ((4294967295)))) false (by omega) hI
          obtain ⟨fs, hfs⟩ := hI.desk
          refine fw_callV (ci := 0) (fs := fs) (T := TX0) (N := 8) (b := B) (As := [.long (((((xs (1 + 10 * j + 1))).toInt64) <<< (((iI (((32 : Nat) : Int)))).toInt64 &&& 63)) ||| ((((xs (1 + 10 * j + 2))).toInt64) &&& ((4294967295)))), .int (bI (false))]) (rest := []) hx hb hml hown hts hK hG hP hS hl mM_X0_make mV_X0_make mLX7_42 hC hfs rfl rfl rfl (Nat.le_of_ble_eq_true rfl) ⟨Nat.le_of_ble_eq_true rfl, Nat.le_of_ble_eq_true rfl⟩ ⟨by show _ ≤ 600000; (try dsimp only); omega, by show _ ≤ 7302250; (try dsimp only); omega⟩ dX7_law_422 (fun r w1 n1 H locs hq hP hS => ?_)
          obtain ⟨rfl, hMid⟩ := hq
          refine W.eq (g2 := F0 m 425 ls [.int (x)]) rfl ?_
          refine lv_aload_n hx hb dX7_law_425 rfl (lv_at hl 1 rfl) ?_
          refine lv_aload_n hx hb dX7_law_426 rfl (lv_at hl 3 rfl) ?_
          refine lv_iload_n hx hb dX7_law_427 rfl (lv_at hl 0 rfl) ?_
          refine lv_iconst (v := (iI (((1 : Nat) : Int)))) hx hb dX7_law_428 rfl ?_
          refine fn_iadd (x := ((1 + 10 * j : Nat) : Int)) (y := ((1 : Nat) : Int)) hx hb dX7_law_429 ?_
          refine fn_topz (y := ((1 + 10 * j + 1 : Nat) : Int)) (by omega) ?_
          refine fn_sld (k := 1 + 10 * j + 1) hx hb hX hbl hbA hS (by omega) (by omega) dX7_law_430 ?_
          refine lv_i2l (v := ((xs (1 + 10 * j + 1))).toInt64) hx hb dX7_law_431 rfl ?_
          refine lv_bipush (v := (iI (((32 : Nat) : Int)))) hx hb dX7_law_432 (by decide) ?_
          refine lv_lshl (v := (((xs (1 + 10 * j + 1))).toInt64) <<< (((iI (((32 : Nat) : Int)))).toInt64 &&& 63)) hx hb dX7_law_434 rfl ?_
          refine lv_aload_n hx hb dX7_law_435 rfl (lv_at hl 3 rfl) ?_
          refine lv_iload_n hx hb dX7_law_436 rfl (lv_at hl 0 rfl) ?_
          refine lv_iconst (v := (iI (((2 : Nat) : Int)))) hx hb dX7_law_437 rfl ?_
          refine fn_iadd (x := ((1 + 10 * j : Nat) : Int)) (y := ((2 : Nat) : Int)) hx hb dX7_law_438 ?_
          refine fn_topz (y := ((1 + 10 * j + 2 : Nat) : Int)) (by omega) ?_
          refine fn_sld (k := 1 + 10 * j + 2) hx hb hX hbl hbA hS (by omega) (by omega) dX7_law_439 ?_
          refine lv_i2l (v := ((xs (1 + 10 * j + 2))).toInt64) hx hb dX7_law_440 rfl ?_
          refine lv_ldc2 (v := (4294967295)) hx hb hown (hts _ mDX7_21) dX7_law_441 ?_
          refine lv_land hx hb dX7_law_444 ?_
          refine lv_lor hx hb dX7_law_445 ?_
          refine lv_aload_n hx hb dX7_law_446 rfl (lv_at hl 3 rfl) ?_
          refine lv_iload_n hx hb dX7_law_447 rfl (lv_at hl 0 rfl) ?_
          refine lv_iconst (v := (iI (((3 : Nat) : Int)))) hx hb dX7_law_448 rfl ?_
          refine fn_iadd (x := ((1 + 10 * j : Nat) : Int)) (y := ((3 : Nat) : Int)) hx hb dX7_law_449 ?_
          refine fn_topz (y := ((1 + 10 * j + 3 : Nat) : Int)) (by omega) ?_
          refine fn_sld (k := 1 + 10 * j + 3) hx hb hX hbl hbA hS (by omega) (by omega) dX7_law_450 ?_
          refine lv_if_eq (x := xs (1 + 10 * j + 3)) (tgt := 458) hx hb dX7_law_451 (by decide) (fun c5 => ?_) (fun c5 => False.elim (by exact c5 c4))
          refine lv_iconst (v := (iI (((0 : Nat) : Int)))) hx hb dX7_law_458 rfl ?_
          obtain ⟨⟨fs2, hfs2⟩, hC2⟩ := hM w1 n1 hMid
          refine fw_callV (ci := 6) (fs := fs2) (T := TX6) (N := 26) (b := B + 12) (As := [.long (((((xs (1 + 10 * j + 1))).toInt64) <<< (((iI (((32 : Nat) : Int)))).toInt64 &&& 63)) ||| ((((xs (1 + 10 * j + 2))).toInt64) &&& ((4294967295)))), .int (bI (false))]) (rest := [.int (x)]) hx hb hml hown hts hK hG hP hS hl mM_X6_make mV_X6_make mLX7_46 hC2 hfs2 rfl rfl rfl (Nat.le_of_ble_eq_true rfl) ⟨Nat.le_of_ble_eq_true rfl, Nat.le_of_ble_eq_true rfl⟩ ⟨by show _ ≤ 600000; (try dsimp only); omega, by show _ ≤ 7302250; (try dsimp only); omega⟩ dX7_law_459 (fun r w2 n2 H locs hq hP hS => ?_)
          obtain ⟨rfl, hI2⟩ := hq
          refine W.eq (g2 := F0 m 462 ls [.int (x), .int (x)]) rfl ?_
          refine lv_icmp_eq (x := (x)) (y := (x)) (tgt := 616) hx hb dX7_law_462 (by decide) (fun c6 => ?_) (fun c6 => False.elim (by exact c6 rfl))
          refine lv_iinc (k := 0) (v := (iI (((1 + 10 * j + 10 : Nat) : Int)))) (lv' := [(3, .int (iI (((1 + 10 * j + 10 : Nat) : Int)))), (2, .ref (B + 12)), (1, .ref (B)), (0, .ref (b))]) hx hb dX7_law_616 hl rfl (iI_inc _ 10) (by decide) rfl (fun ls hl => ?_)
          refine lv_goto (tgt := 28) hx hb dX7_law_619 (by decide) ?_
          replace hl : lv_has ls 4 [(3, .int (iI (((1 + 10 * (j + 1) : Nat) : Int)))), (2, .ref (B + 12)), (1, .ref (B)), (0, .ref (b))] := by
            refine ⟨hl.1, hl.2.1, fun q hq => hl.2.2 q ?_⟩
            rw [(show ((1 + 10 * j + 10 : Nat) : Int) = ((1 + 10 * (j + 1) : Nat) : Int) from (by omega))]
            simp only [List.mem_cons, List.not_mem_nil, or_false] at hq
            rcases hq with rfl | rfl | rfl | rfl
            · exact List.mem_of_getElem? (i := 0) rfl
            · exact List.mem_of_getElem? (i := 1) rfl
            · exact List.mem_of_getElem? (i := 2) rfl
            · exact List.mem_of_getElem? (i := 3) rfl
          refine W.widen (k := 40 + 4 * (j + 1)) (n := 160000 + 220 * (j + 1)) (by (try dsimp only); omega) (by (try dsimp only); omega) ?_
          exact ih (j + 1) (by omega) n2 w2 H locs ls (by omega) (hI2.later _ (by omega)) hP hS hl
        · refine lv_iconst (v := (iI (((1 : Nat) : Int)))) hx hb dX7_law_417 rfl ?_
          refine lv_goto (tgt := 422) hx hb dX7_law_418 (by decide) ?_
          obtain ⟨x, Mid, hC, hM⟩ := st_make l D ta B n w B (1 + 10 * j) (((((xs (1 + 10 * j + 1))).toInt64) <<< (((iI (((32 : Nat) : Int)))).toInt64 &&& 63)) ||| ((((xs (1 + 10 * j + 2))).toInt64) &&& ((4294967295)))) true (by omega) hI
          obtain ⟨fs, hfs⟩ := hI.desk
          refine fw_callV (ci := 0) (fs := fs) (T := TX0) (N := 8) (b := B) (As := [.long (((((xs (1 + 10 * j + 1))).toInt64) <<< (((iI (((32 : Nat) : Int)))).toInt64 &&& 63)) ||| ((((xs (1 + 10 * j + 2))).toInt64) &&& ((4294967295)))), .int (bI (true))]) (rest := []) hx hb hml hown hts hK hG hP hS hl mM_X0_make mV_X0_make mLX7_42 hC hfs rfl rfl rfl (Nat.le_of_ble_eq_true rfl) ⟨Nat.le_of_ble_eq_true rfl, Nat.le_of_ble_eq_true rfl⟩ ⟨by show _ ≤ 600000; (try dsimp only); omega, by show _ ≤ 7302250; (try dsimp only); omega⟩ dX7_law_422 (fun r w1 n1 H locs hq hP hS => ?_)
          obtain ⟨rfl, hMid⟩ := hq
          refine W.eq (g2 := F0 m 425 ls [.int (x)]) rfl ?_
          refine lv_aload_n hx hb dX7_law_425 rfl (lv_at hl 1 rfl) ?_
          refine lv_aload_n hx hb dX7_law_426 rfl (lv_at hl 3 rfl) ?_
          refine lv_iload_n hx hb dX7_law_427 rfl (lv_at hl 0 rfl) ?_
          refine lv_iconst (v := (iI (((1 : Nat) : Int)))) hx hb dX7_law_428 rfl ?_
          refine fn_iadd (x := ((1 + 10 * j : Nat) : Int)) (y := ((1 : Nat) : Int)) hx hb dX7_law_429 ?_
          refine fn_topz (y := ((1 + 10 * j + 1 : Nat) : Int)) (by omega) ?_
          refine fn_sld (k := 1 + 10 * j + 1) hx hb hX hbl hbA hS (by omega) (by omega) dX7_law_430 ?_
          refine lv_i2l (v := ((xs (1 + 10 * j + 1))).toInt64) hx hb dX7_law_431 rfl ?_
          refine lv_bipush (v := (iI (((32 : Nat) : Int)))) hx hb dX7_law_432 (by decide) ?_
          refine lv_lshl (v := (((xs (1 + 10 * j + 1))).toInt64) <<< (((iI (((32 : Nat) : Int)))).toInt64 &&& 63)) hx hb dX7_law_434 rfl ?_
          refine lv_aload_n hx hb dX7_law_435 rfl (lv_at hl 3 rfl) ?_
          refine lv_iload_n hx hb dX7_law_436 rfl (lv_at hl 0 rfl) ?_
          refine lv_iconst (v := (iI (((2 : Nat) : Int)))) hx hb dX7_law_437 rfl ?_
          refine fn_iadd (x := ((1 + 10 * j : Nat) : Int)) (y := ((2 : Nat) : Int)) hx hb dX7_law_438 ?_
          refine fn_topz (y := ((1 + 10 * j + 2 : Nat) : Int)) (by omega) ?_
          refine fn_sld (k := 1 + 10 * j + 2) hx hb hX hbl hbA hS (by omega) (by omega) dX7_law_439 ?_
          refine lv_i2l (v := ((xs (1 + 10 * j + 2))).toInt64) hx hb dX7_law_440 rfl ?_
          refine lv_ldc2 (v := (4294967295)) hx hb hown (hts _ mDX7_21) dX7_law_441 ?_
          refine lv_land hx hb dX7_law_444 ?_
          refine lv_lor hx hb dX7_law_445 ?_
          refine lv_aload_n hx hb dX7_law_446 rfl (lv_at hl 3 rfl) ?_
          refine lv_iload_n hx hb dX7_law_447 rfl (lv_at hl 0 rfl) ?_
          refine lv_iconst (v := (iI (((3 : Nat) : Int)))) hx hb dX7_law_448 rfl ?_
          refine fn_iadd (x := ((1 + 10 * j : Nat) : Int)) (y := ((3 : Nat) : Int)) hx hb dX7_law_449 ?_
          refine fn_topz (y := ((1 + 10 * j + 3 : Nat) : Int)) (by omega) ?_
          refine fn_sld (k := 1 + 10 * j + 3) hx hb hX hbl hbA hS (by omega) (by omega) dX7_law_450 ?_
          refine lv_if_eq (x := xs (1 + 10 * j + 3)) (tgt := 458) hx hb dX7_law_451 (by decide) (fun c7 => False.elim (by exact c4 c7)) (fun c7 => ?_)
          refine lv_iconst (v := (iI (((1 : Nat) : Int)))) hx hb dX7_law_454 rfl ?_
          refine lv_goto (tgt := 459) hx hb dX7_law_455 (by decide) ?_
          obtain ⟨⟨fs2, hfs2⟩, hC2⟩ := hM w1 n1 hMid
          refine fw_callV (ci := 6) (fs := fs2) (T := TX6) (N := 26) (b := B + 12) (As := [.long (((((xs (1 + 10 * j + 1))).toInt64) <<< (((iI (((32 : Nat) : Int)))).toInt64 &&& 63)) ||| ((((xs (1 + 10 * j + 2))).toInt64) &&& ((4294967295)))), .int (bI (true))]) (rest := [.int (x)]) hx hb hml hown hts hK hG hP hS hl mM_X6_make mV_X6_make mLX7_46 hC2 hfs2 rfl rfl rfl (Nat.le_of_ble_eq_true rfl) ⟨Nat.le_of_ble_eq_true rfl, Nat.le_of_ble_eq_true rfl⟩ ⟨by show _ ≤ 600000; (try dsimp only); omega, by show _ ≤ 7302250; (try dsimp only); omega⟩ dX7_law_459 (fun r w2 n2 H locs hq hP hS => ?_)
          obtain ⟨rfl, hI2⟩ := hq
          refine W.eq (g2 := F0 m 462 ls [.int (x), .int (x)]) rfl ?_
          refine lv_icmp_eq (x := (x)) (y := (x)) (tgt := 616) hx hb dX7_law_462 (by decide) (fun c8 => ?_) (fun c8 => False.elim (by exact c8 rfl))
          refine lv_iinc (k := 0) (v := (iI (((1 + 10 * j + 10 : Nat) : Int)))) (lv' := [(3, .int (iI (((1 + 10 * j + 10 : Nat) : Int)))), (2, .ref (B + 12)), (1, .ref (B)), (0, .ref (b))]) hx hb dX7_law_616 hl rfl (iI_inc _ 10) (by decide) rfl (fun ls hl => ?_)
          refine lv_goto (tgt := 28) hx hb dX7_law_619 (by decide) ?_
          replace hl : lv_has ls 4 [(3, .int (iI (((1 + 10 * (j + 1) : Nat) : Int)))), (2, .ref (B + 12)), (1, .ref (B)), (0, .ref (b))] := by
            refine ⟨hl.1, hl.2.1, fun q hq => hl.2.2 q ?_⟩
            rw [(show ((1 + 10 * j + 10 : Nat) : Int) = ((1 + 10 * (j + 1) : Nat) : Int) from (by omega))]
            simp only [List.mem_cons, List.not_mem_nil, or_false] at hq
            rcases hq with rfl | rfl | rfl | rfl
            · exact List.mem_of_getElem? (i := 0) rfl
            · exact List.mem_of_getElem? (i := 1) rfl
            · exact List.mem_of_getElem? (i := 2) rfl
            · exact List.mem_of_getElem? (i := 3) rfl
          refine W.widen (k := 40 + 4 * (j + 1)) (n := 160000 + 220 * (j + 1)) (by (try dsimp only); omega) (by (try dsimp only); omega) ?_
          exact ih (j + 1) (by omega) n2 w2 H locs ls (by omega) (hI2.later _ (by omega)) hP hS hl
      · refine lv_tableIn (tgt := 467) hx hb dX7_law_43 h1 h2 (by rw [h3]; rfl) (by decide) ?_
        refine lv_aload_n hx hb dX7_law_467 rfl (lv_at hl 2 rfl) ?_
        obtain ⟨x, Mid, hC, hM⟩ := st_spend l D ta B n w B (1 + 10 * j)  (by omega) hI
        obtain ⟨fs, hfs⟩ := hI.desk
        refine fw_callV (ci := 0) (fs := fs) (T := TX0) (N := 8) (b := B) (As := []) (rest := []) hx hb hml hown hts hK hG hP hS hl mM_X0_spend mV_X0_spend mLX7_47 hC hfs rfl rfl rfl (Nat.le_of_ble_eq_true rfl) ⟨Nat.le_of_ble_eq_true rfl, Nat.le_of_ble_eq_true rfl⟩ ⟨by show _ ≤ 600000; (try dsimp only); omega, by show _ ≤ 7302250; (try dsimp only); omega⟩ dX7_law_468 (fun r w1 n1 H locs hq hP hS => ?_)
        obtain ⟨rfl, hMid⟩ := hq
        refine W.eq (g2 := F0 m 471 ls [.int (x)]) rfl ?_
        refine lv_aload_n hx hb dX7_law_471 rfl (lv_at hl 1 rfl) ?_
        obtain ⟨⟨fs2, hfs2⟩, hC2⟩ := hM w1 n1 hMid
        refine fw_callV (ci := 6) (fs := fs2) (T := TX6) (N := 26) (b := B + 12) (As := []) (rest := [.int (x)]) hx hb hml hown hts hK hG hP hS hl mM_X6_spend mV_X6_spend mLX7_51 hC2 hfs2 rfl rfl rfl (Nat.le_of_ble_eq_true rfl) ⟨Nat.le_of_ble_eq_true rfl, Nat.le_of_ble_eq_true rfl⟩ ⟨by show _ ≤ 600000; (try dsimp only); omega, by show _ ≤ 7302250; (try dsimp only); omega⟩ dX7_law_472 (fun r w2 n2 H locs hq hP hS => ?_)
        obtain ⟨rfl, hI2⟩ := hq
        refine W.eq (g2 := F0 m 475 ls [.int (x), .int (x)]) rfl ?_
        refine lv_icmp_eq (x := (x)) (y := (x)) (tgt := 616) hx hb dX7_law_475 (by decide) (fun c9 => ?_) (fun c9 => False.elim (by exact c9 rfl))
        refine lv_iinc (k := 0) (v := (iI (((1 + 10 * j + 10 : Nat) : Int)))) (lv' := [(3, .int (iI (((1 + 10 * j + 10 : Nat) : Int)))), (2, .ref (B + 12)), (1, .ref (B)), (0, .ref (b))]) hx hb dX7_law_616 hl rfl (iI_inc _ 10) (by decide) rfl (fun ls hl => ?_)
        refine lv_goto (tgt := 28) hx hb dX7_law_619 (by decide) ?_
        replace hl : lv_has ls 4 [(3, .int (iI (((1 + 10 * (j + 1) : Nat) : Int)))), (2, .ref (B + 12)), (1, .ref (B)), (0, .ref (b))] := by
          refine ⟨hl.1, hl.2.1, fun q hq => hl.2.2 q ?_⟩
          rw [(show ((1 + 10 * j + 10 : Nat) : Int) = ((1 + 10 * (j + 1) : Nat) : Int) from (by omega))]
          simp only [List.mem_cons, List.not_mem_nil, or_false] at hq
          rcases hq with rfl | rfl | rfl | rfl
          · exact List.mem_of_getElem? (i := 0) rfl
          · exact List.mem_of_getElem? (i := 1) rfl
          · exact List.mem_of_getElem? (i := 2) rfl
          · exact List.mem_of_getElem? (i := 3) rfl
        refine W.widen (k := 40 + 4 * (j + 1)) (n := 160000 + 220 * (j + 1)) (by (try dsimp only); omega) (by (try dsimp only); omega) ?_
        exact ih (j + 1) (by omega) n2 w2 H locs ls (by omega) (hI2.later _ (by omega)) hP hS hl
      · refine lv_tableIn (tgt := 480) hx hb dX7_law_43 h1 h2 (by rw [h3]; rfl) (by decide) ?_
        refine lv_aload_n hx hb dX7_law_480 rfl (lv_at hl 2 rfl) ?_
        obtain ⟨x, Mid, hC, hM⟩ := st_end l D ta B n w B (1 + 10 * j)  (by omega) hI
        obtain ⟨fs, hfs⟩ := hI.desk
        refine fw_callV (ci := 0) (fs := fs) (T := TX0) (N := 8) (b := B) (As := []) (rest := []) hx hb hml hown hts hK hG hP hS hl mM_X0_end mV_X0_end mLX7_52 hC hfs rfl rfl rfl (Nat.le_of_ble_eq_true rfl) ⟨Nat.le_of_ble_eq_true rfl, Nat.le_of_ble_eq_true rfl⟩ ⟨by show _ ≤ 600000; (try dsimp only); omega, by show _ ≤ 7302250; (try dsimp only); omega⟩ dX7_law_481 (fun r w1 n1 H locs hq hP hS => ?_)
        obtain ⟨rfl, hMid⟩ := hq
        refine W.eq (g2 := F0 m 484 ls [.int (x)]) rfl ?_
        refine lv_aload_n hx hb dX7_law_484 rfl (lv_at hl 1 rfl) ?_
        obtain ⟨⟨fs2, hfs2⟩, hC2⟩ := hM w1 n1 hMid
        refine fw_callV (ci := 6) (fs := fs2) (T := TX6) (N := 26) (b := B + 12) (As := []) (rest := [.int (x)]) hx hb hml hown hts hK hG hP hS hl mM_X6_end mV_X6_end mLX7_55 hC2 hfs2 rfl rfl rfl (Nat.le_of_ble_eq_true rfl) ⟨Nat.le_of_ble_eq_true rfl, Nat.le_of_ble_eq_true rfl⟩ ⟨by show _ ≤ 600000; (try dsimp only); omega, by show _ ≤ 7302250; (try dsimp only); omega⟩ dX7_law_485 (fun r w2 n2 H locs hq hP hS => ?_)
        obtain ⟨rfl, hI2⟩ := hq
        refine W.eq (g2 := F0 m 488 ls [.int (x), .int (x)]) rfl ?_
        refine lv_icmp_eq (x := (x)) (y := (x)) (tgt := 616) hx hb dX7_law_488 (by decide) (fun c10 => ?_) (fun c10 => False.elim (by exact c10 rfl))
        refine lv_iinc (k := 0) (v := (iI (((1 + 10 * j + 10 : Nat) : Int)))) (lv' := [(3, .int (iI (((1 + 10 * j + 10 : Nat) : Int)))), (2, .ref (B + 12)), (1, .ref (B)), (0, .ref (b))]) hx hb dX7_law_616 hl rfl (iI_inc _ 10) (by decide) rfl (fun ls hl => ?_)
        refine lv_goto (tgt := 28) hx hb dX7_law_619 (by decide) ?_
        replace hl : lv_has ls 4 [(3, .int (iI (((1 + 10 * (j + 1) : Nat) : Int)))), (2, .ref (B + 12)), (1, .ref (B)), (0, .ref (b))] := by
          refine ⟨hl.1, hl.2.1, fun q hq => hl.2.2 q ?_⟩
          rw [(show ((1 + 10 * j + 10 : Nat) : Int) = ((1 + 10 * (j + 1) : Nat) : Int) from (by omega))]
          simp only [List.mem_cons, List.not_mem_nil, or_false] at hq
          rcases hq with rfl | rfl | rfl | rfl
          · exact List.mem_of_getElem? (i := 0) rfl
          · exact List.mem_of_getElem? (i := 1) rfl
          · exact List.mem_of_getElem? (i := 2) rfl
          · exact List.mem_of_getElem? (i := 3) rfl
        refine W.widen (k := 40 + 4 * (j + 1)) (n := 160000 + 220 * (j + 1)) (by (try dsimp only); omega) (by (try dsimp only); omega) ?_
        exact ih (j + 1) (by omega) n2 w2 H locs ls (by omega) (hI2.later _ (by omega)) hP hS hl
      · refine lv_tableIn (tgt := 493) hx hb dX7_law_43 h1 h2 (by rw [h3]; rfl) (by decide) ?_
        refine lv_aload_n hx hb dX7_law_493 rfl (lv_at hl 2 rfl) ?_
        obtain ⟨x, Mid, hC, hM⟩ := st_back l D ta B n w B (1 + 10 * j)  (by omega) hI
        obtain ⟨fs, hfs⟩ := hI.desk
        refine fw_callV (ci := 0) (fs := fs) (T := TX0) (N := 8) (b := B) (As := []) (rest := []) hx hb hml hown hts hK hG hP hS hl mM_X0_back mV_X0_back mLX7_56 hC hfs rfl rfl rfl (Nat.le_of_ble_eq_true rfl) ⟨Nat.le_of_ble_eq_true rfl, Nat.le_of_ble_eq_true rfl⟩ ⟨by show _ ≤ 600000; (try dsimp only); omega, by show _ ≤ 7302250; (try dsimp only); omega⟩ dX7_law_494 (fun r w1 n1 H locs hq hP hS => ?_)
        obtain ⟨rfl, hMid⟩ := hq
        refine W.eq (g2 := F0 m 497 ls [.int (x)]) rfl ?_
        refine lv_aload_n hx hb dX7_law_497 rfl (lv_at hl 1 rfl) ?_
        obtain ⟨⟨fs2, hfs2⟩, hC2⟩ := hM w1 n1 hMid
        refine fw_callV (ci := 6) (fs := fs2) (T := TX6) (N := 26) (b := B + 12) (As := []) (rest := [.int (x)]) hx hb hml hown hts hK hG hP hS hl mM_X6_back mV_X6_back mLX7_59 hC2 hfs2 rfl rfl rfl (Nat.le_of_ble_eq_true rfl) ⟨Nat.le_of_ble_eq_true rfl, Nat.le_of_ble_eq_true rfl⟩ ⟨by show _ ≤ 600000; (try dsimp only); omega, by show _ ≤ 7302250; (try dsimp only); omega⟩ dX7_law_498 (fun r w2 n2 H locs hq hP hS => ?_)
        obtain ⟨rfl, hI2⟩ := hq
        refine W.eq (g2 := F0 m 501 ls [.int (x), .int (x)]) rfl ?_
        refine lv_icmp_eq (x := (x)) (y := (x)) (tgt := 616) hx hb dX7_law_501 (by decide) (fun c11 => ?_) (fun c11 => False.elim (by exact c11 rfl))
        refine lv_iinc (k := 0) (v := (iI (((1 + 10 * j + 10 : Nat) : Int)))) (lv' := [(3, .int (iI (((1 + 10 * j + 10 : Nat) : Int)))), (2, .ref (B + 12)), (1, .ref (B)), (0, .ref (b))]) hx hb dX7_law_616 hl rfl (iI_inc _ 10) (by decide) rfl (fun ls hl => ?_)
        refine lv_goto (tgt := 28) hx hb dX7_law_619 (by decide) ?_
        replace hl : lv_has ls 4 [(3, .int (iI (((1 + 10 * (j + 1) : Nat) : Int)))), (2, .ref (B + 12)), (1, .ref (B)), (0, .ref (b))] := by
          refine ⟨hl.1, hl.2.1, fun q hq => hl.2.2 q ?_⟩
          rw [(show ((1 + 10 * j + 10 : Nat) : Int) = ((1 + 10 * (j + 1) : Nat) : Int) from (by omega))]
          simp only [List.mem_cons, List.not_mem_nil, or_false] at hq
          rcases hq with rfl | rfl | rfl | rfl
          · exact List.mem_of_getElem? (i := 0) rfl
          · exact List.mem_of_getElem? (i := 1) rfl
          · exact List.mem_of_getElem? (i := 2) rfl
          · exact List.mem_of_getElem? (i := 3) rfl
        refine W.widen (k := 40 + 4 * (j + 1)) (n := 160000 + 220 * (j + 1)) (by (try dsimp only); omega) (by (try dsimp only); omega) ?_
        exact ih (j + 1) (by omega) n2 w2 H locs ls (by omega) (hI2.later _ (by omega)) hP hS hl
      · refine lv_tableIn (tgt := 506) hx hb dX7_law_43 h1 h2 (by rw [h3]; rfl) (by decide) ?_
        refine lv_aload_n hx hb dX7_law_506 rfl (lv_at hl 2 rfl) ?_
        obtain ⟨x, Mid, hC, hM⟩ := st_forget l D ta B n w B (1 + 10 * j)  (by omega) hI
        obtain ⟨fs, hfs⟩ := hI.desk
        refine fw_callV (ci := 0) (fs := fs) (T := TX0) (N := 8) (b := B) (As := []) (rest := []) hx hb hml hown hts hK hG hP hS hl mM_X0_forget mV_X0_forget mLX7_60 hC hfs rfl rfl rfl (Nat.le_of_ble_eq_true rfl) ⟨Nat.le_of_ble_eq_true rfl, Nat.le_of_ble_eq_true rfl⟩ ⟨by show _ ≤ 600000; (try dsimp only); omega, by show _ ≤ 7302250; (try dsimp only); omega⟩ dX7_law_507 (fun r w1 n1 H locs hq hP hS => ?_)
        obtain ⟨rfl, hMid⟩ := hq
        refine W.eq (g2 := F0 m 510 ls [.int (x)]) rfl ?_
        refine lv_aload_n hx hb dX7_law_510 rfl (lv_at hl 1 rfl) ?_
        obtain ⟨⟨fs2, hfs2⟩, hC2⟩ := hM w1 n1 hMid
        refine fw_callV (ci := 6) (fs := fs2) (T := TX6) (N := 26) (b := B + 12) (As := []) (rest := [.int (x)]) hx hb hml hown hts hK hG hP hS hl mM_X6_forget mV_X6_forget mLX7_63 hC2 hfs2 rfl rfl rfl (Nat.le_of_ble_eq_true rfl) ⟨Nat.le_of_ble_eq_true rfl, Nat.le_of_ble_eq_true rfl⟩ ⟨by show _ ≤ 600000; (try dsimp only); omega, by show _ ≤ 7302250; (try dsimp only); omega⟩ dX7_law_511 (fun r w2 n2 H locs hq hP hS => ?_)
        obtain ⟨rfl, hI2⟩ := hq
        refine W.eq (g2 := F0 m 514 ls [.int (x), .int (x)]) rfl ?_
        refine lv_icmp_eq (x := (x)) (y := (x)) (tgt := 616) hx hb dX7_law_514 (by decide) (fun c12 => ?_) (fun c12 => False.elim (by exact c12 rfl))
        refine lv_iinc (k := 0) (v := (iI (((1 + 10 * j + 10 : Nat) : Int)))) (lv' := [(3, .int (iI (((1 + 10 * j + 10 : Nat) : Int)))), (2, .ref (B + 12)), (1, .ref (B)), (0, .ref (b))]) hx hb dX7_law_616 hl rfl (iI_inc _ 10) (by decide) rfl (fun ls hl => ?_)
        refine lv_goto (tgt := 28) hx hb dX7_law_619 (by decide) ?_
        replace hl : lv_has ls 4 [(3, .int (iI (((1 + 10 * (j + 1) : Nat) : Int)))), (2, .ref (B + 12)), (1, .ref (B)), (0, .ref (b))] := by
          refine ⟨hl.1, hl.2.1, fun q hq => hl.2.2 q ?_⟩
          rw [(show ((1 + 10 * j + 10 : Nat) : Int) = ((1 + 10 * (j + 1) : Nat) : Int) from (by omega))]
          simp only [List.mem_cons, List.not_mem_nil, or_false] at hq
          rcases hq with rfl | rfl | rfl | rfl
          · exact List.mem_of_getElem? (i := 0) rfl
          · exact List.mem_of_getElem? (i := 1) rfl
          · exact List.mem_of_getElem? (i := 2) rfl
          · exact List.mem_of_getElem? (i := 3) rfl
        refine W.widen (k := 40 + 4 * (j + 1)) (n := 160000 + 220 * (j + 1)) (by (try dsimp only); omega) (by (try dsimp only); omega) ?_
        exact ih (j + 1) (by omega) n2 w2 H locs ls (by omega) (hI2.later _ (by omega)) hP hS hl
      · refine lv_tableIn (tgt := 519) hx hb dX7_law_43 h1 h2 (by rw [h3]; rfl) (by decide) ?_
        refine lv_aload_n hx hb dX7_law_519 rfl (lv_at hl 2 rfl) ?_
        obtain ⟨x, Mid, hC, hM⟩ := st_has l D ta B n w B (1 + 10 * j)  (by omega) hI
        obtain ⟨fs, hfs⟩ := hI.desk
        refine fw_callV (ci := 0) (fs := fs) (T := TX0) (N := 8) (b := B) (As := []) (rest := []) hx hb hml hown hts hK hG hP hS hl mM_X0_has mV_X0_has mLX7_64 hC hfs rfl rfl rfl (Nat.le_of_ble_eq_true rfl) ⟨Nat.le_of_ble_eq_true rfl, Nat.le_of_ble_eq_true rfl⟩ ⟨by show _ ≤ 600000; (try dsimp only); omega, by show _ ≤ 7302250; (try dsimp only); omega⟩ dX7_law_520 (fun r w1 n1 H locs hq hP hS => ?_)
        obtain ⟨rfl, hMid⟩ := hq
        refine W.eq (g2 := F0 m 523 ls [.int (x)]) rfl ?_
        refine lv_aload_n hx hb dX7_law_523 rfl (lv_at hl 1 rfl) ?_
        obtain ⟨⟨fs2, hfs2⟩, hC2⟩ := hM w1 n1 hMid
        refine fw_callV (ci := 6) (fs := fs2) (T := TX6) (N := 26) (b := B + 12) (As := []) (rest := [.int (x)]) hx hb hml hown hts hK hG hP hS hl mM_X6_has mV_X6_has mLX7_67 hC2 hfs2 rfl rfl rfl (Nat.le_of_ble_eq_true rfl) ⟨Nat.le_of_ble_eq_true rfl, Nat.le_of_ble_eq_true rfl⟩ ⟨by show _ ≤ 600000; (try dsimp only); omega, by show _ ≤ 7302250; (try dsimp only); omega⟩ dX7_law_524 (fun r w2 n2 H locs hq hP hS => ?_)
        obtain ⟨rfl, hI2⟩ := hq
        refine W.eq (g2 := F0 m 527 ls [.int (x), .int (x)]) rfl ?_
        refine lv_icmp_eq (x := (x)) (y := (x)) (tgt := 616) hx hb dX7_law_527 (by decide) (fun c13 => ?_) (fun c13 => False.elim (by exact c13 rfl))
        refine lv_iinc (k := 0) (v := (iI (((1 + 10 * j + 10 : Nat) : Int)))) (lv' := [(3, .int (iI (((1 + 10 * j + 10 : Nat) : Int)))), (2, .ref (B + 12)), (1, .ref (B)), (0, .ref (b))]) hx hb dX7_law_616 hl rfl (iI_inc _ 10) (by decide) rfl (fun ls hl => ?_)
        refine lv_goto (tgt := 28) hx hb dX7_law_619 (by decide) ?_
        replace hl : lv_has ls 4 [(3, .int (iI (((1 + 10 * (j + 1) : Nat) : Int)))), (2, .ref (B + 12)), (1, .ref (B)), (0, .ref (b))] := by
          refine ⟨hl.1, hl.2.1, fun q hq => hl.2.2 q ?_⟩
          rw [(show ((1 + 10 * j + 10 : Nat) : Int) = ((1 + 10 * (j + 1) : Nat) : Int) from (by omega))]
          simp only [List.mem_cons, List.not_mem_nil, or_false] at hq
          rcases hq with rfl | rfl | rfl | rfl
          · exact List.mem_of_getElem? (i := 0) rfl
          · exact List.mem_of_getElem? (i := 1) rfl
          · exact List.mem_of_getElem? (i := 2) rfl
          · exact List.mem_of_getElem? (i := 3) rfl
        refine W.widen (k := 40 + 4 * (j + 1)) (n := 160000 + 220 * (j + 1)) (by (try dsimp only); omega) (by (try dsimp only); omega) ?_
        exact ih (j + 1) (by omega) n2 w2 H locs ls (by omega) (hI2.later _ (by omega)) hP hS hl
      · refine lv_tableIn (tgt := 532) hx hb dX7_law_43 h1 h2 (by rw [h3]; rfl) (by decide) ?_
        refine lv_aload_n hx hb dX7_law_532 rfl (lv_at hl 2 rfl) ?_
        refine lv_aload_n hx hb dX7_law_533 rfl (lv_at hl 3 rfl) ?_
        refine lv_iload_n hx hb dX7_law_534 rfl (lv_at hl 0 rfl) ?_
        refine lv_iconst (v := (iI (((1 : Nat) : Int)))) hx hb dX7_law_535 rfl ?_
        refine fn_iadd (x := ((1 + 10 * j : Nat) : Int)) (y := ((1 : Nat) : Int)) hx hb dX7_law_536 ?_
        refine fn_topz (y := ((1 + 10 * j + 1 : Nat) : Int)) (by omega) ?_
        refine fn_sld (k := 1 + 10 * j + 1) hx hb hX hbl hbA hS (by omega) (by omega) dX7_law_537 ?_
        obtain ⟨x, Mid, hC, hM⟩ := st_look l D ta B n w B (1 + 10 * j) (xs (1 + 10 * j + 1)) (by omega) hI
        obtain ⟨fs, hfs⟩ := hI.desk
        refine fw_callV (ci := 0) (fs := fs) (T := TX0) (N := 8) (b := B) (As := [.int (xs (1 + 10 * j + 1))]) (rest := []) hx hb hml hown hts hK hG hP hS hl mM_X0_look mV_X0_look mLX7_68 hC hfs rfl rfl rfl (Nat.le_of_ble_eq_true rfl) ⟨Nat.le_of_ble_eq_true rfl, Nat.le_of_ble_eq_true rfl⟩ ⟨by show _ ≤ 600000; (try dsimp only); omega, by show _ ≤ 7302250; (try dsimp only); omega⟩ dX7_law_538 (fun r w1 n1 H locs hq hP hS => ?_)
        obtain ⟨rfl, hMid⟩ := hq
        refine W.eq (g2 := F0 m 541 ls [.long (x)]) rfl ?_
        refine lv_aload_n hx hb dX7_law_541 rfl (lv_at hl 1 rfl) ?_
        refine lv_aload_n hx hb dX7_law_542 rfl (lv_at hl 3 rfl) ?_
        refine lv_iload_n hx hb dX7_law_543 rfl (lv_at hl 0 rfl) ?_
        refine lv_iconst (v := (iI (((1 : Nat) : Int)))) hx hb dX7_law_544 rfl ?_
        refine fn_iadd (x := ((1 + 10 * j : Nat) : Int)) (y := ((1 : Nat) : Int)) hx hb dX7_law_545 ?_
        refine fn_topz (y := ((1 + 10 * j + 1 : Nat) : Int)) (by omega) ?_
        refine fn_sld (k := 1 + 10 * j + 1) hx hb hX hbl hbA hS (by omega) (by omega) dX7_law_546 ?_
        obtain ⟨⟨fs2, hfs2⟩, hC2⟩ := hM w1 n1 hMid
        refine fw_callV (ci := 6) (fs := fs2) (T := TX6) (N := 26) (b := B + 12) (As := [.int (xs (1 + 10 * j + 1))]) (rest := [.long (x)]) hx hb hml hown hts hK hG hP hS hl mM_X6_look mV_X6_look mLX7_72 hC2 hfs2 rfl rfl rfl (Nat.le_of_ble_eq_true rfl) ⟨Nat.le_of_ble_eq_true rfl, Nat.le_of_ble_eq_true rfl⟩ ⟨by show _ ≤ 600000; (try dsimp only); omega, by show _ ≤ 7302250; (try dsimp only); omega⟩ dX7_law_547 (fun r w2 n2 H locs hq hP hS => ?_)
        obtain ⟨rfl, hI2⟩ := hq
        refine W.eq (g2 := F0 m 550 ls [.long (x), .long (x)]) rfl ?_
        refine W.lcmp hx hb dX7_law_550 ?_
        refine fn_lif_eq (tgt := 616) hx hb dX7_law_551 (by decide) (fun c14 => ?_) (fun c14 => False.elim (by exact c14 rfl))
        refine lv_iinc (k := 0) (v := (iI (((1 + 10 * j + 10 : Nat) : Int)))) (lv' := [(3, .int (iI (((1 + 10 * j + 10 : Nat) : Int)))), (2, .ref (B + 12)), (1, .ref (B)), (0, .ref (b))]) hx hb dX7_law_616 hl rfl (iI_inc _ 10) (by decide) rfl (fun ls hl => ?_)
        refine lv_goto (tgt := 28) hx hb dX7_law_619 (by decide) ?_
        replace hl : lv_has ls 4 [(3, .int (iI (((1 + 10 * (j + 1) : Nat) : Int)))), (2, .ref (B + 12)), (1, .ref (B)), (0, .ref (b))] := by
          refine ⟨hl.1, hl.2.1, fun q hq => hl.2.2 q ?_⟩
          rw [(show ((1 + 10 * j + 10 : Nat) : Int) = ((1 + 10 * (j + 1) : Nat) : Int) from (by omega))]
          simp only [List.mem_cons, List.not_mem_nil, or_false] at hq
          rcases hq with rfl | rfl | rfl | rfl
          · exact List.mem_of_getElem? (i := 0) rfl
          · exact List.mem_of_getElem? (i := 1) rfl
          · exact List.mem_of_getElem? (i := 2) rfl
          · exact List.mem_of_getElem? (i := 3) rfl
        refine W.widen (k := 40 + 4 * (j + 1)) (n := 160000 + 220 * (j + 1)) (by (try dsimp only); omega) (by (try dsimp only); omega) ?_
        exact ih (j + 1) (by omega) n2 w2 H locs ls (by omega) (hI2.later _ (by omega)) hP hS hl
      · refine lv_tableIn (tgt := 556) hx hb dX7_law_43 h1 h2 (by rw [h3]; rfl) (by decide) ?_
        refine lv_aload_n hx hb dX7_law_556 rfl (lv_at hl 2 rfl) ?_
        refine lv_aload_n hx hb dX7_law_557 rfl (lv_at hl 3 rfl) ?_
        refine lv_iload_n hx hb dX7_law_558 rfl (lv_at hl 0 rfl) ?_
        refine lv_iconst (v := (iI (((1 : Nat) : Int)))) hx hb dX7_law_559 rfl ?_
        refine fn_iadd (x := ((1 + 10 * j : Nat) : Int)) (y := ((1 : Nat) : Int)) hx hb dX7_law_560 ?_
        refine fn_topz (y := ((1 + 10 * j + 1 : Nat) : Int)) (by omega) ?_
        refine fn_sld (k := 1 + 10 * j + 1) hx hb hX hbl hbA hS (by omega) (by omega) dX7_law_561 ?_
        refine fn_topi (y := iI ((xs (1 + 10 * j + 1)).toInt)) (iI_x _).symm ?_
        obtain ⟨x, Mid, hC, hM⟩ := st_byteOf l D ta B n w B (1 + 10 * j) ((xs (1 + 10 * j + 1)).toInt) (iK_x _) (by omega) hI
        obtain ⟨fs, hfs⟩ := hI.desk
        refine fw_callV (ci := 0) (fs := fs) (T := TX0) (N := 8) (b := B) (As := [.int (iI ((xs (1 + 10 * j + 1)).toInt))]) (rest := []) hx hb hml hown hts hK hG hP hS hl mM_X0_byteOf mV_X0_byteOf mLX7_73 hC hfs rfl rfl rfl (Nat.le_of_ble_eq_true rfl) ⟨Nat.le_of_ble_eq_true rfl, Nat.le_of_ble_eq_true rfl⟩ ⟨by show _ ≤ 600000; (try dsimp only); omega, by show _ ≤ 7302250; (try dsimp only); omega⟩ dX7_law_562 (fun r w1 n1 H locs hq hP hS => ?_)
        obtain ⟨rfl, hMid⟩ := hq
        refine W.eq (g2 := F0 m 565 ls [.int (x)]) rfl ?_
        refine lv_aload_n hx hb dX7_law_565 rfl (lv_at hl 1 rfl) ?_
        refine lv_aload_n hx hb dX7_law_566 rfl (lv_at hl 3 rfl) ?_
        refine lv_iload_n hx hb dX7_law_567 rfl (lv_at hl 0 rfl) ?_
        refine lv_iconst (v := (iI (((1 : Nat) : Int)))) hx hb dX7_law_568 rfl ?_
        refine fn_iadd (x := ((1 + 10 * j : Nat) : Int)) (y := ((1 : Nat) : Int)) hx hb dX7_law_569 ?_
        refine fn_topz (y := ((1 + 10 * j + 1 : Nat) : Int)) (by omega) ?_
        refine fn_sld (k := 1 + 10 * j + 1) hx hb hX hbl hbA hS (by omega) (by omega) dX7_law_570 ?_
        refine fn_topi (y := iI ((xs (1 + 10 * j + 1)).toInt)) (iI_x _).symm ?_
        obtain ⟨⟨fs2, hfs2⟩, hC2⟩ := hM w1 n1 hMid
        refine fw_callV (ci := 6) (fs := fs2) (T := TX6) (N := 26) (b := B + 12) (As := [.int (iI ((xs (1 + 10 * j + 1)).toInt))]) (rest := [.int (x)]) hx hb hml hown hts hK hG hP hS hl mM_X6_byteOf mV_X6_byteOf mLX7_77 hC2 hfs2 rfl rfl rfl (Nat.le_of_ble_eq_true rfl) ⟨Nat.le_of_ble_eq_true rfl, Nat.le_of_ble_eq_true rfl⟩ ⟨by show _ ≤ 600000; (try dsimp only); omega, by show _ ≤ 7302250; (try dsimp only); omega⟩ dX7_law_571 (fun r w2 n2 H locs hq hP hS => ?_)
        obtain ⟨rfl, hI2⟩ := hq
        refine W.eq (g2 := F0 m 574 ls [.int (x), .int (x)]) rfl ?_
        refine lv_icmp_eq (x := (x)) (y := (x)) (tgt := 616) hx hb dX7_law_574 (by decide) (fun c15 => ?_) (fun c15 => False.elim (by exact c15 rfl))
        refine lv_iinc (k := 0) (v := (iI (((1 + 10 * j + 10 : Nat) : Int)))) (lv' := [(3, .int (iI (((1 + 10 * j + 10 : Nat) : Int)))), (2, .ref (B + 12)), (1, .ref (B)), (0, .ref (b))]) hx hb dX7_law_616 hl rfl (iI_inc _ 10) (by decide) rfl (fun ls hl => ?_)
        refine lv_goto (tgt := 28) hx hb dX7_law_619 (by decide) ?_
        replace hl : lv_has ls 4 [(3, .int (iI (((1 + 10 * (j + 1) : Nat) : Int)))), (2, .ref (B + 12)), (1, .ref (B)), (0, .ref (b))] := by
          refine ⟨hl.1, hl.2.1, fun q hq => hl.2.2 q ?_⟩
          rw [(show ((1 + 10 * j + 10 : Nat) : Int) = ((1 + 10 * (j + 1) : Nat) : Int) from (by omega))]
          simp only [List.mem_cons, List.not_mem_nil, or_false] at hq
          rcases hq with rfl | rfl | rfl | rfl
          · exact List.mem_of_getElem? (i := 0) rfl
          · exact List.mem_of_getElem? (i := 1) rfl
          · exact List.mem_of_getElem? (i := 2) rfl
          · exact List.mem_of_getElem? (i := 3) rfl
        refine W.widen (k := 40 + 4 * (j + 1)) (n := 160000 + 220 * (j + 1)) (by (try dsimp only); omega) (by (try dsimp only); omega) ?_
        exact ih (j + 1) (by omega) n2 w2 H locs ls (by omega) (hI2.later _ (by omega)) hP hS hl
      · refine lv_tableIn (tgt := 579) hx hb dX7_law_43 h1 h2 (by rw [h3]; rfl) (by decide) ?_
        refine lv_aload_n hx hb dX7_law_579 rfl (lv_at hl 2 rfl) ?_
        refine lv_aload_n hx hb dX7_law_580 rfl (lv_at hl 3 rfl) ?_
        refine lv_iload_n hx hb dX7_law_581 rfl (lv_at hl 0 rfl) ?_
        refine lv_iconst (v := (iI (((1 : Nat) : Int)))) hx hb dX7_law_582 rfl ?_
        refine fn_iadd (x := ((1 + 10 * j : Nat) : Int)) (y := ((1 : Nat) : Int)) hx hb dX7_law_583 ?_
        refine fn_topz (y := ((1 + 10 * j + 1 : Nat) : Int)) (by omega) ?_
        refine fn_sld (k := 1 + 10 * j + 1) hx hb hX hbl hbA hS (by omega) (by omega) dX7_law_584 ?_
        obtain ⟨x, Mid, hC, hM⟩ := st_count l D ta B n w B (1 + 10 * j) (xs (1 + 10 * j + 1)) (by omega) hI
        obtain ⟨fs, hfs⟩ := hI.desk
        refine fw_callV (ci := 0) (fs := fs) (T := TX0) (N := 8) (b := B) (As := [.int (xs (1 + 10 * j + 1))]) (rest := []) hx hb hml hown hts hK hG hP hS hl mM_X0_count mV_X0_count mLX7_78 hC hfs rfl rfl rfl (Nat.le_of_ble_eq_true rfl) ⟨Nat.le_of_ble_eq_true rfl, Nat.le_of_ble_eq_true rfl⟩ ⟨by show _ ≤ 600000; (try dsimp only); omega, by show _ ≤ 7302250; (try dsimp only); omega⟩ dX7_law_585 (fun r w1 n1 H locs hq hP hS => ?_)
        obtain ⟨rfl, hMid⟩ := hq
        refine W.eq (g2 := F0 m 588 ls [.int (x)]) rfl ?_
        refine lv_aload_n hx hb dX7_law_588 rfl (lv_at hl 1 rfl) ?_
        refine lv_aload_n hx hb dX7_law_589 rfl (lv_at hl 3 rfl) ?_
        refine lv_iload_n hx hb dX7_law_590 rfl (lv_at hl 0 rfl) ?_
        refine lv_iconst (v := (iI (((1 : Nat) : Int)))) hx hb dX7_law_591 rfl ?_
        refine fn_iadd (x := ((1 + 10 * j : Nat) : Int)) (y := ((1 : Nat) : Int)) hx hb dX7_law_592 ?_
        refine fn_topz (y := ((1 + 10 * j + 1 : Nat) : Int)) (by omega) ?_
        refine fn_sld (k := 1 + 10 * j + 1) hx hb hX hbl hbA hS (by omega) (by omega) dX7_law_593 ?_
        obtain ⟨⟨fs2, hfs2⟩, hC2⟩ := hM w1 n1 hMid
        refine fw_callV (ci := 6) (fs := fs2) (T := TX6) (N := 26) (b := B + 12) (As := [.int (xs (1 + 10 * j + 1))]) (rest := [.int (x)]) hx hb hml hown hts hK hG hP hS hl mM_X6_count mV_X6_count mLX7_81 hC2 hfs2 rfl rfl rfl (Nat.le_of_ble_eq_true rfl) ⟨Nat.le_of_ble_eq_true rfl, Nat.le_of_ble_eq_true rfl⟩ ⟨by show _ ≤ 600000; (try dsimp only); omega, by show _ ≤ 7302250; (try dsimp only); omega⟩ dX7_law_594 (fun r w2 n2 H locs hq hP hS => ?_)
        obtain ⟨rfl, hI2⟩ := hq
        refine W.eq (g2 := F0 m 597 ls [.int (x), .int (x)]) rfl ?_
        refine lv_icmp_eq (x := (x)) (y := (x)) (tgt := 616) hx hb dX7_law_597 (by decide) (fun c16 => ?_) (fun c16 => False.elim (by exact c16 rfl))
        refine lv_iinc (k := 0) (v := (iI (((1 + 10 * j + 10 : Nat) : Int)))) (lv' := [(3, .int (iI (((1 + 10 * j + 10 : Nat) : Int)))), (2, .ref (B + 12)), (1, .ref (B)), (0, .ref (b))]) hx hb dX7_law_616 hl rfl (iI_inc _ 10) (by decide) rfl (fun ls hl => ?_)
        refine lv_goto (tgt := 28) hx hb dX7_law_619 (by decide) ?_
        replace hl : lv_has ls 4 [(3, .int (iI (((1 + 10 * (j + 1) : Nat) : Int)))), (2, .ref (B + 12)), (1, .ref (B)), (0, .ref (b))] := by
          refine ⟨hl.1, hl.2.1, fun q hq => hl.2.2 q ?_⟩
          rw [(show ((1 + 10 * j + 10 : Nat) : Int) = ((1 + 10 * (j + 1) : Nat) : Int) from (by omega))]
          simp only [List.mem_cons, List.not_mem_nil, or_false] at hq
          rcases hq with rfl | rfl | rfl | rfl
          · exact List.mem_of_getElem? (i := 0) rfl
          · exact List.mem_of_getElem? (i := 1) rfl
          · exact List.mem_of_getElem? (i := 2) rfl
          · exact List.mem_of_getElem? (i := 3) rfl
        refine W.widen (k := 40 + 4 * (j + 1)) (n := 160000 + 220 * (j + 1)) (by (try dsimp only); omega) (by (try dsimp only); omega) ?_
        exact ih (j + 1) (by omega) n2 w2 H locs ls (by omega) (hI2.later _ (by omega)) hP hS hl
      · refine lv_tableIn (tgt := 602) hx hb dX7_law_43 h1 h2 (by rw [h3]; rfl) (by decide) ?_
        refine lv_aload_n hx hb dX7_law_602 rfl (lv_at hl 2 rfl) ?_
        obtain ⟨x, Mid, hC, hM⟩ := st_total l D ta B n w B (1 + 10 * j)  (by omega) hI
        obtain ⟨fs, hfs⟩ := hI.desk
        refine fw_callV (ci := 0) (fs := fs) (T := TX0) (N := 8) (b := B) (As := []) (rest := []) hx hb hml hown hts hK hG hP hS hl mM_X0_total mV_X0_total mLX7_82 hC hfs rfl rfl rfl (Nat.le_of_ble_eq_true rfl) ⟨Nat.le_of_ble_eq_true rfl, Nat.le_of_ble_eq_true rfl⟩ ⟨by show _ ≤ 600000; (try dsimp only); omega, by show _ ≤ 7302250; (try dsimp only); omega⟩ dX7_law_603 (fun r w1 n1 H locs hq hP hS => ?_)
        obtain ⟨rfl, hMid⟩ := hq
        refine W.eq (g2 := F0 m 606 ls [.long (x)]) rfl ?_
        refine lv_aload_n hx hb dX7_law_606 rfl (lv_at hl 1 rfl) ?_
        obtain ⟨⟨fs2, hfs2⟩, hC2⟩ := hM w1 n1 hMid
        refine fw_callV (ci := 6) (fs := fs2) (T := TX6) (N := 26) (b := B + 12) (As := []) (rest := [.long (x)]) hx hb hml hown hts hK hG hP hS hl mM_X6_total mV_X6_total mLX7_86 hC2 hfs2 rfl rfl rfl (Nat.le_of_ble_eq_true rfl) ⟨Nat.le_of_ble_eq_true rfl, Nat.le_of_ble_eq_true rfl⟩ ⟨by show _ ≤ 600000; (try dsimp only); omega, by show _ ≤ 7302250; (try dsimp only); omega⟩ dX7_law_607 (fun r w2 n2 H locs hq hP hS => ?_)
        obtain ⟨rfl, hI2⟩ := hq
        refine W.eq (g2 := F0 m 610 ls [.long (x), .long (x)]) rfl ?_
        refine W.lcmp hx hb dX7_law_610 ?_
        refine fn_lif_eq (tgt := 616) hx hb dX7_law_611 (by decide) (fun c17 => ?_) (fun c17 => False.elim (by exact c17 rfl))
        refine lv_iinc (k := 0) (v := (iI (((1 + 10 * j + 10 : Nat) : Int)))) (lv' := [(3, .int (iI (((1 + 10 * j + 10 : Nat) : Int)))), (2, .ref (B + 12)), (1, .ref (B)), (0, .ref (b))]) hx hb dX7_law_616 hl rfl (iI_inc _ 10) (by decide) rfl (fun ls hl => ?_)
        refine lv_goto (tgt := 28) hx hb dX7_law_619 (by decide) ?_
        replace hl : lv_has ls 4 [(3, .int (iI (((1 + 10 * (j + 1) : Nat) : Int)))), (2, .ref (B + 12)), (1, .ref (B)), (0, .ref (b))] := by
          refine ⟨hl.1, hl.2.1, fun q hq => hl.2.2 q ?_⟩
          rw [(show ((1 + 10 * j + 10 : Nat) : Int) = ((1 + 10 * (j + 1) : Nat) : Int) from (by omega))]
          simp only [List.mem_cons, List.not_mem_nil, or_false] at hq
          rcases hq with rfl | rfl | rfl | rfl
          · exact List.mem_of_getElem? (i := 0) rfl
          · exact List.mem_of_getElem? (i := 1) rfl
          · exact List.mem_of_getElem? (i := 2) rfl
          · exact List.mem_of_getElem? (i := 3) rfl
        refine W.widen (k := 40 + 4 * (j + 1)) (n := 160000 + 220 * (j + 1)) (by (try dsimp only); omega) (by (try dsimp only); omega) ?_
        exact ih (j + 1) (by omega) n2 w2 H locs ls (by omega) (hI2.later _ (by omega)) hP hS hl
