/-! THE LAW'S OWN PIECES: the script, cell -/
theorem iI_ofNat (n : Nat) : Int32.ofNat n = iI ((n : Nat) : Int) := (Int32.ofInt_eq_ofNat (n := n)).symm
section LC
variable {p : Program} {l : Launch} {e : Env} {R : Room} {s : State} {m : MethodId} {args : Array Value} {below : List Frame} {meth : Method} {c : Code} {H : Heap} {locs : List Loc} {cells slots : Nat} {Q : State → Prop}
variable {cc : ByteArray} {pc : Nat} {ls : Array Slot} {rest : List Value} {A : Nat → Prop} {H0 : Heap}
theorem fn_slen (hx : p.tables.exec = Jvm.exec) (hb : c.code = cc) {b L : Nat} {xs : Nat → Int32} (hX : va_X b L xs s H0) (hbl : b < H0.size) (hbA : ¬ A b) (hS : va_S A H0 H locs) (hdg : decode cc pc = .ok (.arraylength, 1))
    (kk : W p l e R s m args below meth c H locs cells slots Q (F0 m (pc + 1) ls (.int (iI ((L : Nat) : Int)) :: rest))) : W p l e R s m args below meth c H locs cells slots Q (F0 m pc ls (.ref b :: rest)) :=
  va_slen hx hb hX hbl hbA hS hdg (fn_topi (iI_ofNat L) kk)
theorem fn_sld (hx : p.tables.exec = Jvm.exec) (hb : c.code = cc) {b L k : Nat} {xs : Nat → Int32} (hX : va_X b L xs s H0) (hbl : b < H0.size) (hbA : ¬ A b) (hS : va_S A H0 H locs) (hk : k < L) (hL : L < 2147483648) (hdg : decode cc pc = .ok (.iaload, 1))
    (kk : W p l e R s m args below meth c H locs cells slots Q (F0 m (pc + 1) ls (.int (xs k) :: rest))) : W p l e R s m args below meth c H locs cells slots Q (F0 m pc ls (.int (iI ((k : Nat) : Int)) :: .ref b :: rest)) :=
  va_sld hx hb hX hbl hbA hS (iI_in hk hL) hdg (by rw [iI_clamp (by omega)]; exact kk)
end LC
theorem cl_Xm {b L : Nat} {xs : Nat → Int32} {s U : State} {H H1 : Heap} (h : va_X b L xs s H) (hvm : s.vm.Alike U.vm) (hH : H1[b]? = H[b]?) : va_X b L xs U H1 := by
  obtain ⟨scr, h1, h2, h3, h4, h5⟩ := h
  exact ⟨scr, hH.trans h1, State.isArrayOf_alike hvm h2, h3, h4, h5⟩
def cl_P (b L : Nat) (xs : Nat → Int32) : Array Value → State → Prop := fun a U => a = ([.ref b, .int (iI ((0 : Nat) : Int))] : List Value).toArray ∧ va_X b L xs U U.heap ∧ b < U.heap.size
def cl_Q (v : Int32) : Array Value → State → Outcome → State → Prop := fun _ st o t => o = .returned (some (.int v)) ∧ t.heap = st.heap
theorem cl_blind (b L : Nat) (xs : Nat → Int32) : FrameBlind (cl_P b L xs) := by
  intro a U g mk q
  exact ⟨q.1, cl_Xm q.2.1 (Vm.Alike.refl U.vm) rfl, q.2.2⟩
set_option maxHeartbeats 4000000 in
theorem cl_cell (l : Launch) (b L : Nat) (xs : Nat → Int32) (hL : L ≤ 5121) : Met l yX7_cell [Cond.code yX7_cell cX7_cell 2 (some .int)] ({ frames := 0, cells := 0, slots := 0, locals := 0 } : Room) (cl_P b L xs) (cl_Q (if 0 < L then xs 0 else iI ((0 : Nat) : Int))) 0 0 (fun _ => False) := by
  refine Met.ofW (cc := cX7_cell) (maxL := 2) (ret := some .int) (by decide) rfl ?_
  intro p e s m args below meth c s₁ Bd hml hv
  obtain ⟨rfl, hX, hbl⟩ := hv
  have hx := Bd.exec
  have hb := Bd.bytes
  have hr := Bd.returns
  have hlocks := Bd.notSynchronized
  have hl := lv_entry ([.ref b, .int (iI ((0 : Nat) : Int))]) (n := 2) (Nat.le_of_ble_eq_true rfl)
  rw [lg_entry_eq]
  generalize (lg_sl ([.ref b, .int (iI ((0 : Nat) : Int))]) ++ List.replicate (2 - (lg_sl ([.ref b, .int (iI ((0 : Nat) : Int))])).length) Slot.unset).toArray = ls at hl ⊢
  have hl : lv_has ls 2 [(0, .ref b), (1, .int (iI ((0 : Nat) : Int)))] := hl
  have hS : va_S (fun _ => False) s.heap s.heap [] := va_S.rf
  refine lv_iload_n hx hb dX7_cell_0 rfl (lv_at hl 1 rfl) ?_
  refine lv_aload_n hx hb dX7_cell_1 rfl (lv_at hl 0 rfl) ?_
  refine fn_slen hx hb hX hbl (fun h => h) hS dX7_cell_2 ?_
  refine fn_icmp_ge (x := ((0 : Nat) : Int)) (y := ((L : Nat) : Int)) (tgt := 12) hx hb dX7_cell_3 (by decide) ⟨by omega, by omega⟩ ⟨by omega, by omega⟩ (fun c1 => ?_) (fun c1 => ?_)
  · refine lv_iconst (v := iI ((0 : Nat) : Int)) hx hb dX7_cell_12 rfl ?_
    refine W.iret hx hb hr ?_ (fun q hq => absurd hq List.not_mem_nil) dX7_cell_13 hlocks
    intro t ht _
    exact ⟨by rw [if_neg (by omega)], ht⟩
  · refine lv_aload_n hx hb dX7_cell_6 rfl (lv_at hl 0 rfl) ?_
    refine lv_iload_n hx hb dX7_cell_7 rfl (lv_at hl 1 rfl) ?_
    refine fn_sld (k := 0) hx hb hX hbl (fun h => h) hS (by omega) (by omega) dX7_cell_8 ?_
    refine lv_goto (tgt := 13) hx hb dX7_cell_9 (by decide) ?_
    refine W.iret hx hb hr ?_ (fun q hq => absurd hq List.not_mem_nil) dX7_cell_13 hlocks
    intro t ht _
    exact ⟨by rw [if_pos (by omega)], ht⟩
theorem lc_run {p : Program} {l : Launch} {e : Env} {R : Room} {s : State} {m : MethodId} {args : Array Value} {below : List Frame} {meth : Method} {c : Code} {H : Heap} {locs : List Loc} {cells slots : Nat} {Q : State → Prop} {pc B n : Nat} {ls : Array Slot} {rest : List Value} {D : va_G} {cl : List vw_C} {w : fw_W} {st0 : List Value} {aa : Array Value} {v : Int32} (hr : va_Run p l e R s m args below meth c H locs cells slots 0 0 (F0 m pc ls st0) rest (cl_Q v aa) (fun _ => False)) (hP : fw_P D cl B n w H) (hS : fw_S B s.heap H locs)
    (kk : ∀ (H1 : Heap) (locs1 : List Loc), fw_P D cl B n w H1 → fw_S B s.heap H1 locs1 → W p l e R s m args below meth c H1 locs1 (cells + 0) (slots + 0) Q (F0 m (pc + 3) ls (.int v :: rest))) : W p l e R s m args below meth c H locs cells slots Q (F0 m pc ls st0) := by
  intro T hT X
  obtain ⟨v2, st₀, t, T', L1, h0, X', hL1, e1, e2, ⟨hv, hh⟩, st⟩ := hr T hT X
  cases hv
  have hTH : T'.heap = H := by rw [e1, hh, h0]
  obtain ⟨t2, a1, b1⟩ := kk T'.heap (locs ++ L1) (by rw [hTH]; exact hP) (by
    rw [hTH]
    refine ⟨hS.1, hS.2.1, fun q hq => ?_⟩
    rcases List.mem_append.mp hq with h | h
    · exact hS.2.2 q h
    · exact absurd (hL1 q h) (fun h => h)) T' rfl X'
  exact ⟨t2, st t2 a1, b1⟩
/-- the law calls cell -/
theorem lc_cell {p : Program} {l : Launch} {e : Env} {R : Room} {s : State} {m : MethodId} {args : Array Value} {below : List Frame} {meth : Method} {c : Code} {H : Heap} {locs : List Loc} {cells slots : Nat} {Q : State → Prop} {cc : ByteArray} {pc nL B index b L n : Nat} {ls : Array Slot} {rest : List Value} {lv : List (Nat × Value)} {xs : Nat → Int32} {D : va_G} {cl : List vw_C} {w : fw_W}
    (hx : p.tables.exec = Jvm.exec) (hb : c.code = cc) (hml : c.maxLocals = nL) (hown : s.vm.findClass RX7 = some m.cls) (hts : ∀ x ∈ fw_tbl, x.before args s = true) (hP : fw_P D cl B n w H) (hS : fw_S B s.heap H locs) (hl : lv_has ls nL lv) (hX : va_X b L xs s s.heap) (hbl : b < s.heap.size) (hbA : ¬ B ≤ b) (hL : L ≤ 5121)
    (hM : fw_M yX7_cell cX7_cell 2 (some .int) 2) (hV : Cond.static yX7_cell ∈ fw_tbl) (hlink : Cond.methodLink RX7 index yX7_cell ∈ fw_tbl) (hW : (rest.map fun v => v.category).sum ≤ 8) (hR : 0 + 1 ≤ R.frames ∧ 8 + (2 + 11) + 0 ≤ R.locals) (hf : cells + 0 ≤ R.cells ∧ slots + 0 ≤ R.slots) (hdg : decode cc pc = .ok (.invokestatic index, 3))
    (kk : ∀ (H1 : Heap) (locs1 : List Loc), fw_P D cl B n w H1 → fw_S B s.heap H1 locs1 → W p l e R s m args below meth c H1 locs1 (cells + 0) (slots + 0) Q (F0 m (pc + 3) ls (.int (if 0 < L then xs 0 else iI ((0 : Nat) : Int)) :: rest))) : W p l e R s m args below meth c H locs cells slots Q (F0 m pc ls (.int (iI ((0 : Nat) : Int)) :: .ref b :: rest)) :=
  lc_run (va_runS (As := [.ref b, .int (iI ((0 : Nat) : Int))]) (rest := rest) ⟨hx, hb, hml, hown, hts⟩ (cl_cell l b L xs hL) ⟨callB_of 2 hts (fw_goodC hM.1) rfl rfl rfl (hts _ hM.2.1) (hts _ hlink) hM.2.2 hR, hts _ hV⟩ ⟨cl_blind b L xs, fun U hU hW => ⟨rfl, cl_Xm hX hW.alike (by rw [hU]; exact hS.2.1 b hbl hbA), by rw [hU]; exact Nat.lt_of_lt_of_le hbl hS.1⟩⟩ rfl rfl hl.1 rfl (lv_room hW) hdg hf) hP hS kk
theorem lw_arr {s : State} {args : Array Value} {ty : FieldType} (h : (Cond.arrayClass ty).before args s = true) : ∃ cA, ArrOfT s cA ty ∧ s.vm.findClass ("[" ++ ty.toString) = some cA := by
  obtain ⟨cA, kA, comp, h1, h2, h3⟩ := Cond.arrayClass_spec h
  exact ⟨cA, fun n z => ⟨fun k h => (by cases h), kA, h2, comp, h3⟩, h1⟩
theorem lw_arrq {s : State} {args : Array Value} {C : String} (h : (Cond.arrayOver (.object C)).before args s = true) : ∃ cA, ArrOfT s cA (.object C) ∧ va_RA s cA (.object C) := by
  obtain ⟨comp, c, k, h1, h2, h3, h4, h5⟩ := Cond.arrayOver_spec h
  exact ⟨c, fun n z => ⟨fun k h => (by cases h), k, h3, comp, h4⟩, k, comp, h3, h4, h1, h5⟩
