/-! NUMBERS: an int of the machine as iI z of an integer z, a boolean as bI; branches and indexes speak of integers -/
def iI (z : Int) : Int32 := Int32.ofInt z
theorem iI_add (a b : Int) : iI a + iI b = iI (a + b) := (Int32.ofInt_add a b).symm
theorem iI_sub (a b : Int) : iI a - iI b = iI (a - b) := (Int32.ofInt_sub a b).symm
theorem iI_mul (a b : Int) : iI a * iI b = iI (a * b) := (Int32.ofInt_mul a b).symm
def iK (z : Int) : Prop := -2147483648 ≤ z ∧ z ≤ 2147483647
theorem iI_toInt {z : Int} (h : iK z) : (iI z).toInt = z := Int32.toInt_ofInt_of_le (by have := h.1; omega) (by have := h.2; omega)
theorem iI_lt {a b : Int} (ha : iK a) (hb : iK b) : iI a < iI b ↔ a < b := by rw [Int32.lt_iff_toInt_lt, iI_toInt ha, iI_toInt hb]
theorem iI_le {a b : Int} (ha : iK a) (hb : iK b) : iI a ≤ iI b ↔ a ≤ b := by rw [Int32.le_iff_toInt_le, iI_toInt ha, iI_toInt hb]
theorem iI_eq {a b : Int} (ha : iK a) (hb : iK b) : iI a = iI b ↔ a = b := by rw [← Int32.toInt_inj, iI_toInt ha, iI_toInt hb]
theorem iI_x (x : Int32) : iI x.toInt = x := Int32.ofInt_toInt x
theorem iK_x (x : Int32) : iK x.toInt := ⟨by have := Int32.le_toInt x; omega, by have := Int32.toInt_lt x; omega⟩
theorem iI_of (x : Int32) : ∃ z : Int, iK z ∧ x = iI z := ⟨x.toInt, iK_x x, (iI_x x).symm⟩
theorem iI_nat (n : Nat) : nI n = iI n := (Int32.ofInt_eq_ofNat (n := n)).symm
theorem iI_0 : iI 0 = 0 := rfl
theorem iK_0 : iK 0 := ⟨by decide, by decide⟩
theorem iI_clamp {k : Nat} (h : k < 2147483648) : (iI k).toNatClampNeg = k := by
  have e : iI k = Int32.ofNat k := Int32.ofInt_eq_ofNat
  rw [e]
  exact Int32.toNatClampNeg_ofNat_of_lt h
theorem iI_in {k N : Nat} (h : k < N) (hN : N < 2147483648) : vp_in (iI k) N := by
  rintro (q | q)
  · rw [← iI_0, iI_lt ⟨by omega, by omega⟩ iK_0] at q
    omega
  · rw [iI_clamp (by omega)] at q
    omega
def bI (b : Bool) : Int32 := iI (if b then 1 else 0)
theorem bI_or (b : Bool) : bI b = 0 ∨ bI b = 1 := match b with
  | false => Or.inl rfl
  | true => Or.inr rfl
theorem bI_of0 {b : Bool} (h : bI b = 0) : b = false := match b, h with
  | false, _ => rfl
  | true, h => absurd h (by decide)
theorem bI_of1 {b : Bool} (h : ¬ bI b = 0) : b = true := match b, h with
  | false, h => absurd rfl h
  | true, _ => rfl
theorem bI_nar (b : Bool) : vp_nar .boolean (bI b) = bI b := by cases b <;> rfl
theorem bI_narrow (b : Bool) : narrow .boolean (.int (bI b)) = .int (bI b) := by cases b <;> rfl
theorem bI_fits (b : Bool) : fits .boolean (.int (bI b)) = true := by cases b <;> rfl
theorem iI_inc (k c : Nat) : iI (k : Int) + Int32.ofInt (c : Int) = iI ((k + c : Nat) : Int) := by
  have h := iI_add (k : Int) (c : Int)
  rw [← Int.natCast_add] at h
  exact h
theorem bI_T {P : Prop} [Decidable P] (h : P) : some (Value.int (iI ((1 : Nat) : Int))) = some (Value.int (bI (decide P))) := by rw [decide_eq_true h]; rfl
theorem bI_F {P : Prop} [Decidable P] (h : ¬ P) : some (Value.int (iI ((0 : Nat) : Int))) = some (Value.int (bI (decide P))) := by rw [decide_eq_false h]; rfl
theorem iI_nneg {k : Nat} (h : k < 2147483648) : ¬ iI (k : Int) < 0 := by
  intro q
  rw [← iI_0, iI_lt ⟨by omega, by omega⟩ iK_0] at q
  omega
theorem iI_max0 {k : Nat} (h : k < 2147483648) : (if iI ((k : Nat) : Int) < iI ((0 : Nat) : Int) then iI ((0 : Nat) : Int) else iI ((k : Nat) : Int)) = iI ((k : Nat) : Int) := if_neg (iI_nneg h)
def gup {α : Type} (f : Nat → α) (k : Nat) (x : α) : Nat → α := fun q => if q = k then x else f q
theorem gup_same {α : Type} (f : Nat → α) (k : Nat) (x : α) : gup f k x k = x := by simp [gup]
theorem gup_ne {α : Type} {f : Nat → α} {k q : Nat} {x : α} (h : q ≠ k) : gup f k x q = f q := by simp [gup, h]
section FN
variable {p : Program} {l : Launch} {e : Env} {R : Room} {s : State} {m : MethodId} {args : Array Value} {below : List Frame} {meth : Method} {c : Code} {H : Heap} {locs : List Loc} {cells slots : Nat} {Q : State → Prop}
variable {cc : ByteArray} {pc : Nat} {ls : Array Slot} {rest : List Value} {D : va_G} {cl : List vw_C} {a : Nat} {tys : List (ClassId × FieldType)} {B n : Nat} {w : fw_W} {H0 : Heap}
theorem fn_topi {x y : Int32} (h : x = y) (k : W p l e R s m args below meth c H locs cells slots Q (F0 m pc ls (.int y :: rest))) : W p l e R s m args below meth c H locs cells slots Q (F0 m pc ls (.int x :: rest)) := h ▸ k
theorem fn_topl {x y : Int64} (h : x = y) (k : W p l e R s m args below meth c H locs cells slots Q (F0 m pc ls (.long y :: rest))) : W p l e R s m args below meth c H locs cells slots Q (F0 m pc ls (.long x :: rest)) := h ▸ k
theorem fn_topz {x y : Int} (h : x = y) (k : W p l e R s m args below meth c H locs cells slots Q (F0 m pc ls (.int (iI y) :: rest))) : W p l e R s m args below meth c H locs cells slots Q (F0 m pc ls (.int (iI x) :: rest)) := h ▸ k
theorem fn_topq {o : Option Nat} {x : Nat} (h : o = some x) (k : W p l e R s m args below meth c H locs cells slots Q (F0 m pc ls (.ref x :: rest))) : W p l e R s m args below meth c H locs cells slots Q (F0 m pc ls (va_rf o :: rest)) := by subst h; exact k
theorem fn_topn {o : Option Nat} (h : o = none) (k : W p l e R s m args below meth c H locs cells slots Q (F0 m pc ls (.null :: rest))) : W p l e R s m args below meth c H locs cells slots Q (F0 m pc ls (va_rf o :: rest)) := by subst h; exact k
theorem fn_iadd (hx : p.tables.exec = Jvm.exec) (hb : c.code = cc) {x y : Int} (hdg : decode cc pc = .ok (.iadd, 1)) (k : W p l e R s m args below meth c H locs cells slots Q (F0 m (pc + 1) ls (.int (iI (x + y)) :: rest))) : W p l e R s m args below meth c H locs cells slots Q (F0 m pc ls (.int (iI y) :: .int (iI x) :: rest)) := lv_iadd hx hb hdg (fn_topi (iI_add x y) k)
theorem fn_isub (hx : p.tables.exec = Jvm.exec) (hb : c.code = cc) {x y : Int} (hdg : decode cc pc = .ok (.isub, 1)) (k : W p l e R s m args below meth c H locs cells slots Q (F0 m (pc + 1) ls (.int (iI (x - y)) :: rest))) : W p l e R s m args below meth c H locs cells slots Q (F0 m pc ls (.int (iI y) :: .int (iI x) :: rest)) := lv_isub hx hb hdg (fn_topi (iI_sub x y) k)
theorem fn_imul (hx : p.tables.exec = Jvm.exec) (hb : c.code = cc) {x y : Int} (hdg : decode cc pc = .ok (.imul, 1)) (k : W p l e R s m args below meth c H locs cells slots Q (F0 m (pc + 1) ls (.int (iI (x * y)) :: rest))) : W p l e R s m args below meth c H locs cells slots Q (F0 m pc ls (.int (iI y) :: .int (iI x) :: rest)) := lv_imul hx hb hdg (fn_topi (iI_mul x y) k)
theorem fn_icmp_eq (hx : p.tables.exec = Jvm.exec) (hb : c.code = cc) {x y : Int} {off : Int} {tgt : Nat} (hdg : decode cc pc = .ok (.if_icmp .eq off, 3)) (ht : (pc : Int) + off = (tgt : Int)) (kx : iK x) (ky : iK y) (kt : x = y → W p l e R s m args below meth c H locs cells slots Q (F0 m tgt ls rest)) (kf : ¬ x = y → W p l e R s m args below meth c H locs cells slots Q (F0 m (pc + 3) ls rest)) : W p l e R s m args below meth c H locs cells slots Q (F0 m pc ls (.int (iI y) :: .int (iI x) :: rest)) := lv_icmp_eq hx hb hdg ht (fun h => kt ((iI_eq kx ky).mp h)) (fun h => kf (fun q => h ((iI_eq kx ky).mpr q)))
theorem fn_icmp_ne (hx : p.tables.exec = Jvm.exec) (hb : c.code = cc) {x y : Int} {off : Int} {tgt : Nat} (hdg : decode cc pc = .ok (.if_icmp .ne off, 3)) (ht : (pc : Int) + off = (tgt : Int)) (kx : iK x) (ky : iK y) (kt : ¬ x = y → W p l e R s m args below meth c H locs cells slots Q (F0 m tgt ls rest)) (kf : x = y → W p l e R s m args below meth c H locs cells slots Q (F0 m (pc + 3) ls rest)) : W p l e R s m args below meth c H locs cells slots Q (F0 m pc ls (.int (iI y) :: .int (iI x) :: rest)) := lv_icmp_ne hx hb hdg ht (fun h => kt (fun q => h ((iI_eq kx ky).mpr q))) (fun h => kf ((iI_eq kx ky).mp h))
theorem fn_icmp_lt (hx : p.tables.exec = Jvm.exec) (hb : c.code = cc) {x y : Int} {off : Int} {tgt : Nat} (hdg : decode cc pc = .ok (.if_icmp .lt off, 3)) (ht : (pc : Int) + off = (tgt : Int)) (kx : iK x) (ky : iK y) (kt : x < y → W p l e R s m args below meth c H locs cells slots Q (F0 m tgt ls rest)) (kf : ¬ x < y → W p l e R s m args below meth c H locs cells slots Q (F0 m (pc + 3) ls rest)) : W p l e R s m args below meth c H locs cells slots Q (F0 m pc ls (.int (iI y) :: .int (iI x) :: rest)) := lv_icmp_lt hx hb hdg ht (fun h => kt ((iI_lt kx ky).mp h)) (fun h => kf (fun q => h ((iI_lt kx ky).mpr q)))
theorem fn_icmp_ge (hx : p.tables.exec = Jvm.exec) (hb : c.code = cc) {x y : Int} {off : Int} {tgt : Nat} (hdg : decode cc pc = .ok (.if_icmp .ge off, 3)) (ht : (pc : Int) + off = (tgt : Int)) (kx : iK x) (ky : iK y) (kt : y ≤ x → W p l e R s m args below meth c H locs cells slots Q (F0 m tgt ls rest)) (kf : ¬ y ≤ x → W p l e R s m args below meth c H locs cells slots Q (F0 m (pc + 3) ls rest)) : W p l e R s m args below meth c H locs cells slots Q (F0 m pc ls (.int (iI y) :: .int (iI x) :: rest)) := lv_icmp_ge hx hb hdg ht (fun h => kt ((iI_le ky kx).mp h)) (fun h => kf (fun q => h ((iI_le ky kx).mpr q)))
theorem fn_icmp_gt (hx : p.tables.exec = Jvm.exec) (hb : c.code = cc) {x y : Int} {off : Int} {tgt : Nat} (hdg : decode cc pc = .ok (.if_icmp .gt off, 3)) (ht : (pc : Int) + off = (tgt : Int)) (kx : iK x) (ky : iK y) (kt : y < x → W p l e R s m args below meth c H locs cells slots Q (F0 m tgt ls rest)) (kf : ¬ y < x → W p l e R s m args below meth c H locs cells slots Q (F0 m (pc + 3) ls rest)) : W p l e R s m args below meth c H locs cells slots Q (F0 m pc ls (.int (iI y) :: .int (iI x) :: rest)) := lv_icmp_gt hx hb hdg ht (fun h => kt ((iI_lt ky kx).mp h)) (fun h => kf (fun q => h ((iI_lt ky kx).mpr q)))
theorem fn_icmp_le (hx : p.tables.exec = Jvm.exec) (hb : c.code = cc) {x y : Int} {off : Int} {tgt : Nat} (hdg : decode cc pc = .ok (.if_icmp .le off, 3)) (ht : (pc : Int) + off = (tgt : Int)) (kx : iK x) (ky : iK y) (kt : x ≤ y → W p l e R s m args below meth c H locs cells slots Q (F0 m tgt ls rest)) (kf : ¬ x ≤ y → W p l e R s m args below meth c H locs cells slots Q (F0 m (pc + 3) ls rest)) : W p l e R s m args below meth c H locs cells slots Q (F0 m pc ls (.int (iI y) :: .int (iI x) :: rest)) := lv_icmp_le hx hb hdg ht (fun h => kt ((iI_le kx ky).mp h)) (fun h => kf (fun q => h ((iI_le kx ky).mpr q)))
theorem fn_if_eq (hx : p.tables.exec = Jvm.exec) (hb : c.code = cc) {x : Int} {off : Int} {tgt : Nat} (hdg : decode cc pc = .ok (.ifCond .eq off, 3)) (ht : (pc : Int) + off = (tgt : Int)) (kx : iK x) (kt : x = 0 → W p l e R s m args below meth c H locs cells slots Q (F0 m tgt ls rest)) (kf : ¬ x = 0 → W p l e R s m args below meth c H locs cells slots Q (F0 m (pc + 3) ls rest)) : W p l e R s m args below meth c H locs cells slots Q (F0 m pc ls (.int (iI x) :: rest)) := lv_if_eq hx hb hdg ht (fun h => kt ((iI_eq kx iK_0).mp h)) (fun h => kf (fun q => h ((iI_eq kx iK_0).mpr q)))
theorem fn_if_ne (hx : p.tables.exec = Jvm.exec) (hb : c.code = cc) {x : Int} {off : Int} {tgt : Nat} (hdg : decode cc pc = .ok (.ifCond .ne off, 3)) (ht : (pc : Int) + off = (tgt : Int)) (kx : iK x) (kt : ¬ x = 0 → W p l e R s m args below meth c H locs cells slots Q (F0 m tgt ls rest)) (kf : x = 0 → W p l e R s m args below meth c H locs cells slots Q (F0 m (pc + 3) ls rest)) : W p l e R s m args below meth c H locs cells slots Q (F0 m pc ls (.int (iI x) :: rest)) := lv_if_ne hx hb hdg ht (fun h => kt (fun q => h ((iI_eq kx iK_0).mpr q))) (fun h => kf ((iI_eq kx iK_0).mp h))
theorem fn_if_lt (hx : p.tables.exec = Jvm.exec) (hb : c.code = cc) {x : Int} {off : Int} {tgt : Nat} (hdg : decode cc pc = .ok (.ifCond .lt off, 3)) (ht : (pc : Int) + off = (tgt : Int)) (kx : iK x) (kt : x < 0 → W p l e R s m args below meth c H locs cells slots Q (F0 m tgt ls rest)) (kf : ¬ x < 0 → W p l e R s m args below meth c H locs cells slots Q (F0 m (pc + 3) ls rest)) : W p l e R s m args below meth c H locs cells slots Q (F0 m pc ls (.int (iI x) :: rest)) := lv_if_lt hx hb hdg ht (fun h => kt ((iI_lt kx iK_0).mp h)) (fun h => kf (fun q => h ((iI_lt kx iK_0).mpr q)))
theorem fn_if_ge (hx : p.tables.exec = Jvm.exec) (hb : c.code = cc) {x : Int} {off : Int} {tgt : Nat} (hdg : decode cc pc = .ok (.ifCond .ge off, 3)) (ht : (pc : Int) + off = (tgt : Int)) (kx : iK x) (kt : 0 ≤ x → W p l e R s m args below meth c H locs cells slots Q (F0 m tgt ls rest)) (kf : ¬ 0 ≤ x → W p l e R s m args below meth c H locs cells slots Q (F0 m (pc + 3) ls rest)) : W p l e R s m args below meth c H locs cells slots Q (F0 m pc ls (.int (iI x) :: rest)) := lv_if_ge hx hb hdg ht (fun h => kt ((iI_le iK_0 kx).mp h)) (fun h => kf (fun q => h ((iI_le iK_0 kx).mpr q)))
theorem fn_if_gt (hx : p.tables.exec = Jvm.exec) (hb : c.code = cc) {x : Int} {off : Int} {tgt : Nat} (hdg : decode cc pc = .ok (.ifCond .gt off, 3)) (ht : (pc : Int) + off = (tgt : Int)) (kx : iK x) (kt : 0 < x → W p l e R s m args below meth c H locs cells slots Q (F0 m tgt ls rest)) (kf : ¬ 0 < x → W p l e R s m args below meth c H locs cells slots Q (F0 m (pc + 3) ls rest)) : W p l e R s m args below meth c H locs cells slots Q (F0 m pc ls (.int (iI x) :: rest)) := lv_if_gt hx hb hdg ht (fun h => kt ((iI_lt iK_0 kx).mp h)) (fun h => kf (fun q => h ((iI_lt iK_0 kx).mpr q)))
theorem fn_if_le (hx : p.tables.exec = Jvm.exec) (hb : c.code = cc) {x : Int} {off : Int} {tgt : Nat} (hdg : decode cc pc = .ok (.ifCond .le off, 3)) (ht : (pc : Int) + off = (tgt : Int)) (kx : iK x) (kt : x ≤ 0 → W p l e R s m args below meth c H locs cells slots Q (F0 m tgt ls rest)) (kf : ¬ x ≤ 0 → W p l e R s m args below meth c H locs cells slots Q (F0 m (pc + 3) ls rest)) : W p l e R s m args below meth c H locs cells slots Q (F0 m pc ls (.int (iI x) :: rest)) := lv_if_le hx hb hdg ht (fun h => kt ((iI_le kx iK_0).mp h)) (fun h => kf (fun q => h ((iI_le kx iK_0).mpr q)))
theorem fn_bif_eq (hx : p.tables.exec = Jvm.exec) (hb : c.code = cc) {x : Bool} {off : Int} {tgt : Nat} (hdg : decode cc pc = .ok (.ifCond .eq off, 3)) (ht : (pc : Int) + off = (tgt : Int)) (kt : x = false → W p l e R s m args below meth c H locs cells slots Q (F0 m tgt ls rest)) (kf : x = true → W p l e R s m args below meth c H locs cells slots Q (F0 m (pc + 3) ls rest)) : W p l e R s m args below meth c H locs cells slots Q (F0 m pc ls (.int (bI x) :: rest)) := lv_if_eq hx hb hdg ht (fun h => kt (bI_of0 h)) (fun h => kf (bI_of1 h))
theorem fn_bif_ne (hx : p.tables.exec = Jvm.exec) (hb : c.code = cc) {x : Bool} {off : Int} {tgt : Nat} (hdg : decode cc pc = .ok (.ifCond .ne off, 3)) (ht : (pc : Int) + off = (tgt : Int)) (kt : x = true → W p l e R s m args below meth c H locs cells slots Q (F0 m tgt ls rest)) (kf : x = false → W p l e R s m args below meth c H locs cells slots Q (F0 m (pc + 3) ls rest)) : W p l e R s m args below meth c H locs cells slots Q (F0 m pc ls (.int (bI x) :: rest)) := lv_if_ne hx hb hdg ht (fun h => kt (bI_of1 h)) (fun h => kf (bI_of0 h))
/-- two longs are compared for equality: lcmp, then ifne or ifeq -/
theorem fn_cmp0 (x y : Int64) : lg_cmp x y = 0 ↔ x = y := by
  unfold lg_cmp
  by_cases h1 : x > y
  · rw [if_pos h1]
    constructor
    · intro q; exact absurd q (by decide)
    · intro q; subst q; exact absurd h1 (by simp)
  · rw [if_neg h1]
    by_cases h2 : x = y
    · simp [h2]
    · rw [if_neg h2]
      constructor
      · intro q; exact absurd q (by decide)
      · intro q; exact absurd q h2
theorem fn_lif_ne (hx : p.tables.exec = Jvm.exec) (hb : c.code = cc) {x y : Int64} {off : Int} {tgt : Nat} (hdg : decode cc pc = .ok (.ifCond .ne off, 3)) (ht : (pc : Int) + off = (tgt : Int)) (kt : ¬ x = y → W p l e R s m args below meth c H locs cells slots Q (F0 m tgt ls rest)) (kf : x = y → W p l e R s m args below meth c H locs cells slots Q (F0 m (pc + 3) ls rest)) : W p l e R s m args below meth c H locs cells slots Q (F0 m pc ls (.int (lg_cmp x y) :: rest)) := lv_if_ne hx hb hdg ht (fun h => kt (fun q => h ((fn_cmp0 x y).mpr q))) (fun h => kf ((fn_cmp0 x y).mp h))
theorem fn_lif_eq (hx : p.tables.exec = Jvm.exec) (hb : c.code = cc) {x y : Int64} {off : Int} {tgt : Nat} (hdg : decode cc pc = .ok (.ifCond .eq off, 3)) (ht : (pc : Int) + off = (tgt : Int)) (kt : x = y → W p l e R s m args below meth c H locs cells slots Q (F0 m tgt ls rest)) (kf : ¬ x = y → W p l e R s m args below meth c H locs cells slots Q (F0 m (pc + 3) ls rest)) : W p l e R s m args below meth c H locs cells slots Q (F0 m pc ls (.int (lg_cmp x y) :: rest)) := lv_if_eq hx hb hdg ht (fun h => kt ((fn_cmp0 x y).mp h)) (fun h => kf (fun q => h ((fn_cmp0 x y).mpr q)))
/-! arrays at a natural index -/
theorem fn_alen (hx : p.tables.exec = Jvm.exec) (hb : c.code = cc) (hK : va_K D cl tys s) (hP : fw_P D cl B n w H) (t0 : Nat) {cA : ClassId} {x : vp_A} (ha : w a = some (.inl (cA, x))) {ty : FieldType} (ht : tys[t0]? = some (cA, ty)) (hdg : decode cc pc = .ok (.arraylength, 1))
    (kk : W p l e R s m args below meth c H locs cells slots Q (F0 m (pc + 1) ls (.int (iI x.1) :: rest))) : W p l e R s m args below meth c H locs cells slots Q (F0 m pc ls (.ref a :: rest)) :=
  fw_alen hx hb hK hP t0 ha ht hdg (fn_topi (iI_nat _) kk)
theorem fn_iald (hx : p.tables.exec = Jvm.exec) (hb : c.code = cc) (hK : va_K D cl tys s) (hP : fw_P D cl B n w H) (t0 : Nat) {cA : ClassId} {N k : Nat} {f : Nat → Int32} (ha : w a = some (.inl (cA, N, .inl f))) (ht : tys[t0]? = some (cA, .int)) (hk : k < N) (hN : N < 2147483648) (hdg : decode cc pc = .ok (.iaload, 1))
    (kk : W p l e R s m args below meth c H locs cells slots Q (F0 m (pc + 1) ls (.int (f k) :: rest))) : W p l e R s m args below meth c H locs cells slots Q (F0 m pc ls (.int (iI k) :: .ref a :: rest)) :=
  fw_iald hx hb hK hP t0 ha ht (iI_in hk hN) hdg (by rw [iI_clamp (by omega)]; exact kk)
theorem fn_bald (hx : p.tables.exec = Jvm.exec) (hb : c.code = cc) (hK : va_K D cl tys s) (hP : fw_P D cl B n w H) (t0 : Nat) {cA : ClassId} {N k : Nat} {f : Nat → Int32} (ha : w a = some (.inl (cA, N, .inl f))) (ht : tys[t0]? = some (cA, .byte)) (hk : k < N) (hN : N < 2147483648) (hdg : decode cc pc = .ok (.baload, 1))
    (kk : W p l e R s m args below meth c H locs cells slots Q (F0 m (pc + 1) ls (.int (f k) :: rest))) : W p l e R s m args below meth c H locs cells slots Q (F0 m pc ls (.int (iI k) :: .ref a :: rest)) :=
  fw_bald hx hb hK hP t0 ha ht (iI_in hk hN) hdg (by rw [iI_clamp (by omega)]; exact kk)
theorem fn_zald (hx : p.tables.exec = Jvm.exec) (hb : c.code = cc) (hK : va_K D cl tys s) (hP : fw_P D cl B n w H) (t0 : Nat) {cA : ClassId} {N k : Nat} {f : Nat → Int32} (ha : w a = some (.inl (cA, N, .inl f))) (ht : tys[t0]? = some (cA, .boolean)) (hk : k < N) (hN : N < 2147483648) (hdg : decode cc pc = .ok (.baload, 1))
    (kk : W p l e R s m args below meth c H locs cells slots Q (F0 m (pc + 1) ls (.int (f k) :: rest))) : W p l e R s m args below meth c H locs cells slots Q (F0 m pc ls (.int (iI k) :: .ref a :: rest)) :=
  fw_zald hx hb hK hP t0 ha ht (iI_in hk hN) hdg (by rw [iI_clamp (by omega)]; exact kk)
theorem fn_lald (hx : p.tables.exec = Jvm.exec) (hb : c.code = cc) (hK : va_K D cl tys s) (hP : fw_P D cl B n w H) (t0 : Nat) {cA : ClassId} {N k : Nat} {f : Nat → Int64} (ha : w a = some (.inl (cA, N, .inr (.inl f)))) (ht : tys[t0]? = some (cA, .long)) (hk : k < N) (hN : N < 2147483648) (hdg : decode cc pc = .ok (.laload, 1))
    (kk : W p l e R s m args below meth c H locs cells slots Q (F0 m (pc + 1) ls (.long (f k) :: rest))) : W p l e R s m args below meth c H locs cells slots Q (F0 m pc ls (.int (iI k) :: .ref a :: rest)) :=
  fw_lald hx hb hK hP t0 ha ht (iI_in hk hN) hdg (by rw [iI_clamp (by omega)]; exact kk)
theorem fn_aald (hx : p.tables.exec = Jvm.exec) (hb : c.code = cc) (hK : va_K D cl tys s) (hP : fw_P D cl B n w H) (t0 : Nat) {cA : ClassId} {C : String} {N k : Nat} {f : Nat → Option Nat} (ha : w a = some (.inl (cA, N, .inr (.inr (.inr (.inr f)))))) (ht : tys[t0]? = some (cA, .object C)) (hk : k < N) (hN : N < 2147483648) (hdg : decode cc pc = .ok (.aaload, 1))
    (kk : W p l e R s m args below meth c H locs cells slots Q (F0 m (pc + 1) ls (va_rf (f k) :: rest))) : W p l e R s m args below meth c H locs cells slots Q (F0 m pc ls (.int (iI k) :: .ref a :: rest)) :=
  fw_aldq hx hb hK hP t0 ha ht (iI_in hk hN) hdg (by rw [iI_clamp (by omega)]; exact kk)
theorem fn_iast (hx : p.tables.exec = Jvm.exec) (hb : c.code = cc) (hK : va_K D cl tys s) (hP : fw_P D cl B n w H) (hS : fw_S B H0 H locs) (t0 : Nat) {cA : ClassId} {N k : Nat} {f : Nat → Int32} (ha : w a = some (.inl (cA, N, .inl f))) (ht : tys[t0]? = some (cA, .int)) {x : Int32} (hk : k < N) (hN : N < 2147483648) (hdg : decode cc pc = .ok (.iastore, 1))
    (kk : ∀ (H1 : Heap) (locs1 : List Loc), fw_P D cl B n (fw_up w a (.inl (cA, N, .inl (upd f k x)))) H1 → fw_S B H0 H1 locs1 → W p l e R s m args below meth c H1 locs1 cells slots Q (F0 m (pc + 1) ls rest)) : W p l e R s m args below meth c H locs cells slots Q (F0 m pc ls (.int x :: .int (iI k) :: .ref a :: rest)) :=
  fw_iast hx hb hK hP hS t0 ha ht (iI_in hk hN) hdg (by rw [iI_clamp (by omega)]; exact kk)
theorem fn_bast (hx : p.tables.exec = Jvm.exec) (hb : c.code = cc) (hK : va_K D cl tys s) (hP : fw_P D cl B n w H) (hS : fw_S B H0 H locs) (t0 : Nat) {cA : ClassId} {N k : Nat} {f : Nat → Int32} (ha : w a = some (.inl (cA, N, .inl f))) (ht : tys[t0]? = some (cA, .byte)) {x : Int32} (hk : k < N) (hN : N < 2147483648) (hx2 : vp_nar .byte x = x) (hdg : decode cc pc = .ok (.bastore, 1))
    (kk : ∀ (H1 : Heap) (locs1 : List Loc), fw_P D cl B n (fw_up w a (.inl (cA, N, .inl (upd f k x)))) H1 → fw_S B H0 H1 locs1 → W p l e R s m args below meth c H1 locs1 cells slots Q (F0 m (pc + 1) ls rest)) : W p l e R s m args below meth c H locs cells slots Q (F0 m pc ls (.int x :: .int (iI k) :: .ref a :: rest)) :=
  fw_bast hx hb hK hP hS t0 ha ht (iI_in hk hN) hdg (by rw [iI_clamp (by omega), hx2]; exact kk)
theorem fn_zast (hx : p.tables.exec = Jvm.exec) (hb : c.code = cc) (hK : va_K D cl tys s) (hP : fw_P D cl B n w H) (hS : fw_S B H0 H locs) (t0 : Nat) {cA : ClassId} {N k : Nat} {f : Nat → Int32} (ha : w a = some (.inl (cA, N, .inl f))) (ht : tys[t0]? = some (cA, .boolean)) {x : Bool} (hk : k < N) (hN : N < 2147483648) (hdg : decode cc pc = .ok (.bastore, 1))
    (kk : ∀ (H1 : Heap) (locs1 : List Loc), fw_P D cl B n (fw_up w a (.inl (cA, N, .inl (upd f k (bI x))))) H1 → fw_S B H0 H1 locs1 → W p l e R s m args below meth c H1 locs1 cells slots Q (F0 m (pc + 1) ls rest)) : W p l e R s m args below meth c H locs cells slots Q (F0 m pc ls (.int (bI x) :: .int (iI k) :: .ref a :: rest)) :=
  fw_zast hx hb hK hP hS t0 ha ht (iI_in hk hN) hdg (by rw [iI_clamp (by omega), bI_nar]; exact kk)
theorem fn_last (hx : p.tables.exec = Jvm.exec) (hb : c.code = cc) (hK : va_K D cl tys s) (hP : fw_P D cl B n w H) (hS : fw_S B H0 H locs) (t0 : Nat) {cA : ClassId} {N k : Nat} {f : Nat → Int64} (ha : w a = some (.inl (cA, N, .inr (.inl f)))) (ht : tys[t0]? = some (cA, .long)) {x : Int64} (hk : k < N) (hN : N < 2147483648) (hdg : decode cc pc = .ok (.lastore, 1))
    (kk : ∀ (H1 : Heap) (locs1 : List Loc), fw_P D cl B n (fw_up w a (.inl (cA, N, .inr (.inl (vp_updL f k x))))) H1 → fw_S B H0 H1 locs1 → W p l e R s m args below meth c H1 locs1 cells slots Q (F0 m (pc + 1) ls rest)) : W p l e R s m args below meth c H locs cells slots Q (F0 m pc ls (.long x :: .int (iI k) :: .ref a :: rest)) :=
  fw_last hx hb hK hP hS t0 ha ht (iI_in hk hN) hdg (by rw [iI_clamp (by omega)]; exact kk)
theorem fn_aast (hx : p.tables.exec = Jvm.exec) (hb : c.code = cc) (hK : va_K D cl tys s) (hP : fw_P D cl B n w H) (hS : fw_S B H0 H locs) (t0 ci : Nat) {cA : ClassId} {r : vw_C} {N k v : Nat} {vs : List Value} {f : Nat → Option Nat} (ha : w a = some (.inl (cA, N, .inr (.inr (.inr (.inr f)))))) (ht : tys[t0]? = some (cA, .object r.1)) (hv : w v = some (.inr (ci, vs))) (hc : cl[ci]? = some r) (hk : k < N) (hN : N < 2147483648) (hdg : decode cc pc = .ok (.aastore, 1))
    (kk : ∀ (H1 : Heap) (locs1 : List Loc), fw_P D cl B n (fw_up w a (.inl (cA, N, .inr (.inr (.inr (.inr (va_up f k (some v)))))))) H1 → fw_S B H0 H1 locs1 → W p l e R s m args below meth c H1 locs1 cells slots Q (F0 m (pc + 1) ls rest)) : W p l e R s m args below meth c H locs cells slots Q (F0 m pc ls (.ref v :: .int (iI k) :: .ref a :: rest)) :=
  fw_astq hx hb hK hP hS t0 ci ha ht hv hc (iI_in hk hN) hdg (by rw [iI_clamp (by omega)]; exact kk)
theorem fn_mid {x y : Int} {v : Value} (h : x = y) (k : W p l e R s m args below meth c H locs cells slots Q (F0 m pc ls (v :: .int (iI y) :: rest))) : W p l e R s m args below meth c H locs cells slots Q (F0 m pc ls (v :: .int (iI x) :: rest)) := h ▸ k
theorem fn_zaldB (hx : p.tables.exec = Jvm.exec) (hb : c.code = cc) (hK : va_K D cl tys s) (hP : fw_P D cl B n w H) (t0 : Nat) {cA : ClassId} {N k : Nat} {sb : Nat → Bool} (ha : w a = some (.inl (cA, N, .inl (fun i => bI (sb i))))) (ht : tys[t0]? = some (cA, .boolean)) (hk : k < N) (hN : N < 2147483648) (hdg : decode cc pc = .ok (.baload, 1))
    (kk : W p l e R s m args below meth c H locs cells slots Q (F0 m (pc + 1) ls (.int (bI (sb k)) :: rest))) : W p l e R s m args below meth c H locs cells slots Q (F0 m pc ls (.int (iI k) :: .ref a :: rest)) :=
  fn_zald hx hb hK hP t0 ha ht hk hN hdg kk
theorem fn_ialdN (hx : p.tables.exec = Jvm.exec) (hb : c.code = cc) (hK : va_K D cl tys s) (hP : fw_P D cl B n w H) (t0 : Nat) {cA : ClassId} {N k : Nat} {g : Nat → Nat} (ha : w a = some (.inl (cA, N, .inl (fun i => iI ((g i : Nat) : Int))))) (ht : tys[t0]? = some (cA, .int)) (hk : k < N) (hN : N < 2147483648) (hdg : decode cc pc = .ok (.iaload, 1))
    (kk : W p l e R s m args below meth c H locs cells slots Q (F0 m (pc + 1) ls (.int (iI ((g k : Nat) : Int)) :: rest))) : W p l e R s m args below meth c H locs cells slots Q (F0 m pc ls (.int (iI k) :: .ref a :: rest)) :=
  fn_iald hx hb hK hP t0 ha ht hk hN hdg kk
theorem fn_zastB (hx : p.tables.exec = Jvm.exec) (hb : c.code = cc) (hK : va_K D cl tys s) (hP : fw_P D cl B n w H) (hS : fw_S B H0 H locs) (t0 : Nat) {cA : ClassId} {N k : Nat} {sb : Nat → Bool} (ha : w a = some (.inl (cA, N, .inl (fun i => bI (sb i))))) (ht : tys[t0]? = some (cA, .boolean)) {x : Bool} (hk : k < N) (hN : N < 2147483648) (hdg : decode cc pc = .ok (.bastore, 1))
    (kk : ∀ (H1 : Heap) (locs1 : List Loc), fw_P D cl B n (fw_up w a (.inl (cA, N, .inl (fun i => bI (gup sb k x i))))) H1 → fw_S B H0 H1 locs1 → W p l e R s m args below meth c H1 locs1 cells slots Q (F0 m (pc + 1) ls rest)) : W p l e R s m args below meth c H locs cells slots Q (F0 m pc ls (.int (bI x) :: .int (iI k) :: .ref a :: rest)) := by
  have h : upd (fun i => bI (sb i)) k (bI x) = fun i => bI (gup sb k x i) := by
    funext q
    by_cases hq : q = k <;> simp [upd, gup, hq]
  exact fn_zast hx hb hK hP hS t0 ha ht hk hN hdg (by rw [h]; exact kk)
theorem fn_iastN (hx : p.tables.exec = Jvm.exec) (hb : c.code = cc) (hK : va_K D cl tys s) (hP : fw_P D cl B n w H) (hS : fw_S B H0 H locs) (t0 : Nat) {cA : ClassId} {N k : Nat} {g : Nat → Nat} (ha : w a = some (.inl (cA, N, .inl (fun i => iI ((g i : Nat) : Int))))) (ht : tys[t0]? = some (cA, .int)) {x : Nat} (hk : k < N) (hN : N < 2147483648) (hdg : decode cc pc = .ok (.iastore, 1))
    (kk : ∀ (H1 : Heap) (locs1 : List Loc), fw_P D cl B n (fw_up w a (.inl (cA, N, .inl (fun i => iI ((gup g k x i : Nat) : Int))))) H1 → fw_S B H0 H1 locs1 → W p l e R s m args below meth c H1 locs1 cells slots Q (F0 m (pc + 1) ls rest)) : W p l e R s m args below meth c H locs cells slots Q (F0 m pc ls (.int (iI ((x : Nat) : Int)) :: .int (iI k) :: .ref a :: rest)) := by
  have h : upd (fun i => iI ((g i : Nat) : Int)) k (iI ((x : Nat) : Int)) = fun i => iI ((gup g k x i : Nat) : Int) := by
    funext q
    by_cases hq : q = k <;> simp [upd, gup, hq]
  exact fn_iast hx hb hK hP hS t0 ha ht hk hN hdg (by rw [h]; exact kk)
end FN
def tyL (ta : Nat → ClassId) : List (ClassId × FieldType) := [(ta 0, .byte), (ta 1, .int), (ta 2, .boolean), (ta 3, .object "CoinDesk$Coin"), (ta 4, .long)]
