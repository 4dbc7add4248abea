/-! NUMBERS OF THE REFERENCE -/
theorem iI_div {a b : Nat} (ha : a < 2147483648) (hb : b < 2147483648) : iI (a : Int) / iI (b : Int) = iI ((a / b : Nat) : Int) := by
  have hdiv : a / b ≤ a := Nat.div_le_self a b
  apply Int32.toInt_inj.mp
  have hne : iI (b : Int) ≠ -1 := by
    intro q
    have q2 := congrArg Int32.toInt q
    rw [iI_toInt ⟨by omega, by omega⟩] at q2
    have e : (-1 : Int32).toInt = -1 := by decide
    rw [e] at q2
    omega
  have key : ∀ d : Nat, d ≤ a → iK (d : Int) := fun d h => ⟨by omega, by omega⟩
  rw [Int32.toInt_div_of_ne_right _ _ hne, iI_toInt (key a (Nat.le_refl a)), iI_toInt (z := (b : Int)) ⟨by omega, by omega⟩, iI_toInt (key (a / b) hdiv)]
  exact (Int.ofNat_tdiv a b).symm
theorem iI_div99 {a : Nat} (ha : a < 2147483648) : iI ((a : Nat) : Int) / iI ((99 : Nat) : Int) = iI ((a / 99 : Nat) : Int) := iI_div ha (by decide)
theorem iI_rem99 {a : Nat} (ha : a < 2147483648) : iI ((a : Nat) : Int) - iI ((a : Nat) : Int) / iI ((99 : Nat) : Int) * iI ((99 : Nat) : Int) = iI ((a % 99 : Nat) : Int) := by
  rw [iI_div99 ha, iI_mul, iI_sub]
  congr 1
  omega
section FM
variable {p : Program} {l : Launch} {e : Env} {R : Room} {s : State} {m : MethodId} {args : Array Value} {below : List Frame} {meth : Method} {c : Code} {H : Heap} {locs : List Loc} {cells slots : Nat} {Q : State → Prop}
variable {cc : ByteArray} {pc : Nat} {ls : Array Slot} {rest : List Value}
theorem fn_idiv99 (hx : p.tables.exec = Jvm.exec) (hb : c.code = cc) {x : Nat} (hdg : decode cc pc = .ok (.idiv, 1)) (h : x < 2147483648) (k : W p l e R s m args below meth c H locs cells slots Q (F0 m (pc + 1) ls (.int (iI ((x / 99 : Nat) : Int)) :: rest))) : W p l e R s m args below meth c H locs cells slots Q (F0 m pc ls (.int (iI ((99 : Nat) : Int)) :: .int (iI ((x : Nat) : Int)) :: rest)) :=
  lv_idiv hx hb hdg (by decide) (fn_topi (iI_div99 h) k)
theorem fn_irem99 (hx : p.tables.exec = Jvm.exec) (hb : c.code = cc) {x : Nat} (hdg : decode cc pc = .ok (.irem, 1)) (h : x < 2147483648) (k : W p l e R s m args below meth c H locs cells slots Q (F0 m (pc + 1) ls (.int (iI ((x % 99 : Nat) : Int)) :: rest))) : W p l e R s m args below meth c H locs cells slots Q (F0 m pc ls (.int (iI ((99 : Nat) : Int)) :: .int (iI ((x : Nat) : Int)) :: rest)) :=
  lv_irem hx hb hdg (by decide) (fn_topi (iI_rem99 h) k)
end FM
/-- how many of the first i are v -/
def cnt (f : Nat → Nat) (v : Nat) : Nat → Nat
  | 0 => 0
  | i + 1 => cnt f v i + (if f i = v then 1 else 0)
theorem cnt_T {f : Nat → Nat} {v i : Nat} (h : f i = v) : cnt f v (i + 1) = cnt f v i + 1 := by simp [cnt, h]
theorem cnt_F {f : Nat → Nat} {v i : Nat} (h : ¬ f i = v) : cnt f v (i + 1) = cnt f v i + 0 := by simp [cnt, h]
theorem cnt_le (f : Nat → Nat) (v i : Nat) : cnt f v i ≤ i := by
  induction i with
  | zero => exact Nat.le_refl _
  | succ i ih =>
    show cnt f v i + (if f i = v then 1 else 0) ≤ i + 1
    split <;> omega
/-- the place k holds the key in hand, as far as its first i numbers -/
def mmb (stt : Nat → Nat) (idx : Nat → Int32) (ix : Int32) (kys kyh : Nat → Int64) (k : Nat) : Nat → Bool
  | 0 => decide (stt k = 1 ∧ idx k = ix)
  | i + 1 => mmb stt idx ix kys kyh k i && decide (kys (4 * k + i) = kyh i)
/-- the byte i of the script at the place k -/
def mget (ss : Nat → Nat → Int32) (k i : Nat) : Int32 := ss (k / 99) (200 * (k % 99) + i)
def msum (stt : Nat → Nat) (vls : Nat → Int64) : Nat → Int64
  | 0 => 0
  | i + 1 => msum stt vls i + (if stt i = 1 then vls i else 0)
theorem msum_T {stt : Nat → Nat} {vls : Nat → Int64} {i : Nat} (h : stt i = 1) : msum stt vls (i + 1) = msum stt vls i + vls i := by simp [msum, h]
theorem msum_F {stt : Nat → Nat} {vls : Nat → Int64} {i : Nat} (h : ¬ stt i = 1) : msum stt vls (i + 1) = msum stt vls i + 0 := by simp [msum, h]
/-- the states behind taking back the latest t of nd things -/
def mun (stt cns kds : Nat → Nat) (nd : Nat) : Nat → (Nat → Nat)
  | 0 => stt
  | t + 1 => gup (mun stt cns kds nd t) (cns (nd - (t + 1))) (if kds (nd - (t + 1)) = 1 then 0 else 1)
/-- the states behind forgetting the oldest i things -/
def mfg (stt cns kds : Nat → Nat) : Nat → (Nat → Nat)
  | 0 => stt
  | i + 1 => if kds i = 2 then gup (mfg stt cns kds i) (cns i) 0 else mfg stt cns kds i
def qbyte (v : Int64) (i : Nat) : Int32 := ((v >>> ((iI ((8 * i : Nat) : Int)).toInt64 &&& 63)).toInt32).toInt8.toInt32
theorem qbyte_nar (v : Int64) (i : Nat) : vp_nar .byte (qbyte v i) = qbyte v i := by
  rw [vp_nar_byte]
  unfold qbyte
  rw [Int8.toInt8_toInt32]
def mlookw (v : Int64) (h : Nat) (f : Bool) (z : Nat) (q : Int) : Int64 := if q = 0 then v else if q = 1 then (iI ((h : Nat) : Int)).toInt64 else if q = 2 then (if f then 1 else 0) else (iI ((z : Nat) : Int)).toInt64
def mlook (what : Int32) (v : Int64) (h : Nat) (f : Bool) (z : Nat) : Int64 := if what.toInt < 0 ∨ 3 < what.toInt then -1 else mlookw v h f z what.toInt
theorem mlook_out {what : Int32} {v : Int64} {h : Nat} {f : Bool} {z : Nat} (hw : what.toInt < 0 ∨ 3 < what.toInt) : mlook what v h f z = -1 := if_pos hw
theorem mlook_in {what : Int32} {v : Int64} {h : Nat} {f : Bool} {z : Nat} {q : Int} (hw : what.toInt = q) (h1 : ¬ q < 0 := by decide) (h2 : ¬ 3 < q := by decide) : mlook what v h f z = mlookw v h f z q := by
  unfold mlook
  rw [hw, if_neg (by omega)]
