abbrev cKey : Type := Int64 × Int64 × Int64 × Int64 × Int32
abbrev cCoin : Type := cKey × (Nat × (Nat → Int32)) × Int64 × Int32 × Bool
/-- a coin at a, its key at a + 1, its script at a + 2, the script's bytes at a + 3: key, script (length, bytes), value, height, first -/
def cn_at (ta : Nat → ClassId) (w : fw_W) (a : Nat) (x : cCoin) : Prop := w a = some (.inr (3, [.ref (a + 1), .ref (a + 2), .long ((x).2.2.1), .int ((x).2.2.2.1), .int (bI ((x).2.2.2.2))])) ∧ w (a + 1) = some (.inr (1, [.long (x.1.1), .long (x.1.2.1), .long (x.1.2.2.1), .long (x.1.2.2.2.1), .int (x.1.2.2.2.2)])) ∧ w (a + 2) = some (.inr (2, [.ref (a + 3), .int (iI (((x.2.1.1 : Nat) : Int)))])) ∧ w (a + 3) = some (.inl (ta 0, 200, .inl (x.2.1.2)))
def csum (cx : Nat → cCoin) : Nat → Int64
  | 0 => 0
  | i + 1 => csum cx i + (cx i).2.2.1
def ulim (z : Int) : Nat := if 2 ≤ z ∧ z ≤ 200 then z.toNat else 60
theorem ulim_le (z : Int) : 2 ≤ ulim z ∧ ulim z ≤ 200 := by
  unfold ulim
  split <;> omega
/-- the addresses of the coins that the first i things spent -/
def sadd (ca : Nat → Nat) (sb : Nat → Bool) : Nat → List Nat
  | 0 => []
  | i + 1 => if sb i then sadd ca sb i ++ [ca i] else sadd ca sb i
theorem sadd_mono (ca : Nat → Nat) (sb : Nat → Bool) {i j : Nat} (h : i ≤ j) : (sadd ca sb i).length ≤ (sadd ca sb j).length := by
  induction j with
  | zero => rw [show i = 0 by omega]; exact Nat.le_refl _
  | succ j ih =>
    by_cases hq : i = j + 1
    · rw [hq]; exact Nat.le_refl _
    · refine Nat.le_trans (ih (by omega)) ?_
      show _ ≤ (if sb j then sadd ca sb j ++ [ca j] else sadd ca sb j).length
      split
      · simp
      · exact Nat.le_refl _
/-- a pile's row holds the list -/
def rl (us : List Nat) (f : Nat → Option Nat) : Prop := ∀ j (h : j < us.length), f j = some us[j]
theorem rl_add {us : List Nat} {f : Nat → Option Nat} (h : rl us f) (a : Nat) : rl (us ++ [a]) (va_up f us.length (some a)) := by
  intro j hj
  by_cases hq : j = us.length
  · subst hq; simp [va_up]
  · have hlt : j < us.length := by simp at hj; omega
    simp only [va_up, if_neg hq]
    rw [h j hlt, List.getElem_append_left hlt]
theorem cn_upO {ta : Nat → ClassId} {w : fw_W} {a b i : Nat} {x : cCoin} {fs : List Value} {e : va_E} (h : cn_at ta w a x) (hb : w b = some (.inr (i, fs))) (hi : 3 ≠ i ∧ 1 ≠ i ∧ 2 ≠ i) : cn_at ta (fw_up w b e) a x := ⟨fw_at (fw_noo h.1 hb hi.1) h.1, fw_at (fw_noo h.2.1 hb hi.2.1) h.2.1, fw_at (fw_noo h.2.2.1 hb hi.2.2) h.2.2.1, fw_at (fw_nio h.2.2.2 hb) h.2.2.2⟩
theorem cn_upQ {ta : Nat → ClassId} {w : fw_W} {a b N : Nat} {cA : ClassId} {g : Nat → Option Nat} {x : cCoin} {e : va_E} (h : cn_at ta w a x) (hb : w b = some (.inl (cA, N, .inr (.inr (.inr (.inr g)))))) : cn_at ta (fw_up w b e) a x := ⟨fw_at (fw_nio hb h.1).symm h.1, fw_at (fw_nio hb h.2.1).symm h.2.1, fw_at (fw_nio hb h.2.2.1).symm h.2.2.1, fw_at (fw_niq h.2.2.2 hb) h.2.2.2⟩
theorem cn_upI {ta : Nat → ClassId} {w : fw_W} {a b : Nat} {y : ClassId × vp_A} {x : cCoin} {e : va_E} (h : cn_at ta w a x) (hb : w b = some (.inl y)) (hne : a + 3 ≠ b) : cn_at ta (fw_up w b e) a x := ⟨fw_at (fw_nio hb h.1).symm h.1, fw_at (fw_nio hb h.2.1).symm h.2.1, fw_at (fw_nio hb h.2.2.1).symm h.2.2.1, fw_at hne h.2.2.2⟩
theorem cn_upN {ta : Nat → ClassId} {w : fw_W} {a b : Nat} {x : cCoin} {e : va_E} (h : cn_at ta w a x) (hne : b < a ∨ a + 3 < b) : cn_at ta (fw_up w b e) a x := ⟨fw_at (by omega) h.1, fw_at (by omega) h.2.1, fw_at (by omega) h.2.2.1, fw_at (by omega) h.2.2.2⟩
def pbyte (v : Int64) (i : Nat) : Int32 := ((v.toUInt64 >>> ((iI ((8 * i : Nat) : Int)).toInt64.toUInt64 &&& Int64.toUInt64 63)).toInt64).toInt32.toInt8.toInt32
theorem pbyte_nar (v : Int64) (i : Nat) : vp_nar .byte (pbyte v i) = pbyte v i := by
  rw [vp_nar_byte]
  unfold pbyte
  rw [Int8.toInt8_toInt32]
def lookw (c : cCoin) (q : Int) : Int64 := if q = 0 then c.2.2.1 else if q = 1 then c.2.2.2.1.toInt64 else if q = 2 then (if c.2.2.2.2 then 1 else 0) else (iI ((c.2.1.1 : Nat) : Int)).toInt64
def lookv (what : Int32) (c : cCoin) : Int64 := if what.toInt < 0 ∨ 3 < what.toInt then -1 else lookw c what.toInt
theorem lookv_out {what : Int32} (c : cCoin) (h : what.toInt < 0 ∨ 3 < what.toInt) : lookv what c = -1 := if_pos h
theorem lookv_in {what : Int32} (c : cCoin) {q : Int} (h : what.toInt = q) (h1 : ¬ q < 0 := by decide) (h2 : ¬ 3 < q := by decide) : lookv what c = lookw c q := by
  unfold lookv
  rw [h, if_neg (by omega)]
def countw (ht : Int) (nu ns nr : Nat) (op : Bool) (q : Int) : Int32 := if q = 0 then iI ht else if q = 1 then iI ((nu : Nat) : Int) else if q = 2 then iI ((ns : Nat) : Int) else if q = 3 then iI ((nr : Nat) : Int) else (if op then iI ((1 : Nat) : Int) else iI ((0 : Nat) : Int))
def countv (what : Int32) (ht : Int) (nu ns nr : Nat) (op : Bool) : Int32 := if what.toInt < 0 ∨ 4 < what.toInt then iI (-1) else countw ht nu ns nr op what.toInt
theorem countv_out {what : Int32} (ht : Int) (nu ns nr : Nat) (op : Bool) (h : what.toInt < 0 ∨ 4 < what.toInt) : countv what ht nu ns nr op = iI (-1) := if_pos h
theorem countv_in {what : Int32} (ht : Int) (nu ns nr : Nat) (op : Bool) {q : Int} (h : what.toInt = q) (h1 : ¬ q < 0 := by decide) (h2 : ¬ 4 < q := by decide) : countv what ht nu ns nr op = countw ht nu ns nr op q := by
  unfold countv
  rw [h, if_neg (by omega)]
