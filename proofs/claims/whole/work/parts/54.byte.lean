theorem bv_sh (x : BitVec 64) (s : Nat) (hs : s ≤ 56) : (x.sshiftRight s).setWidth 8 = (x >>> s).setWidth 8 := by
  apply BitVec.eq_of_getLsbD_eq
  intro j hj
  rw [BitVec.getLsbD_setWidth, BitVec.getLsbD_setWidth, BitVec.getLsbD_sshiftRight, BitVec.getLsbD_ushiftRight]
  have h1 : ¬ 64 ≤ j := by omega
  have h2 : s + j < 64 := by omega
  simp [h1, h2]
theorem bv_pq (v : Int64) (A : UInt64) (Bq : Int64) (s : Nat) (hs : s ≤ 56) (hA : (A.toBitVec % 64).toNat = s) (hB : (Bq.toBitVec.smod 64).toNat = s) : (v.toUInt64 >>> A).toInt64.toInt32.toInt8.toInt32 = (v >>> Bq).toInt32.toInt8.toInt32 := by
  congr 1
  rw [Int64.toInt8_toInt32, Int64.toInt8_toInt32]
  apply Int8.toBitVec.inj
  rw [Int64.toBitVec_toInt8, Int64.toBitVec_toInt8, BitVec.signExtend_eq_setWidth_of_le _ (by decide), BitVec.signExtend_eq_setWidth_of_le _ (by decide), UInt64.toBitVec_toInt64, UInt64.toBitVec_shiftRight, Int64.toBitVec_shiftRight, Int64.toBitVec_toUInt64, BitVec.sshiftRight_eq', BitVec.ushiftRight_eq', hB]
  rw [bv_sh _ s hs]
  congr 2
theorem pbyte_q (v : Int64) (i : Nat) (hi : i < 8) : qbyte v i = pbyte v i := by
  unfold pbyte qbyte
  match i, hi with
  | 0, _ => exact (bv_pq v _ _ 0 (by decide) (by decide) (by decide)).symm
  | 1, _ => exact (bv_pq v _ _ 8 (by decide) (by decide) (by decide)).symm
  | 2, _ => exact (bv_pq v _ _ 16 (by decide) (by decide) (by decide)).symm
  | 3, _ => exact (bv_pq v _ _ 24 (by decide) (by decide) (by decide)).symm
  | 4, _ => exact (bv_pq v _ _ 32 (by decide) (by decide) (by decide)).symm
  | 5, _ => exact (bv_pq v _ _ 40 (by decide) (by decide) (by decide)).symm
  | 6, _ => exact (bv_pq v _ _ 48 (by decide) (by decide) (by decide)).symm
  | 7, _ => exact (bv_pq v _ _ 56 (by decide) (by decide) (by decide)).symm
  | i + 8, hi => exact absurd hi (by omega)
