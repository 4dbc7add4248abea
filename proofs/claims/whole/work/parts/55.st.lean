/-- the desk at h0, the reference at h0 + 12, coins from h0 + 32 on: both tell the same; the height is at most i -/
def st_I (ta : Nat → ClassId) (h0 n : Nat) (w : fw_W) (i : Nat) : Prop := ∃ (U : Nat) (k : cKey) (L : Nat) (f : Nat → Int32) (hh : Nat) (op : Bool) (us bs : List Nat) (J : List (Nat × Bool)) (ls : List Nat) (cx : Nat → cCoin) (ix : Int32) (od : Nat) (stt : Nat → Nat) (kys : Nat → Int64) (idx : Nat → Int32) (vls : Nat → Int64) (hgs : Nat → Nat) (frs : Nat → Bool) (szs : Nat → Nat) (ss : Nat → Nat → Int32) (kyh : Nat → Int64) (scf : Nat → Int32) (cns kds bks pl : Nat → Nat), dk_at ta (n) w h0 (h0 + 32) (U) (k) (L) (f) (((hh : Nat) : Int)) (op) (us) (bs) (J) (ls) (cx) ∧ mo_at ta w (h0 + 12) (U) (ix) (L) ((J).length) (od) (hh) (op) (stt) (kys) (idx) (vls) (hgs) (frs) (szs) (ss) (kyh) (scf) (cns) (kds) (bks) ∧ dk_ok U us bs J cx ∧ sc_ok (L, f) ∧ ls.length ≤ 64 ∧ hh ≤ i ∧ sm_hand k L f ix kyh scf ∧ (∀ a, a ∈ us ++ spa J → sm_coin (cx a) (pl a) kys idx vls hgs frs szs ss) ∧ sm_st us (spa J) pl stt ∧ sm_jn J ls pl od hh op cns kds bks
theorem st_I.later {ta : Nat → ClassId} {h0 n : Nat} {w : fw_W} {i : Nat} (hI : st_I ta h0 n w i) (j : Nat) (hj : i ≤ j) : st_I ta h0 n w j := by
  have hI0 := hI
  obtain ⟨U, k, L, f, hh, op, us, bs, J, ls, cx, ix, od, stt, kys, idx, vls, hgs, frs, szs, ss, kyh, scf, cns, kds, bks, pl, hd, hm, hok, hsc, h64, hhi, hhand, hcoin, hst, hjn⟩ := hI
  exact ⟨U, k, L, f, hh, op, us, bs, J, ls, cx, ix, od, stt, kys, idx, vls, hgs, frs, szs, ss, kyh, scf, cns, kds, bks, pl, hd, hm, hok, hsc, h64, (Nat.le_trans hhi hj), hhand, hcoin, hst, hjn⟩
theorem st_I.model {ta : Nat → ClassId} {h0 n : Nat} {w : fw_W} {i : Nat} (hI : st_I ta h0 n w i) : ∃ fs, w (h0 + 12) = some (.inr (6, fs)) := by
  have hI0 := hI
  obtain ⟨U, k, L, f, hh, op, us, bs, J, ls, cx, ix, od, stt, kys, idx, vls, hgs, frs, szs, ss, kyh, scf, cns, kds, bks, pl, hd, hm, hok, hsc, h64, hhi, hhand, hcoin, hst, hjn⟩ := hI
  exact ⟨_, hm.1⟩
theorem st_I.desk {ta : Nat → ClassId} {h0 n : Nat} {w : fw_W} {i : Nat} (hI : st_I ta h0 n w i) : ∃ fs, w h0 = some (.inr (0, fs)) := by
  have hI0 := hI
  obtain ⟨U, k, L, f, hh, op, us, bs, J, ls, cx, ix, od, stt, kys, idx, vls, hgs, frs, szs, ss, kyh, scf, cns, kds, bks, pl, hd, hm, hok, hsc, h64, hhi, hhand, hcoin, hst, hjn⟩ := hI
  obtain ⟨hc0, hcn, ⟨nu, uf, nb, bf, nj, nr, ns, lf, jf, sb, hraw, hrest⟩, hco⟩ := hd
  exact ⟨_, hraw.1⟩
theorem st_same {l : Launch} {D : va_G} {ta : Nat → ClassId} {B n : Nat} {w : fw_W} {h0 i : Nat} {y y2 : MethodName} {cc cc2 : ByteArray} {mL mL2 : Nat} {ret ret2 : Option FieldType} {rm rm2 : Room} {av av2 : List Value} {qv : Option Value} (hC : fw_C l D vwCl (tyL ta) B y cc mL ret rm av n w (fun q w1 n1 => q = qv ∧ w1 = w ∧ n1 = n)) (hM : fw_C l D vwCl (tyL ta) B y2 cc2 mL2 ret2 rm2 av2 n w (fun q w1 n1 => q = qv ∧ w1 = w ∧ n1 = n)) (hI : st_I ta h0 n w i) : ∃ Mid : fw_W → Nat → Prop, fw_C l D vwCl (tyL ta) B y cc mL ret rm av n w (fun q w1 n1 => q = qv ∧ Mid w1 n1) ∧ ∀ w1 n1, Mid w1 n1 → (∃ fs, w1 (h0 + 12) = some (.inr (6, fs))) ∧ fw_C l D vwCl (tyL ta) B y2 cc2 mL2 ret2 rm2 av2 n1 w1 (fun q w2 n2 => q = qv ∧ st_I ta h0 n2 w2 (i + 10)) := by
  refine ⟨fun w1 n1 => w1 = w ∧ n1 = n, hC, ?_⟩
  rintro w1 n1 ⟨rfl, rfl⟩
  refine ⟨hI.model, fw_C.mono hM ?_⟩
  rintro q w2 n2 ⟨hq, rfl, rfl⟩
  exact ⟨hq, hI.later _ (by omega)⟩
theorem st_pair {l : Launch} {D : va_G} {ta : Nat → ClassId} {B n : Nat} {w : fw_W} {h0 i : Nat} {y y2 : MethodName} {cc cc2 : ByteArray} {mL mL2 : Nat} {ret ret2 : Option FieldType} {rm rm2 : Room} {av av2 : List Value} {qv : Option Value} {N : Nat} {PC : fw_W → Prop} (hI0 : st_I ta h0 n w i) (hC : fw_C l D vwCl (tyL ta) B y cc mL ret rm av n w (fun q w1 n1 => q = qv ∧ n1 = N ∧ dk_fr (h0 + 32) h0 w w1 ∧ PC w1)) (hM : ∀ w1, dk_fr (h0 + 32) h0 w w1 → PC w1 → fw_C l D vwCl (tyL ta) B y2 cc2 mL2 ret2 rm2 av2 N w1 (fun q w2 n2 => q = qv ∧ n2 = N ∧ st_I ta h0 N w2 (i + 10))) : ∃ Mid : fw_W → Nat → Prop, fw_C l D vwCl (tyL ta) B y cc mL ret rm av n w (fun q w1 n1 => q = qv ∧ Mid w1 n1) ∧ ∀ w1 n1, Mid w1 n1 → (∃ fs, w1 (h0 + 12) = some (.inr (6, fs))) ∧ fw_C l D vwCl (tyL ta) B y2 cc2 mL2 ret2 rm2 av2 n1 w1 (fun q w2 n2 => q = qv ∧ st_I ta h0 n2 w2 (i + 10)) := by
  refine ⟨fun w1 n1 => n1 = N ∧ dk_fr (h0 + 32) h0 w w1 ∧ PC w1, hC, ?_⟩
  rintro w1 n1 ⟨rfl, hf, hp⟩
  obtain ⟨fs, hfs⟩ := hI0.model
  refine ⟨⟨fs, (hf _ (by omega) (by omega)).trans hfs⟩, fw_C.mono (hM w1 hf hp) ?_⟩
  rintro q w2 n2 ⟨hq, rfl, hI⟩
  exact ⟨hq, hI⟩
set_option maxHeartbeats 4000000 in
theorem st_key (l : Launch) (D : va_G) (ta : Nat → ClassId) (B n : Nat) (w : fw_W) (h0 i : Nat) (k2 : cKey) (hi : i < 60000) (hI : st_I ta h0 n w i) : ∃ (Mid : fw_W → Nat → Prop), fw_C l D vwCl (tyL ta) B yX0_key cX0_key 10 none ({ frames := 1, cells := 0, slots := 0, locals := 29 } : Room) [.ref (h0), .long k2.1, .long k2.2.1, .long k2.2.2.1, .long k2.2.2.2.1, .int k2.2.2.2.2] n w (fun q w1 n1 => q = none ∧ Mid w1 n1) ∧ ∀ w1 n1, Mid w1 n1 → (∃ fs, w1 (h0 + 12) = some (.inr (6, fs))) ∧ fw_C l D vwCl (tyL ta) B yX6_key cX6_key 10 none ({ frames := 0, cells := 0, slots := 0, locals := 0 } : Room) [.ref (h0 + 12), .long k2.1, .long k2.2.1, .long k2.2.2.1, .long k2.2.2.2.1, .int k2.2.2.2.2] n1 w1 (fun q w2 n2 => q = none ∧ st_I ta h0 n2 w2 (i + 10)) := by
  have hI0 := hI
  obtain ⟨U, k, L, f, hh, op, us, bs, J, ls, cx, ix, od, stt, kys, idx, vls, hgs, frs, szs, ss, kyh, scf, cns, kds, bks, pl, hd, hm, hok, hsc, h64, hhi, hhand, hcoin, hst, hjn⟩ := hI
  refine st_pair hI0 (dk_key l D ta B n w h0 (h0 + 32) U k L f ((hh : Nat) : Int) op us bs J ls cx k2 hd) ?_
  intro w1 hf hd1
  have hm1 := mo_dk hm hf rfl
  refine fw_C.mono (mo_key l D ta B n w1 (h0 + 12) U ix L J.length od hh op stt kys idx vls hgs frs szs ss kyh scf cns kds bks k2 hm1) ?_
  rintro q w2 n2 ⟨rfl, rfl, hf2, hm2⟩
  refine ⟨rfl, rfl, ⟨U, k2, L, f, hh, op, us, bs, J, ls, cx, _, od, stt, kys, idx, vls, hgs, frs, szs, ss, _, scf, cns, kds, bks, pl, dk_mo hd1 hf2 rfl, hm2, hok, hsc, h64, by omega, ?_, hcoin, hst, hjn⟩⟩
  refine ⟨rfl, fun j hj => ?_, hhand.2.2⟩
  match j, hj with
  | 0, _ => rfl
  | 1, _ => rfl
  | 2, _ => rfl
  | 3, _ => rfl
  | j + 4, hj => exact absurd hj (by omega)
set_option maxHeartbeats 4000000 in
theorem st_empty (l : Launch) (D : va_G) (ta : Nat → ClassId) (B n : Nat) (w : fw_W) (h0 i : Nat)  (hi : i < 60000) (hI : st_I ta h0 n w i) : ∃ (Mid : fw_W → Nat → Prop), fw_C l D vwCl (tyL ta) B yX0_empty cX0_empty 1 none ({ frames := 1, cells := 0, slots := 0, locals := 20 } : Room) [.ref (h0)] n w (fun q w1 n1 => q = none ∧ Mid w1 n1) ∧ ∀ w1 n1, Mid w1 n1 → (∃ fs, w1 (h0 + 12) = some (.inr (6, fs))) ∧ fw_C l D vwCl (tyL ta) B yX6_empty cX6_empty 1 none ({ frames := 0, cells := 0, slots := 0, locals := 0 } : Room) [.ref (h0 + 12)] n1 w1 (fun q w2 n2 => q = none ∧ st_I ta h0 n2 w2 (i + 10)) := by
  have hI0 := hI
  obtain ⟨U, k, L, f, hh, op, us, bs, J, ls, cx, ix, od, stt, kys, idx, vls, hgs, frs, szs, ss, kyh, scf, cns, kds, bks, pl, hd, hm, hok, hsc, h64, hhi, hhand, hcoin, hst, hjn⟩ := hI
  refine st_pair hI0 (dk_empty l D ta B n w h0 (h0 + 32) U k L f ((hh : Nat) : Int) op us bs J ls cx hd) ?_
  intro w1 hf hd1
  have hm1 := mo_dk hm hf rfl
  refine fw_C.mono (mo_empty l D ta B n w1 (h0 + 12) U ix L J.length od hh op stt kys idx vls hgs frs szs ss kyh scf cns kds bks hm1) ?_
  rintro q w2 n2 ⟨rfl, rfl, hf2, hm2⟩
  exact ⟨rfl, rfl, ⟨U, k, 0, f, hh, op, us, bs, J, ls, cx, ix, od, stt, kys, idx, vls, hgs, frs, szs, ss, kyh, scf, cns, kds, bks, pl, dk_mo hd1 hf2 rfl, hm2, hok, ⟨Nat.zero_le 200, fun j hj => absurd hj (by show ¬ j < 0; omega)⟩, h64, by omega, ⟨hhand.1, hhand.2.1, fun j hj => absurd hj (by omega)⟩, hcoin, hst, hjn⟩⟩
set_option maxHeartbeats 4000000 in
theorem st_put (l : Launch) (D : va_G) (ta : Nat → ClassId) (B n : Nat) (w : fw_W) (h0 i : Nat) (v : Int64) (z : Int) (hz : iK z) (hi : i < 60000) (hI : st_I ta h0 n w i) : ∃ (x : Int32) (Mid : fw_W → Nat → Prop), fw_C l D vwCl (tyL ta) B yX0_put cX0_put 5 (some .boolean) ({ frames := 1, cells := 0, slots := 0, locals := 21 } : Room) [.ref (h0), .long v, .int (iI z)] n w (fun q w1 n1 => q = some (.int x) ∧ Mid w1 n1) ∧ ∀ w1 n1, Mid w1 n1 → (∃ fs, w1 (h0 + 12) = some (.inr (6, fs))) ∧ fw_C l D vwCl (tyL ta) B yX6_put cX6_put 5 (some .boolean) ({ frames := 0, cells := 0, slots := 0, locals := 0 } : Room) [.ref (h0 + 12), .long v, .int (iI z)] n1 w1 (fun q w2 n2 => q = some (.int x) ∧ st_I ta h0 n2 w2 (i + 10)) := by
  have hI0 := hI
  obtain ⟨U, k, L, f, hh, op, us, bs, J, ls, cx, ix, od, stt, kys, idx, vls, hgs, frs, szs, ss, kyh, scf, cns, kds, bks, pl, hd, hm, hok, hsc, h64, hhi, hhand, hcoin, hst, hjn⟩ := hI
  by_cases hok2 : 1 ≤ z ∧ z ≤ 8 ∧ z + ((L : Nat) : Int) ≤ 200
  · obtain ⟨m_, rfl⟩ : ∃ m_ : Nat, z = ((m_ : Nat) : Int) := ⟨z.toNat, by omega⟩
    refine ⟨bI true, st_pair hI0 (dk_put l D ta B n w h0 (h0 + 32) U k L f ((hh : Nat) : Int) op us bs J ls cx v m_ hd (by omega) (by omega) (by omega)) ?_⟩
    rintro w1 hf ⟨f2, h1, h2, hd1⟩
    have hm1 := mo_dk hm hf rfl
    refine fw_C.mono (mo_put_ok l D ta B n w1 (h0 + 12) U ix L J.length od hh op stt kys idx vls hgs frs szs ss kyh scf cns kds bks v m_ hm1 (by omega) (by omega) (by omega)) ?_
    rintro q w2 n2 ⟨rfl, rfl, hf2, g2, h3, h4, hm2⟩
    refine ⟨rfl, rfl, ⟨U, k, L + m_, f2, hh, op, us, bs, J, ls, cx, ix, od, stt, kys, idx, vls, hgs, frs, szs, ss, kyh, g2, cns, kds, bks, pl, dk_mo hd1 hf2 rfl, hm2, hok, ?_, h64, by omega, ?_, hcoin, hst, hjn⟩⟩
    · refine ⟨by show L + m_ ≤ 200; omega, fun j hj => ?_⟩
      show vp_nar .byte (f2 j) = f2 j
      have hj2 : j < L + m_ := hj
      by_cases hq : j < L
      · rw [h1 j hq]
        exact hsc.2 j hq
      · obtain ⟨t, rfl⟩ : ∃ t, j = L + t := ⟨j - L, by omega⟩
        rw [h2 t (by omega)]
        exact pbyte_nar v _
    · refine ⟨hhand.1, hhand.2.1, fun j hj => ?_⟩
      by_cases hq : j < L
      · rw [h1 j hq, h3 j hq]
        exact hhand.2.2 j hq
      · obtain ⟨t, rfl⟩ : ∃ t, j = L + t := ⟨j - L, by omega⟩
        rw [h2 t (by omega), h4 t (by omega)]
        exact pbyte_q v _ (by omega)
  · exact ⟨bI false, st_same (dk_put_no l D ta B n w h0 (h0 + 32) U k L f ((hh : Nat) : Int) op us bs J ls cx v z hd hsc.1 hz hok2) (mo_put_no l D ta B n w (h0 + 12) U ix L J.length od hh op stt kys idx vls hgs frs szs ss kyh scf cns kds bks v z hm hsc.1 hz hok2) ⟨U, k, L, f, hh, op, us, bs, J, ls, cx, ix, od, stt, kys, idx, vls, hgs, frs, szs, ss, kyh, scf, cns, kds, bks, pl, hd, hm, hok, hsc, h64, hhi, hhand, hcoin, hst, hjn⟩⟩
set_option maxHeartbeats 4000000 in
theorem st_begin (l : Launch) (D : va_G) (ta : Nat → ClassId) (B n : Nat) (w : fw_W) (h0 i : Nat)  (hi : i < 60000) (hI : st_I ta h0 n w i) : ∃ (x : Int32) (Mid : fw_W → Nat → Prop), fw_C l D vwCl (tyL ta) B yX0_begin cX0_begin 1 (some .boolean) ({ frames := 1, cells := 0, slots := 0, locals := 20 } : Room) [.ref (h0)] n w (fun q w1 n1 => q = some (.int x) ∧ Mid w1 n1) ∧ ∀ w1 n1, Mid w1 n1 → (∃ fs, w1 (h0 + 12) = some (.inr (6, fs))) ∧ fw_C l D vwCl (tyL ta) B yX6_begin cX6_begin 1 (some .boolean) ({ frames := 1, cells := 0, slots := 0, locals := 20 } : Room) [.ref (h0 + 12)] n1 w1 (fun q w2 n2 => q = some (.int x) ∧ st_I ta h0 n2 w2 (i + 10)) := by
  have hI0 := hI
  obtain ⟨U, k, L, f, hh, op, us, bs, J, ls, cx, ix, od, stt, kys, idx, vls, hgs, frs, szs, ss, kyh, scf, cns, kds, bks, pl, hd, hm, hok, hsc, h64, hhi, hhand, hcoin, hst, hjn⟩ := hI
  cases op with
  | true => exact ⟨bI false, st_same (dk_begin_twice l D ta B n w h0 (h0 + 32) U k L f ((hh : Nat) : Int) us bs J ls cx hd) (mo_begin_twice l D ta B n w (h0 + 12) U ix L J.length od hh stt kys idx vls hgs frs szs ss kyh scf cns kds bks hm) ⟨U, k, L, f, hh, true, us, bs, J, ls, cx, ix, od, stt, kys, idx, vls, hgs, frs, szs, ss, kyh, scf, cns, kds, bks, pl, hd, hm, hok, hsc, h64, hhi, hhand, hcoin, hst, hjn⟩⟩
  | false =>
    have hls : ls.length = hh - od + 0 := hjn.2.2.1
    have hodh := hjn.2.1
    by_cases hfl : ls.length = 64
    · exact ⟨bI false, st_same (dk_begin_full l D ta B n w h0 (h0 + 32) U k L f ((hh : Nat) : Int) us bs J ls cx hd h64 (by omega)) (mo_begin_full l D ta B n w (h0 + 12) U ix L J.length od hh stt kys idx vls hgs frs szs ss kyh scf cns kds bks hm hodh (by omega) (by omega)) ⟨U, k, L, f, hh, false, us, bs, J, ls, cx, ix, od, stt, kys, idx, vls, hgs, frs, szs, ss, kyh, scf, cns, kds, bks, pl, hd, hm, hok, hsc, h64, hhi, hhand, hcoin, hst, hjn⟩⟩
    · refine ⟨bI true, st_pair hI0 (dk_begin l D ta B n w h0 (h0 + 32) U k L f ((hh : Nat) : Int) us bs J ls cx hd (by omega)) ?_⟩
      intro w1 hf hd1
      have hm1 := mo_dk hm hf rfl
      refine fw_C.mono (mo_begin_ok l D ta B n w1 (h0 + 12) U ix L J.length od hh stt kys idx vls hgs frs szs ss kyh scf cns kds bks hm1 hodh (by omega) (by omega)) ?_
      rintro q w2 n2 ⟨rfl, rfl, hf2, hm2⟩
      exact ⟨rfl, rfl, ⟨U, k, L, f, hh, true, us, bs, J, ls ++ [0], cx, ix, od, stt, kys, idx, vls, hgs, frs, szs, ss, kyh, scf, cns, kds, bks, pl, dk_mo hd1 hf2 rfl, hm2, hok, hsc, by simp; omega, by omega, hhand, hcoin, hst, hjn.begin⟩⟩
