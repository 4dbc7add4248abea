set_option maxHeartbeats 4000000 in
theorem st_has (l : Launch) (D : va_G) (ta : Nat → ClassId) (B n : Nat) (w : fw_W) (h0 i : Nat)  (hi : i < 60000) (hI : st_I ta h0 n w i) : ∃ (x : Int32) (Mid : fw_W → Nat → Prop), fw_C l D vwCl (tyL ta) B yX0_has cX0_has 1 (some .boolean) ({ frames := 4, cells := 0, slots := 0, locals := 86 } : Room) [.ref (h0)] n w (fun q w1 n1 => q = some (.int x) ∧ Mid w1 n1) ∧ ∀ w1 n1, Mid w1 n1 → (∃ fs, w1 (h0 + 12) = some (.inr (6, fs))) ∧ fw_C l D vwCl (tyL ta) B yX6_has cX6_has 1 (some .boolean) ({ frames := 1, cells := 0, slots := 0, locals := 23 } : Room) [.ref (h0 + 12)] n1 w1 (fun q w2 n2 => q = some (.int x) ∧ st_I ta h0 n2 w2 (i + 10)) := by
  have hI0 := hI
  obtain ⟨U, k, L, f, hh, op, us, bs, J, ls, cx, ix, od, stt, kys, idx, vls, hgs, frs, szs, ss, kyh, scf, cns, kds, bks, pl, hd, hm, hok, hsc, h64, hhi, hhand, hcoin, hst, hjn⟩ := hI
  by_cases hex : ∃ a, a ∈ us ∧ (cx a).1 = k
  · obtain ⟨a, ha, hka⟩ := hex
    exact ⟨bI true, st_same (dk_has_hit l D ta B n w h0 (h0 + 32) U k L f ((hh : Nat) : Int) op us bs J ls cx a hd hok ha hka) (mo_has_hit l D ta B n w (h0 + 12) U ix L J.length od hh op stt kys idx vls hgs frs szs ss kyh scf cns kds bks (pl a) hm hst.lt (hst.2.1 a (List.mem_append_left _ ha)) (sm_hit1 hst hcoin hhand ha hka) (sm_hit2 hst hcoin hhand hok.2.2.2.2.1 ha hka)) ⟨U, k, L, f, hh, op, us, bs, J, ls, cx, ix, od, stt, kys, idx, vls, hgs, frs, szs, ss, kyh, scf, cns, kds, bks, pl, hd, hm, hok, hsc, h64, hhi, hhand, hcoin, hst, hjn⟩⟩
  · have hms : ∀ b ∈ us, (cx b).1 ≠ k := fun b hb e => hex ⟨b, hb, e⟩
    exact ⟨bI false, st_same (dk_has_miss l D ta B n w h0 (h0 + 32) U k L f ((hh : Nat) : Int) op us bs J ls cx hd hok hms) (mo_has_miss l D ta B n w (h0 + 12) U ix L J.length od hh op stt kys idx vls hgs frs szs ss kyh scf cns kds bks hm hst.lt (sm_miss hst hcoin hhand hms)) ⟨U, k, L, f, hh, op, us, bs, J, ls, cx, ix, od, stt, kys, idx, vls, hgs, frs, szs, ss, kyh, scf, cns, kds, bks, pl, hd, hm, hok, hsc, h64, hhi, hhand, hcoin, hst, hjn⟩⟩
set_option maxHeartbeats 4000000 in
theorem st_look (l : Launch) (D : va_G) (ta : Nat → ClassId) (B n : Nat) (w : fw_W) (h0 i : Nat) (what : Int32) (hi : i < 60000) (hI : st_I ta h0 n w i) : ∃ (x : Int64) (Mid : fw_W → Nat → Prop), fw_C l D vwCl (tyL ta) B yX0_look cX0_look 3 (some .long) ({ frames := 4, cells := 0, slots := 0, locals := 86 } : Room) [.ref (h0), .int what] n w (fun q w1 n1 => q = some (.long x) ∧ Mid w1 n1) ∧ ∀ w1 n1, Mid w1 n1 → (∃ fs, w1 (h0 + 12) = some (.inr (6, fs))) ∧ fw_C l D vwCl (tyL ta) B yX6_look cX6_look 3 (some .long) ({ frames := 1, cells := 0, slots := 0, locals := 23 } : Room) [.ref (h0 + 12), .int what] n1 w1 (fun q w2 n2 => q = some (.long x) ∧ st_I ta h0 n2 w2 (i + 10)) := by
  have hI0 := hI
  obtain ⟨U, k, L, f, hh, op, us, bs, J, ls, cx, ix, od, stt, kys, idx, vls, hgs, frs, szs, ss, kyh, scf, cns, kds, bks, pl, hd, hm, hok, hsc, h64, hhi, hhand, hcoin, hst, hjn⟩ := hI
  by_cases hex : ∃ a, a ∈ us ∧ (cx a).1 = k
  · obtain ⟨a, ha, hka⟩ := hex
    have hca := hcoin a (List.mem_append_left _ ha)
    have e : mlook what (vls (pl a)) (hgs (pl a)) (frs (pl a)) (szs (pl a)) = lookv what (cx a) := by
      unfold mlook lookv mlookw lookw
      rw [hca.2.2.1, hca.2.2.2.1, hca.2.2.2.2.1, hca.2.2.2.2.2.1]
    have hM := mo_look_hit l D ta B n w (h0 + 12) U ix L J.length od hh op stt kys idx vls hgs frs szs ss kyh scf cns kds bks (pl a) what hm hst.lt (hst.2.1 a (List.mem_append_left _ ha)) (sm_hit1 hst hcoin hhand ha hka) (sm_hit2 hst hcoin hhand hok.2.2.2.2.1 ha hka)
    rw [e] at hM
    exact ⟨lookv what (cx a), st_same (dk_look_hit l D ta B n w h0 (h0 + 32) U k L f ((hh : Nat) : Int) op us bs J ls cx a what hd hok ha hka) hM ⟨U, k, L, f, hh, op, us, bs, J, ls, cx, ix, od, stt, kys, idx, vls, hgs, frs, szs, ss, kyh, scf, cns, kds, bks, pl, hd, hm, hok, hsc, h64, hhi, hhand, hcoin, hst, hjn⟩⟩
  · have hms : ∀ b ∈ us, (cx b).1 ≠ k := fun b hb e => hex ⟨b, hb, e⟩
    exact ⟨-1, st_same (dk_look_miss l D ta B n w h0 (h0 + 32) U k L f ((hh : Nat) : Int) op us bs J ls cx what hd hok hms) (mo_look_miss l D ta B n w (h0 + 12) U ix L J.length od hh op stt kys idx vls hgs frs szs ss kyh scf cns kds bks what hm hst.lt (sm_miss hst hcoin hhand hms)) ⟨U, k, L, f, hh, op, us, bs, J, ls, cx, ix, od, stt, kys, idx, vls, hgs, frs, szs, ss, kyh, scf, cns, kds, bks, pl, hd, hm, hok, hsc, h64, hhi, hhand, hcoin, hst, hjn⟩⟩
set_option maxHeartbeats 4000000 in
theorem st_byteOf (l : Launch) (D : va_G) (ta : Nat → ClassId) (B n : Nat) (w : fw_W) (h0 i : Nat) (z : Int) (hz : iK z) (hi : i < 60000) (hI : st_I ta h0 n w i) : ∃ (x : Int32) (Mid : fw_W → Nat → Prop), fw_C l D vwCl (tyL ta) B yX0_byteOf cX0_byteOf 3 (some .int) ({ frames := 4, cells := 0, slots := 0, locals := 86 } : Room) [.ref (h0), .int (iI z)] n w (fun q w1 n1 => q = some (.int x) ∧ Mid w1 n1) ∧ ∀ w1 n1, Mid w1 n1 → (∃ fs, w1 (h0 + 12) = some (.inr (6, fs))) ∧ fw_C l D vwCl (tyL ta) B yX6_byteOf cX6_byteOf 3 (some .int) ({ frames := 1, cells := 0, slots := 0, locals := 23 } : Room) [.ref (h0 + 12), .int (iI z)] n1 w1 (fun q w2 n2 => q = some (.int x) ∧ st_I ta h0 n2 w2 (i + 10)) := by
  have hI0 := hI
  obtain ⟨U, k, L, f, hh, op, us, bs, J, ls, cx, ix, od, stt, kys, idx, vls, hgs, frs, szs, ss, kyh, scf, cns, kds, bks, pl, hd, hm, hok, hsc, h64, hhi, hhand, hcoin, hst, hjn⟩ := hI
  by_cases hex : ∃ a, a ∈ us ∧ (cx a).1 = k
  · obtain ⟨a, ha, hka⟩ := hex
    have hca := hcoin a (List.mem_append_left _ ha)
    have hlen := (hok.2.2.2.2.2.2.2.2.2 a (Or.inl ha)).1
    have e : (if 0 ≤ z ∧ z < ((szs (pl a) : Nat) : Int) then mget ss (pl a) z.toNat &&& iI ((255 : Nat) : Int) else iI (-1)) = (if 0 ≤ z ∧ z < (((cx a).2.1.1 : Nat) : Int) then (cx a).2.1.2 z.toNat &&& iI ((255 : Nat) : Int) else iI (-1)) := by
      rw [hca.2.2.2.2.2.1]
      by_cases hq : 0 ≤ z ∧ z < (((cx a).2.1.1 : Nat) : Int)
      · rw [if_pos hq, if_pos hq, hca.2.2.2.2.2.2 _ (by omega)]
      · rw [if_neg hq, if_neg hq]
    have hM := mo_byteOf_hit l D ta B n w (h0 + 12) U ix L J.length od hh op stt kys idx vls hgs frs szs ss kyh scf cns kds bks (pl a) z hm hst.lt (hst.2.1 a (List.mem_append_left _ ha)) (sm_hit1 hst hcoin hhand ha hka) (sm_hit2 hst hcoin hhand hok.2.2.2.2.1 ha hka) (by rw [hca.2.2.2.2.2.1]; exact hlen) hz
    rw [e] at hM
    exact ⟨_, st_same (dk_byteOf_hit l D ta B n w h0 (h0 + 32) U k L f ((hh : Nat) : Int) op us bs J ls cx a z hd hok ha hka hz) hM ⟨U, k, L, f, hh, op, us, bs, J, ls, cx, ix, od, stt, kys, idx, vls, hgs, frs, szs, ss, kyh, scf, cns, kds, bks, pl, hd, hm, hok, hsc, h64, hhi, hhand, hcoin, hst, hjn⟩⟩
  · have hms : ∀ b ∈ us, (cx b).1 ≠ k := fun b hb e => hex ⟨b, hb, e⟩
    exact ⟨iI (-1), st_same (dk_byteOf_miss l D ta B n w h0 (h0 + 32) U k L f ((hh : Nat) : Int) op us bs J ls cx z hd hok hms) (mo_byteOf_miss l D ta B n w (h0 + 12) U ix L J.length od hh op stt kys idx vls hgs frs szs ss kyh scf cns kds bks z hm hst.lt (sm_miss hst hcoin hhand hms)) ⟨U, k, L, f, hh, op, us, bs, J, ls, cx, ix, od, stt, kys, idx, vls, hgs, frs, szs, ss, kyh, scf, cns, kds, bks, pl, hd, hm, hok, hsc, h64, hhi, hhand, hcoin, hst, hjn⟩⟩
set_option maxHeartbeats 4000000 in
theorem st_count (l : Launch) (D : va_G) (ta : Nat → ClassId) (B n : Nat) (w : fw_W) (h0 i : Nat) (what : Int32) (hi : i < 60000) (hI : st_I ta h0 n w i) : ∃ (x : Int32) (Mid : fw_W → Nat → Prop), fw_C l D vwCl (tyL ta) B yX0_count cX0_count 2 (some .int) ({ frames := 1, cells := 0, slots := 0, locals := 20 } : Room) [.ref (h0), .int what] n w (fun q w1 n1 => q = some (.int x) ∧ Mid w1 n1) ∧ ∀ w1 n1, Mid w1 n1 → (∃ fs, w1 (h0 + 12) = some (.inr (6, fs))) ∧ fw_C l D vwCl (tyL ta) B yX6_count cX6_count 2 (some .int) ({ frames := 1, cells := 0, slots := 0, locals := 23 } : Room) [.ref (h0 + 12), .int what] n1 w1 (fun q w2 n2 => q = some (.int x) ∧ st_I ta h0 n2 w2 (i + 10)) := by
  have hI0 := hI
  obtain ⟨U, k, L, f, hh, op, us, bs, J, ls, cx, ix, od, stt, kys, idx, vls, hgs, frs, szs, ss, kyh, scf, cns, kds, bks, pl, hd, hm, hok, hsc, h64, hhi, hhand, hcoin, hst, hjn⟩ := hI
  refine ⟨countv what ((hh : Nat) : Int) us.length (spa J).length ls.length op, st_same (dk_count l D ta B n w h0 (h0 + 32) U k L f ((hh : Nat) : Int) op us bs J ls cx what hd) ?_ ⟨U, k, L, f, hh, op, us, bs, J, ls, cx, ix, od, stt, kys, idx, vls, hgs, frs, szs, ss, kyh, scf, cns, kds, bks, pl, hd, hm, hok, hsc, h64, hhi, hhand, hcoin, hst, hjn⟩⟩
  have hls := hjn.2.2.1
  have hodh := hjn.2.1
  cases op with
  | true =>
    have hM := mo_count_o l D ta B n w (h0 + 12) U ix L J.length od hh stt kys idx vls hgs frs szs ss kyh scf cns kds bks what hm hst.lt hodh
    rw [hst.c1, hst.c2, show hh - od + 1 = ls.length from hls.symm] at hM
    exact hM
  | false =>
    have hM := mo_count_c l D ta B n w (h0 + 12) U ix L J.length od hh stt kys idx vls hgs frs szs ss kyh scf cns kds bks what hm hst.lt hodh
    rw [hst.c1, hst.c2, show hh - od = ls.length from hls.symm] at hM
    exact hM
set_option maxHeartbeats 4000000 in
theorem st_total (l : Launch) (D : va_G) (ta : Nat → ClassId) (B n : Nat) (w : fw_W) (h0 i : Nat)  (hi : i < 60000) (hI : st_I ta h0 n w i) : ∃ (x : Int64) (Mid : fw_W → Nat → Prop), fw_C l D vwCl (tyL ta) B yX0_total cX0_total 1 (some .long) ({ frames := 1, cells := 0, slots := 0, locals := 24 } : Room) [.ref (h0)] n w (fun q w1 n1 => q = some (.long x) ∧ Mid w1 n1) ∧ ∀ w1 n1, Mid w1 n1 → (∃ fs, w1 (h0 + 12) = some (.inr (6, fs))) ∧ fw_C l D vwCl (tyL ta) B yX6_total cX6_total 4 (some .long) ({ frames := 0, cells := 0, slots := 0, locals := 0 } : Room) [.ref (h0 + 12)] n1 w1 (fun q w2 n2 => q = some (.long x) ∧ st_I ta h0 n2 w2 (i + 10)) := by
  have hI0 := hI
  obtain ⟨U, k, L, f, hh, op, us, bs, J, ls, cx, ix, od, stt, kys, idx, vls, hgs, frs, szs, ss, kyh, scf, cns, kds, bks, pl, hd, hm, hok, hsc, h64, hhi, hhand, hcoin, hst, hjn⟩ := hI
  have hM := mo_total l D ta B n w (h0 + 12) U ix L J.length od hh op stt kys idx vls hgs frs szs ss kyh scf cns kds bks hm hst.lt
  rw [sm_total (cx := cx) hst (fun a ha => (hcoin a (List.mem_append_left _ ha)).2.2.1)] at hM
  exact ⟨_, st_same (dk_total l D ta B n w h0 (h0 + 32) U k L f ((hh : Nat) : Int) op us bs J ls cx hd hok) hM ⟨U, k, L, f, hh, op, us, bs, J, ls, cx, ix, od, stt, kys, idx, vls, hgs, frs, szs, ss, kyh, scf, cns, kds, bks, pl, hd, hm, hok, hsc, h64, hhi, hhand, hcoin, hst, hjn⟩⟩
set_option maxHeartbeats 4000000 in
theorem st_spend (l : Launch) (D : va_G) (ta : Nat → ClassId) (B n : Nat) (w : fw_W) (h0 i : Nat)  (hi : i < 60000) (hI : st_I ta h0 n w i) : ∃ (x : Int32) (Mid : fw_W → Nat → Prop), fw_C l D vwCl (tyL ta) B yX0_spend cX0_spend 2 (some .int) ({ frames := 4, cells := 0, slots := 0, locals := 86 } : Room) [.ref (h0)] n w (fun q w1 n1 => q = some (.int x) ∧ Mid w1 n1) ∧ ∀ w1 n1, Mid w1 n1 → (∃ fs, w1 (h0 + 12) = some (.inr (6, fs))) ∧ fw_C l D vwCl (tyL ta) B yX6_spend cX6_spend 2 (some .int) ({ frames := 1, cells := 0, slots := 0, locals := 23 } : Room) [.ref (h0 + 12)] n1 w1 (fun q w2 n2 => q = some (.int x) ∧ st_I ta h0 n2 w2 (i + 10)) := by
  have hI0 := hI
  obtain ⟨U, k, L, f, hh, op, us, bs, J, ls, cx, ix, od, stt, kys, idx, vls, hgs, frs, szs, ss, kyh, scf, cns, kds, bks, pl, hd, hm, hok, hsc, h64, hhi, hhand, hcoin, hst, hjn⟩ := hI
  cases op with
  | false => exact ⟨iI ((1 : Nat) : Int), st_same (dk_spend_closed l D ta B n w h0 (h0 + 32) U k L f ((hh : Nat) : Int) us bs J ls cx hd) (mo_spend_closed l D ta B n w (h0 + 12) U ix L J.length od hh stt kys idx vls hgs frs szs ss kyh scf cns kds bks hm) ⟨U, k, L, f, hh, false, us, bs, J, ls, cx, ix, od, stt, kys, idx, vls, hgs, frs, szs, ss, kyh, scf, cns, kds, bks, pl, hd, hm, hok, hsc, h64, hhi, hhand, hcoin, hst, hjn⟩⟩
  | true =>
    have hls : ls.length = hh - od + 1 := hjn.2.2.1
    by_cases hex : ∃ a, a ∈ us ∧ (cx a).1 = k
    · obtain ⟨a, ha, hka⟩ := hex
      by_cases hfu : (spa J).length = 2 * U
      · exact ⟨iI ((3 : Nat) : Int), st_same (dk_spend_noroom l D ta B n w h0 (h0 + 32) U k L f ((hh : Nat) : Int) us bs J ls cx a hd hok ha hka (by omega)) (mo_spend_noroom l D ta B n w (h0 + 12) U ix L J.length od hh stt kys idx vls hgs frs szs ss kyh scf cns kds bks (pl a) hm hst.lt (hst.2.1 a (List.mem_append_left _ ha)) (sm_hit1 hst hcoin hhand ha hka) (sm_hit2 hst hcoin hhand hok.2.2.2.2.1 ha hka) hok.1.2 (by rw [hst.c2]; exact hfu)) ⟨U, k, L, f, hh, true, us, bs, J, ls, cx, ix, od, stt, kys, idx, vls, hgs, frs, szs, ss, kyh, scf, cns, kds, bks, pl, hd, hm, hok, hsc, h64, hhi, hhand, hcoin, hst, hjn⟩⟩
      · have hsl := hok.2.2.2.2.2.2.1
        have hjl := hok.jlen
        have hul := hok.2.2.2.2.2.1
        have hU := hok.1.2
        refine ⟨iI ((0 : Nat) : Int), st_pair hI0 (dk_spend l D ta B n w h0 (h0 + 32) U k L f ((hh : Nat) : Int) us bs J ls cx a hd hok ha hka (by omega) h64 (by omega)) ?_⟩
        rintro w1 hf ⟨us1, hp, hd1⟩
        have hm1 := mo_dk hm hf rfl
        refine fw_C.mono (mo_spend_ok l D ta B n w1 (h0 + 12) U ix L J.length od hh stt kys idx vls hgs frs szs ss kyh scf cns kds bks (pl a) hm1 hst.lt (hst.2.1 a (List.mem_append_left _ ha)) (sm_hit1 hst hcoin hhand ha hka) (sm_hit2 hst hcoin hhand hok.2.2.2.2.1 ha hka) hok.1.2 (by rw [hst.c2]; exact hfu) (by omega)) ?_
        rintro q w2 n2 ⟨rfl, rfl, hf2, hm2⟩
        have hjl2 : (J ++ [(a, true)]).length = J.length + 1 := by simp
        refine ⟨rfl, rfl, ⟨U, k, L, f, hh, true, us1, bs, J ++ [(a, true)], linc ls, cx, ix, od, _, kys, idx, vls, hgs, frs, szs, ss, kyh, scf, _, _, _, pl, dk_mo hd1 hf2 rfl, by rw [hjl2]; exact hm2, hok.spend hp (by omega), hsc, by rw [linc_len]; exact h64, by omega, hhand, ?_, ?_, hjn.note a true (fun _ _ => rfl)⟩⟩
        · intro b hb
          refine hcoin b ?_
          rw [spa_app] at hb
          rcases List.mem_append.mp hb with q | q
          · exact List.mem_append_left _ (hp.mem_iff.mpr (List.mem_cons_of_mem _ q))
          · rcases List.mem_append.mp q with q2 | q2
            · exact List.mem_append_right _ q2
            · rw [show b = a from List.mem_singleton.mp q2]
              exact List.mem_append_left _ ha
        · rw [spa_app]
          exact sm_spend hst hp
    · have hms : ∀ b ∈ us, (cx b).1 ≠ k := fun b hb e => hex ⟨b, hb, e⟩
      exact ⟨iI ((2 : Nat) : Int), st_same (dk_spend_miss l D ta B n w h0 (h0 + 32) U k L f ((hh : Nat) : Int) us bs J ls cx hd hok hms) (mo_spend_miss l D ta B n w (h0 + 12) U ix L J.length od hh stt kys idx vls hgs frs szs ss kyh scf cns kds bks hm hst.lt (sm_miss hst hcoin hhand hms)) ⟨U, k, L, f, hh, true, us, bs, J, ls, cx, ix, od, stt, kys, idx, vls, hgs, frs, szs, ss, kyh, scf, cns, kds, bks, pl, hd, hm, hok, hsc, h64, hhi, hhand, hcoin, hst, hjn⟩⟩
set_option maxHeartbeats 4000000 in
theorem st_end (l : Launch) (D : va_G) (ta : Nat → ClassId) (B n : Nat) (w : fw_W) (h0 i : Nat)  (hi : i < 60000) (hI : st_I ta h0 n w i) : ∃ (x : Int32) (Mid : fw_W → Nat → Prop), fw_C l D vwCl (tyL ta) B yX0_end cX0_end 1 (some .int) ({ frames := 2, cells := 0, slots := 0, locals := 41 } : Room) [.ref (h0)] n w (fun q w1 n1 => q = some (.int x) ∧ Mid w1 n1) ∧ ∀ w1 n1, Mid w1 n1 → (∃ fs, w1 (h0 + 12) = some (.inr (6, fs))) ∧ fw_C l D vwCl (tyL ta) B yX6_end cX6_end 3 (some .int) ({ frames := 0, cells := 0, slots := 0, locals := 0 } : Room) [.ref (h0 + 12)] n1 w1 (fun q w2 n2 => q = some (.int x) ∧ st_I ta h0 n2 w2 (i + 10)) := by
  have hI0 := hI
  obtain ⟨U, k, L, f, hh, op, us, bs, J, ls, cx, ix, od, stt, kys, idx, vls, hgs, frs, szs, ss, kyh, scf, cns, kds, bks, pl, hd, hm, hok, hsc, h64, hhi, hhand, hcoin, hst, hjn⟩ := hI
  cases op with
  | false => exact ⟨iI (-1), st_same (dk_end_closed l D ta B n w h0 (h0 + 32) U k L f ((hh : Nat) : Int) us bs J ls cx hd) (mo_end_closed l D ta B n w (h0 + 12) U ix L J.length od hh stt kys idx vls hgs frs szs ss kyh scf cns kds bks hm) ⟨U, k, L, f, hh, false, us, bs, J, ls, cx, ix, od, stt, kys, idx, vls, hgs, frs, szs, ss, kyh, scf, cns, kds, bks, pl, hd, hm, hok, hsc, h64, hhi, hhand, hcoin, hst, hjn⟩⟩
  | true =>
    have hls : ls.length = hh - od + 1 := hjn.2.2.1
    have hodh := hjn.2.1
    have hjl := hok.jlen
    have hul := hok.2.2.2.2.2.1
    have hsl := hok.2.2.2.2.2.2.1
    have hU := hok.1.2
    refine ⟨iI ((ls.getD (ls.length - 1) 0 : Nat) : Int), st_pair hI0 (dk_end l D ta B n w h0 (h0 + 32) U k L f ((hh : Nat) : Int) us bs J ls cx hd h64 (by omega)) ?_⟩
    intro w1 hf hd1
    have hm1 := mo_dk hm hf rfl
    have hM := mo_end_ok l D ta B n w1 (h0 + 12) U ix L J.length od hh stt kys idx vls hgs frs szs ss kyh scf cns kds bks hm1 (by omega) (by omega) (hjn.bound (by omega))
    have ec : cnt bks hh J.length = ls.getD (ls.length - 1) 0 := by
      obtain ⟨t, x, rfl⟩ := ls_last ls (by omega)
      obtain ⟨b1, b2, b3⟩ := hjn.blocks
      have htl : od + t.length = hh := by simp at hls; omega
      rw [b1, cnt_tail bks hh t.sum (fun j hj => by rw [← htl]; exact b2 j hj) x (fun j h1 h2 => by rw [← htl]; exact b3 j h1 (by omega))]
      simp [List.getD]
    rw [ec] at hM
    refine fw_C.mono hM ?_
    rintro q w2 n2 ⟨rfl, rfl, hf2, hm2⟩
    exact ⟨rfl, rfl, ⟨U, k, L, f, hh + 1, false, us, bs, J, ls, cx, ix, od, stt, kys, idx, vls, hgs, frs, szs, ss, kyh, scf, cns, kds, bks, pl, dk_mo hd1 hf2 rfl, hm2, hok, hsc, h64, by omega, hhand, hcoin, hst, hjn.finish⟩⟩
set_option maxHeartbeats 4000000 in
theorem st_back (l : Launch) (D : va_G) (ta : Nat → ClassId) (B n : Nat) (w : fw_W) (h0 i : Nat)  (hi : i < 60000) (hI : st_I ta h0 n w i) : ∃ (x : Int32) (Mid : fw_W → Nat → Prop), fw_C l D vwCl (tyL ta) B yX0_back cX0_back 3 (some .int) ({ frames := 4, cells := 0, slots := 0, locals := 89 } : Room) [.ref (h0)] n w (fun q w1 n1 => q = some (.int x) ∧ Mid w1 n1) ∧ ∀ w1 n1, Mid w1 n1 → (∃ fs, w1 (h0 + 12) = some (.inr (6, fs))) ∧ fw_C l D vwCl (tyL ta) B yX6_back cX6_back 2 (some .int) ({ frames := 1, cells := 0, slots := 0, locals := 20 } : Room) [.ref (h0 + 12)] n1 w1 (fun q w2 n2 => q = some (.int x) ∧ st_I ta h0 n2 w2 (i + 10)) := by
  have hI0 := hI
  obtain ⟨U, k, L, f, hh, op, us, bs, J, ls, cx, ix, od, stt, kys, idx, vls, hgs, frs, szs, ss, kyh, scf, cns, kds, bks, pl, hd, hm, hok, hsc, h64, hhi, hhand, hcoin, hst, hjn⟩ := hI
  have hodh := hjn.2.1
  have hjl := hok.jlen
  have hul := hok.2.2.2.2.2.1
  have hsl := hok.2.2.2.2.2.2.1
  have hU := hok.1.2
  cases op with
  | true =>
    have hls : ls.length = hh - od + 1 := hjn.2.2.1
    obtain ⟨t, x, rfl⟩ := ls_last ls (by omega)
    have hJ0 : J.length = t.sum + x := hjn.blocks.1
    obtain ⟨J1, J2, rfl, hJ2⟩ : ∃ J1 J2 : List (Nat × Bool), J = J1 ++ J2 ∧ J2.length = x := ⟨J.take (J.length - x), J.drop (J.length - x), (List.take_append_drop _ _).symm, by rw [List.length_drop]; omega⟩
    subst hJ2
    have hja : (J1 ++ J2).length = J1.length + J2.length := List.length_append
    obtain ⟨b1, b2, b3⟩ := hjn.blocks
    have hla : (t ++ [J2.length]).length = t.length + 1 := by simp
    refine ⟨iI ((J2.length : Nat) : Int), st_pair hI0 (dk_back l D ta B n w h0 (h0 + 32) U k L f ((hh : Nat) : Int) true us bs J1 J2 t cx hd hok (by omega)) ?_⟩
    rintro w1 hf ⟨us1, bs1, hun, hd1, hok1⟩
    have hm1 := mo_dk hm hf rfl
    have hM := mo_back_o l D ta B n w1 (h0 + 12) U ix L (J1 ++ J2).length od hh stt kys idx vls hgs frs szs ss kyh scf cns kds bks J2.length hm1 hodh (by omega) (by omega) (by omega) (by omega) (fun j h1 h2 => by rw [b3 j (by omega) h2]; omega) (fun j h1 => by have q := b2 j (by omega); omega) (hjn.bound (by omega)) (fun j hj => by
        rw [(hjn.1 j hj).1]
        exact hst.2.1 _ (List.mem_append.mpr (hok.done (List.getElem_mem hj)))) (fun j hj => by
        rw [(hjn.1 j hj).2]
        split <;> omega)
    refine fw_C.mono hM ?_
    rintro q w2 n2 ⟨rfl, rfl, hf2, hm2⟩
    have hnl : (J1 ++ J2).length - J2.length = J1.length := by omega
    rw [hnl] at hm2
    refine ⟨rfl, rfl, ⟨U, k, L, f, hh, false, us1, bs1, J1, t, cx, ix, od, _, kys, idx, vls, hgs, frs, szs, ss, kyh, scf, cns, kds, bks, pl, ?_, hm2, hok1, hsc, by omega, by omega, hhand, ?_, sm_back J2 J1 us bs us1 bs1 stt hst hjn.1 hun, hjn.back (by omega)⟩⟩
    · have e : ((hh : Nat) : Int) = ((hh : Nat) : Int) := by omega
      have q := dk_mo hd1 hf2 rfl
      rw [e]
      exact q
    · intro b hb
      refine hcoin b ?_
      rcases List.mem_append.mp hb with q | q
      · rcases jn_un_mem _ _ _ _ _ hun b q with q2 | ⟨x, q2, q3⟩
        · exact List.mem_append_left _ q2
        · have q4 := hok.done (List.mem_append_right J1 (List.mem_reverse.mp q2))
          rw [q3] at q4
          exact List.mem_append.mpr q4
      · rw [spa_app]
        exact List.mem_append_right _ (List.mem_append_left _ q)
  | false =>
    have hls : ls.length = hh - od + 0 := hjn.2.2.1
    by_cases h0r : ls.length = 0
    · exact ⟨iI (-1), st_same (dk_back_none l D ta B n w h0 (h0 + 32) U k L f ((hh : Nat) : Int) false us bs J ls cx hd h0r) (mo_back_none l D ta B n w (h0 + 12) U ix L J.length od hh stt kys idx vls hgs frs szs ss kyh scf cns kds bks hm hodh (by omega)) ⟨U, k, L, f, hh, false, us, bs, J, ls, cx, ix, od, stt, kys, idx, vls, hgs, frs, szs, ss, kyh, scf, cns, kds, bks, pl, hd, hm, hok, hsc, h64, hhi, hhand, hcoin, hst, hjn⟩⟩
    obtain ⟨t, x, rfl⟩ := ls_last ls (by omega)
    have hJ0 : J.length = t.sum + x := hjn.blocks.1
    obtain ⟨J1, J2, rfl, hJ2⟩ : ∃ J1 J2 : List (Nat × Bool), J = J1 ++ J2 ∧ J2.length = x := ⟨J.take (J.length - x), J.drop (J.length - x), (List.take_append_drop _ _).symm, by rw [List.length_drop]; omega⟩
    subst hJ2
    have hja : (J1 ++ J2).length = J1.length + J2.length := List.length_append
    obtain ⟨b1, b2, b3⟩ := hjn.blocks
    have hla : (t ++ [J2.length]).length = t.length + 1 := by simp
    refine ⟨iI ((J2.length : Nat) : Int), st_pair hI0 (dk_back l D ta B n w h0 (h0 + 32) U k L f ((hh : Nat) : Int) false us bs J1 J2 t cx hd hok (by omega)) ?_⟩
    rintro w1 hf ⟨us1, bs1, hun, hd1, hok1⟩
    have hm1 := mo_dk hm hf rfl
    have hM := mo_back_c l D ta B n w1 (h0 + 12) U ix L (J1 ++ J2).length od hh stt kys idx vls hgs frs szs ss kyh scf cns kds bks J2.length hm1 hodh (by omega) (by omega) (by omega) (by omega) (fun j h1 h2 => by rw [b3 j (by omega) h2]; omega) (fun j h1 => by have q := b2 j (by omega); omega) (hjn.bound (by omega)) (fun j hj => by
        rw [(hjn.1 j hj).1]
        exact hst.2.1 _ (List.mem_append.mpr (hok.done (List.getElem_mem hj)))) (fun j hj => by
        rw [(hjn.1 j hj).2]
        split <;> omega)
    refine fw_C.mono hM ?_
    rintro q w2 n2 ⟨rfl, rfl, hf2, hm2⟩
    have hnl : (J1 ++ J2).length - J2.length = J1.length := by omega
    rw [hnl] at hm2
    refine ⟨rfl, rfl, ⟨U, k, L, f, hh - 1, false, us1, bs1, J1, t, cx, ix, od, _, kys, idx, vls, hgs, frs, szs, ss, kyh, scf, cns, kds, bks, pl, ?_, hm2, hok1, hsc, by omega, by omega, hhand, ?_, sm_back J2 J1 us bs us1 bs1 stt hst hjn.1 hun, hjn.back (by omega)⟩⟩
    · have e : ((hh - 1 : Nat) : Int) = ((hh : Nat) : Int) - ((1 : Nat) : Int) := by omega
      have q := dk_mo hd1 hf2 rfl
      rw [e]
      exact q
    · intro b hb
      refine hcoin b ?_
      rcases List.mem_append.mp hb with q | q
      · rcases jn_un_mem _ _ _ _ _ hun b q with q2 | ⟨x, q2, q3⟩
        · exact List.mem_append_left _ q2
        · have q4 := hok.done (List.mem_append_right J1 (List.mem_reverse.mp q2))
          rw [q3] at q4
          exact List.mem_append.mpr q4
      · rw [spa_app]
        exact List.mem_append_right _ (List.mem_append_left _ q)
set_option maxHeartbeats 4000000 in
theorem st_forget (l : Launch) (D : va_G) (ta : Nat → ClassId) (B n : Nat) (w : fw_W) (h0 i : Nat)  (hi : i < 60000) (hI : st_I ta h0 n w i) : ∃ (x : Int32) (Mid : fw_W → Nat → Prop), fw_C l D vwCl (tyL ta) B yX0_forget cX0_forget 2 (some .int) ({ frames := 3, cells := 0, slots := 0, locals := 68 } : Room) [.ref (h0)] n w (fun q w1 n1 => q = some (.int x) ∧ Mid w1 n1) ∧ ∀ w1 n1, Mid w1 n1 → (∃ fs, w1 (h0 + 12) = some (.inr (6, fs))) ∧ fw_C l D vwCl (tyL ta) B yX6_forget cX6_forget 4 (some .int) ({ frames := 0, cells := 0, slots := 0, locals := 0 } : Room) [.ref (h0 + 12)] n1 w1 (fun q w2 n2 => q = some (.int x) ∧ st_I ta h0 n2 w2 (i + 10)) := by
  have hI0 := hI
  obtain ⟨U, k, L, f, hh, op, us, bs, J, ls, cx, ix, od, stt, kys, idx, vls, hgs, frs, szs, ss, kyh, scf, cns, kds, bks, pl, hd, hm, hok, hsc, h64, hhi, hhand, hcoin, hst, hjn⟩ := hI
  have hodh := hjn.2.1
  have hjl := hok.jlen
  have hul := hok.2.2.2.2.2.1
  have hsl := hok.2.2.2.2.2.2.1
  have hU := hok.1.2
  cases op with
  | true =>
    have hls : ls.length = hh - od + 1 := hjn.2.2.1
    by_cases hfl : ls.length ≤ 1
    · exact ⟨iI (-1), st_same (dk_forget_none_o l D ta B n w h0 (h0 + 32) U k L f ((hh : Nat) : Int) us bs J ls cx hd hfl) (mo_forget_none l D ta B n w (h0 + 12) U ix L J.length od hh true stt kys idx vls hgs frs szs ss kyh scf cns kds bks hm (by omega) (by omega)) ⟨U, k, L, f, hh, true, us, bs, J, ls, cx, ix, od, stt, kys, idx, vls, hgs, frs, szs, ss, kyh, scf, cns, kds, bks, pl, hd, hm, hok, hsc, h64, hhi, hhand, hcoin, hst, hjn⟩⟩
    obtain ⟨x, ls1, rfl⟩ : ∃ x ls1, ls = x :: ls1 := by
      cases ls with
      | nil => exact absurd (show ([] : List Nat).length = 0 from rfl) (by omega)
      | cons x ls1 => exact ⟨x, ls1, rfl⟩
    have hsum := hjn.2.2.2.1
    rw [List.sum_cons] at hsum
    obtain ⟨J1, J2, rfl, hJ1⟩ : ∃ J1 J2 : List (Nat × Bool), J = J1 ++ J2 ∧ J1.length = x := ⟨J.take x, J.drop x, (List.take_append_drop _ _).symm, by rw [List.length_take]; omega⟩
    subst hJ1
    have hja : (J1 ++ J2).length = J1.length + J2.length := List.length_append
    have hlc : (J1.length :: ls1).length = ls1.length + 1 := rfl
    obtain ⟨b1, b2⟩ := hjn.first
    have hfg := sm_forget hst hjn.1 J1.length (by omega)
    rw [List.drop_left, List.take_left] at hfg
    refine ⟨iI (((spa J1).length : Nat) : Int), st_pair hI0 (dk_forget_o l D ta B n w h0 (h0 + 32) U k L f ((hh : Nat) : Int) us bs J2 ls1 cx J1 hd hok (by omega) (by omega)) ?_⟩
    intro w1 hf hd1
    have hm1 := mo_dk hm hf rfl
    have hM := mo_forget_ok l D ta B n w1 (h0 + 12) U ix L (J1 ++ J2).length od hh true stt kys idx vls hgs frs szs ss kyh scf cns kds bks J1.length hm1 hodh (by omega) (by omega) (by omega) (by omega) b1 (fun j h1 h2 => b2 j h1 h2) (hjn.bound (by omega)) (fun j hj => by
        rw [(hjn.1 j hj).1]
        exact hst.2.1 _ (List.mem_append.mpr (hok.done (List.getElem_mem hj)))) (fun j hj => by
        rw [(hjn.1 j hj).2]
        split <;> omega)
    rw [hfg.2] at hM
    refine fw_C.mono hM ?_
    rintro q w2 n2 ⟨rfl, rfl, hf2, c2, k2, b3, hmv, hm2⟩
    have hnl : (J1 ++ J2).length - J1.length = J2.length := by omega
    rw [hnl] at hm2
    refine ⟨rfl, rfl, ⟨U, k, L, f, hh, true, us, _, J2, ls1, cx, ix, od + 1, _, kys, idx, vls, hgs, frs, szs, ss, kyh, scf, _, _, _, pl, dk_mo hd1 hf2 rfl, hm2, hok.forget, hsc, by omega, by omega, hhand, ?_, hfg.1, hjn.forget (by omega) hmv⟩⟩
    intro b hb
    refine hcoin b ?_
    rcases List.mem_append.mp hb with q | q
    · exact List.mem_append_left _ q
    · rw [spa_app]
      exact List.mem_append_right _ (List.mem_append_right _ q)
  | false =>
    have hls : ls.length = hh - od + 0 := hjn.2.2.1
    by_cases hfl : ls.length = 0
    · exact ⟨iI (-1), st_same (dk_forget_none_c l D ta B n w h0 (h0 + 32) U k L f ((hh : Nat) : Int) us bs J ls cx hd hfl) (mo_forget_none l D ta B n w (h0 + 12) U ix L J.length od hh false stt kys idx vls hgs frs szs ss kyh scf cns kds bks hm (by omega) (by omega)) ⟨U, k, L, f, hh, false, us, bs, J, ls, cx, ix, od, stt, kys, idx, vls, hgs, frs, szs, ss, kyh, scf, cns, kds, bks, pl, hd, hm, hok, hsc, h64, hhi, hhand, hcoin, hst, hjn⟩⟩
    obtain ⟨x, ls1, rfl⟩ : ∃ x ls1, ls = x :: ls1 := by
      cases ls with
      | nil => exact absurd (show ([] : List Nat).length = 0 from rfl) (by omega)
      | cons x ls1 => exact ⟨x, ls1, rfl⟩
    have hsum := hjn.2.2.2.1
    rw [List.sum_cons] at hsum
    obtain ⟨J1, J2, rfl, hJ1⟩ : ∃ J1 J2 : List (Nat × Bool), J = J1 ++ J2 ∧ J1.length = x := ⟨J.take x, J.drop x, (List.take_append_drop _ _).symm, by rw [List.length_take]; omega⟩
    subst hJ1
    have hja : (J1 ++ J2).length = J1.length + J2.length := List.length_append
    have hlc : (J1.length :: ls1).length = ls1.length + 1 := rfl
    obtain ⟨b1, b2⟩ := hjn.first
    have hfg := sm_forget hst hjn.1 J1.length (by omega)
    rw [List.drop_left, List.take_left] at hfg
    refine ⟨iI (((spa J1).length : Nat) : Int), st_pair hI0 (dk_forget_c l D ta B n w h0 (h0 + 32) U k L f ((hh : Nat) : Int) us bs J2 ls1 cx J1 hd hok (by omega)) ?_⟩
    intro w1 hf hd1
    have hm1 := mo_dk hm hf rfl
    have hM := mo_forget_ok l D ta B n w1 (h0 + 12) U ix L (J1 ++ J2).length od hh false stt kys idx vls hgs frs szs ss kyh scf cns kds bks J1.length hm1 hodh (by omega) (by omega) (by omega) (by omega) b1 (fun j h1 h2 => b2 j h1 h2) (hjn.bound (by omega)) (fun j hj => by
        rw [(hjn.1 j hj).1]
        exact hst.2.1 _ (List.mem_append.mpr (hok.done (List.getElem_mem hj)))) (fun j hj => by
        rw [(hjn.1 j hj).2]
        split <;> omega)
    rw [hfg.2] at hM
    refine fw_C.mono hM ?_
    rintro q w2 n2 ⟨rfl, rfl, hf2, c2, k2, b3, hmv, hm2⟩
    have hnl : (J1 ++ J2).length - J1.length = J2.length := by omega
    rw [hnl] at hm2
    refine ⟨rfl, rfl, ⟨U, k, L, f, hh, false, us, _, J2, ls1, cx, ix, od + 1, _, kys, idx, vls, hgs, frs, szs, ss, kyh, scf, _, _, _, pl, dk_mo hd1 hf2 rfl, hm2, hok.forget, hsc, by omega, by omega, hhand, ?_, hfg.1, hjn.forget (by omega) hmv⟩⟩
    intro b hb
    refine hcoin b ?_
    rcases List.mem_append.mp hb with q | q
    · exact List.mem_append_left _ q
    · rw [spa_app]
      exact List.mem_append_right _ (List.mem_append_right _ q)
