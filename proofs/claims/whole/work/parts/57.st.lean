set_option maxHeartbeats 4000000 in
theorem st_make (l : Launch) (D : va_G) (ta : Nat → ClassId) (B n : Nat) (w : fw_W) (h0 i : Nat) (v : Int64) (fi : Bool) (hi : i < 60000) (hI : st_I ta h0 n w i) : ∃ (x : Int32) (Mid : fw_W → Nat → Prop), fw_C l D vwCl (tyL ta) B yX0_make cX0_make 5 (some .int) ({ frames := 4, cells := 4, slots := 212, locals := 86 } : Room) [.ref (h0), .long v, .int (bI fi)] n w (fun q w1 n1 => q = some (.int x) ∧ Mid w1 n1) ∧ ∀ w1 n1, Mid w1 n1 → (∃ fs, w1 (h0 + 12) = some (.inr (6, fs))) ∧ fw_C l D vwCl (tyL ta) B yX6_make cX6_make 6 (some .int) ({ frames := 1, cells := 0, slots := 0, locals := 24 } : Room) [.ref (h0 + 12), .long v, .int (bI fi)] n1 w1 (fun q w2 n2 => q = some (.int x) ∧ st_I ta h0 n2 w2 (i + 10)) := by
  have hI0 := hI
  obtain ⟨U, k, L, f, hh, op, us, bs, J, ls, cx, ix, od, stt, kys, idx, vls, hgs, frs, szs, ss, kyh, scf, cns, kds, bks, pl, hd, hm, hok, hsc, h64, hhi, hhand, hcoin, hst, hjn⟩ := hI
  cases op with
  | false => exact ⟨iI ((1 : Nat) : Int), st_same (dk_make_closed l D ta B n w h0 (h0 + 32) U k L f ((hh : Nat) : Int) us bs J ls cx v fi hd) (mo_make_closed l D ta B n w (h0 + 12) U ix L J.length od hh stt kys idx vls hgs frs szs ss kyh scf cns kds bks v fi hm) ⟨U, k, L, f, hh, false, us, bs, J, ls, cx, ix, od, stt, kys, idx, vls, hgs, frs, szs, ss, kyh, scf, cns, kds, bks, pl, hd, hm, hok, hsc, h64, hhi, hhand, hcoin, hst, hjn⟩⟩
  | true =>
    have hls : ls.length = hh - od + 1 := hjn.2.2.1
    by_cases hex : ∃ a, a ∈ us ∧ (cx a).1 = k
    · obtain ⟨a, ha, hka⟩ := hex
      exact ⟨iI ((2 : Nat) : Int), st_same (dk_make_dup l D ta B n w h0 (h0 + 32) U k L f ((hh : Nat) : Int) us bs J ls cx v fi a hd hok ha hka) (mo_make_dup l D ta B n w (h0 + 12) U ix L J.length od hh stt kys idx vls hgs frs szs ss kyh scf cns kds bks v fi (pl a) hm hst.lt (hst.2.1 a (List.mem_append_left _ ha)) (sm_hit1 hst hcoin hhand ha hka) (sm_hit2 hst hcoin hhand hok.2.2.2.2.1 ha hka)) ⟨U, k, L, f, hh, true, us, bs, J, ls, cx, ix, od, stt, kys, idx, vls, hgs, frs, szs, ss, kyh, scf, cns, kds, bks, pl, hd, hm, hok, hsc, h64, hhi, hhand, hcoin, hst, hjn⟩⟩
    · have hms : ∀ b ∈ us, (cx b).1 ≠ k := fun b hb e => hex ⟨b, hb, e⟩
      have hjl := hok.jlen
      have hul := hok.2.2.2.2.2.1
      have hsl := hok.2.2.2.2.2.2.1
      have hU := hok.1.2
      by_cases hfu : us.length = U
      · exact ⟨iI ((3 : Nat) : Int), st_same (dk_make_full l D ta B n w h0 (h0 + 32) U k L f ((hh : Nat) : Int) us bs J ls cx v fi hd hok hms (by omega)) (mo_make_full l D ta B n w (h0 + 12) U ix L J.length od hh stt kys idx vls hgs frs szs ss kyh scf cns kds bks v fi hm hst.lt (sm_miss hst hcoin hhand hms) hU (by rw [hst.c1]; exact hfu)) ⟨U, k, L, f, hh, true, us, bs, J, ls, cx, ix, od, stt, kys, idx, vls, hgs, frs, szs, ss, kyh, scf, cns, kds, bks, pl, hd, hm, hok, hsc, h64, hhi, hhand, hcoin, hst, hjn⟩⟩
      obtain ⟨fk, hfk, hfk0, hfk1⟩ := sm_free hst (by omega)
      by_cases hbs : bs.length = 0
      · obtain rfl : bs = [] := List.length_eq_zero_iff.mp hbs
        have hlt : ∀ b, b ∈ us ++ [] ++ spa J → b < n := fun b hb => by
          have q := (hd.2.2.2 b (by
            rw [List.append_nil] at hb
            rcases List.mem_append.mp hb with q | q
            · exact Or.inl q
            · exact Or.inr (Or.inr (List.mem_map.mpr ⟨(b, true), spa_mem.mp q, rfl⟩)))).2.1
          omega
        have hnd : (n :: (us ++ [] ++ spa J)).Nodup := List.nodup_cons.mpr ⟨fun q => absurd (hlt n q) (by omega), hok.2.1⟩
        refine ⟨iI ((0 : Nat) : Int), st_pair hI0 (dk_make_fresh l D ta B n w h0 (h0 + 32) U k L f ((hh : Nat) : Int) us [] J ls cx v fi hd hok hms (by omega) h64 (by omega) hsc) ?_⟩
        rintro w1 hf ⟨f2, hf2e, hd1⟩
        have hm1 := mo_dk hm hf rfl
        have hanot : n ∉ us ++ spa J := fun q => (List.nodup_cons.mp hnd).1 (by
          rcases List.mem_append.mp q with q2 | q2
          · exact List.mem_append_left _ (List.mem_append_left _ q2)
          · exact List.mem_append_right _ q2)
        have haJ : ∀ y ∈ J, y.1 ≠ n := fun y hy e => hanot (by
          rw [← e]
          exact List.mem_append.mpr (hok.done hy))
        have hM := mo_make_ok l D ta B (n + 4) w1 (h0 + 12) U ix L J.length od hh stt kys idx vls hgs frs szs ss kyh scf cns kds bks v fi fk hm1 hst.lt (sm_miss hst hcoin hhand hms) hU (by rw [hst.c1]; exact hfu) hfk hfk0 hfk1 hsc.1 (fun j hj => by rw [hhand.2.2 j hj]; exact hsc.2 j hj) (by omega)
        refine fw_C.mono hM ?_
        rintro q w2 n2 ⟨rfl, rfl, hf2, k3, ss2, hk3a, hk3b, hs2a, hs2b, hm2⟩
        have hjl2 : (J ++ [(n, false)]).length = J.length + 1 := by simp
        have hspJ : spa (J ++ [(n, false)]) = spa J := by rw [spa_app]; simp [spa]
        have e : gup cns J.length fk = gup cns J.length (gup pl n fk n) := by rw [gup_same]
        rw [e] at hm2
        refine ⟨rfl, rfl, ⟨U, k, L, f, hh, true, us ++ [n], [], J ++ [(n, false)], linc ls, gup cx n (k, (L, f2), v, iI ((hh : Nat) : Int), fi), ix, od, _, k3, _, _, _, _, _, ss2, kyh, scf, _, _, _, gup pl n fk, dk_mo hd1 hf2 rfl, by rw [hjl2]; exact hm2, ?_, hsc, by rw [linc_len]; exact h64, by omega, hhand, ?_, ?_, ?_⟩⟩
        · refine hok.make hnd hms (by omega) (by simp only [List.length_nil]; omega) ⟨hsc.1, fun j hj => ?_⟩
          show vp_nar .byte (f2 j) = f2 j
          rw [hf2e j hj]
          exact hsc.2 j hj
        · intro b hb
          rw [hspJ] at hb
          by_cases hba : b = n
          · rw [hba, gup_same, gup_same]
            refine ⟨fun j hj => ?_, ?_, ?_, ?_, ?_, ?_, fun j hj => ?_⟩
            · rw [hk3a j hj]; exact hhand.2.1 j hj
            · show upd idx fk ix fk = k.2.2.2.2
              simp [upd, hhand.1]
            · show vp_updL vls fk v fk = v
              simp [vp_updL]
            · show iI ((gup hgs fk hh fk : Nat) : Int) = iI ((hh : Nat) : Int)
              rw [gup_same]
            · exact gup_same frs fk fi
            · exact gup_same szs fk L
            · have hj2 : j < L := hj
              show mget ss2 fk j = f2 j
              rw [hs2a j hj2, hf2e j hj2]
              exact hhand.2.2 j hj2
          · rw [gup_ne hba, gup_ne hba]
            have hbm : b ∈ us ++ spa J := by
              rcases List.mem_append.mp hb with q | q
              · rcases List.mem_append.mp q with q2 | q2
                · exact List.mem_append_left _ q2
                · exact absurd (List.mem_singleton.mp q2) hba
              · exact List.mem_append_right _ q
            have hcb := hcoin b hbm
            have hpb := hst.2.1 b hbm
            have hpf : pl b ≠ fk := fun e => by
              rw [← e] at hfk0
              rcases List.mem_append.mp hbm with q | q
              · have q2 := (hst.one hpb).mpr (List.mem_map.mpr ⟨b, q, rfl⟩)
                omega
              · have q2 := (hst.two hpb).mpr (List.mem_map.mpr ⟨b, q, rfl⟩)
                omega
            have hlen : (cx b).2.1.1 ≤ 200 := (hok.2.2.2.2.2.2.2.2.2 b (by
              rcases List.mem_append.mp hbm with q | q
              · exact Or.inl q
              · exact Or.inr (List.mem_map.mpr ⟨(b, true), spa_mem.mp q, rfl⟩))).1
            refine ⟨fun j hj => ?_, ?_, ?_, ?_, ?_, ?_, fun j hj => ?_⟩
            · rw [hk3b _ (by omega)]; exact hcb.1 j hj
            · show upd idx fk ix (pl b) = _
              simp only [upd, if_neg hpf]
              exact hcb.2.1
            · show vp_updL vls fk v (pl b) = _
              simp only [vp_updL, if_neg hpf]
              exact hcb.2.2.1
            · rw [gup_ne hpf]; exact hcb.2.2.2.1
            · rw [gup_ne hpf]; exact hcb.2.2.2.2.1
            · rw [gup_ne hpf]; exact hcb.2.2.2.2.2.1
            · rw [hs2b (pl b) j hpb hpf (by omega)]
              exact hcb.2.2.2.2.2.2 j hj
        · rw [hspJ]
          exact sm_make hst hanot hfk hfk0
        · exact hjn.note (pl2 := gup pl n fk) n false (fun y hy => gup_ne (haJ y hy))
      · obtain ⟨bs1, a, rfl⟩ := ls_last bs (by omega)
        have h3 := hok.2.2.2.2.2.2.2.1
        have hbl : (bs1 ++ [a]).length = bs1.length + 1 := by simp
        have hnd : (a :: (us ++ bs1 ++ spa J)).Nodup := by
          have q : (us ++ (bs1 ++ [a]) ++ spa J).Perm (a :: (us ++ bs1 ++ spa J)) := by
            have q1 : (us ++ (bs1 ++ [a])).Perm (a :: (us ++ bs1)) := by
              rw [← List.append_assoc]
              exact List.perm_append_comm (l₁ := us ++ bs1) (l₂ := [a])
            exact q1.append_right (spa J)
          exact q.nodup_iff.mp hok.2.1
        refine ⟨iI ((0 : Nat) : Int), st_pair hI0 (dk_make_reuse l D ta B n w h0 (h0 + 32) U k L f ((hh : Nat) : Int) us bs1 J ls cx a v fi hd hok hms (by omega) h64 (by omega) hsc) ?_⟩
        rintro w1 hf ⟨f2, hf2e, hd1⟩
        have hm1 := mo_dk hm hf rfl
        have hanot : a ∉ us ++ spa J := fun q => (List.nodup_cons.mp hnd).1 (by
          rcases List.mem_append.mp q with q2 | q2
          · exact List.mem_append_left _ (List.mem_append_left _ q2)
          · exact List.mem_append_right _ q2)
        have haJ : ∀ y ∈ J, y.1 ≠ a := fun y hy e => hanot (by
          rw [← e]
          exact List.mem_append.mpr (hok.done hy))
        have hM := mo_make_ok l D ta B (n) w1 (h0 + 12) U ix L J.length od hh stt kys idx vls hgs frs szs ss kyh scf cns kds bks v fi fk hm1 hst.lt (sm_miss hst hcoin hhand hms) hU (by rw [hst.c1]; exact hfu) hfk hfk0 hfk1 hsc.1 (fun j hj => by rw [hhand.2.2 j hj]; exact hsc.2 j hj) (by omega)
        refine fw_C.mono hM ?_
        rintro q w2 n2 ⟨rfl, rfl, hf2, k3, ss2, hk3a, hk3b, hs2a, hs2b, hm2⟩
        have hjl2 : (J ++ [(a, false)]).length = J.length + 1 := by simp
        have hspJ : spa (J ++ [(a, false)]) = spa J := by rw [spa_app]; simp [spa]
        have e : gup cns J.length fk = gup cns J.length (gup pl a fk a) := by rw [gup_same]
        rw [e] at hm2
        refine ⟨rfl, rfl, ⟨U, k, L, f, hh, true, us ++ [a], bs1, J ++ [(a, false)], linc ls, gup cx a (k, (L, f2), v, iI ((hh : Nat) : Int), fi), ix, od, _, k3, _, _, _, _, _, ss2, kyh, scf, _, _, _, gup pl a fk, dk_mo hd1 hf2 rfl, by rw [hjl2]; exact hm2, ?_, hsc, by rw [linc_len]; exact h64, by omega, hhand, ?_, ?_, ?_⟩⟩
        · refine hok.make hnd hms (by omega) (by omega) ⟨hsc.1, fun j hj => ?_⟩
          show vp_nar .byte (f2 j) = f2 j
          rw [hf2e j hj]
          exact hsc.2 j hj
        · intro b hb
          rw [hspJ] at hb
          by_cases hba : b = a
          · rw [hba, gup_same, gup_same]
            refine ⟨fun j hj => ?_, ?_, ?_, ?_, ?_, ?_, fun j hj => ?_⟩
            · rw [hk3a j hj]; exact hhand.2.1 j hj
            · show upd idx fk ix fk = k.2.2.2.2
              simp [upd, hhand.1]
            · show vp_updL vls fk v fk = v
              simp [vp_updL]
            · show iI ((gup hgs fk hh fk : Nat) : Int) = iI ((hh : Nat) : Int)
              rw [gup_same]
            · exact gup_same frs fk fi
            · exact gup_same szs fk L
            · have hj2 : j < L := hj
              show mget ss2 fk j = f2 j
              rw [hs2a j hj2, hf2e j hj2]
              exact hhand.2.2 j hj2
          · rw [gup_ne hba, gup_ne hba]
            have hbm : b ∈ us ++ spa J := by
              rcases List.mem_append.mp hb with q | q
              · rcases List.mem_append.mp q with q2 | q2
                · exact List.mem_append_left _ q2
                · exact absurd (List.mem_singleton.mp q2) hba
              · exact List.mem_append_right _ q
            have hcb := hcoin b hbm
            have hpb := hst.2.1 b hbm
            have hpf : pl b ≠ fk := fun e => by
              rw [← e] at hfk0
              rcases List.mem_append.mp hbm with q | q
              · have q2 := (hst.one hpb).mpr (List.mem_map.mpr ⟨b, q, rfl⟩)
                omega
              · have q2 := (hst.two hpb).mpr (List.mem_map.mpr ⟨b, q, rfl⟩)
                omega
            have hlen : (cx b).2.1.1 ≤ 200 := (hok.2.2.2.2.2.2.2.2.2 b (by
              rcases List.mem_append.mp hbm with q | q
              · exact Or.inl q
              · exact Or.inr (List.mem_map.mpr ⟨(b, true), spa_mem.mp q, rfl⟩))).1
            refine ⟨fun j hj => ?_, ?_, ?_, ?_, ?_, ?_, fun j hj => ?_⟩
            · rw [hk3b _ (by omega)]; exact hcb.1 j hj
            · show upd idx fk ix (pl b) = _
              simp only [upd, if_neg hpf]
              exact hcb.2.1
            · show vp_updL vls fk v (pl b) = _
              simp only [vp_updL, if_neg hpf]
              exact hcb.2.2.1
            · rw [gup_ne hpf]; exact hcb.2.2.2.1
            · rw [gup_ne hpf]; exact hcb.2.2.2.2.1
            · rw [gup_ne hpf]; exact hcb.2.2.2.2.2.1
            · rw [hs2b (pl b) j hpb hpf (by omega)]
              exact hcb.2.2.2.2.2.2 j hj
        · rw [hspJ]
          exact sm_make hst hanot hfk hfk0
        · exact hjn.note (pl2 := gup pl a fk) a false (fun y hy => gup_ne (haJ y hy))
