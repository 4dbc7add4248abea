set_option maxHeartbeats 4000000 in
theorem dk_key (l : Launch) (D : va_G) (ta : Nat → ClassId) (B n : Nat) (w : fw_W) (h0 : Nat) (c0 : Nat) (U : Nat) (k : cKey) (L : Nat) (f : Nat → Int32) (ht : Int) (op : Bool) (us : List Nat) (bs : List Nat) (J : List (Nat × Bool)) (ls : List Nat) (cx : Nat → cCoin) (k2 : cKey) (hd : dk_at ta n w h0 c0 U k L f ht op (us) (bs) (J) (ls) cx)  : fw_C l D vwCl (tyL ta) B yX0_key cX0_key 10 none ({ frames := 1, cells := 0, slots := 0, locals := 29 } : Room) [.ref (h0), .long (k2.1), .long (k2.2.1), .long (k2.2.2.1), .long (k2.2.2.2.1), .int (k2.2.2.2.2)] n w (fun r w1 n1 => r = none ∧ n1 = n ∧ dk_fr c0 h0 w w1 ∧ dk_at ta (n) w1 h0 c0 U (k2) (L) (f) (ht) op (us) (bs) (J) (ls) (cx)) := by
  obtain ⟨hc0, hcn, ⟨nu, uf, nb, bf, nj, nr, ns, lf, jf, sb, ⟨e0, e1, e2, e3, e4, e5, e6, e7, e8, e9, e10, e11⟩, rfl, rfl, rfl, rfl, rfl, hu, hb, hJ, hl⟩, hco⟩ := hd
  refine fw_C.mono (cm_Desk_key l D ta B n w (h0) (U) (ht) (k) (op) (k2) e0 e1 ) ?_
  rintro r w1 n1 ⟨rfl, hw1, hn1⟩
  replace hw1 := hw1.symm; replace hn1 := hn1.symm; subst hw1; subst hn1
  refine ⟨rfl, rfl, fun q h1 h2 => (fw_ne (by omega)), hc0, hcn, ⟨_, _, _, _, _, _, _, _, _, _, ⟨(fw_at (by omega) e0), (fw_same _ _ _), (fw_at (by omega) e2), (fw_at (by omega) e3), (fw_at (by omega) e4), (fw_at (by omega) e5), (fw_at (by omega) e6), (fw_at (by omega) e7), (fw_at (by omega) e8), (fw_at (by omega) e9), (fw_at (by omega) e10), (fw_at (by omega) e11)⟩, rfl, rfl, rfl, rfl, rfl, hu, hb, hJ, hl⟩, (fun a ha => by
    have hm := ha
    exact ⟨(hco a hm).1, (hco a hm).2.1, (cn_upN (hco a hm).2.2 (Or.inl (by have := (hco a hm).1; omega)))⟩)⟩
set_option maxHeartbeats 4000000 in
theorem dk_empty (l : Launch) (D : va_G) (ta : Nat → ClassId) (B n : Nat) (w : fw_W) (h0 : Nat) (c0 : Nat) (U : Nat) (k : cKey) (L : Nat) (f : Nat → Int32) (ht : Int) (op : Bool) (us : List Nat) (bs : List Nat) (J : List (Nat × Bool)) (ls : List Nat) (cx : Nat → cCoin)  (hd : dk_at ta n w h0 c0 U k L f ht op (us) (bs) (J) (ls) cx)  : fw_C l D vwCl (tyL ta) B yX0_empty cX0_empty 1 none ({ frames := 1, cells := 0, slots := 0, locals := 20 } : Room) [.ref (h0)] n w (fun r w1 n1 => r = none ∧ n1 = n ∧ dk_fr c0 h0 w w1 ∧ dk_at ta (n) w1 h0 c0 U (k) (0) (f) (ht) op (us) (bs) (J) (ls) (cx)) := by
  obtain ⟨hc0, hcn, ⟨nu, uf, nb, bf, nj, nr, ns, lf, jf, sb, ⟨e0, e1, e2, e3, e4, e5, e6, e7, e8, e9, e10, e11⟩, rfl, rfl, rfl, rfl, rfl, hu, hb, hJ, hl⟩, hco⟩ := hd
  refine fw_C.mono (cm_Desk_empty l D ta B n w (h0) (U) (ht) (L) (op) e0 e2 ) ?_
  rintro r w1 n1 ⟨rfl, hw1, hn1⟩
  replace hw1 := hw1.symm; replace hn1 := hn1.symm; subst hw1; subst hn1
  refine ⟨rfl, rfl, fun q h1 h2 => (fw_ne (by omega)), hc0, hcn, ⟨_, _, _, _, _, _, _, _, _, _, ⟨(fw_at (by omega) e0), (fw_at (by omega) e1), (fw_same _ _ _), (fw_at (by omega) e3), (fw_at (by omega) e4), (fw_at (by omega) e5), (fw_at (by omega) e6), (fw_at (by omega) e7), (fw_at (by omega) e8), (fw_at (by omega) e9), (fw_at (by omega) e10), (fw_at (by omega) e11)⟩, rfl, rfl, rfl, rfl, rfl, hu, hb, hJ, hl⟩, (fun a ha => by
    have hm := ha
    exact ⟨(hco a hm).1, (hco a hm).2.1, (cn_upN (hco a hm).2.2 (Or.inl (by have := (hco a hm).1; omega)))⟩)⟩
set_option maxHeartbeats 4000000 in
theorem dk_put (l : Launch) (D : va_G) (ta : Nat → ClassId) (B n : Nat) (w : fw_W) (h0 : Nat) (c0 : Nat) (U : Nat) (k : cKey) (L : Nat) (f : Nat → Int32) (ht : Int) (op : Bool) (us : List Nat) (bs : List Nat) (J : List (Nat × Bool)) (ls : List Nat) (cx : Nat → cCoin) (v : Int64) (m_ : Nat) (hd : dk_at ta n w h0 c0 U k L f ht op (us) (bs) (J) (ls) cx) (hm1 : 1 ≤ m_) (hm8 : m_ ≤ 8) (hmL : m_ + L ≤ 200) : fw_C l D vwCl (tyL ta) B yX0_put cX0_put 5 (some .boolean) ({ frames := 1, cells := 0, slots := 0, locals := 21 } : Room) [.ref (h0), .long (v), .int (iI (((m_ : Nat) : Int)))] n w (fun r w1 n1 => r = some (.int (bI true)) ∧ n1 = n ∧ dk_fr c0 h0 w w1 ∧ ∃ f2 : Nat → Int32, (∀ j, j < L → f2 j = f j) ∧ (∀ t, t < m_ → f2 (L + t) = pbyte v (m_ - 1 - t)) ∧ dk_at ta (n) w1 h0 c0 U (k) (L + m_) (f2) (ht) op (us) (bs) (J) (ls) (cx)) := by
  obtain ⟨hc0, hcn, ⟨nu, uf, nb, bf, nj, nr, ns, lf, jf, sb, ⟨e0, e1, e2, e3, e4, e5, e6, e7, e8, e9, e10, e11⟩, rfl, rfl, rfl, rfl, rfl, hu, hb, hJ, hl⟩, hco⟩ := hd
  refine fw_C.mono (cm_Desk_put_ok l D ta B n w (h0) (U) (ht) (L) (f) (op) (v) (m_) e0 e2 e3 (by omega) (by omega) (by omega)) ?_
  rintro r w1 n1 ⟨f2, hf1, hf2, rfl, hw1, hn1⟩
  replace hw1 := hw1.symm; replace hn1 := hn1.symm; subst hw1; subst hn1
  refine ⟨rfl, rfl, fun q h1 h2 => ((fw_ne (by omega)).trans (fw_ne (by omega))), f2, hf1, hf2, hc0, hcn, ⟨_, _, _, _, _, _, _, _, _, _, ⟨(fw_at (by omega) (fw_at (by omega) e0)), (fw_at (by omega) (fw_at (by omega) e1)), (fw_same _ _ _), (fw_at (by omega) (fw_same _ _ _)), (fw_at (by omega) (fw_at (by omega) e4)), (fw_at (by omega) (fw_at (by omega) e5)), (fw_at (by omega) (fw_at (by omega) e6)), (fw_at (by omega) (fw_at (by omega) e7)), (fw_at (by omega) (fw_at (by omega) e8)), (fw_at (by omega) (fw_at (by omega) e9)), (fw_at (by omega) (fw_at (by omega) e10)), (fw_at (by omega) (fw_at (by omega) e11))⟩, rfl, rfl, rfl, rfl, rfl, hu, hb, hJ, hl⟩, (fun a ha => by
    have hm := ha
    exact ⟨(hco a hm).1, (hco a hm).2.1, (cn_upN (cn_upN (hco a hm).2.2 (Or.inl (by have := (hco a hm).1; omega))) (Or.inl (by have := (hco a hm).1; omega)))⟩)⟩
set_option maxHeartbeats 4000000 in
theorem dk_begin (l : Launch) (D : va_G) (ta : Nat → ClassId) (B n : Nat) (w : fw_W) (h0 : Nat) (c0 : Nat) (U : Nat) (k : cKey) (L : Nat) (f : Nat → Int32) (ht : Int) (us : List Nat) (bs : List Nat) (J : List (Nat × Bool)) (ls : List Nat) (cx : Nat → cCoin)  (hd : dk_at ta n w h0 c0 U k L f ht false (us) (bs) (J) (ls) cx) (hrl : ls.length < 64) : fw_C l D vwCl (tyL ta) B yX0_begin cX0_begin 1 (some .boolean) ({ frames := 1, cells := 0, slots := 0, locals := 20 } : Room) [.ref (h0)] n w (fun r w1 n1 => r = some (.int (bI true)) ∧ n1 = n ∧ dk_fr c0 h0 w w1 ∧ dk_at ta (n) w1 h0 c0 U (k) (L) (f) (ht) true (us) (bs) (J) (ls ++ [0]) (cx)) := by
  obtain ⟨hc0, hcn, ⟨nu, uf, nb, bf, nj, nr, ns, lf, jf, sb, ⟨e0, e1, e2, e3, e4, e5, e6, e7, e8, e9, e10, e11⟩, rfl, rfl, rfl, rfl, rfl, hu, hb, hJ, hl⟩, hco⟩ := hd
  refine fw_C.mono (cm_Desk_begin_ok l D ta B n w (h0) (U) (ht) (J.length) (ls.length) ((spa J).length) (lf) e0 e8 e9 (by omega)) ?_
  rintro r w1 n1 ⟨rfl, hw1, hn1⟩
  replace hw1 := hw1.symm; replace hn1 := hn1.symm; subst hw1; subst hn1
  refine ⟨rfl, rfl, fun q h1 h2 => ((fw_ne (by omega)).trans ((fw_ne (by omega)).trans (fw_ne (by omega)))), hc0, hcn, ⟨_, _, _, _, _, _, _, _, _, _, ⟨(fw_same _ _ _), (fw_at (by omega) (fw_at (by omega) (fw_at (by omega) e1))), (fw_at (by omega) (fw_at (by omega) (fw_at (by omega) e2))), (fw_at (by omega) (fw_at (by omega) (fw_at (by omega) e3))), (fw_at (by omega) (fw_at (by omega) (fw_at (by omega) e4))), (fw_at (by omega) (fw_at (by omega) (fw_at (by omega) e5))), (fw_at (by omega) (fw_at (by omega) (fw_at (by omega) e6))), (fw_at (by omega) (fw_at (by omega) (fw_at (by omega) e7))), (fw_at (by omega) (fw_same _ _ _)), (fw_at (by omega) (fw_at (by omega) (fw_same _ _ _))), (fw_at (by omega) (fw_at (by omega) (fw_at (by omega) e10))), (fw_at (by omega) (fw_at (by omega) (fw_at (by omega) e11)))⟩, rfl, rfl, rfl, (by simp), rfl, hu, hb, hJ, (lf_add hl 0)⟩, (fun a ha => by
    have hm := ha
    exact ⟨(hco a hm).1, (hco a hm).2.1, (cn_upN (cn_upN (cn_upN (hco a hm).2.2 (Or.inl (by have := (hco a hm).1; omega))) (Or.inl (by have := (hco a hm).1; omega))) (Or.inl (by have := (hco a hm).1; omega)))⟩)⟩
set_option maxHeartbeats 4000000 in
theorem dk_end (l : Launch) (D : va_G) (ta : Nat → ClassId) (B n : Nat) (w : fw_W) (h0 : Nat) (c0 : Nat) (U : Nat) (k : cKey) (L : Nat) (f : Nat → Int32) (ht : Int) (us : List Nat) (bs : List Nat) (J : List (Nat × Bool)) (ls : List Nat) (cx : Nat → cCoin)  (hd : dk_at ta n w h0 c0 U k L f ht true (us) (bs) (J) (ls) cx) (hrc : ls.length ≤ 64) (h1r : 1 ≤ ls.length) : fw_C l D vwCl (tyL ta) B yX0_end cX0_end 1 (some .int) ({ frames := 2, cells := 0, slots := 0, locals := 41 } : Room) [.ref (h0)] n w (fun r w1 n1 => r = some (.int (iI ((ls.getD (ls.length - 1) 0 : Nat) : Int))) ∧ n1 = n ∧ dk_fr c0 h0 w w1 ∧ dk_at ta (n) w1 h0 c0 U (k) (L) (f) (ht + ((1 : Nat) : Int)) false (us) (bs) (J) (ls) (cx)) := by
  obtain ⟨hc0, hcn, ⟨nu, uf, nb, bf, nj, nr, ns, lf, jf, sb, ⟨e0, e1, e2, e3, e4, e5, e6, e7, e8, e9, e10, e11⟩, rfl, rfl, rfl, rfl, rfl, hu, hb, hJ, hl⟩, hco⟩ := hd
  refine fw_C.mono (cm_end_ok l D ta B n w (h0) (U) (ht) (J.length) (ls.length) ((spa J).length) (lf) e0 e8 e9 (by omega) (by omega)) ?_
  rintro r w1 n1 ⟨rfl, hw1, hn1⟩
  replace hw1 := hw1.symm; replace hn1 := hn1.symm; subst hw1; subst hn1
  have hlast : lf (ls.length - 1) = ls.getD (ls.length - 1) 0 := by
    rw [hl _ (by omega)]
    simp [List.getD, show ls.length - 1 < ls.length by omega]
  rw [hlast]
  refine ⟨rfl, rfl, fun q h1 h2 => (fw_ne (by omega)), hc0, hcn, ⟨_, _, _, _, _, _, _, _, _, _, ⟨(fw_same _ _ _), (fw_at (by omega) e1), (fw_at (by omega) e2), (fw_at (by omega) e3), (fw_at (by omega) e4), (fw_at (by omega) e5), (fw_at (by omega) e6), (fw_at (by omega) e7), (fw_at (by omega) e8), (fw_at (by omega) e9), (fw_at (by omega) e10), (fw_at (by omega) e11)⟩, rfl, rfl, rfl, rfl, rfl, hu, hb, hJ, hl⟩, (fun a ha => by
    have hm := ha
    exact ⟨(hco a hm).1, (hco a hm).2.1, (cn_upN (hco a hm).2.2 (Or.inl (by have := (hco a hm).1; omega)))⟩)⟩
set_option maxHeartbeats 4000000 in
theorem dk_spend (l : Launch) (D : va_G) (ta : Nat → ClassId) (B n : Nat) (w : fw_W) (h0 : Nat) (c0 : Nat) (U : Nat) (k : cKey) (L : Nat) (f : Nat → Int32) (ht : Int) (us : List Nat) (bs : List Nat) (J : List (Nat × Bool)) (ls : List Nat) (cx : Nat → cCoin) (a : Nat) (hd : dk_at ta n w h0 c0 U k L f ht true (us) (bs) (J) (ls) cx) (hok : dk_ok U us bs J cx) (ha : a ∈ us) (hka : (cx a).1 = k) (hns : (spa J).length < 2 * U) (hrc : ls.length ≤ 64) (h1r : 1 ≤ ls.length) : fw_C l D vwCl (tyL ta) B yX0_spend cX0_spend 2 (some .int) ({ frames := 4, cells := 0, slots := 0, locals := 86 } : Room) [.ref (h0)] n w (fun r w1 n1 => r = some (.int (iI ((0 : Nat) : Int))) ∧ n1 = n ∧ dk_fr c0 h0 w w1 ∧ ∃ us1 : List Nat, us.Perm (a :: us1) ∧ dk_at ta (n) w1 h0 c0 U (k) (L) (f) (ht) true (us1) (bs) (J ++ [(a, true)]) (linc ls) (cx)) := by
  obtain ⟨hc0, hcn, ⟨nu, uf, nb, bf, nj, nr, ns, lf, jf, sb, ⟨e0, e1, e2, e3, e4, e5, e6, e7, e8, e9, e10, e11⟩, rfl, rfl, rfl, rfl, rfl, hu, hb, hJ, hl⟩, hco⟩ := hd
  obtain ⟨j, hj, hja⟩ := List.getElem_of_mem ha
  obtain rfl : us.getD j 0 = a := by simp [List.getD, hj, hja]
  have huq : ∀ i, i < us.length → (cx (us.getD i 0)).1 = (cx (us.getD j 0)).1 → i = j := fun i hi e => dk_uniq hok.2.2.2.2.1 hi hj e
  have hperm : us.Perm (us.getD j 0 :: lrem us j) := by
    have q := lrem_perm hj
    rw [hja] at q
    exact q
  have hU := hok.1.2
  have hul := hok.2.2.2.2.2.1
  have hjn := hok.jlen
  refine fw_C.mono (cm_spend_ok l D ta B n w (h0) (U) (ht) (k) (us.length) (uf) (J.length) (ls.length) ((spa J).length) (lf) (jf) (sb) (fun j => us.getD j 0) (fun j => cx (us.getD j 0)) (j) e0 e1 e4 e5 e8 e9 e10 e11 (by omega) (by omega) (fun j hj => ⟨by rw [hu j hj]; simp [List.getD, hj], (hco _ (Or.inl (dk_getD hj))).2.2⟩) (fun j hj => by have := (hco (us.getD j 0) (Or.inl (dk_getD hj))).1; show h0 + 12 ≤ us.getD j 0; omega) hj hka (fun i hi e => huq i hi (e.trans hka.symm)) (by omega) (by omega) (by omega) (by omega)) ?_
  rintro r w1 n1 ⟨f2, hf2, rfl, hw1, hn1⟩
  replace hw1 := hw1.symm; replace hn1 := hn1.symm; subst hw1; subst hn1
  refine ⟨rfl, rfl, fun q h1 h2 => ((fw_ne (by omega)).trans ((fw_ne (by omega)).trans ((fw_ne (by omega)).trans ((fw_ne (by omega)).trans ((fw_ne (by omega)).trans (fw_ne (by omega))))))), lrem us j, hperm, hc0, hcn, ⟨_, _, _, _, _, _, _, _, _, _, ⟨(fw_at (by omega) (fw_at (by omega) (fw_at (by omega) (fw_at (by omega) (fw_at (by omega) (fw_at (by omega) e0)))))), (fw_at (by omega) (fw_at (by omega) (fw_at (by omega) (fw_at (by omega) (fw_at (by omega) (fw_at (by omega) e1)))))), (fw_at (by omega) (fw_at (by omega) (fw_at (by omega) (fw_at (by omega) (fw_at (by omega) (fw_at (by omega) e2)))))), (fw_at (by omega) (fw_at (by omega) (fw_at (by omega) (fw_at (by omega) (fw_at (by omega) (fw_at (by omega) e3)))))), (fw_at (by omega) (fw_at (by omega) (fw_at (by omega) (fw_at (by omega) (fw_at (by omega) (fw_same _ _ _)))))), (fw_at (by omega) (fw_at (by omega) (fw_at (by omega) (fw_at (by omega) (fw_same _ _ _))))), (fw_at (by omega) (fw_at (by omega) (fw_at (by omega) (fw_at (by omega) (fw_at (by omega) (fw_at (by omega) e6)))))), (fw_at (by omega) (fw_at (by omega) (fw_at (by omega) (fw_at (by omega) (fw_at (by omega) (fw_at (by omega) e7)))))), (fw_at (by omega) (fw_same _ _ _)), (fw_same _ _ _), (fw_at (by omega) (fw_at (by omega) (fw_at (by omega) (fw_same _ _ _)))), (fw_at (by omega) (fw_at (by omega) (fw_same _ _ _)))⟩, (lrem_len us j).symm, rfl, (by simp), (linc_len ls).symm, (by rw [spa_app, List.length_append]; rfl), (rl_rem hu hj hf2), hb, (jf_add hJ (us.getD j 0, true)), (lf_inc hl h1r)⟩, (fun a ha => by
    have hm := dk_m_spend hperm ha
    exact ⟨(hco a hm).1, (hco a hm).2.1, (cn_upN (cn_upN (cn_upN (cn_upN (cn_upN (cn_upN (hco a hm).2.2 (Or.inl (by have := (hco a hm).1; omega))) (Or.inl (by have := (hco a hm).1; omega))) (Or.inl (by have := (hco a hm).1; omega))) (Or.inl (by have := (hco a hm).1; omega))) (Or.inl (by have := (hco a hm).1; omega))) (Or.inl (by have := (hco a hm).1; omega)))⟩)⟩
set_option maxHeartbeats 4000000 in
theorem dk_undo_mk (l : Launch) (D : va_G) (ta : Nat → ClassId) (B n : Nat) (w : fw_W) (h0 : Nat) (c0 : Nat) (U : Nat) (k : cKey) (L : Nat) (f : Nat → Int32) (ht : Int) (op : Bool) (us : List Nat) (bs : List Nat) (J : List (Nat × Bool)) (ls : List Nat) (cx : Nat → cCoin) (a : Nat) (hd : dk_at ta n w h0 c0 U k L f ht op (us) (bs) (J ++ [(a, false)]) (ls) cx) (hok : dk_ok U us bs (J ++ [(a, false)]) cx) : fw_C l D vwCl (tyL ta) B yX0_undoLatest cX0_undoLatest 3 none ({ frames := 3, cells := 0, slots := 0, locals := 67 } : Room) [.ref (h0)] n w (fun r w1 n1 => r = none ∧ n1 = n ∧ dk_fr c0 h0 w w1 ∧ ∃ us1 : List Nat, us.Perm (a :: us1) ∧ dk_at ta (n) w1 h0 c0 U (k) (L) (f) (ht) op (us1) (bs ++ [a]) (J) (ls) (cx)) := by
  obtain ⟨hc0, hcn, ⟨nu, uf, nb, bf, nj, nr, ns, lf, jf, sb, ⟨e0, e1, e2, e3, e4, e5, e6, e7, e8, e9, e10, e11⟩, rfl, rfl, rfl, rfl, rfl, hu, hb, hJ, hl⟩, hco⟩ := hd
  have ha := hok.last_made
  obtain ⟨j, hj, hja⟩ := List.getElem_of_mem ha
  obtain rfl : us.getD j 0 = a := by simp [List.getD, hj, hja]
  have huq : ∀ i, i < us.length → (cx (us.getD i 0)).1 = (cx (us.getD j 0)).1 → i = j := fun i hi e => dk_uniq hok.2.2.2.2.1 hi hj e
  have hperm : us.Perm (us.getD j 0 :: lrem us j) := by
    have q := lrem_perm hj
    rw [hja] at q
    exact q
  have hU := hok.1.2
  have hul := hok.2.2.2.2.2.1
  have hjn := hok.jlen
  have h3 := hok.2.2.2.2.2.2.2.1
  have hsl := hok.2.2.2.2.2.2.1
  have hup := hperm.length_eq
  rw [List.length_cons] at hup
  have hjl := jf_last hJ
  have hj1 : 1 ≤ (J ++ [(us.getD j 0, false)]).length := by simp
  refine fw_C.mono (cm_undo_mk l D ta B n w (h0) (U) (ht) (us.length) (uf) (bs.length) (bf) ((J ++ [(us.getD j 0, false)]).length) (ls.length) ((spa (J ++ [(us.getD j 0, false)])).length) (jf) (sb) (op) (fun j => us.getD j 0) (fun j => cx (us.getD j 0)) (j) e0 e4 e5 e6 e7 e8 e10 e11 (by omega) (by omega) (fun j hj => ⟨by rw [hu j hj]; simp [List.getD, hj], (hco _ (Or.inl (dk_getD hj))).2.2⟩) (fun j hj => by have := (hco (us.getD j 0) (Or.inl (dk_getD hj))).1; show h0 + 12 ≤ us.getD j 0; omega) hj huq (by omega) (by omega) hjl.1 hjl.2 (by omega)) ?_
  rintro r w1 n1 ⟨f2, hf2, rfl, hw1, hn1⟩
  replace hw1 := hw1.symm; replace hn1 := hn1.symm; subst hw1; subst hn1
  refine ⟨rfl, rfl, fun q h1 h2 => ((fw_ne (by omega)).trans ((fw_ne (by omega)).trans ((fw_ne (by omega)).trans ((fw_ne (by omega)).trans (fw_ne (by omega)))))), lrem us j, hperm, hc0, hcn, ⟨_, _, _, _, _, _, _, _, _, _, ⟨(fw_at (by omega) (fw_at (by omega) (fw_at (by omega) (fw_at (by omega) (fw_at (by omega) e0))))), (fw_at (by omega) (fw_at (by omega) (fw_at (by omega) (fw_at (by omega) (fw_at (by omega) e1))))), (fw_at (by omega) (fw_at (by omega) (fw_at (by omega) (fw_at (by omega) (fw_at (by omega) e2))))), (fw_at (by omega) (fw_at (by omega) (fw_at (by omega) (fw_at (by omega) (fw_at (by omega) e3))))), (fw_at (by omega) (fw_at (by omega) (fw_at (by omega) (fw_same _ _ _)))), (fw_at (by omega) (fw_at (by omega) (fw_same _ _ _))), (fw_same _ _ _), (fw_at (by omega) (fw_same _ _ _)), (fw_at (by omega) (fw_at (by omega) (fw_at (by omega) (fw_at (by omega) (fw_same _ _ _))))), (fw_at (by omega) (fw_at (by omega) (fw_at (by omega) (fw_at (by omega) (fw_at (by omega) e9))))), (fw_at (by omega) (fw_at (by omega) (fw_at (by omega) (fw_at (by omega) (fw_at (by omega) e10))))), (fw_at (by omega) (fw_at (by omega) (fw_at (by omega) (fw_at (by omega) (fw_at (by omega) e11)))))⟩, (lrem_len us j).symm, (by simp), (by simp), rfl, (by rw [spa_app]; simp [spa]), (rl_rem hu hj hf2), (rl_add hb (us.getD j 0)), (jf_less hJ), hl⟩, (fun a ha => by
    have hm := dk_m_unmake (t := false) hperm ha
    exact ⟨(hco a hm).1, (hco a hm).2.1, (cn_upN (cn_upN (cn_upN (cn_upN (cn_upN (hco a hm).2.2 (Or.inl (by have := (hco a hm).1; omega))) (Or.inl (by have := (hco a hm).1; omega))) (Or.inl (by have := (hco a hm).1; omega))) (Or.inl (by have := (hco a hm).1; omega))) (Or.inl (by have := (hco a hm).1; omega)))⟩)⟩
set_option maxHeartbeats 4000000 in
theorem dk_undo_sp (l : Launch) (D : va_G) (ta : Nat → ClassId) (B n : Nat) (w : fw_W) (h0 : Nat) (c0 : Nat) (U : Nat) (k : cKey) (L : Nat) (f : Nat → Int32) (ht : Int) (op : Bool) (us : List Nat) (bs : List Nat) (J : List (Nat × Bool)) (ls : List Nat) (cx : Nat → cCoin) (a : Nat) (hd : dk_at ta n w h0 c0 U k L f ht op (us) (bs) (J ++ [(a, true)]) (ls) cx) (hok : dk_ok U us bs (J ++ [(a, true)]) cx) : fw_C l D vwCl (tyL ta) B yX0_undoLatest cX0_undoLatest 3 none ({ frames := 3, cells := 0, slots := 0, locals := 67 } : Room) [.ref (h0)] n w (fun r w1 n1 => r = none ∧ n1 = n ∧ dk_fr c0 h0 w w1 ∧ dk_at ta (n) w1 h0 c0 U (k) (L) (f) (ht) op (us ++ [a]) (bs) (J) (ls) (cx)) := by
  obtain ⟨hc0, hcn, ⟨nu, uf, nb, bf, nj, nr, ns, lf, jf, sb, ⟨e0, e1, e2, e3, e4, e5, e6, e7, e8, e9, e10, e11⟩, rfl, rfl, rfl, rfl, rfl, hu, hb, hJ, hl⟩, hco⟩ := hd
  obtain ⟨hna, hka, hlt⟩ := hok.last_spent
  have hU := hok.1.2
  have hjn := hok.jlen
  have hsl := hok.2.2.2.2.2.2.1
  have hjl := jf_last hJ
  have hca := hco a (Or.inr (Or.inr (by rw [List.map_append]; exact List.mem_append_right _ List.mem_cons_self)))
  have hca1 := hca.1
  have hj1 : 1 ≤ (J ++ [(a, true)]).length := by simp
  have hs1 : 1 ≤ (spa (J ++ [(a, true)])).length := by rw [spa_app]; simp [spa]
  refine fw_C.mono (cm_undo_sp l D ta B n w (h0) (U) (ht) (us.length) (uf) ((J ++ [(a, true)]).length) (ls.length) ((spa (J ++ [(a, true)])).length) (jf) (sb) (op) (a) (cx a) e0 e4 e5 e8 e10 e11 hca.2.2.1 (by omega) (by omega) (by omega) hjl.1 hjl.2 (by omega) (by omega) (by omega)) ?_
  rintro r w1 n1 ⟨rfl, hw1, hn1⟩
  replace hw1 := hw1.symm; replace hn1 := hn1.symm; subst hw1; subst hn1
  refine ⟨rfl, rfl, fun q h1 h2 => ((fw_ne (by omega)).trans ((fw_ne (by omega)).trans (fw_ne (by omega)))), hc0, hcn, ⟨_, _, _, _, _, _, _, _, _, _, ⟨(fw_at (by omega) (fw_at (by omega) (fw_at (by omega) e0))), (fw_at (by omega) (fw_at (by omega) (fw_at (by omega) e1))), (fw_at (by omega) (fw_at (by omega) (fw_at (by omega) e2))), (fw_at (by omega) (fw_at (by omega) (fw_at (by omega) e3))), (fw_same _ _ _), (fw_at (by omega) (fw_same _ _ _)), (fw_at (by omega) (fw_at (by omega) (fw_at (by omega) e6))), (fw_at (by omega) (fw_at (by omega) (fw_at (by omega) e7))), (fw_at (by omega) (fw_at (by omega) (fw_same _ _ _))), (fw_at (by omega) (fw_at (by omega) (fw_at (by omega) e9))), (fw_at (by omega) (fw_at (by omega) (fw_at (by omega) e10))), (fw_at (by omega) (fw_at (by omega) (fw_at (by omega) e11)))⟩, (by simp), rfl, (by simp), rfl, (by rw [spa_app]; simp [spa]), (rl_add hu a), hb, (jf_less hJ), hl⟩, (fun a ha => by
    have hm := dk_m_unspend (t := true) ha
    exact ⟨(hco a hm).1, (hco a hm).2.1, (cn_upN (cn_upN (cn_upN (hco a hm).2.2 (Or.inl (by have := (hco a hm).1; omega))) (Or.inl (by have := (hco a hm).1; omega))) (Or.inl (by have := (hco a hm).1; omega)))⟩)⟩
set_option maxHeartbeats 4000000 in
theorem dk_make_reuse (l : Launch) (D : va_G) (ta : Nat → ClassId) (B n : Nat) (w : fw_W) (h0 : Nat) (c0 : Nat) (U : Nat) (k : cKey) (L : Nat) (f : Nat → Int32) (ht : Int) (us : List Nat) (bs : List Nat) (J : List (Nat × Bool)) (ls : List Nat) (cx : Nat → cCoin) (a : Nat) (v : Int64) (fi : Bool) (hd : dk_at ta n w h0 c0 U k L f ht true (us) (bs ++ [a]) (J) (ls) cx) (hok : dk_ok U us (bs ++ [a]) J cx) (hms : ∀ b ∈ us, (cx b).1 ≠ k) (hul : us.length < U) (hrc : ls.length ≤ 64) (h1r : 1 ≤ ls.length) (hsc : sc_ok (L, f)) : fw_C l D vwCl (tyL ta) B yX0_make cX0_make 5 (some .int) ({ frames := 4, cells := 4, slots := 212, locals := 86 } : Room) [.ref (h0), .long (v), .int (bI (fi))] n w (fun r w1 n1 => r = some (.int (iI ((0 : Nat) : Int))) ∧ n1 = n ∧ dk_fr c0 h0 w w1 ∧ ∃ f2 : Nat → Int32, (∀ j, j < L → f2 j = f j) ∧ dk_at ta (n) w1 h0 c0 U (k) (L) (f) (ht) true (us ++ [a]) (bs) (J ++ [(a, false)]) (linc ls) (gup cx a (k, (L, f2), v, iI ht, fi))) := by
  obtain ⟨hc0, hcn, ⟨nu, uf, nb, bf, nj, nr, ns, lf, jf, sb, ⟨e0, e1, e2, e3, e4, e5, e6, e7, e8, e9, e10, e11⟩, rfl, rfl, rfl, rfl, rfl, hu, hb, hJ, hl⟩, hco⟩ := hd
  have hU := hok.1.2
  have hjn := hok.jlen
  have hsl := hok.2.2.2.2.2.2.1
  have h3 := hok.2.2.2.2.2.2.2.1
  have hL := hsc.1
  have hf := hsc.2
  have hca := hco a (Or.inr (Or.inl (List.mem_append_right _ List.mem_cons_self)))
  have hca1 := hca.1
  have hca2 := hca.2.1
  have hb1 : 1 ≤ (bs ++ [a]).length := by simp
  obtain ⟨ea, eb, ec, ed⟩ := hca.2.2
  refine fw_C.mono (cm_make_reuse l D ta B n w (h0) (U) (ht) (k) (L) (f) (us.length) (uf) ((bs ++ [a]).length) (bf) (J.length) (ls.length) ((spa J).length) (lf) (jf) (sb) (v) (fi) (fun j => us.getD j 0) (fun j => cx (us.getD j 0)) (a) (cx a) e0 e1 e2 e3 e4 e5 e6 e7 e8 e9 e10 e11 ea eb ec ed (by omega) (by omega) (fun j hj => ⟨by rw [hu j hj]; simp [List.getD, hj], (hco _ (Or.inl (dk_getD hj))).2.2⟩) (fun j hj => by have := (hco (us.getD j 0) (Or.inl (dk_getD hj))).1; show h0 + 12 ≤ us.getD j 0; omega) (fun j hj => hms _ (dk_getD hj)) (by omega) (by omega) (by omega) (by omega) (by omega) hf (by omega) (by omega) (rl_last hb) (by omega)) ?_
  rintro r w1 n1 ⟨f2, hf2, rfl, hw1, hn1⟩
  replace hw1 := hw1.symm; replace hn1 := hn1.symm; subst hw1; subst hn1
  refine ⟨rfl, rfl, fun q h1 h2 => ((fw_ne (by omega)).trans ((fw_ne (by omega)).trans ((fw_ne (by omega)).trans ((fw_ne (by omega)).trans ((fw_ne (by omega)).trans ((fw_ne (by omega)).trans ((fw_ne (by omega)).trans ((fw_ne (by omega)).trans ((fw_ne (by omega)).trans ((fw_ne (by omega)).trans (fw_ne (by omega)))))))))))), f2, hf2, hc0, hcn, ⟨_, _, _, _, _, _, _, _, _, _, ⟨(fw_at (by omega) (fw_at (by omega) (fw_at (by omega) (fw_at (by omega) (fw_at (by omega) (fw_at (by omega) (fw_at (by omega) (fw_at (by omega) (fw_at (by omega) (fw_at (by omega) (fw_at (by omega) e0))))))))))), (fw_at (by omega) (fw_at (by omega) (fw_at (by omega) (fw_at (by omega) (fw_at (by omega) (fw_at (by omega) (fw_at (by omega) (fw_at (by omega) (fw_at (by omega) (fw_at (by omega) (fw_at (by omega) e1))))))))))), (fw_at (by omega) (fw_at (by omega) (fw_at (by omega) (fw_at (by omega) (fw_at (by omega) (fw_at (by omega) (fw_at (by omega) (fw_at (by omega) (fw_at (by omega) (fw_at (by omega) (fw_at (by omega) e2))))))))))), (fw_at (by omega) (fw_at (by omega) (fw_at (by omega) (fw_at (by omega) (fw_at (by omega) (fw_at (by omega) (fw_at (by omega) (fw_at (by omega) (fw_at (by omega) (fw_at (by omega) (fw_at (by omega) e3))))))))))), (fw_at (by omega) (fw_at (by omega) (fw_at (by omega) (fw_at (by omega) (fw_same _ _ _))))), (fw_at (by omega) (fw_at (by omega) (fw_at (by omega) (fw_at (by omega) (fw_at (by omega) (fw_same _ _ _)))))), (fw_at (by omega) (fw_at (by omega) (fw_at (by omega) (fw_at (by omega) (fw_at (by omega) (fw_at (by omega) (fw_at (by omega) (fw_at (by omega) (fw_at (by omega) (fw_at (by omega) (fw_same _ _ _))))))))))), (fw_at (by omega) (fw_at (by omega) (fw_at (by omega) (fw_at (by omega) (fw_at (by omega) (fw_at (by omega) (fw_at (by omega) (fw_at (by omega) (fw_at (by omega) (fw_at (by omega) (fw_at (by omega) e7))))))))))), (fw_at (by omega) (fw_same _ _ _)), (fw_same _ _ _), (fw_at (by omega) (fw_at (by omega) (fw_at (by omega) (fw_same _ _ _)))), (fw_at (by omega) (fw_at (by omega) (fw_same _ _ _)))⟩, (by simp), (by simp), (by simp), (linc_len ls).symm, (by rw [spa_app]; simp [spa]), (rl_add hu a), (rl_less hb), (jf_add hJ (a, false)), (lf_inc hl h1r)⟩, (fun b hb2 => by
    by_cases hba : b = a
    · subst hba
      rw [gup_same]
      exact ⟨by omega, by omega, (fw_at (by omega) (fw_at (by omega) (fw_at (by omega) (fw_at (by omega) (fw_at (by omega) (fw_at (by omega) (fw_at (by omega) (fw_at (by omega) (fw_at (by omega) (fw_same _ _ _)))))))))), (fw_at (by omega) (fw_at (by omega) (fw_at (by omega) (fw_at (by omega) (fw_at (by omega) (fw_at (by omega) (fw_at (by omega) (fw_at (by omega) (fw_same _ _ _))))))))), (fw_at (by omega) (fw_at (by omega) (fw_at (by omega) (fw_at (by omega) (fw_at (by omega) (fw_at (by omega) (fw_at (by omega) (fw_same _ _ _)))))))), (fw_at (by omega) (fw_at (by omega) (fw_at (by omega) (fw_at (by omega) (fw_at (by omega) (fw_at (by omega) (fw_same _ _ _)))))))⟩
    · have hm : b ∈ us ∨ b ∈ bs ++ [a] ∨ b ∈ J.map (fun x => x.1) := (dk_m_make hba hb2).imp id (Or.imp (fun q => List.mem_append_left _ q) id)
      have h1 := (hco b hm).1
      have h2 := (hco b hm).2.1
      have hsep := cn_sep (hco b hm).2.2 hca.2.2 hba
      rw [gup_ne hba]
      exact ⟨by omega, by omega, (cn_upN (cn_upN (cn_upN (cn_upN (cn_upN (cn_upN (cn_upN (cn_upN (cn_upN (cn_upN (cn_upN (hco b hm).2.2 (by omega)) (by omega)) (by omega)) (by omega)) (by omega)) (by omega)) (by omega)) (by omega)) (by omega)) (by omega)) (by omega))⟩)⟩
set_option maxHeartbeats 4000000 in
theorem dk_make_fresh (l : Launch) (D : va_G) (ta : Nat → ClassId) (B n : Nat) (w : fw_W) (h0 : Nat) (c0 : Nat) (U : Nat) (k : cKey) (L : Nat) (f : Nat → Int32) (ht : Int) (us : List Nat) (bs : List Nat) (J : List (Nat × Bool)) (ls : List Nat) (cx : Nat → cCoin) (v : Int64) (fi : Bool) (hd : dk_at ta n w h0 c0 U k L f ht true (us) ([]) (J) (ls) cx) (hok : dk_ok U us [] J cx) (hms : ∀ b ∈ us, (cx b).1 ≠ k) (hul : us.length < U) (hrc : ls.length ≤ 64) (h1r : 1 ≤ ls.length) (hsc : sc_ok (L, f)) : fw_C l D vwCl (tyL ta) B yX0_make cX0_make 5 (some .int) ({ frames := 4, cells := 4, slots := 212, locals := 86 } : Room) [.ref (h0), .long (v), .int (bI (fi))] n w (fun r w1 n1 => r = some (.int (iI ((0 : Nat) : Int))) ∧ n1 = n + 4 ∧ dk_fr c0 h0 w w1 ∧ ∃ f2 : Nat → Int32, (∀ j, j < L → f2 j = f j) ∧ dk_at ta (n + 4) w1 h0 c0 U (k) (L) (f) (ht) true (us ++ [n]) ([]) (J ++ [(n, false)]) (linc ls) (gup cx n (k, (L, f2), v, iI ht, fi))) := by
  obtain ⟨hc0, hcn, ⟨nu, uf, nb, bf, nj, nr, ns, lf, jf, sb, ⟨e0, e1, e2, e3, e4, e5, e6, e7, e8, e9, e10, e11⟩, rfl, rfl, rfl, rfl, rfl, hu, hb, hJ, hl⟩, hco⟩ := hd
  have hU := hok.1.2
  have hjn := hok.jlen
  have hsl := hok.2.2.2.2.2.2.1
  have h3 := hok.2.2.2.2.2.2.2.1
  have hL := hsc.1
  have hf := hsc.2
  have hbs0 : ([] : List Nat).length = 0 := rfl
  refine fw_C.mono (cm_make_fresh l D ta B n w (h0) (U) (ht) (k) (L) (f) (us.length) (uf) (([]).length) (bf) (J.length) (ls.length) ((spa J).length) (lf) (jf) (sb) (v) (fi) (fun j => us.getD j 0) (fun j => cx (us.getD j 0)) e0 e1 e2 e3 e4 e5 e6 e7 e8 e9 e10 e11 (by omega) (by omega) (fun j hj => ⟨by rw [hu j hj]; simp [List.getD, hj], (hco _ (Or.inl (dk_getD hj))).2.2⟩) (fun j hj => by have := (hco (us.getD j 0) (Or.inl (dk_getD hj))).1; show h0 + 12 ≤ us.getD j 0; omega) (fun j hj => hms _ (dk_getD hj)) (by omega) (by omega) (by omega) (by omega) (by omega) hf rfl) ?_
  rintro r w1 n1 ⟨f2, hf2, rfl, hw1, hn1⟩
  replace hw1 := hw1.symm; replace hn1 := hn1.symm; subst hw1; subst hn1
  refine ⟨rfl, rfl, fun q h1 h2 => ((fw_ne (by omega)).trans ((fw_ne (by omega)).trans ((fw_ne (by omega)).trans ((fw_ne (by omega)).trans ((fw_ne (by omega)).trans ((fw_ne (by omega)).trans ((fw_ne (by omega)).trans ((fw_ne (by omega)).trans ((fw_ne (by omega)).trans (fw_ne (by omega))))))))))), f2, hf2, hc0, Nat.le_trans hcn (by omega), ⟨_, _, _, _, _, _, _, _, _, _, ⟨(fw_at (by omega) (fw_at (by omega) (fw_at (by omega) (fw_at (by omega) (fw_at (by omega) (fw_at (by omega) (fw_at (by omega) (fw_at (by omega) (fw_at (by omega) (fw_at (by omega) e0)))))))))), (fw_at (by omega) (fw_at (by omega) (fw_at (by omega) (fw_at (by omega) (fw_at (by omega) (fw_at (by omega) (fw_at (by omega) (fw_at (by omega) (fw_at (by omega) (fw_at (by omega) e1)))))))))), (fw_at (by omega) (fw_at (by omega) (fw_at (by omega) (fw_at (by omega) (fw_at (by omega) (fw_at (by omega) (fw_at (by omega) (fw_at (by omega) (fw_at (by omega) (fw_at (by omega) e2)))))))))), (fw_at (by omega) (fw_at (by omega) (fw_at (by omega) (fw_at (by omega) (fw_at (by omega) (fw_at (by omega) (fw_at (by omega) (fw_at (by omega) (fw_at (by omega) (fw_at (by omega) e3)))))))))), (fw_at (by omega) (fw_at (by omega) (fw_at (by omega) (fw_at (by omega) (fw_same _ _ _))))), (fw_at (by omega) (fw_at (by omega) (fw_at (by omega) (fw_at (by omega) (fw_at (by omega) (fw_same _ _ _)))))), (fw_at (by omega) (fw_at (by omega) (fw_at (by omega) (fw_at (by omega) (fw_at (by omega) (fw_at (by omega) (fw_at (by omega) (fw_at (by omega) (fw_at (by omega) (fw_at (by omega) e6)))))))))), (fw_at (by omega) (fw_at (by omega) (fw_at (by omega) (fw_at (by omega) (fw_at (by omega) (fw_at (by omega) (fw_at (by omega) (fw_at (by omega) (fw_at (by omega) (fw_at (by omega) e7)))))))))), (fw_at (by omega) (fw_same _ _ _)), (fw_same _ _ _), (fw_at (by omega) (fw_at (by omega) (fw_at (by omega) (fw_same _ _ _)))), (fw_at (by omega) (fw_at (by omega) (fw_same _ _ _)))⟩, (by simp), rfl, (by simp), (linc_len ls).symm, (by rw [spa_app]; simp [spa]), (rl_add hu n), hb, (jf_add hJ (n, false)), (lf_inc hl h1r)⟩, (fun b hb2 => by
    by_cases hba : b = n
    · subst hba
      rw [gup_same]
      exact ⟨by omega, by omega, (fw_at (by omega) (fw_at (by omega) (fw_at (by omega) (fw_at (by omega) (fw_at (by omega) (fw_at (by omega) (fw_at (by omega) (fw_at (by omega) (fw_at (by omega) (fw_same _ _ _)))))))))), (fw_at (by omega) (fw_at (by omega) (fw_at (by omega) (fw_at (by omega) (fw_at (by omega) (fw_at (by omega) (fw_at (by omega) (fw_at (by omega) (fw_same _ _ _))))))))), (fw_at (by omega) (fw_at (by omega) (fw_at (by omega) (fw_at (by omega) (fw_at (by omega) (fw_at (by omega) (fw_at (by omega) (fw_same _ _ _)))))))), (fw_at (by omega) (fw_at (by omega) (fw_at (by omega) (fw_at (by omega) (fw_at (by omega) (fw_at (by omega) (fw_same _ _ _)))))))⟩
    · have hm : b ∈ us ∨ b ∈ ([] : List Nat) ∨ b ∈ J.map (fun x => x.1) := dk_m_make hba hb2
      have h1 := (hco b hm).1
      have h2 := (hco b hm).2.1
      have hsep := (hco b hm).2.1
      rw [gup_ne hba]
      exact ⟨by omega, by omega, (cn_upN (cn_upN (cn_upN (cn_upN (cn_upN (cn_upN (cn_upN (cn_upN (cn_upN (cn_upN (hco b hm).2.2 (by omega)) (by omega)) (by omega)) (by omega)) (by omega)) (by omega)) (by omega)) (by omega)) (by omega)) (by omega))⟩)⟩
set_option maxHeartbeats 4000000 in
theorem dk_forget_o (l : Launch) (D : va_G) (ta : Nat → ClassId) (B n : Nat) (w : fw_W) (h0 : Nat) (c0 : Nat) (U : Nat) (k : cKey) (L : Nat) (f : Nat → Int32) (ht : Int) (us : List Nat) (bs : List Nat) (J : List (Nat × Bool)) (ls : List Nat) (cx : Nat → cCoin) (J1 : List (Nat × Bool)) (hd : dk_at ta n w h0 c0 U k L f ht true (us) (bs) (J1 ++ J) (J1.length :: ls) cx) (hok : dk_ok U us bs (J1 ++ J) cx) (hrc : ls.length < 64) (h1r : 1 ≤ ls.length) : fw_C l D vwCl (tyL ta) B yX0_forget cX0_forget 2 (some .int) ({ frames := 3, cells := 0, slots := 0, locals := 68 } : Room) [.ref (h0)] n w (fun r w1 n1 => r = some (.int (iI (((spa J1).length : Nat) : Int))) ∧ n1 = n ∧ dk_fr c0 h0 w w1 ∧ dk_at ta (n) w1 h0 c0 U (k) (L) (f) (ht) true (us) (bs ++ spa J1) (J) (ls) (cx)) := by
  obtain ⟨hc0, hcn, ⟨nu, uf, nb, bf, nj, nr, ns, lf, jf, sb, ⟨e0, e1, e2, e3, e4, e5, e6, e7, e8, e9, e10, e11⟩, rfl, rfl, rfl, rfl, rfl, hu, hb, hJ, hl⟩, hco⟩ := hd
  have hU := hok.1.2
  have hjn := hok.jlen
  have hsl := hok.2.2.2.2.2.2.1
  have hul := hok.2.2.2.2.2.1
  have h3 := hok.2.2.2.2.2.2.2.1
  have hl0e : lf 0 = J1.length := hl 0 (by simp)
  have hjl : (J1 ++ J).length = J1.length + J.length := List.length_append
  have hlc : (J1.length :: ls).length = ls.length + 1 := rfl
  have hg : ∀ j (h : j < (J1 ++ J).length), ((J1 ++ J).getD j (0, false)).1 = (J1 ++ J)[j].1 := fun j h => by rw [ls_getD _ _ _ h]
  have hsad : sadd (fun j => ((J1 ++ J).getD j (0, false)).1) sb (lf 0) = spa J1 := by
    rw [hl0e]
    refine sadd_spa (fun j hj => ?_)
    have hj2 : j < (J1 ++ J).length := by omega
    have q1 := hg j hj2
    have q2 := (hJ j hj2).2
    rw [List.getElem_append_left hj] at q1 q2
    exact ⟨q1, q2⟩
  have hspl : (spa (J1 ++ J)).length = (spa J1).length + (spa J).length := by rw [spa_app, List.length_append]
  refine fw_C.mono (cm_forget_ok_o l D ta B n w (h0) (U) (ht) (bs) (bf) ((J1 ++ J).length) ((J1.length :: ls).length) ((spa (J1 ++ J)).length) (lf) (jf) (sb) (fun j => ((J1 ++ J).getD j (0, false)).1) (fun j => cx ((J1 ++ J).getD j (0, false)).1) e0 e6 e7 e8 e9 e10 e11 (by omega) (by omega) (by omega) (by omega) (by rw [hl0e]; omega) (by rw [hsad]; omega) (by rw [hsad]; omega) (fun j hj => ⟨by rw [(hJ j hj).1, hg j hj], by
    have q := hg j hj
    have q2 := (hco ((J1 ++ J)[j].1) (Or.inr (Or.inr (List.mem_map.mpr ⟨(J1 ++ J)[j], List.getElem_mem hj, rfl⟩)))).2.2
    rw [← q] at q2
    exact q2⟩) hb) ?_
  rintro r w1 n1 ⟨pf2, f2, s2, l2, hx1, hx2, hx3, rfl, hw1, hn1⟩
  replace hw1 := hw1.symm; replace hn1 := hn1.symm; subst hw1; subst hn1
  rw [hsad] at hx1
  refine ⟨(by rw [hsad]), rfl, fun q h1 h2 => ((fw_ne (by omega)).trans ((fw_ne (by omega)).trans ((fw_ne (by omega)).trans ((fw_ne (by omega)).trans ((fw_ne (by omega)).trans (fw_ne (by omega))))))), hc0, hcn, ⟨_, _, _, _, _, _, _, _, _, _, ⟨(fw_at (by omega) (fw_at (by omega) (fw_at (by omega) (fw_at (by omega) (fw_at (by omega) (fw_at (by omega) e0)))))), (fw_at (by omega) (fw_at (by omega) (fw_at (by omega) (fw_at (by omega) (fw_at (by omega) (fw_at (by omega) e1)))))), (fw_at (by omega) (fw_at (by omega) (fw_at (by omega) (fw_at (by omega) (fw_at (by omega) (fw_at (by omega) e2)))))), (fw_at (by omega) (fw_at (by omega) (fw_at (by omega) (fw_at (by omega) (fw_at (by omega) (fw_at (by omega) e3)))))), (fw_at (by omega) (fw_at (by omega) (fw_at (by omega) (fw_at (by omega) (fw_at (by omega) (fw_at (by omega) e4)))))), (fw_at (by omega) (fw_at (by omega) (fw_at (by omega) (fw_at (by omega) (fw_at (by omega) (fw_at (by omega) e5)))))), (fw_at (by omega) (fw_at (by omega) (fw_at (by omega) (fw_at (by omega) (fw_at (by omega) (fw_same _ _ _)))))), (fw_at (by omega) (fw_at (by omega) (fw_at (by omega) (fw_at (by omega) (fw_same _ _ _))))), (fw_at (by omega) (fw_at (by omega) (fw_at (by omega) (fw_same _ _ _)))), (fw_same _ _ _), (fw_at (by omega) (fw_at (by omega) (fw_same _ _ _))), (fw_at (by omega) (fw_same _ _ _))⟩, rfl, (by rw [hsad, List.length_append]), (by rw [hl0e]; omega), rfl, (by rw [hsad]; omega), hu, hx1, (fun j hj => by
    have q := hx2 j (by rw [hl0e]; omega)
    have q2 := hJ (j + J1.length) (by omega)
    rw [hl0e] at q
    rw [List.getElem_append_right (by omega)] at q2
    simp only [Nat.add_sub_cancel] at q2
    exact ⟨q.1.trans q2.1, q.2.trans q2.2⟩), (fun j hj => by
    have q := hx3 j (by omega)
    have q2 := hl (j + 1) (by omega)
    exact q.trans q2)⟩, (fun a ha => by
    have hm := dk_m_forget ha
    exact ⟨(hco a hm).1, (hco a hm).2.1, (cn_upN (cn_upN (cn_upN (cn_upN (cn_upN (cn_upN (hco a hm).2.2 (Or.inl (by have := (hco a hm).1; omega))) (Or.inl (by have := (hco a hm).1; omega))) (Or.inl (by have := (hco a hm).1; omega))) (Or.inl (by have := (hco a hm).1; omega))) (Or.inl (by have := (hco a hm).1; omega))) (Or.inl (by have := (hco a hm).1; omega)))⟩)⟩
set_option maxHeartbeats 4000000 in
theorem dk_forget_c (l : Launch) (D : va_G) (ta : Nat → ClassId) (B n : Nat) (w : fw_W) (h0 : Nat) (c0 : Nat) (U : Nat) (k : cKey) (L : Nat) (f : Nat → Int32) (ht : Int) (us : List Nat) (bs : List Nat) (J : List (Nat × Bool)) (ls : List Nat) (cx : Nat → cCoin) (J1 : List (Nat × Bool)) (hd : dk_at ta n w h0 c0 U k L f ht false (us) (bs) (J1 ++ J) (J1.length :: ls) cx) (hok : dk_ok U us bs (J1 ++ J) cx) (hrc : ls.length < 64) : fw_C l D vwCl (tyL ta) B yX0_forget cX0_forget 2 (some .int) ({ frames := 3, cells := 0, slots := 0, locals := 68 } : Room) [.ref (h0)] n w (fun r w1 n1 => r = some (.int (iI (((spa J1).length : Nat) : Int))) ∧ n1 = n ∧ dk_fr c0 h0 w w1 ∧ dk_at ta (n) w1 h0 c0 U (k) (L) (f) (ht) false (us) (bs ++ spa J1) (J) (ls) (cx)) := by
  obtain ⟨hc0, hcn, ⟨nu, uf, nb, bf, nj, nr, ns, lf, jf, sb, ⟨e0, e1, e2, e3, e4, e5, e6, e7, e8, e9, e10, e11⟩, rfl, rfl, rfl, rfl, rfl, hu, hb, hJ, hl⟩, hco⟩ := hd
  have hU := hok.1.2
  have hjn := hok.jlen
  have hsl := hok.2.2.2.2.2.2.1
  have hul := hok.2.2.2.2.2.1
  have h3 := hok.2.2.2.2.2.2.2.1
  have hl0e : lf 0 = J1.length := hl 0 (by simp)
  have hjl : (J1 ++ J).length = J1.length + J.length := List.length_append
  have hlc : (J1.length :: ls).length = ls.length + 1 := rfl
  have hg : ∀ j (h : j < (J1 ++ J).length), ((J1 ++ J).getD j (0, false)).1 = (J1 ++ J)[j].1 := fun j h => by rw [ls_getD _ _ _ h]
  have hsad : sadd (fun j => ((J1 ++ J).getD j (0, false)).1) sb (lf 0) = spa J1 := by
    rw [hl0e]
    refine sadd_spa (fun j hj => ?_)
    have hj2 : j < (J1 ++ J).length := by omega
    have q1 := hg j hj2
    have q2 := (hJ j hj2).2
    rw [List.getElem_append_left hj] at q1 q2
    exact ⟨q1, q2⟩
  have hspl : (spa (J1 ++ J)).length = (spa J1).length + (spa J).length := by rw [spa_app, List.length_append]
  refine fw_C.mono (cm_forget_ok_c l D ta B n w (h0) (U) (ht) (bs) (bf) ((J1 ++ J).length) ((J1.length :: ls).length) ((spa (J1 ++ J)).length) (lf) (jf) (sb) (fun j => ((J1 ++ J).getD j (0, false)).1) (fun j => cx ((J1 ++ J).getD j (0, false)).1) e0 e6 e7 e8 e9 e10 e11 (by omega) (by omega) (by omega) (by omega) (by rw [hl0e]; omega) (by rw [hsad]; omega) (by rw [hsad]; omega) (fun j hj => ⟨by rw [(hJ j hj).1, hg j hj], by
    have q := hg j hj
    have q2 := (hco ((J1 ++ J)[j].1) (Or.inr (Or.inr (List.mem_map.mpr ⟨(J1 ++ J)[j], List.getElem_mem hj, rfl⟩)))).2.2
    rw [← q] at q2
    exact q2⟩) hb) ?_
  rintro r w1 n1 ⟨pf2, f2, s2, l2, hx1, hx2, hx3, rfl, hw1, hn1⟩
  replace hw1 := hw1.symm; replace hn1 := hn1.symm; subst hw1; subst hn1
  rw [hsad] at hx1
  refine ⟨(by rw [hsad]), rfl, fun q h1 h2 => ((fw_ne (by omega)).trans ((fw_ne (by omega)).trans ((fw_ne (by omega)).trans ((fw_ne (by omega)).trans ((fw_ne (by omega)).trans (fw_ne (by omega))))))), hc0, hcn, ⟨_, _, _, _, _, _, _, _, _, _, ⟨(fw_at (by omega) (fw_at (by omega) (fw_at (by omega) (fw_at (by omega) (fw_at (by omega) (fw_at (by omega) e0)))))), (fw_at (by omega) (fw_at (by omega) (fw_at (by omega) (fw_at (by omega) (fw_at (by omega) (fw_at (by omega) e1)))))), (fw_at (by omega) (fw_at (by omega) (fw_at (by omega) (fw_at (by omega) (fw_at (by omega) (fw_at (by omega) e2)))))), (fw_at (by omega) (fw_at (by omega) (fw_at (by omega) (fw_at (by omega) (fw_at (by omega) (fw_at (by omega) e3)))))), (fw_at (by omega) (fw_at (by omega) (fw_at (by omega) (fw_at (by omega) (fw_at (by omega) (fw_at (by omega) e4)))))), (fw_at (by omega) (fw_at (by omega) (fw_at (by omega) (fw_at (by omega) (fw_at (by omega) (fw_at (by omega) e5)))))), (fw_at (by omega) (fw_at (by omega) (fw_at (by omega) (fw_at (by omega) (fw_at (by omega) (fw_same _ _ _)))))), (fw_at (by omega) (fw_at (by omega) (fw_at (by omega) (fw_at (by omega) (fw_same _ _ _))))), (fw_at (by omega) (fw_at (by omega) (fw_at (by omega) (fw_same _ _ _)))), (fw_same _ _ _), (fw_at (by omega) (fw_at (by omega) (fw_same _ _ _))), (fw_at (by omega) (fw_same _ _ _))⟩, rfl, (by rw [hsad, List.length_append]), (by rw [hl0e]; omega), rfl, (by rw [hsad]; omega), hu, hx1, (fun j hj => by
    have q := hx2 j (by rw [hl0e]; omega)
    have q2 := hJ (j + J1.length) (by omega)
    rw [hl0e] at q
    rw [List.getElem_append_right (by omega)] at q2
    simp only [Nat.add_sub_cancel] at q2
    exact ⟨q.1.trans q2.1, q.2.trans q2.2⟩), (fun j hj => by
    have q := hx3 j (by omega)
    have q2 := hl (j + 1) (by omega)
    exact q.trans q2)⟩, (fun a ha => by
    have hm := dk_m_forget ha
    exact ⟨(hco a hm).1, (hco a hm).2.1, (cn_upN (cn_upN (cn_upN (cn_upN (cn_upN (cn_upN (hco a hm).2.2 (Or.inl (by have := (hco a hm).1; omega))) (Or.inl (by have := (hco a hm).1; omega))) (Or.inl (by have := (hco a hm).1; omega))) (Or.inl (by have := (hco a hm).1; omega))) (Or.inl (by have := (hco a hm).1; omega))) (Or.inl (by have := (hco a hm).1; omega)))⟩)⟩
theorem dk_undo (l : Launch) (D : va_G) (ta : Nat → ClassId) (B n : Nat) (w : fw_W) (h0 : Nat) (c0 : Nat) (U : Nat) (k : cKey) (L : Nat) (f : Nat → Int32) (ht : Int) (op : Bool) (us : List Nat) (bs : List Nat) (J : List (Nat × Bool)) (ls : List Nat) (cx : Nat → cCoin) (x : Nat × Bool) (hd : dk_at ta n w h0 c0 U k L f ht op us bs (J ++ [x]) ls cx) (hok : dk_ok U us bs (J ++ [x]) cx) : fw_C l D vwCl (tyL ta) B yX0_undoLatest cX0_undoLatest 3 none ({ frames := 3, cells := 0, slots := 0, locals := 67 } : Room) [.ref h0] n w (fun r w1 n1 => r = none ∧ n1 = n ∧ dk_fr c0 h0 w w1 ∧ ∃ us1 bs1 : List Nat, jn_un [x] us bs us1 bs1 ∧ dk_at ta n w1 h0 c0 U k L f ht op us1 bs1 J ls cx ∧ dk_ok U us1 bs1 J cx) := by
  obtain ⟨a, b⟩ := x
  cases b with
  | false =>
    refine fw_C.mono (dk_undo_mk l D ta B n w h0 c0 U k L f ht op us bs J ls cx a hd hok) ?_
    rintro r w1 n1 ⟨rfl, hn1, hfr, us1, hp, hd1⟩
    replace hn1 := hn1.symm
    subst hn1
    exact ⟨rfl, rfl, hfr, us1, bs ++ [a], ⟨us1, hp, rfl, rfl⟩, hd1, hok.unmake hp⟩
  | true =>
    refine fw_C.mono (dk_undo_sp l D ta B n w h0 c0 U k L f ht op us bs J ls cx a hd hok) ?_
    rintro r w1 n1 ⟨rfl, hn1, hfr, hd1⟩
    replace hn1 := hn1.symm
    subst hn1
    exact ⟨rfl, rfl, hfr, us ++ [a], bs, ⟨rfl, rfl⟩, hd1, hok.unspend⟩
set_option maxHeartbeats 4000000 in
set_option maxRecDepth 100000 in
theorem dk_back (l : Launch) (D : va_G) (ta : Nat → ClassId) (B n : Nat) (w : fw_W) (h0 : Nat) (c0 : Nat) (U : Nat) (k : cKey) (L : Nat) (f : Nat → Int32) (ht : Int) (op : Bool) (us : List Nat) (bs : List Nat) (J1 : List (Nat × Bool)) (J2 : List (Nat × Bool)) (ls1 : List Nat) (cx : Nat → cCoin) (hd : dk_at ta n w h0 c0 U k L f ht op us bs (J1 ++ J2) (ls1 ++ [J2.length]) cx) (hok : dk_ok U us bs (J1 ++ J2) cx) (h64 : ls1.length < 64) : fw_C l D vwCl (tyL ta) B yX0_back cX0_back 3 (some .int) ({ frames := 4, cells := 0, slots := 0, locals := 89 } : Room) [.ref (h0)] n w (fun r w1 n1 => r = some (.int (iI ((J2.length : Nat) : Int))) ∧ n1 = n ∧ dk_fr c0 h0 w w1 ∧ ∃ us1 bs1 : List Nat, jn_un J2.reverse us bs us1 bs1 ∧ dk_at ta n w1 h0 c0 U k L f (if op then ht else ht - ((1 : Nat) : Int)) false us1 bs1 J1 ls1 cx ∧ dk_ok U us1 bs1 J1 cx) := by
  refine fw_enter (by decide) (Nat.le_of_ble_eq_true rfl) ?_
  intro p e s m below meth c hx hb hr hml hown hlocks hin hG hts hK H locs hP hS ls hl
  have hown : s.vm.findClass RX0 = some m.cls := hown
  replace hl : lv_has ls 3 [(0, .ref (h0))] := hl
  have hd0 := hd
  obtain ⟨hc0, hcn, ⟨nu, uf, nb, bf, nj, nr, ns, lf, jf, sb, ⟨e0, e1, e2, e3, e4, e5, e6, e7, e8, e9, e10, e11⟩, rfl, rfl, rfl, rfl, rfl, hu, hbb, hJ, hlf⟩, hco⟩ := hd0
  have hlsl : (ls1 ++ [J2.length]).length = ls1.length + 1 := by simp
  have hjb := hok.jlen
  have hUb := hok.1.2
  have hub := hok.2.2.2.2.2.1
  have hsb0 := hok.2.2.2.2.2.2.1
  have hja : (J1 ++ J2).length = J1.length + J2.length := List.length_append
  refine lv_aload_n hx hb dX0_back_0 rfl (lv_at hl 0 rfl) ?_
  refine fw_get (ci := 0) (fs := [.ref (h0 + 1), .ref (h0 + 2), .int (iI (((2 * U : Nat) : Int))), .ref (h0 + 4), .ref (h0 + 6), .ref (h0 + 8), .int (iI (ht)), .int (bI (op))]) (k := 5) (v := .ref (h0 + 8)) (C := RX0) (T := TX0) (N := 8) hx hb hts inFX0 hown hK hP e0 rfl (by decide) mFX0_46 rfl dX0_back_1 ?_
  refine fw_callV (ci := 5) (fs := [.ref (h0 + 10), .ref (h0 + 11), .ref (h0 + 9), .int (iI (((((J1 ++ J2).length) : Nat) : Int))), .int (iI (((((ls1 ++ [J2.length]).length) : Nat) : Int))), .int (iI (((((spa (J1 ++ J2)).length) : Nat) : Int)))]) (T := TX5) (N := 6) (b := h0 + 8) (As := []) (rest := []) hx hb hml hown hts hK hG hP hS hl mM_X5_records mV_X5_records mLX0_122 (cm_Jrn_records l D ta B (n) (w) (h0 + 8) (h0 + 10) (h0 + 11) (h0 + 9) (((J1 ++ J2).length)) (((ls1 ++ [J2.length]).length)) (((spa (J1 ++ J2)).length)) e8 ) e8 rfl rfl rfl (Nat.le_of_ble_eq_true rfl) ⟨Nat.le_of_ble_eq_true rfl, Nat.le_of_ble_eq_true rfl⟩ ⟨Nat.le_of_ble_eq_true rfl, Nat.le_of_ble_eq_true rfl⟩ dX0_back_4 (fun r w1 n1 H locs hq hP hS => ?_)
  obtain ⟨rfl, hw1, hn1⟩ := hq
  replace hw1 := hw1.symm; replace hn1 := hn1.symm; subst hw1; subst hn1
  refine W.eq (g2 := F0 m 7 ls [.int (iI (((((ls1 ++ [J2.length]).length) : Nat) : Int)))]) rfl ?_
  refine lv_iconst (v := (iI (((1 : Nat) : Int)))) hx hb dX0_back_7 rfl ?_
  refine fn_icmp_ge (x := ((((ls1 ++ [J2.length]).length) : Nat) : Int)) (y := ((1 : Nat) : Int)) (tgt := 13) hx hb dX0_back_8 (by decide) ⟨by omega, by omega⟩ ⟨by omega, by omega⟩ (fun c2 => ?_) (fun c2 => False.elim (by omega))
  refine lv_aload_n hx hb dX0_back_13 rfl (lv_at hl 0 rfl) ?_
  refine fw_get (ci := 0) (fs := [.ref (h0 + 1), .ref (h0 + 2), .int (iI (((2 * U : Nat) : Int))), .ref (h0 + 4), .ref (h0 + 6), .ref (h0 + 8), .int (iI (ht)), .int (bI (op))]) (k := 5) (v := .ref (h0 + 8)) (C := RX0) (T := TX0) (N := 8) hx hb hts inFX0 hown hK hP e0 rfl (by decide) mFX0_46 rfl dX0_back_14 ?_
  refine fw_callV (ci := 5) (fs := [.ref (h0 + 10), .ref (h0 + 11), .ref (h0 + 9), .int (iI (((((J1 ++ J2).length) : Nat) : Int))), .int (iI (((((ls1 ++ [J2.length]).length) : Nat) : Int))), .int (iI (((((spa (J1 ++ J2)).length) : Nat) : Int)))]) (T := TX5) (N := 6) (b := h0 + 8) (As := []) (rest := []) hx hb hml hown hts hK hG hP hS hl mM_X5_latestLength mV_X5_latestLength mLX0_119 (cm_Jrn_latestLength l D ta B (n) (w) (h0 + 8) (h0 + 10) (h0 + 11) (h0 + 9) (((J1 ++ J2).length)) (((ls1 ++ [J2.length]).length)) (((spa (J1 ++ J2)).length)) (lf) e8 e9 (by omega) (by omega)) e8 rfl rfl rfl (Nat.le_of_ble_eq_true rfl) ⟨Nat.le_of_ble_eq_true rfl, Nat.le_of_ble_eq_true rfl⟩ ⟨Nat.le_of_ble_eq_true rfl, Nat.le_of_ble_eq_true rfl⟩ dX0_back_17 (fun r w3 n1 H locs hq hP hS => ?_)
  obtain ⟨rfl, hw1, hn1⟩ := hq
  replace hw1 := hw1.symm; replace hn1 := hn1.symm; subst hw1; subst hn1
  refine W.eq (g2 := F0 m 20 ls [.int (iI (((lf (((ls1 ++ [J2.length]).length) - 1) : Nat) : Int)))]) rfl ?_
  refine fn_topz (y := ((J2.length : Nat) : Int)) (by rw [lf_last hlf]) ?_
  refine lv_istore_n (lv' := [(1, .int (iI (((J2.length : Nat) : Int)))), (0, .ref (h0))]) hx hb dX0_back_20 rfl hl (by decide) rfl (fun ls hl => ?_)
  refine lv_iconst (v := (iI (((0 : Nat) : Int)))) hx hb dX0_back_21 rfl ?_
  refine lv_istore_n (lv' := [(2, .int (iI (((0 : Nat) : Int)))), (1, .int (iI (((J2.length : Nat) : Int)))), (0, .ref (h0))]) hx hb dX0_back_22 rfl hl (by decide) rfl (fun ls hl => ?_)
  have lp : ∀ (i : Nat) (v : fw_W) (us1 bs1 : List Nat) (K K2 : List (Nat × Bool)) (H : Heap) (locs : List Loc) (ls : Array Slot), K.length + i = J2.length → J2 = K ++ K2 → jn_un K2.reverse us bs us1 bs1 → dk_at ta n v h0 c0 U k L f ht op us1 bs1 (J1 ++ K) (ls1 ++ [J2.length]) cx → dk_ok U us1 bs1 (J1 ++ K) cx → dk_fr c0 h0 w v → lv_has ls 3 [(2, .int (iI (((i : Nat) : Int)))), (1, .int (iI (((J2.length : Nat) : Int)))), (0, .ref (h0))] → fw_P D vwCl B n v H → fw_S B s.heap H locs → fw_K p l e ({ frames := 4, cells := 0, slots := 0, locals := 89 } : Room) s m [.ref (h0)] below meth c D vwCl B (fun r w1 n1 => r = some (.int (iI ((J2.length : Nat) : Int))) ∧ n1 = n ∧ dk_fr c0 h0 w w1 ∧ ∃ us1 bs1 : List Nat, jn_un J2.reverse us bs us1 bs1 ∧ dk_at ta n w1 h0 c0 U k L f (if op then ht else ht - ((1 : Nat) : Int)) false us1 bs1 J1 ls1 cx ∧ dk_ok U us1 bs1 J1 cx) H locs (0 + 0 + 0) (0 + 0 + 0) (F0 m 23 ls []) := by
    refine fw_loop (fun i : Nat => J2.length - i) ?_
    intro i ih v us1 bs1 K K2 H locs ls hKi hJK hun hd hok hfr hl hP hS
    have hd0 := hd
    obtain ⟨hc0, hcn, ⟨nu, uf, nb, bf, nj, nr, ns, lf, jf, sb, ⟨e0, e1, e2, e3, e4, e5, e6, e7, e8, e9, e10, e11⟩, rfl, rfl, rfl, rfl, rfl, hu, hbb, hJ, hlf⟩, hco⟩ := hd0
    refine lv_iload_n hx hb dX0_back_23 rfl (lv_at hl 0 rfl) ?_
    refine lv_iload_n hx hb dX0_back_24 rfl (lv_at hl 1 rfl) ?_
    refine fn_icmp_ge (x := ((i : Nat) : Int)) (y := ((J2.length : Nat) : Int)) (tgt := 38) hx hb dX0_back_25 (by decide) ⟨by omega, by omega⟩ ⟨by omega, by omega⟩ (fun c4 => ?_) (fun c4 => ?_)
    · refine lv_aload_n hx hb dX0_back_38 rfl (lv_at hl 2 rfl) ?_
      refine fw_get (ci := 0) (fs := [.ref (h0 + 1), .ref (h0 + 2), .int (iI (((2 * U : Nat) : Int))), .ref (h0 + 4), .ref (h0 + 6), .ref (h0 + 8), .int (iI (ht)), .int (bI (op))]) (k := 5) (v := .ref (h0 + 8)) (C := RX0) (T := TX0) (N := 8) hx hb hts inFX0 hown hK hP e0 rfl (by decide) mFX0_46 rfl dX0_back_39 ?_
      refine fw_callV (ci := 5) (fs := [.ref (h0 + 10), .ref (h0 + 11), .ref (h0 + 9), .int (iI (((((J1 ++ K).length) : Nat) : Int))), .int (iI (((((ls1 ++ [J2.length]).length) : Nat) : Int))), .int (iI (((((spa (J1 ++ K)).length) : Nat) : Int)))]) (T := TX5) (N := 6) (b := h0 + 8) (As := []) (rest := []) hx hb hml hown hts hK hG hP hS hl mM_X5_dropLatestRecord mV_X5_dropLatestRecord mLX0_128 (cm_Jrn_dropLatest l D ta B (n) (v) (h0 + 8) (h0 + 10) (h0 + 11) (h0 + 9) (((J1 ++ K).length)) (((ls1 ++ [J2.length]).length)) (((spa (J1 ++ K)).length)) e8 (by omega) (by omega)) e8 rfl rfl rfl (Nat.le_of_ble_eq_true rfl) ⟨Nat.le_of_ble_eq_true rfl, Nat.le_of_ble_eq_true rfl⟩ ⟨Nat.le_of_ble_eq_true rfl, Nat.le_of_ble_eq_true rfl⟩ dX0_back_42 (fun r w5 n1 H locs hq hP hS => ?_)
      obtain ⟨rfl, hw1, hn1⟩ := hq
      replace hw1 := hw1.symm; replace hn1 := hn1.symm; subst hw1; subst hn1
      refine W.eq (g2 := F0 m 45 ls []) rfl ?_
      have hP : fw_P D vwCl B (n) (fw_up (v) (h0 + 8) (.inr (5, [.ref (h0 + 10), .ref (h0 + 11), .ref (h0 + 9), .int (iI (((((J1 ++ K).length) : Nat) : Int))), .int (iI (((((ls1 ++ [J2.length]).length) - 1 : Nat) : Int))), .int (iI (((((spa (J1 ++ K)).length) : Nat) : Int)))]))) H := hP
      refine lv_aload_n hx hb dX0_back_45 rfl (lv_at hl 2 rfl) ?_
      refine fw_get (ci := 0) (fs := [.ref (h0 + 1), .ref (h0 + 2), .int (iI (((2 * U : Nat) : Int))), .ref (h0 + 4), .ref (h0 + 6), .ref (h0 + 8), .int (iI (ht)), .int (bI (op))]) (k := 7) (v := .int (bI (op))) (C := RX0) (T := TX0) (N := 8) hx hb hts inFX0 hown hK hP (fw_at (by omega) e0) rfl (by decide) mFX0_65 rfl dX0_back_46 ?_
      refine fn_bif_eq (x := op) (tgt := 60) hx hb dX0_back_49 (by decide) (fun c6 => ?_) (fun c6 => ?_)
      · refine lv_aload_n hx hb dX0_back_60 rfl (lv_at hl 2 rfl) ?_
        refine lv_dup hx hb dX0_back_61 rfl ?_
        refine fw_get (ci := 0) (fs := [.ref (h0 + 1), .ref (h0 + 2), .int (iI (((2 * U : Nat) : Int))), .ref (h0 + 4), .ref (h0 + 6), .ref (h0 + 8), .int (iI (ht)), .int (bI (op))]) (k := 6) (v := .int (iI (ht))) (C := RX0) (T := TX0) (N := 8) hx hb hts inFX0 hown hK hP (fw_at (by omega) e0) rfl (by decide) mFX0_84 rfl dX0_back_62 ?_
        refine lv_iconst (v := (iI (((1 : Nat) : Int)))) hx hb dX0_back_65 rfl ?_
        refine fn_isub (x := ht) (y := ((1 : Nat) : Int)) hx hb dX0_back_66 ?_
        refine fw_put (ci := 0) (fs := [.ref (h0 + 1), .ref (h0 + 2), .int (iI (((2 * U : Nat) : Int))), .ref (h0 + 4), .ref (h0 + 6), .ref (h0 + 8), .int (iI (ht)), .int (bI (op))]) (k := 6) (v := .int (iI ((ht) - ((1 : Nat) : Int)))) (C := RX0) (T := TX0) (N := 8) hx hb hts inFX0 tyX0 tyX0_ok nmX0 hown hK hP hS (fw_at (by omega) e0) rfl (by decide) mFX0_84 rfl rfl rfl rfl (Nat.le_of_ble_eq_true rfl) dX0_back_67 (fun H locs hP hS => ?_)
        have hP : fw_P D vwCl B (n) (fw_up (fw_up (v) (h0 + 8) (.inr (5, [.ref (h0 + 10), .ref (h0 + 11), .ref (h0 + 9), .int (iI (((((J1 ++ K).length) : Nat) : Int))), .int (iI (((((ls1 ++ [J2.length]).length) - 1 : Nat) : Int))), .int (iI (((((spa (J1 ++ K)).length) : Nat) : Int)))]))) (h0) (.inr (0, [.ref (h0 + 1), .ref (h0 + 2), .int (iI (((2 * U : Nat) : Int))), .ref (h0 + 4), .ref (h0 + 6), .ref (h0 + 8), .int (iI ((ht) - ((1 : Nat) : Int))), .int (bI (op))]))) H := hP
        refine lv_iload_n hx hb dX0_back_70 rfl (lv_at hl 1 rfl) ?_
        exact fw_iret hx hb hr hlocks hP hS dX0_back_71 (Nat.le_of_ble_eq_true rfl) (Nat.le_of_ble_eq_true rfl) (by
        obtain rfl : K = [] := List.length_eq_zero_iff.mp (by omega)
        obtain rfl : J2 = K2 := hJK
        rw [List.append_nil] at hok hJ hco
        subst c6
        refine ⟨rfl, rfl, fun q h1 h2 => ((fw_ne (by omega)).trans ((fw_ne (by omega)).trans (hfr q h1 h2))), us1, bs1, hun, ⟨hc0, hcn, ⟨_, _, _, _, _, _, _, _, _, _, ⟨(fw_same _ _ _), (fw_at (by omega) (fw_at (by omega) e1)), (fw_at (by omega) (fw_at (by omega) e2)), (fw_at (by omega) (fw_at (by omega) e3)), (fw_at (by omega) (fw_at (by omega) e4)), (fw_at (by omega) (fw_at (by omega) e5)), (fw_at (by omega) (fw_at (by omega) e6)), (fw_at (by omega) (fw_at (by omega) e7)), (fw_at (by omega) (fw_same _ _ _)), (fw_at (by omega) (fw_at (by omega) e9)), (fw_at (by omega) (fw_at (by omega) e10)), (fw_at (by omega) (fw_at (by omega) e11))⟩, rfl, rfl, by rw [List.append_nil], by simp, by rw [List.append_nil], hu, hbb, hJ, lf_less hlf⟩, fun a ha => ⟨(hco a ha).1, (hco a ha).2.1, (cn_upN (cn_upN (hco a ha).2.2 (Or.inl (by have := (hco a ha).1; omega))) (Or.inl (by have := (hco a ha).1; omega)))⟩⟩, hok⟩)
      · refine lv_aload_n hx hb dX0_back_52 rfl (lv_at hl 2 rfl) ?_
        refine lv_iconst (v := (iI (((0 : Nat) : Int)))) hx hb dX0_back_53 rfl ?_
        refine fw_put (ci := 0) (fs := [.ref (h0 + 1), .ref (h0 + 2), .int (iI (((2 * U : Nat) : Int))), .ref (h0 + 4), .ref (h0 + 6), .ref (h0 + 8), .int (iI (ht)), .int (bI (op))]) (k := 7) (v := .int (bI (false))) (C := RX0) (T := TX0) (N := 8) hx hb hts inFX0 tyX0 tyX0_ok nmX0 hown hK hP hS (fw_at (by omega) e0) rfl (by decide) mFX0_65 rfl rfl (bI_narrow _) (bI_fits _) (Nat.le_of_ble_eq_true rfl) dX0_back_54 (fun H locs hP hS => ?_)
        have hP : fw_P D vwCl B (n) (fw_up (fw_up (v) (h0 + 8) (.inr (5, [.ref (h0 + 10), .ref (h0 + 11), .ref (h0 + 9), .int (iI (((((J1 ++ K).length) : Nat) : Int))), .int (iI (((((ls1 ++ [J2.length]).length) - 1 : Nat) : Int))), .int (iI (((((spa (J1 ++ K)).length) : Nat) : Int)))]))) (h0) (.inr (0, [.ref (h0 + 1), .ref (h0 + 2), .int (iI (((2 * U : Nat) : Int))), .ref (h0 + 4), .ref (h0 + 6), .ref (h0 + 8), .int (iI (ht)), .int (bI (false))]))) H := hP
        refine lv_goto (tgt := 70) hx hb dX0_back_57 (by decide) ?_
        refine lv_iload_n hx hb dX0_back_70 rfl (lv_at hl 1 rfl) ?_
        exact fw_iret hx hb hr hlocks hP hS dX0_back_71 (Nat.le_of_ble_eq_true rfl) (Nat.le_of_ble_eq_true rfl) (by
        obtain rfl : K = [] := List.length_eq_zero_iff.mp (by omega)
        obtain rfl : J2 = K2 := hJK
        rw [List.append_nil] at hok hJ hco
        subst c6
        refine ⟨rfl, rfl, fun q h1 h2 => ((fw_ne (by omega)).trans ((fw_ne (by omega)).trans (hfr q h1 h2))), us1, bs1, hun, ⟨hc0, hcn, ⟨_, _, _, _, _, _, _, _, _, _, ⟨(fw_same _ _ _), (fw_at (by omega) (fw_at (by omega) e1)), (fw_at (by omega) (fw_at (by omega) e2)), (fw_at (by omega) (fw_at (by omega) e3)), (fw_at (by omega) (fw_at (by omega) e4)), (fw_at (by omega) (fw_at (by omega) e5)), (fw_at (by omega) (fw_at (by omega) e6)), (fw_at (by omega) (fw_at (by omega) e7)), (fw_at (by omega) (fw_same _ _ _)), (fw_at (by omega) (fw_at (by omega) e9)), (fw_at (by omega) (fw_at (by omega) e10)), (fw_at (by omega) (fw_at (by omega) e11))⟩, rfl, rfl, by rw [List.append_nil], by simp, by rw [List.append_nil], hu, hbb, hJ, lf_less hlf⟩, fun a ha => ⟨(hco a ha).1, (hco a ha).2.1, (cn_upN (cn_upN (hco a ha).2.2 (Or.inl (by have := (hco a ha).1; omega))) (Or.inl (by have := (hco a ha).1; omega)))⟩⟩, hok⟩)
    · refine lv_aload_n hx hb dX0_back_28 rfl (lv_at hl 2 rfl) ?_
      obtain ⟨K1, x, rfl⟩ : ∃ K1 x, K = K1 ++ [x] := ⟨K.dropLast, K.getLast (fun q => by rw [q] at hKi; simp at hKi; omega), (List.dropLast_concat_getLast _).symm⟩
      rw [← List.append_assoc] at hd hok
      refine fw_callV (ci := 0) (fs := [.ref (h0 + 1), .ref (h0 + 2), .int (iI (((2 * U : Nat) : Int))), .ref (h0 + 4), .ref (h0 + 6), .ref (h0 + 8), .int (iI (ht)), .int (bI (op))]) (T := TX0) (N := 8) (b := h0) (As := []) (rest := []) hx hb hml hown hts hK hG hP hS hl mM_X0_undoLatest mV_X0_undoLatest mLX0_125 (dk_undo l D ta B n v h0 c0 U k L f ht op us1 bs1 (J1 ++ K1) (ls1 ++ [J2.length]) cx x hd hok) e0 rfl rfl rfl (Nat.le_of_ble_eq_true rfl) ⟨Nat.le_of_ble_eq_true rfl, Nat.le_of_ble_eq_true rfl⟩ ⟨Nat.le_of_ble_eq_true rfl, Nat.le_of_ble_eq_true rfl⟩ dX0_back_29 (fun r v1 n1 H locs hq hP hS => ?_)
      obtain ⟨rfl, hn1, hfr1, us2, bs2, hun1, hd1, hok1⟩ := hq
      replace hn1 := hn1.symm; subst hn1
      refine W.eq (g2 := F0 m 32 ls []) rfl ?_
      refine lv_iinc (k := 0) (v := (iI (((i + 1 : Nat) : Int)))) (lv' := [(2, .int (iI (((i + 1 : Nat) : Int)))), (1, .int (iI (((J2.length : Nat) : Int)))), (0, .ref (h0))]) hx hb dX0_back_32 hl rfl (iI_inc _ 1) (by decide) rfl (fun ls hl => ?_)
      refine lv_goto (tgt := 23) hx hb dX0_back_35 (by decide) ?_
      exact ih (i + 1) (by simp at hKi; omega) v1 us2 bs2 K1 (x :: K2) H locs ls (by simp at hKi; omega) (by rw [hJK]; simp) (by rw [List.reverse_cons]; exact jn_un_trans _ _ _ _ _ _ _ _ hun hun1) hd1 hok1 (fun q h1 h2 => (hfr1 q h1 h2).trans (hfr q h1 h2)) hl hP hS
  exact lp 0 w us bs J2 [] H locs ls (by simp) (List.append_nil J2).symm ⟨rfl, rfl⟩ hd hok (fun q _ _ => rfl) hl hP hS
