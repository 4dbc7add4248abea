set_option maxHeartbeats 4000000 in
theorem dk_put_no (l : Launch) (D : va_G) (ta : Nat → ClassId) (B n : Nat) (w : fw_W) (h0 : Nat) (c0 : Nat) (U : Nat) (k : cKey) (L : Nat) (f : Nat → Int32) (ht : Int) (op : Bool) (us : List Nat) (bs : List Nat) (J : List (Nat × Bool)) (ls : List Nat) (cx : Nat → cCoin) (v : Int64) (z : Int) (hd : dk_at ta n w h0 c0 U k L f ht op us bs J ls cx) (hL : L ≤ 200) (hz : iK z) (hno : ¬ (1 ≤ z ∧ z ≤ 8 ∧ z + ((L : Nat) : Int) ≤ 200)) : fw_C l D vwCl (tyL ta) B yX0_put cX0_put 5 (some .boolean) ({ frames := 1, cells := 0, slots := 0, locals := 21 } : Room) [.ref (h0), .long (v), .int (iI (z))] n w (fun r w1 n1 => r = some (.int (bI (false))) ∧ w1 = w ∧ n1 = n) := by
  obtain ⟨hc0, hcn, ⟨nu, uf, nb, bf, nj, nr, ns, lf, jf, sb, ⟨e0, e1, e2, e3, e4, e5, e6, e7, e8, e9, e10, e11⟩, rfl, rfl, rfl, rfl, rfl, hu, hb, hJ, hl⟩, hco⟩ := hd
  exact cm_Desk_put_no l D ta B n w (h0) (U) (ht) (L) (f) (op) (v) (z) e0 e2 e3 (by omega) hz hno
set_option maxHeartbeats 4000000 in
theorem dk_begin_twice (l : Launch) (D : va_G) (ta : Nat → ClassId) (B n : Nat) (w : fw_W) (h0 : Nat) (c0 : Nat) (U : Nat) (k : cKey) (L : Nat) (f : Nat → Int32) (ht : Int) (us : List Nat) (bs : List Nat) (J : List (Nat × Bool)) (ls : List Nat) (cx : Nat → cCoin)  (hd : dk_at ta n w h0 c0 U k L f ht true us bs J ls cx)  : fw_C l D vwCl (tyL ta) B yX0_begin cX0_begin 1 (some .boolean) ({ frames := 1, cells := 0, slots := 0, locals := 20 } : Room) [.ref (h0)] n w (fun r w1 n1 => r = some (.int (bI (false))) ∧ w1 = w ∧ n1 = n) := by
  obtain ⟨hc0, hcn, ⟨nu, uf, nb, bf, nj, nr, ns, lf, jf, sb, ⟨e0, e1, e2, e3, e4, e5, e6, e7, e8, e9, e10, e11⟩, rfl, rfl, rfl, rfl, rfl, hu, hb, hJ, hl⟩, hco⟩ := hd
  exact cm_Desk_begin_twice l D ta B n w (h0) (U) (ht) e0 
set_option maxHeartbeats 4000000 in
theorem dk_begin_full (l : Launch) (D : va_G) (ta : Nat → ClassId) (B n : Nat) (w : fw_W) (h0 : Nat) (c0 : Nat) (U : Nat) (k : cKey) (L : Nat) (f : Nat → Int32) (ht : Int) (us : List Nat) (bs : List Nat) (J : List (Nat × Bool)) (ls : List Nat) (cx : Nat → cCoin)  (hd : dk_at ta n w h0 c0 U k L f ht false us bs J ls cx) (hrc : ls.length ≤ 64) (hfl : 64 ≤ ls.length) : fw_C l D vwCl (tyL ta) B yX0_begin cX0_begin 1 (some .boolean) ({ frames := 1, cells := 0, slots := 0, locals := 20 } : Room) [.ref (h0)] n w (fun r w1 n1 => r = some (.int (bI (false))) ∧ w1 = w ∧ n1 = n) := by
  obtain ⟨hc0, hcn, ⟨nu, uf, nb, bf, nj, nr, ns, lf, jf, sb, ⟨e0, e1, e2, e3, e4, e5, e6, e7, e8, e9, e10, e11⟩, rfl, rfl, rfl, rfl, rfl, hu, hb, hJ, hl⟩, hco⟩ := hd
  exact cm_Desk_begin_full l D ta B n w (h0) (U) (ht) (J.length) (ls.length) ((spa J).length) (lf) e0 e8 e9 (by omega) (by omega)
set_option maxHeartbeats 4000000 in
theorem dk_make_closed (l : Launch) (D : va_G) (ta : Nat → ClassId) (B n : Nat) (w : fw_W) (h0 : Nat) (c0 : Nat) (U : Nat) (k : cKey) (L : Nat) (f : Nat → Int32) (ht : Int) (us : List Nat) (bs : List Nat) (J : List (Nat × Bool)) (ls : List Nat) (cx : Nat → cCoin) (v : Int64) (fi : Bool) (hd : dk_at ta n w h0 c0 U k L f ht false us bs J ls cx)  : fw_C l D vwCl (tyL ta) B yX0_make cX0_make 5 (some .int) ({ frames := 4, cells := 4, slots := 212, locals := 86 } : Room) [.ref (h0), .long (v), .int (bI (fi))] n w (fun r w1 n1 => r = some (.int (iI (((1 : Nat) : Int)))) ∧ w1 = w ∧ n1 = n) := by
  obtain ⟨hc0, hcn, ⟨nu, uf, nb, bf, nj, nr, ns, lf, jf, sb, ⟨e0, e1, e2, e3, e4, e5, e6, e7, e8, e9, e10, e11⟩, rfl, rfl, rfl, rfl, rfl, hu, hb, hJ, hl⟩, hco⟩ := hd
  exact cm_make_closed l D ta B n w (h0) (U) (ht) (v) (fi) e0 
set_option maxHeartbeats 4000000 in
theorem dk_make_dup (l : Launch) (D : va_G) (ta : Nat → ClassId) (B n : Nat) (w : fw_W) (h0 : Nat) (c0 : Nat) (U : Nat) (k : cKey) (L : Nat) (f : Nat → Int32) (ht : Int) (us : List Nat) (bs : List Nat) (J : List (Nat × Bool)) (ls : List Nat) (cx : Nat → cCoin) (v : Int64) (fi : Bool) (a : Nat) (hd : dk_at ta n w h0 c0 U k L f ht true us bs J ls cx) (hok : dk_ok U us bs J cx) (ha : a ∈ us) (hka : (cx a).1 = k) : fw_C l D vwCl (tyL ta) B yX0_make cX0_make 5 (some .int) ({ frames := 4, cells := 4, slots := 212, locals := 86 } : Room) [.ref (h0), .long (v), .int (bI (fi))] n w (fun r w1 n1 => r = some (.int (iI (((2 : Nat) : Int)))) ∧ w1 = w ∧ n1 = n) := by
  obtain ⟨hc0, hcn, ⟨nu, uf, nb, bf, nj, nr, ns, lf, jf, sb, ⟨e0, e1, e2, e3, e4, e5, e6, e7, e8, e9, e10, e11⟩, rfl, rfl, rfl, rfl, rfl, hu, hb, hJ, hl⟩, hco⟩ := hd
  obtain ⟨j, hj, hja⟩ := List.getElem_of_mem ha
  obtain rfl : us.getD j 0 = a := by simp [List.getD, hj, hja]
  have huq : ∀ i, i < us.length → (cx (us.getD i 0)).1 = (cx (us.getD j 0)).1 → i = j := fun i hi e => dk_uniq hok.2.2.2.2.1 hi hj e
  have hU := hok.1.2
  have hul := hok.2.2.2.2.2.1
  exact cm_make_dup l D ta B n w (h0) (U) (ht) (k) (us.length) (uf) (v) (fi) (fun j => us.getD j 0) (fun j => cx (us.getD j 0)) (j) e0 e1 e4 e5 (by omega) (by omega) (fun j hj => ⟨by rw [hu j hj]; simp [List.getD, hj], (hco _ (Or.inl (dk_getD hj))).2.2⟩) hj hka (fun i hi e => huq i hi (e.trans hka.symm))
set_option maxHeartbeats 4000000 in
theorem dk_make_full (l : Launch) (D : va_G) (ta : Nat → ClassId) (B n : Nat) (w : fw_W) (h0 : Nat) (c0 : Nat) (U : Nat) (k : cKey) (L : Nat) (f : Nat → Int32) (ht : Int) (us : List Nat) (bs : List Nat) (J : List (Nat × Bool)) (ls : List Nat) (cx : Nat → cCoin) (v : Int64) (fi : Bool) (hd : dk_at ta n w h0 c0 U k L f ht true us bs J ls cx) (hok : dk_ok U us bs J cx) (hms : ∀ b ∈ us, (cx b).1 ≠ k) (hfu : U ≤ us.length) : fw_C l D vwCl (tyL ta) B yX0_make cX0_make 5 (some .int) ({ frames := 4, cells := 4, slots := 212, locals := 86 } : Room) [.ref (h0), .long (v), .int (bI (fi))] n w (fun r w1 n1 => r = some (.int (iI (((3 : Nat) : Int)))) ∧ w1 = w ∧ n1 = n) := by
  obtain ⟨hc0, hcn, ⟨nu, uf, nb, bf, nj, nr, ns, lf, jf, sb, ⟨e0, e1, e2, e3, e4, e5, e6, e7, e8, e9, e10, e11⟩, rfl, rfl, rfl, rfl, rfl, hu, hb, hJ, hl⟩, hco⟩ := hd
  have hU := hok.1.2
  have hul := hok.2.2.2.2.2.1
  exact cm_make_full l D ta B n w (h0) (U) (ht) (k) (us.length) (uf) (v) (fi) (fun j => us.getD j 0) (fun j => cx (us.getD j 0)) e0 e1 e4 e5 (by omega) (by omega) (fun j hj => ⟨by rw [hu j hj]; simp [List.getD, hj], (hco _ (Or.inl (dk_getD hj))).2.2⟩) (fun j hj => hms _ (dk_getD hj)) (by omega)
set_option maxHeartbeats 4000000 in
theorem dk_spend_closed (l : Launch) (D : va_G) (ta : Nat → ClassId) (B n : Nat) (w : fw_W) (h0 : Nat) (c0 : Nat) (U : Nat) (k : cKey) (L : Nat) (f : Nat → Int32) (ht : Int) (us : List Nat) (bs : List Nat) (J : List (Nat × Bool)) (ls : List Nat) (cx : Nat → cCoin)  (hd : dk_at ta n w h0 c0 U k L f ht false us bs J ls cx)  : fw_C l D vwCl (tyL ta) B yX0_spend cX0_spend 2 (some .int) ({ frames := 4, cells := 0, slots := 0, locals := 86 } : Room) [.ref (h0)] n w (fun r w1 n1 => r = some (.int (iI (((1 : Nat) : Int)))) ∧ w1 = w ∧ n1 = n) := by
  obtain ⟨hc0, hcn, ⟨nu, uf, nb, bf, nj, nr, ns, lf, jf, sb, ⟨e0, e1, e2, e3, e4, e5, e6, e7, e8, e9, e10, e11⟩, rfl, rfl, rfl, rfl, rfl, hu, hb, hJ, hl⟩, hco⟩ := hd
  exact cm_spend_closed l D ta B n w (h0) (U) (ht) e0 
set_option maxHeartbeats 4000000 in
theorem dk_spend_miss (l : Launch) (D : va_G) (ta : Nat → ClassId) (B n : Nat) (w : fw_W) (h0 : Nat) (c0 : Nat) (U : Nat) (k : cKey) (L : Nat) (f : Nat → Int32) (ht : Int) (us : List Nat) (bs : List Nat) (J : List (Nat × Bool)) (ls : List Nat) (cx : Nat → cCoin)  (hd : dk_at ta n w h0 c0 U k L f ht true us bs J ls cx) (hok : dk_ok U us bs J cx) (hms : ∀ b ∈ us, (cx b).1 ≠ k) : fw_C l D vwCl (tyL ta) B yX0_spend cX0_spend 2 (some .int) ({ frames := 4, cells := 0, slots := 0, locals := 86 } : Room) [.ref (h0)] n w (fun r w1 n1 => r = some (.int (iI (((2 : Nat) : Int)))) ∧ w1 = w ∧ n1 = n) := by
  obtain ⟨hc0, hcn, ⟨nu, uf, nb, bf, nj, nr, ns, lf, jf, sb, ⟨e0, e1, e2, e3, e4, e5, e6, e7, e8, e9, e10, e11⟩, rfl, rfl, rfl, rfl, rfl, hu, hb, hJ, hl⟩, hco⟩ := hd
  have hU := hok.1.2
  have hul := hok.2.2.2.2.2.1
  exact cm_spend_miss l D ta B n w (h0) (U) (ht) (k) (us.length) (uf) (fun j => us.getD j 0) (fun j => cx (us.getD j 0)) e0 e1 e4 e5 (by omega) (by omega) (fun j hj => ⟨by rw [hu j hj]; simp [List.getD, hj], (hco _ (Or.inl (dk_getD hj))).2.2⟩) (fun j hj => hms _ (dk_getD hj))
set_option maxHeartbeats 4000000 in
theorem dk_spend_noroom (l : Launch) (D : va_G) (ta : Nat → ClassId) (B n : Nat) (w : fw_W) (h0 : Nat) (c0 : Nat) (U : Nat) (k : cKey) (L : Nat) (f : Nat → Int32) (ht : Int) (us : List Nat) (bs : List Nat) (J : List (Nat × Bool)) (ls : List Nat) (cx : Nat → cCoin) (a : Nat) (hd : dk_at ta n w h0 c0 U k L f ht true us bs J ls cx) (hok : dk_ok U us bs J cx) (ha : a ∈ us) (hka : (cx a).1 = k) (hns : 2 * U ≤ (spa J).length) : fw_C l D vwCl (tyL ta) B yX0_spend cX0_spend 2 (some .int) ({ frames := 4, cells := 0, slots := 0, locals := 86 } : Room) [.ref (h0)] n w (fun r w1 n1 => r = some (.int (iI (((3 : Nat) : Int)))) ∧ w1 = w ∧ n1 = n) := by
  obtain ⟨hc0, hcn, ⟨nu, uf, nb, bf, nj, nr, ns, lf, jf, sb, ⟨e0, e1, e2, e3, e4, e5, e6, e7, e8, e9, e10, e11⟩, rfl, rfl, rfl, rfl, rfl, hu, hb, hJ, hl⟩, hco⟩ := hd
  obtain ⟨j, hj, hja⟩ := List.getElem_of_mem ha
  obtain rfl : us.getD j 0 = a := by simp [List.getD, hj, hja]
  have huq : ∀ i, i < us.length → (cx (us.getD i 0)).1 = (cx (us.getD j 0)).1 → i = j := fun i hi e => dk_uniq hok.2.2.2.2.1 hi hj e
  have hU := hok.1.2
  have hul := hok.2.2.2.2.2.1
  have hsl := hok.2.2.2.2.2.2.1
  exact cm_spend_noroom l D ta B n w (h0) (U) (ht) (k) (us.length) (uf) (J.length) (ls.length) ((spa J).length) (fun j => us.getD j 0) (fun j => cx (us.getD j 0)) (j) e0 e1 e4 e5 e8 (by omega) (by omega) (fun j hj => ⟨by rw [hu j hj]; simp [List.getD, hj], (hco _ (Or.inl (dk_getD hj))).2.2⟩) hj hka (fun i hi e => huq i hi (e.trans hka.symm)) (by omega) (by omega)
set_option maxHeartbeats 4000000 in
theorem dk_end_closed (l : Launch) (D : va_G) (ta : Nat → ClassId) (B n : Nat) (w : fw_W) (h0 : Nat) (c0 : Nat) (U : Nat) (k : cKey) (L : Nat) (f : Nat → Int32) (ht : Int) (us : List Nat) (bs : List Nat) (J : List (Nat × Bool)) (ls : List Nat) (cx : Nat → cCoin)  (hd : dk_at ta n w h0 c0 U k L f ht false us bs J ls cx)  : fw_C l D vwCl (tyL ta) B yX0_end cX0_end 1 (some .int) ({ frames := 2, cells := 0, slots := 0, locals := 41 } : Room) [.ref (h0)] n w (fun r w1 n1 => r = some (.int (iI ((-1)))) ∧ w1 = w ∧ n1 = n) := by
  obtain ⟨hc0, hcn, ⟨nu, uf, nb, bf, nj, nr, ns, lf, jf, sb, ⟨e0, e1, e2, e3, e4, e5, e6, e7, e8, e9, e10, e11⟩, rfl, rfl, rfl, rfl, rfl, hu, hb, hJ, hl⟩, hco⟩ := hd
  exact cm_end_closed l D ta B n w (h0) (U) (ht) e0 
set_option maxHeartbeats 4000000 in
theorem dk_back_none (l : Launch) (D : va_G) (ta : Nat → ClassId) (B n : Nat) (w : fw_W) (h0 : Nat) (c0 : Nat) (U : Nat) (k : cKey) (L : Nat) (f : Nat → Int32) (ht : Int) (op : Bool) (us : List Nat) (bs : List Nat) (J : List (Nat × Bool)) (ls : List Nat) (cx : Nat → cCoin)  (hd : dk_at ta n w h0 c0 U k L f ht op us bs J ls cx) (h0r : ls.length = 0) : fw_C l D vwCl (tyL ta) B yX0_back cX0_back 3 (some .int) ({ frames := 4, cells := 0, slots := 0, locals := 89 } : Room) [.ref (h0)] n w (fun r w1 n1 => r = some (.int (iI ((-1)))) ∧ w1 = w ∧ n1 = n) := by
  obtain ⟨hc0, hcn, ⟨nu, uf, nb, bf, nj, nr, ns, lf, jf, sb, ⟨e0, e1, e2, e3, e4, e5, e6, e7, e8, e9, e10, e11⟩, rfl, rfl, rfl, rfl, rfl, hu, hb, hJ, hl⟩, hco⟩ := hd
  exact cm_back_none l D ta B n w (h0) (U) (ht) (J.length) (ls.length) ((spa J).length) (op) e0 e8 (by omega)
set_option maxHeartbeats 4000000 in
theorem dk_forget_none_o (l : Launch) (D : va_G) (ta : Nat → ClassId) (B n : Nat) (w : fw_W) (h0 : Nat) (c0 : Nat) (U : Nat) (k : cKey) (L : Nat) (f : Nat → Int32) (ht : Int) (us : List Nat) (bs : List Nat) (J : List (Nat × Bool)) (ls : List Nat) (cx : Nat → cCoin)  (hd : dk_at ta n w h0 c0 U k L f ht true us bs J ls cx) (h0r : ls.length ≤ 1) : fw_C l D vwCl (tyL ta) B yX0_forget cX0_forget 2 (some .int) ({ frames := 3, cells := 0, slots := 0, locals := 68 } : Room) [.ref (h0)] n w (fun r w1 n1 => r = some (.int (iI ((-1)))) ∧ w1 = w ∧ n1 = n) := by
  obtain ⟨hc0, hcn, ⟨nu, uf, nb, bf, nj, nr, ns, lf, jf, sb, ⟨e0, e1, e2, e3, e4, e5, e6, e7, e8, e9, e10, e11⟩, rfl, rfl, rfl, rfl, rfl, hu, hb, hJ, hl⟩, hco⟩ := hd
  exact cm_forget_none_o l D ta B n w (h0) (U) (ht) (J.length) (ls.length) ((spa J).length) e0 e8 (by omega)
set_option maxHeartbeats 4000000 in
theorem dk_forget_none_c (l : Launch) (D : va_G) (ta : Nat → ClassId) (B n : Nat) (w : fw_W) (h0 : Nat) (c0 : Nat) (U : Nat) (k : cKey) (L : Nat) (f : Nat → Int32) (ht : Int) (us : List Nat) (bs : List Nat) (J : List (Nat × Bool)) (ls : List Nat) (cx : Nat → cCoin)  (hd : dk_at ta n w h0 c0 U k L f ht false us bs J ls cx) (h0r : ls.length = 0) : fw_C l D vwCl (tyL ta) B yX0_forget cX0_forget 2 (some .int) ({ frames := 3, cells := 0, slots := 0, locals := 68 } : Room) [.ref (h0)] n w (fun r w1 n1 => r = some (.int (iI ((-1)))) ∧ w1 = w ∧ n1 = n) := by
  obtain ⟨hc0, hcn, ⟨nu, uf, nb, bf, nj, nr, ns, lf, jf, sb, ⟨e0, e1, e2, e3, e4, e5, e6, e7, e8, e9, e10, e11⟩, rfl, rfl, rfl, rfl, rfl, hu, hb, hJ, hl⟩, hco⟩ := hd
  exact cm_forget_none_c l D ta B n w (h0) (U) (ht) (J.length) (ls.length) ((spa J).length) e0 e8 (by omega)
set_option maxHeartbeats 4000000 in
theorem dk_has_hit (l : Launch) (D : va_G) (ta : Nat → ClassId) (B n : Nat) (w : fw_W) (h0 : Nat) (c0 : Nat) (U : Nat) (k : cKey) (L : Nat) (f : Nat → Int32) (ht : Int) (op : Bool) (us : List Nat) (bs : List Nat) (J : List (Nat × Bool)) (ls : List Nat) (cx : Nat → cCoin) (a : Nat) (hd : dk_at ta n w h0 c0 U k L f ht op us bs J ls cx) (hok : dk_ok U us bs J cx) (ha : a ∈ us) (hka : (cx a).1 = k) : fw_C l D vwCl (tyL ta) B yX0_has cX0_has 1 (some .boolean) ({ frames := 4, cells := 0, slots := 0, locals := 86 } : Room) [.ref (h0)] n w (fun r w1 n1 => r = some (.int (bI (true))) ∧ w1 = w ∧ n1 = n) := by
  obtain ⟨hc0, hcn, ⟨nu, uf, nb, bf, nj, nr, ns, lf, jf, sb, ⟨e0, e1, e2, e3, e4, e5, e6, e7, e8, e9, e10, e11⟩, rfl, rfl, rfl, rfl, rfl, hu, hb, hJ, hl⟩, hco⟩ := hd
  obtain ⟨j, hj, hja⟩ := List.getElem_of_mem ha
  obtain rfl : us.getD j 0 = a := by simp [List.getD, hj, hja]
  have huq : ∀ i, i < us.length → (cx (us.getD i 0)).1 = (cx (us.getD j 0)).1 → i = j := fun i hi e => dk_uniq hok.2.2.2.2.1 hi hj e
  have hU := hok.1.2
  have hul := hok.2.2.2.2.2.1
  exact cm_has_hit l D ta B n w (h0) (U) (ht) (k) (us.length) (uf) (op) (fun j => us.getD j 0) (fun j => cx (us.getD j 0)) (j) e0 e1 e4 e5 (by omega) (by omega) (fun j hj => ⟨by rw [hu j hj]; simp [List.getD, hj], (hco _ (Or.inl (dk_getD hj))).2.2⟩) hj hka (fun i hi e => huq i hi (e.trans hka.symm))
set_option maxHeartbeats 4000000 in
theorem dk_has_miss (l : Launch) (D : va_G) (ta : Nat → ClassId) (B n : Nat) (w : fw_W) (h0 : Nat) (c0 : Nat) (U : Nat) (k : cKey) (L : Nat) (f : Nat → Int32) (ht : Int) (op : Bool) (us : List Nat) (bs : List Nat) (J : List (Nat × Bool)) (ls : List Nat) (cx : Nat → cCoin)  (hd : dk_at ta n w h0 c0 U k L f ht op us bs J ls cx) (hok : dk_ok U us bs J cx) (hms : ∀ b ∈ us, (cx b).1 ≠ k) : fw_C l D vwCl (tyL ta) B yX0_has cX0_has 1 (some .boolean) ({ frames := 4, cells := 0, slots := 0, locals := 86 } : Room) [.ref (h0)] n w (fun r w1 n1 => r = some (.int (bI (false))) ∧ w1 = w ∧ n1 = n) := by
  obtain ⟨hc0, hcn, ⟨nu, uf, nb, bf, nj, nr, ns, lf, jf, sb, ⟨e0, e1, e2, e3, e4, e5, e6, e7, e8, e9, e10, e11⟩, rfl, rfl, rfl, rfl, rfl, hu, hb, hJ, hl⟩, hco⟩ := hd
  have hU := hok.1.2
  have hul := hok.2.2.2.2.2.1
  exact cm_has_miss l D ta B n w (h0) (U) (ht) (k) (us.length) (uf) (op) (fun j => us.getD j 0) (fun j => cx (us.getD j 0)) e0 e1 e4 e5 (by omega) (by omega) (fun j hj => ⟨by rw [hu j hj]; simp [List.getD, hj], (hco _ (Or.inl (dk_getD hj))).2.2⟩) (fun j hj => hms _ (dk_getD hj))
set_option maxHeartbeats 4000000 in
theorem dk_look_hit (l : Launch) (D : va_G) (ta : Nat → ClassId) (B n : Nat) (w : fw_W) (h0 : Nat) (c0 : Nat) (U : Nat) (k : cKey) (L : Nat) (f : Nat → Int32) (ht : Int) (op : Bool) (us : List Nat) (bs : List Nat) (J : List (Nat × Bool)) (ls : List Nat) (cx : Nat → cCoin) (a : Nat) (what : Int32) (hd : dk_at ta n w h0 c0 U k L f ht op us bs J ls cx) (hok : dk_ok U us bs J cx) (ha : a ∈ us) (hka : (cx a).1 = k) : fw_C l D vwCl (tyL ta) B yX0_look cX0_look 3 (some .long) ({ frames := 4, cells := 0, slots := 0, locals := 86 } : Room) [.ref (h0), .int (what)] n w (fun r w1 n1 => r = some (.long (lookv what (cx a))) ∧ w1 = w ∧ n1 = n) := by
  obtain ⟨hc0, hcn, ⟨nu, uf, nb, bf, nj, nr, ns, lf, jf, sb, ⟨e0, e1, e2, e3, e4, e5, e6, e7, e8, e9, e10, e11⟩, rfl, rfl, rfl, rfl, rfl, hu, hb, hJ, hl⟩, hco⟩ := hd
  obtain ⟨j, hj, hja⟩ := List.getElem_of_mem ha
  obtain rfl : us.getD j 0 = a := by simp [List.getD, hj, hja]
  have huq : ∀ i, i < us.length → (cx (us.getD i 0)).1 = (cx (us.getD j 0)).1 → i = j := fun i hi e => dk_uniq hok.2.2.2.2.1 hi hj e
  have hU := hok.1.2
  have hul := hok.2.2.2.2.2.1
  exact cm_look_hit l D ta B n w (h0) (U) (ht) (k) (us.length) (uf) (op) (fun j => us.getD j 0) (fun j => cx (us.getD j 0)) (j) (what) e0 e1 e4 e5 (by omega) (by omega) (fun j hj => ⟨by rw [hu j hj]; simp [List.getD, hj], (hco _ (Or.inl (dk_getD hj))).2.2⟩) hj hka (fun i hi e => huq i hi (e.trans hka.symm))
set_option maxHeartbeats 4000000 in
theorem dk_look_miss (l : Launch) (D : va_G) (ta : Nat → ClassId) (B n : Nat) (w : fw_W) (h0 : Nat) (c0 : Nat) (U : Nat) (k : cKey) (L : Nat) (f : Nat → Int32) (ht : Int) (op : Bool) (us : List Nat) (bs : List Nat) (J : List (Nat × Bool)) (ls : List Nat) (cx : Nat → cCoin) (what : Int32) (hd : dk_at ta n w h0 c0 U k L f ht op us bs J ls cx) (hok : dk_ok U us bs J cx) (hms : ∀ b ∈ us, (cx b).1 ≠ k) : fw_C l D vwCl (tyL ta) B yX0_look cX0_look 3 (some .long) ({ frames := 4, cells := 0, slots := 0, locals := 86 } : Room) [.ref (h0), .int (what)] n w (fun r w1 n1 => r = some (.long ((-1))) ∧ w1 = w ∧ n1 = n) := by
  obtain ⟨hc0, hcn, ⟨nu, uf, nb, bf, nj, nr, ns, lf, jf, sb, ⟨e0, e1, e2, e3, e4, e5, e6, e7, e8, e9, e10, e11⟩, rfl, rfl, rfl, rfl, rfl, hu, hb, hJ, hl⟩, hco⟩ := hd
  have hU := hok.1.2
  have hul := hok.2.2.2.2.2.1
  exact cm_look_miss l D ta B n w (h0) (U) (ht) (k) (us.length) (uf) (op) (fun j => us.getD j 0) (fun j => cx (us.getD j 0)) (what) e0 e1 e4 e5 (by omega) (by omega) (fun j hj => ⟨by rw [hu j hj]; simp [List.getD, hj], (hco _ (Or.inl (dk_getD hj))).2.2⟩) (fun j hj => hms _ (dk_getD hj))
set_option maxHeartbeats 4000000 in
theorem dk_byteOf_hit (l : Launch) (D : va_G) (ta : Nat → ClassId) (B n : Nat) (w : fw_W) (h0 : Nat) (c0 : Nat) (U : Nat) (k : cKey) (L : Nat) (f : Nat → Int32) (ht : Int) (op : Bool) (us : List Nat) (bs : List Nat) (J : List (Nat × Bool)) (ls : List Nat) (cx : Nat → cCoin) (a : Nat) (z : Int) (hd : dk_at ta n w h0 c0 U k L f ht op us bs J ls cx) (hok : dk_ok U us bs J cx) (ha : a ∈ us) (hka : (cx a).1 = k) (hz : iK z) : fw_C l D vwCl (tyL ta) B yX0_byteOf cX0_byteOf 3 (some .int) ({ frames := 4, cells := 0, slots := 0, locals := 86 } : Room) [.ref (h0), .int (iI (z))] n w (fun r w1 n1 => r = some (.int (if 0 ≤ z ∧ z < ((((cx a).2.1.1) : Nat) : Int) then ((cx a).2.1.2) z.toNat &&& iI ((255 : Nat) : Int) else iI (-1))) ∧ w1 = w ∧ n1 = n) := by
  obtain ⟨hc0, hcn, ⟨nu, uf, nb, bf, nj, nr, ns, lf, jf, sb, ⟨e0, e1, e2, e3, e4, e5, e6, e7, e8, e9, e10, e11⟩, rfl, rfl, rfl, rfl, rfl, hu, hb, hJ, hl⟩, hco⟩ := hd
  obtain ⟨j, hj, hja⟩ := List.getElem_of_mem ha
  obtain rfl : us.getD j 0 = a := by simp [List.getD, hj, hja]
  have huq : ∀ i, i < us.length → (cx (us.getD i 0)).1 = (cx (us.getD j 0)).1 → i = j := fun i hi e => dk_uniq hok.2.2.2.2.1 hi hj e
  have hU := hok.1.2
  have hul := hok.2.2.2.2.2.1
  exact cm_byteOf_hit l D ta B n w (h0) (U) (ht) (k) (us.length) (uf) (op) (fun j => us.getD j 0) (fun j => cx (us.getD j 0)) (j) (z) e0 e1 e4 e5 (by omega) (by omega) (fun j hj => ⟨by rw [hu j hj]; simp [List.getD, hj], (hco _ (Or.inl (dk_getD hj))).2.2⟩) hj hka (fun i hi e => huq i hi (e.trans hka.symm)) (hok.2.2.2.2.2.2.2.2.2 _ (Or.inl ha)).1 hz
set_option maxHeartbeats 4000000 in
theorem dk_byteOf_miss (l : Launch) (D : va_G) (ta : Nat → ClassId) (B n : Nat) (w : fw_W) (h0 : Nat) (c0 : Nat) (U : Nat) (k : cKey) (L : Nat) (f : Nat → Int32) (ht : Int) (op : Bool) (us : List Nat) (bs : List Nat) (J : List (Nat × Bool)) (ls : List Nat) (cx : Nat → cCoin) (z : Int) (hd : dk_at ta n w h0 c0 U k L f ht op us bs J ls cx) (hok : dk_ok U us bs J cx) (hms : ∀ b ∈ us, (cx b).1 ≠ k) : fw_C l D vwCl (tyL ta) B yX0_byteOf cX0_byteOf 3 (some .int) ({ frames := 4, cells := 0, slots := 0, locals := 86 } : Room) [.ref (h0), .int (iI (z))] n w (fun r w1 n1 => r = some (.int (iI ((-1)))) ∧ w1 = w ∧ n1 = n) := by
  obtain ⟨hc0, hcn, ⟨nu, uf, nb, bf, nj, nr, ns, lf, jf, sb, ⟨e0, e1, e2, e3, e4, e5, e6, e7, e8, e9, e10, e11⟩, rfl, rfl, rfl, rfl, rfl, hu, hb, hJ, hl⟩, hco⟩ := hd
  have hU := hok.1.2
  have hul := hok.2.2.2.2.2.1
  exact cm_byteOf_miss l D ta B n w (h0) (U) (ht) (k) (us.length) (uf) (op) (fun j => us.getD j 0) (fun j => cx (us.getD j 0)) (z) e0 e1 e4 e5 (by omega) (by omega) (fun j hj => ⟨by rw [hu j hj]; simp [List.getD, hj], (hco _ (Or.inl (dk_getD hj))).2.2⟩) (fun j hj => hms _ (dk_getD hj))
set_option maxHeartbeats 4000000 in
theorem dk_count (l : Launch) (D : va_G) (ta : Nat → ClassId) (B n : Nat) (w : fw_W) (h0 : Nat) (c0 : Nat) (U : Nat) (k : cKey) (L : Nat) (f : Nat → Int32) (ht : Int) (op : Bool) (us : List Nat) (bs : List Nat) (J : List (Nat × Bool)) (ls : List Nat) (cx : Nat → cCoin) (what : Int32) (hd : dk_at ta n w h0 c0 U k L f ht op us bs J ls cx)  : fw_C l D vwCl (tyL ta) B yX0_count cX0_count 2 (some .int) ({ frames := 1, cells := 0, slots := 0, locals := 20 } : Room) [.ref (h0), .int (what)] n w (fun r w1 n1 => r = some (.int (countv what ht us.length ((spa J).length) ls.length op)) ∧ w1 = w ∧ n1 = n) := by
  obtain ⟨hc0, hcn, ⟨nu, uf, nb, bf, nj, nr, ns, lf, jf, sb, ⟨e0, e1, e2, e3, e4, e5, e6, e7, e8, e9, e10, e11⟩, rfl, rfl, rfl, rfl, rfl, hu, hb, hJ, hl⟩, hco⟩ := hd
  exact cm_count l D ta B n w (h0) (U) (ht) (us.length) (J.length) (ls.length) ((spa J).length) (op) (what) e0 e4 e8 
set_option maxHeartbeats 4000000 in
theorem dk_total (l : Launch) (D : va_G) (ta : Nat → ClassId) (B n : Nat) (w : fw_W) (h0 : Nat) (c0 : Nat) (U : Nat) (k : cKey) (L : Nat) (f : Nat → Int32) (ht : Int) (op : Bool) (us : List Nat) (bs : List Nat) (J : List (Nat × Bool)) (ls : List Nat) (cx : Nat → cCoin)  (hd : dk_at ta n w h0 c0 U k L f ht op us bs J ls cx) (hok : dk_ok U us bs J cx) : fw_C l D vwCl (tyL ta) B yX0_total cX0_total 1 (some .long) ({ frames := 1, cells := 0, slots := 0, locals := 24 } : Room) [.ref (h0)] n w (fun r w1 n1 => r = some (.long (csum (fun j => cx (us.getD j 0)) us.length)) ∧ w1 = w ∧ n1 = n) := by
  obtain ⟨hc0, hcn, ⟨nu, uf, nb, bf, nj, nr, ns, lf, jf, sb, ⟨e0, e1, e2, e3, e4, e5, e6, e7, e8, e9, e10, e11⟩, rfl, rfl, rfl, rfl, rfl, hu, hb, hJ, hl⟩, hco⟩ := hd
  have hU := hok.1.2
  have hul := hok.2.2.2.2.2.1
  exact cm_total l D ta B n w (h0) (U) (ht) (us.length) (uf) (op) (fun j => us.getD j 0) (fun j => cx (us.getD j 0)) e0 e4 e5 (by omega) (by omega) (fun j hj => ⟨by rw [hu j hj]; simp [List.getD, hj], (hco _ (Or.inl (dk_getD hj))).2.2⟩)
