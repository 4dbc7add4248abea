/-! THE RECORDS: which record each thing done belongs to -/
def rnum : List Nat → Nat → List Nat
  | [], _ => []
  | x :: ls, r => List.replicate x r ++ rnum ls (r + 1)
theorem rnum_len (ls : List Nat) : ∀ r, (rnum ls r).length = ls.sum := by
  induction ls with
  | nil => intro _; rfl
  | cons x ls ih =>
    intro r
    show (List.replicate x r ++ rnum ls (r + 1)).length = _
    rw [List.length_append, List.length_replicate, ih, List.sum_cons]
theorem rnum_app (ls : List Nat) (x : Nat) : ∀ r, rnum (ls ++ [x]) r = rnum ls r ++ List.replicate x (r + ls.length) := by
  induction ls with
  | nil =>
    intro r
    show List.replicate x r ++ [] = [] ++ List.replicate x (r + 0)
    simp
  | cons y ls ih =>
    intro r
    show List.replicate y r ++ rnum (ls ++ [x]) (r + 1) = (List.replicate y r ++ rnum ls (r + 1)) ++ _
    rw [ih, List.append_assoc, show r + 1 + ls.length = r + (y :: ls).length by simp only [List.length_cons]; omega]
theorem rnum_mem (ls : List Nat) : ∀ r, ∀ v ∈ rnum ls r, r ≤ v ∧ v < r + ls.length := by
  induction ls with
  | nil => intro r v hv; exact absurd hv List.not_mem_nil
  | cons y ls ih =>
    intro r v hv
    rcases List.mem_append.mp hv with q | q
    · have q2 := (List.mem_replicate.mp q).2
      simp only [List.length_cons]
      omega
    · have q2 := ih (r + 1) v q
      simp only [List.length_cons]
      omega
theorem ls_last {α : Type} (ls : List α) (h : 1 ≤ ls.length) : ∃ t x, ls = t ++ [x] := by
  have hne : ls ≠ [] := fun q => by rw [q] at h; exact absurd h (by simp)
  exact ⟨ls.dropLast, ls.getLast hne, (List.dropLast_concat_getLast hne).symm⟩
/-- the reference's journal tells what the class's does -/
def sm_jn (J : List (Nat × Bool)) (ls : List Nat) (pl : Nat → Nat) (od hh : Nat) (op : Bool) (cns kds bks : Nat → Nat) : Prop :=
  (∀ j (h : j < J.length), cns j = pl J[j].1 ∧ kds j = (if J[j].2 then 2 else 1)) ∧ od ≤ hh ∧ ls.length = hh - od + (if op then 1 else 0) ∧ ls.sum = J.length ∧ (∀ j (h : j < (rnum ls od).length), bks j = (rnum ls od)[j])
theorem ls_gup_app {α : Type} {l : List α} {f : Nat → α} (h : ∀ j (h : j < l.length), f j = l[j]) (x : α) : ∀ j (h : j < (l ++ [x]).length), gup f l.length x j = (l ++ [x])[j] := by
  intro j hj
  by_cases hq : j = l.length
  · subst hq; simp [gup]
  · have hlt : j < l.length := by simp at hj; omega
    rw [gup_ne hq, h j hlt, List.getElem_append_left hlt]
/-- one thing more, in the open block -/
theorem sm_jn.note {J : List (Nat × Bool)} {ls : List Nat} {pl pl2 : Nat → Nat} {od hh : Nat} {cns kds bks : Nat → Nat} (h : sm_jn J ls pl od hh true cns kds bks) (a : Nat) (b : Bool) (hpl : ∀ x ∈ J, pl2 x.1 = pl x.1) : sm_jn (J ++ [(a, b)]) (linc ls) pl2 od hh true (gup cns J.length (pl2 a)) (gup kds J.length (if b then 2 else 1)) (gup bks J.length hh) := by
  obtain ⟨h1, h2, h3, h4, h5⟩ := h
  have h3' : ls.length = hh - od + 1 := h3
  obtain ⟨t, x, rfl⟩ := ls_last ls (by omega)
  have htl : t.length = hh - od := by simp at h3'; omega
  rw [linc_app]
  have hr : rnum (t ++ [x + 1]) od = rnum (t ++ [x]) od ++ [hh] := by
    rw [rnum_app, rnum_app, List.replicate_succ', List.append_assoc, show od + t.length = hh by omega]
  have hrl : (rnum (t ++ [x]) od).length = J.length := by rw [rnum_len]; exact h4
  refine ⟨?_, h2, by simp; omega, ?_, ?_⟩
  · intro j hj
    by_cases hq : j = J.length
    · subst hq
      rw [gup_same, gup_same]
      simp
    · have hlt : j < J.length := by simp at hj; omega
      rw [gup_ne hq, gup_ne hq, List.getElem_append_left hlt]
      exact ⟨by rw [(h1 j hlt).1, hpl _ (List.getElem_mem hlt)], (h1 j hlt).2⟩
  · rw [List.sum_append] at h4 ⊢
    simp only [List.sum_cons, List.sum_nil, List.length_append, List.length_cons, List.length_nil] at h4 ⊢
    omega
  · rw [hr, ← hrl]
    exact ls_gup_app h5 hh
theorem sm_jn.begin {J : List (Nat × Bool)} {ls : List Nat} {pl : Nat → Nat} {od hh : Nat} {cns kds bks : Nat → Nat} (h : sm_jn J ls pl od hh false cns kds bks) : sm_jn J (ls ++ [0]) pl od hh true cns kds bks := by
  obtain ⟨h1, h2, h3, h4, h5⟩ := h
  have h3' : ls.length = hh - od + 0 := h3
  have hr : rnum (ls ++ [0]) od = rnum ls od := by rw [rnum_app]; simp
  refine ⟨h1, h2, by simp; omega, by rw [List.sum_append]; simpa using h4, ?_⟩
  rw [hr]
  exact h5
theorem sm_jn.finish {J : List (Nat × Bool)} {ls : List Nat} {pl : Nat → Nat} {od hh : Nat} {cns kds bks : Nat → Nat} (h : sm_jn J ls pl od hh true cns kds bks) : sm_jn J ls pl od (hh + 1) false cns kds bks := by
  obtain ⟨h1, h2, h3, h4, h5⟩ := h
  have h3' : ls.length = hh - od + 1 := h3
  exact ⟨h1, by omega, by show ls.length = hh + 1 - od + 0; omega, h4, h5⟩
theorem cnt_tail (f : Nat → Nat) (v q : Nat) (h1 : ∀ j, j < q → f j ≠ v) : ∀ x, (∀ j, q ≤ j → j < q + x → f j = v) → cnt f v (q + x) = x := by
  have h0 : ∀ i, i ≤ q → cnt f v i = 0 := by
    intro i
    induction i with
    | zero => intro _; rfl
    | succ i ih =>
      intro hi
      rw [cnt_F (h1 i (by omega)), ih (by omega)]
  intro x
  induction x with
  | zero => intro _; exact h0 q (Nat.le_refl q)
  | succ x ih =>
    intro h2
    rw [show q + (x + 1) = q + x + 1 from rfl, cnt_T (h2 (q + x) (by omega) (by omega)), ih (fun j h3 h4 => h2 j h3 (by omega))]
/-- the blocks of a journal whose latest record has x things -/
theorem sm_jn.blocks {J : List (Nat × Bool)} {t : List Nat} {x : Nat} {pl : Nat → Nat} {od hh : Nat} {op : Bool} {cns kds bks : Nat → Nat} (h : sm_jn J (t ++ [x]) pl od hh op cns kds bks) : J.length = t.sum + x ∧ (∀ j, j < t.sum → bks j ≠ od + t.length) ∧ (∀ j, t.sum ≤ j → j < J.length → bks j = od + t.length) := by
  obtain ⟨h1, h2, h3, h4, h5⟩ := h
  have hl : J.length = t.sum + x := by
    rw [List.sum_append] at h4
    simp only [List.sum_cons, List.sum_nil] at h4
    omega
  have hr := rnum_app t x od
  have hrl := rnum_len t od
  refine ⟨hl, fun j hj => ?_, fun j hj1 hj2 => ?_⟩
  · have hjl : j < (rnum (t ++ [x]) od).length := by rw [rnum_len, h4]; omega
    have e := h5 j hjl
    have hj3 : j < (rnum t od).length := by omega
    have e2 : (rnum (t ++ [x]) od)[j] = (rnum t od)[j] := by
      simp only [hr]
      rw [List.getElem_append_left hj3]
    have q := rnum_mem t od _ (List.getElem_mem hj3)
    rw [e, e2]
    omega
  · have hjl : j < (rnum (t ++ [x]) od).length := by rw [rnum_len, h4]; omega
    have e := h5 j hjl
    have e2 : (rnum (t ++ [x]) od)[j] = od + t.length := by
      simp only [hr]
      rw [List.getElem_append_right (by omega), List.getElem_replicate]
    rw [e, e2]
theorem sm_jn.back {J1 J2 : List (Nat × Bool)} {t : List Nat} {pl : Nat → Nat} {od hh hn : Nat} {op : Bool} {cns kds bks : Nat → Nat} (h : sm_jn (J1 ++ J2) (t ++ [J2.length]) pl od hh op cns kds bks) (hhn : hn = od + t.length) : sm_jn J1 t pl od hn false cns kds bks := by
  have hb := h.blocks
  obtain ⟨h1, h2, h3, h4, h5⟩ := h
  have hl : (J1 ++ J2).length = J1.length + J2.length := List.length_append
  refine ⟨fun j hj => ?_, by omega, by show t.length = hn - od + 0; omega, by omega, fun j hj => ?_⟩
  · have q := h1 j (by omega)
    rw [List.getElem_append_left hj] at q
    exact q
  · have hjl : j < (rnum (t ++ [J2.length]) od).length := by rw [rnum_len] at hj ⊢; rw [h4]; omega
    have e := h5 j hjl
    rw [e]
    simp only [rnum_app]
    rw [List.getElem_append_left hj]
theorem mun_shift (stt cns kds : Nat → Nat) (nd : Nat) : ∀ t, mun (gup stt (cns nd) (if kds nd = 1 then 0 else 1)) cns kds nd t = mun stt cns kds (nd + 1) (t + 1) := by
  intro t
  induction t with
  | zero => rfl
  | succ t ih =>
    show gup (mun _ cns kds nd t) (cns (nd - (t + 1))) _ = gup (mun stt cns kds (nd + 1) (t + 1)) (cns (nd + 1 - (t + 1 + 1))) _
    rw [ih, show nd + 1 - (t + 1 + 1) = nd - (t + 1) by omega]
/-- the states behind taking back the latest record -/
theorem sm_back {pl cns kds : Nat → Nat} : ∀ (K J1 : List (Nat × Bool)) (us bs us1 bs1 : List Nat) (stt : Nat → Nat), sm_st us (spa (J1 ++ K)) pl stt → (∀ j (h : j < (J1 ++ K).length), cns j = pl (J1 ++ K)[j].1 ∧ kds j = (if (J1 ++ K)[j].2 then 2 else 1)) → jn_un K.reverse us bs us1 bs1 → sm_st us1 (spa J1) pl (mun stt cns kds (J1 ++ K).length K.length) := by
  intro K
  have key : ∀ (n : Nat) (K : List (Nat × Bool)), K.length = n → ∀ (J1 : List (Nat × Bool)) (us bs us1 bs1 : List Nat) (stt : Nat → Nat), sm_st us (spa (J1 ++ K)) pl stt → (∀ j (h : j < (J1 ++ K).length), cns j = pl (J1 ++ K)[j].1 ∧ kds j = (if (J1 ++ K)[j].2 then 2 else 1)) → jn_un K.reverse us bs us1 bs1 → sm_st us1 (spa J1) pl (mun stt cns kds (J1 ++ K).length K.length) := by
    intro n
    induction n with
    | zero =>
      intro K hK J1 us bs us1 bs1 stt hs hj hu
      obtain rfl : K = [] := List.length_eq_zero_iff.mp hK
      obtain ⟨rfl, rfl⟩ := hu
      rw [List.append_nil] at hs
      exact hs
    | succ n ih =>
      intro K hK J1 us bs us1 bs1 stt hs hj hu
      obtain ⟨K1, x, rfl⟩ := ls_last K (by omega)
      have hK1 : K1.length = n := by simp at hK; omega
      have hlen : (J1 ++ (K1 ++ [x])).length = (J1 ++ K1).length + 1 := by simp; omega
      have hlast := hj (J1 ++ K1).length (by omega)
      have hx : (J1 ++ (K1 ++ [x]))[(J1 ++ K1).length]'(by omega) = x := by
        simp only [← List.append_assoc]
        simp
      rw [hx] at hlast
      have hj2 : ∀ j (h : j < (J1 ++ K1).length), cns j = pl (J1 ++ K1)[j].1 ∧ kds j = (if (J1 ++ K1)[j].2 then 2 else 1) := by
        intro j h
        have q := hj j (by omega)
        have e : (J1 ++ (K1 ++ [x]))[j]'(by omega) = (J1 ++ K1)[j] := by
          simp only [← List.append_assoc]
          rw [List.getElem_append_left h]
        rw [e] at q
        exact q
      rw [List.reverse_append] at hu
      rw [← List.append_assoc, spa_app] at hs
      obtain ⟨a, b⟩ := x
      rw [hlen, show (K1 ++ [(a, b)]).length = K1.length + 1 by simp, ← mun_shift]
      cases b with
      | false =>
        obtain ⟨u, hp, hu2⟩ := hu
        have e0 : kds (J1 ++ K1).length = 1 := hlast.2
        rw [hlast.1, e0]
        have hs2 : sm_st us (spa (J1 ++ K1)) pl stt := by simpa [spa] using hs
        exact ih K1 hK1 J1 u (bs ++ [a]) us1 bs1 _ (sm_unmake hs2 hp) hj2 hu2
      | true =>
        have e0 : kds (J1 ++ K1).length = 2 := hlast.2
        rw [hlast.1, e0]
        have hs2 : sm_st us (spa (J1 ++ K1) ++ [a]) pl stt := hs
        exact ih K1 hK1 J1 (us ++ [a]) bs us1 bs1 _ (sm_unspend hs2) hj2 hu
  exact key K.length K rfl
theorem spa_cons (x : Nat × Bool) (J : List (Nat × Bool)) : spa (x :: J) = if x.2 then x.1 :: spa J else spa J := by
  cases hb : x.2 <;> simp [spa, hb]
theorem rnum_cons (x : Nat) (ls : List Nat) (r : Nat) : rnum (x :: ls) r = List.replicate x r ++ rnum ls (r + 1) := rfl
/-- the states behind forgetting the oldest record -/
theorem sm_forget {J : List (Nat × Bool)} {us : List Nat} {pl stt cns kds : Nat → Nat} (hs : sm_st us (spa J) pl stt) (hj : ∀ j (h : j < J.length), cns j = pl J[j].1 ∧ kds j = (if J[j].2 then 2 else 1)) : ∀ i, i ≤ J.length → sm_st us (spa (J.drop i)) pl (mfg stt cns kds i) ∧ cnt kds 2 i = (spa (J.take i)).length := by
  intro i
  induction i with
  | zero => intro _; exact ⟨hs, rfl⟩
  | succ i ih =>
    intro hi
    obtain ⟨h1, h2⟩ := ih (by omega)
    have hlt : i < J.length := by omega
    obtain ⟨h3, h4⟩ := hj i hlt
    have e : J.drop i = J[i] :: J.drop (i + 1) := List.drop_eq_getElem_cons hlt
    have e2 : J.take (i + 1) = J.take i ++ [J[i]] := List.take_succ_eq_append_getElem hlt
    cases hb : J[i].2 with
    | true =>
      rw [hb] at h4
      have h4' : kds i = 2 := h4
      have es : spa (J.drop i) = J[i].1 :: spa (J.drop (i + 1)) := by rw [e, spa_cons, hb]; rfl
      rw [es] at h1
      refine ⟨?_, ?_⟩
      · show sm_st us _ pl (if kds i = 2 then gup (mfg stt cns kds i) (cns i) 0 else mfg stt cns kds i)
        rw [if_pos h4', h3]
        exact sm_forget1 h1
      · rw [cnt_T h4', h2, e2, spa_app]
        simp [spa, hb]
    | false =>
      rw [hb] at h4
      have h4' : kds i = 1 := h4
      have es : spa (J.drop i) = spa (J.drop (i + 1)) := by rw [e, spa_cons, hb]; rfl
      rw [es] at h1
      refine ⟨?_, ?_⟩
      · show sm_st us _ pl (if kds i = 2 then gup (mfg stt cns kds i) (cns i) 0 else mfg stt cns kds i)
        rw [if_neg (by omega)]
        exact h1
      · rw [cnt_F (show ¬ kds i = 2 by omega), h2, e2, spa_app]
        simp [spa, hb]
theorem sm_jn.forget {J1 J2 : List (Nat × Bool)} {ls : List Nat} {pl : Nat → Nat} {od hh : Nat} {op : Bool} {cns kds bks c2 k2 b2 : Nat → Nat} (h : sm_jn (J1 ++ J2) (J1.length :: ls) pl od hh op cns kds bks) (hlt : od < hh) (hm : ∀ j, j < (J1 ++ J2).length - J1.length → c2 j = cns (j + J1.length) ∧ k2 j = kds (j + J1.length) ∧ b2 j = bks (j + J1.length)) : sm_jn J2 ls pl (od + 1) hh op c2 k2 b2 := by
  obtain ⟨h1, h2, h3, h4, h5⟩ := h
  have hl : (J1 ++ J2).length = J1.length + J2.length := List.length_append
  simp only [List.length_cons] at h3
  rw [List.sum_cons] at h4
  refine ⟨fun j hj => ?_, by omega, by omega, by omega, fun j hj => ?_⟩
  · obtain ⟨q1, q2, -⟩ := hm j (by omega)
    have q := h1 (j + J1.length) (by omega)
    rw [List.getElem_append_right (by omega)] at q
    simp only [Nat.add_sub_cancel] at q
    rw [q1, q2]
    exact q
  · have hjr : j < ls.sum := by rw [rnum_len] at hj; exact hj
    obtain ⟨-, -, q3⟩ := hm j (by omega)
    have hjl : j + J1.length < (rnum (J1.length :: ls) od).length := by rw [rnum_len, List.sum_cons]; omega
    have e := h5 (j + J1.length) hjl
    rw [q3, e]
    simp only [rnum_cons]
    rw [List.getElem_append_right (by simp)]
    simp
theorem sm_jn.first {J1 J2 : List (Nat × Bool)} {ls : List Nat} {pl : Nat → Nat} {od hh : Nat} {op : Bool} {cns kds bks : Nat → Nat} (h : sm_jn (J1 ++ J2) (J1.length :: ls) pl od hh op cns kds bks) : (∀ j, j < J1.length → bks j = od) ∧ (∀ j, J1.length ≤ j → j < (J1 ++ J2).length → bks j ≠ od) := by
  obtain ⟨h1, h2, h3, h4, h5⟩ := h
  have hrl : (rnum (J1.length :: ls) od).length = (J1 ++ J2).length := by rw [rnum_len]; exact h4
  have hl : (J1 ++ J2).length = J1.length + J2.length := List.length_append
  refine ⟨fun j hj => ?_, fun j hj1 hj2 => ?_⟩
  · have e := h5 j (by omega)
    rw [e]
    simp only [rnum_cons]
    rw [List.getElem_append_left (by simp; omega), List.getElem_replicate]
  · have e := h5 j (by omega)
    have hjr : j - J1.length < (rnum ls (od + 1)).length := by rw [rnum_len]; rw [List.sum_cons] at h4; omega
    have e2 : (rnum (J1.length :: ls) od)[j]'(by omega) = (rnum ls (od + 1))[j - J1.length] := by
      simp only [rnum_cons]
      rw [List.getElem_append_right (by simp; omega)]
      simp
    have q := rnum_mem ls (od + 1) _ (List.getElem_mem hjr)
    rw [e, e2]
    omega
theorem sm_jn.bound {J : List (Nat × Bool)} {ls : List Nat} {pl : Nat → Nat} {od hh : Nat} {op : Bool} {cns kds bks : Nat → Nat} (h : sm_jn J ls pl od hh op cns kds bks) (hb : hh < 90000) : ∀ j, j < J.length → bks j < 100000 := by
  obtain ⟨h1, h2, h3, h4, h5⟩ := h
  intro j hj
  have hjl : j < (rnum ls od).length := by rw [rnum_len, h4]; exact hj
  rw [h5 j hjl]
  have q := rnum_mem ls od _ (List.getElem_mem hjl)
  have : (if op = true then 1 else 0) ≤ 1 := by split <;> omega
  omega
