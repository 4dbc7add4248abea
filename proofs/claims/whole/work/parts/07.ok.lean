/-! THE DESK IN ORDER: us unspent, bs blank, J what was done (the oldest first), cx what a coin holds -/
def sc_ok (x : Nat × (Nat → Int32)) : Prop := x.1 ≤ 200 ∧ ∀ j, j < x.1 → vp_nar .byte (x.2 j) = x.2 j
def dk_ok (U : Nat) (us bs : List Nat) (J : List (Nat × Bool)) (cx : Nat → cCoin) : Prop :=
  (2 ≤ U ∧ U ≤ 200) ∧ (us ++ bs ++ spa J).Nodup ∧ jn_ok J ∧ (∀ a, (a, false) ∈ J → a ∈ us ∨ (a, true) ∈ J) ∧ us.Pairwise (fun a b => (cx a).1 ≠ (cx b).1) ∧ us.length ≤ U ∧ (spa J).length ≤ 2 * U ∧ us.length + bs.length + (spa J).length ≤ 3 * U ∧ jn_co (fun a => (cx a).1) U J.reverse us ∧ (∀ a, a ∈ us ∨ a ∈ J.map (fun x => x.1) → sc_ok (cx a).2.1)
theorem dk_ok.jlen {U : Nat} {us bs : List Nat} {J : List (Nat × Bool)} {cx : Nat → cCoin} (h : dk_ok U us bs J cx) : J.length ≤ us.length + 2 * (spa J).length := jn_len h.2.2.1 h.2.2.2.1
theorem dk_ok.done {U : Nat} {us bs : List Nat} {J : List (Nat × Bool)} {cx : Nat → cCoin} (h : dk_ok U us bs J cx) {x : Nat × Bool} (hx : x ∈ J) : x.1 ∈ us ∨ x.1 ∈ spa J := by
  obtain ⟨a, b⟩ := x
  cases b with
  | true => exact Or.inr (spa_mem.mpr hx)
  | false =>
    rcases h.2.2.2.1 a hx with q | q
    · exact Or.inl q
    · exact Or.inr (spa_mem.mpr q)
theorem dk_ok.spend {U : Nat} {us us1 bs : List Nat} {J : List (Nat × Bool)} {cx : Nat → cCoin} {a : Nat} (h : dk_ok U us bs J cx) (hp : us.Perm (a :: us1)) (hs : (spa J).length < 2 * U) : dk_ok U us1 bs (J ++ [(a, true)]) cx := by
  obtain ⟨hU, hnd, hjn, hj3, hkeys, hul, hsl, h3, hco, hcs⟩ := h
  have hau : a ∈ us := hp.mem_iff.mpr List.mem_cons_self
  have hlen : us.length = us1.length + 1 := by rw [hp.length_eq]; rfl
  have hsp : spa (J ++ [(a, true)]) = spa J ++ [a] := by rw [spa_app]; rfl
  have hk2 := List.pairwise_cons.mp ((List.Perm.pairwise_iff (fun {x y} q => fun e => q e.symm) hp).mp hkeys)
  have hnd1 : (a :: us1).Nodup := hp.nodup_iff.mp (List.nodup_append.mp (List.nodup_append.mp hnd).1).1
  refine ⟨hU, ?_, ?_, ?_, hk2.2, by omega, by rw [hsp, List.length_append]; simp only [List.length_cons, List.length_nil]; omega, by rw [hsp, List.length_append]; simp only [List.length_cons, List.length_nil]; omega, ?_, ?_⟩
  · rw [hsp]
    have q : (us ++ bs ++ spa J).Perm (us1 ++ bs ++ (spa J ++ [a])) := by
      have q1 : (us ++ bs ++ spa J).Perm ((a :: us1) ++ bs ++ spa J) := (hp.append_right bs).append_right (spa J)
      have q2 : ((a :: us1) ++ bs ++ spa J).Perm ((us1 ++ bs ++ spa J) ++ [a]) := List.perm_append_comm (l₁ := [a]) (l₂ := us1 ++ bs ++ spa J)
      rw [← List.append_assoc]
      exact q1.trans q2
    exact q.nodup_iff.mp hnd
  · refine List.pairwise_append.mpr ⟨hjn, List.pairwise_singleton _ _, ?_⟩
    intro x hx y hy e
    rw [List.mem_singleton] at hy
    subst hy
    obtain ⟨b, c⟩ := x
    cases c with
    | false => exact ⟨rfl, rfl⟩
    | true =>
      have e2 : b = a := e
      subst e2
      exact absurd rfl ((List.nodup_append.mp hnd).2.2 b (List.mem_append_left _ hau) b (spa_mem.mpr hx))
  · intro b hb
    rcases List.mem_append.mp hb with q | q
    · rcases hj3 b q with q2 | q2
      · rcases List.mem_cons.mp (hp.mem_iff.mp q2) with q3 | q3
        · rw [q3]; exact Or.inr (List.mem_append_right _ List.mem_cons_self)
        · exact Or.inl q3
      · exact Or.inr (List.mem_append_left _ q2)
    · rw [List.mem_singleton] at q
      exact absurd (congrArg Prod.snd q) (by simp)
  · rw [List.reverse_append]
    exact ⟨(List.nodup_cons.mp hnd1).1, fun b hb => fun e => hk2.1 b hb e.symm, by omega, jn_perm J.reverse us (a :: us1) hp hco⟩
  · intro b hb
    refine hcs b ?_
    rcases hb with q | q
    · exact Or.inl (hp.mem_iff.mpr (List.mem_cons_of_mem _ q))
    · rw [List.map_append] at q
      rcases List.mem_append.mp q with q2 | q2
      · exact Or.inr q2
      · simp only [List.map_cons, List.map_nil, List.mem_singleton] at q2
        rw [q2]; exact Or.inl hau
theorem dk_ok.make {U : Nat} {us bs bs1 : List Nat} {J : List (Nat × Bool)} {cx : Nat → cCoin} {a : Nat} {x : cCoin} (h : dk_ok U us bs J cx) (hnd : (a :: (us ++ bs1 ++ spa J)).Nodup) (hk : ∀ b ∈ us, (cx b).1 ≠ x.1) (hul : us.length < U) (h31 : us.length + bs1.length + (spa J).length < 3 * U) (hx : sc_ok x.2.1) : dk_ok U (us ++ [a]) bs1 (J ++ [(a, false)]) (gup cx a x) := by
  have hdone := fun (y : Nat × Bool) (hy : y ∈ J) => h.done hy
  obtain ⟨hU, hnd0, hjn, hj3, hkeys, hul0, hsl, h3, hco, hcs⟩ := h
  have hnc := List.nodup_cons.mp hnd
  have hau : a ∉ us := fun q => hnc.1 (List.mem_append_left _ (List.mem_append_left _ q))
  have has : a ∉ spa J := fun q => hnc.1 (List.mem_append_right _ q)
  have haJ : ∀ y ∈ J, y.1 ≠ a := fun y hy e => by
    rcases hdone y hy with q | q
    · exact hau (e ▸ q)
    · exact has (e ▸ q)
  have hsp : spa (J ++ [(a, false)]) = spa J := by rw [spa_app]; simp [spa]
  refine ⟨hU, ?_, ?_, ?_, ?_, by rw [List.length_append]; simp only [List.length_cons, List.length_nil]; omega, by rw [hsp]; exact hsl, by rw [hsp, List.length_append]; simp only [List.length_cons, List.length_nil]; omega, ?_, ?_⟩
  · rw [hsp]
    have q : (a :: (us ++ bs1 ++ spa J)).Perm (us ++ [a] ++ bs1 ++ spa J) := by
      have q1 : (a :: us).Perm (us ++ [a]) := List.perm_append_comm (l₁ := [a]) (l₂ := us)
      exact (q1.append_right bs1).append_right (spa J)
    exact q.nodup_iff.mp hnd
  · refine List.pairwise_append.mpr ⟨hjn, List.pairwise_singleton _ _, ?_⟩
    intro y hy z hz e
    rw [List.mem_singleton] at hz
    subst hz
    exact absurd e (haJ y hy)
  · intro b hb
    rcases List.mem_append.mp hb with q | q
    · rcases hj3 b q with q2 | q2
      · exact Or.inl (List.mem_append_left _ q2)
      · exact Or.inr (List.mem_append_left _ q2)
    · rw [List.mem_singleton] at q
      rw [show b = a from congrArg Prod.fst q]
      exact Or.inl (List.mem_append_right _ List.mem_cons_self)
  · refine List.pairwise_append.mpr ⟨?_, List.pairwise_singleton _ _, ?_⟩
    · refine List.Pairwise.imp_of_mem ?_ hkeys
      intro b c hb hc q
      have hb1 : b ≠ a := fun e => hau (e ▸ hb)
      have hc1 : c ≠ a := fun e => hau (e ▸ hc)
      rw [gup_ne hb1, gup_ne hc1]
      exact q
    · intro b hb c hc
      rw [List.mem_singleton] at hc
      subst hc
      have hb1 : b ≠ c := fun e => hau (e ▸ hb)
      rw [gup_same, gup_ne hb1]
      exact hk b hb
  · rw [List.reverse_append]
    have q1 : jn_co (fun b => (gup cx a x b).1) U J.reverse us := by
      refine jn_congr J.reverse us ?_ ?_ hco
      · intro b hb
        show (cx b).1 = (gup cx a x b).1
        have hb1 : b ≠ a := fun e => hau (e ▸ hb)
        rw [gup_ne hb1]
      · intro y hy
        show (cx y.1).1 = (gup cx a x y.1).1
        rw [gup_ne (haJ y (List.mem_reverse.mp hy))]
    refine ⟨List.mem_append_right _ List.mem_cons_self, ?_⟩
    have e1 : (us ++ [a]).erase a = us := by rw [List.erase_append_right _ hau]; simp
    show jn_co _ U J.reverse ((us ++ [a]).erase a)
    rw [e1]
    exact q1
  · intro b hb
    by_cases hba : b = a
    · rw [hba, gup_same]; exact hx
    · rw [gup_ne hba]
      refine hcs b ?_
      rcases hb with q | q
      · rcases List.mem_append.mp q with q2 | q2
        · exact Or.inl q2
        · exact absurd (List.mem_singleton.mp q2) hba
      · rw [List.map_append] at q
        rcases List.mem_append.mp q with q2 | q2
        · exact Or.inr q2
        · simp only [List.map_cons, List.map_nil, List.mem_singleton] at q2
          exact absurd q2 hba
theorem dk_ok.last_made {U : Nat} {us bs : List Nat} {J : List (Nat × Bool)} {cx : Nat → cCoin} {a : Nat} (h : dk_ok U us bs (J ++ [(a, false)]) cx) : a ∈ us := by
  have hco := h.2.2.2.2.2.2.2.2.1
  rw [List.reverse_append] at hco
  exact hco.1
theorem dk_ok.unmake {U : Nat} {us us1 bs : List Nat} {J : List (Nat × Bool)} {cx : Nat → cCoin} {a : Nat} (h : dk_ok U us bs (J ++ [(a, false)]) cx) (hp : us.Perm (a :: us1)) : dk_ok U us1 (bs ++ [a]) J cx := by
  obtain ⟨hU, hnd, hjn, hj3, hkeys, hul, hsl, h3, hco, hcs⟩ := h
  have hlen : us.length = us1.length + 1 := by rw [hp.length_eq]; rfl
  have hsp : spa (J ++ [(a, false)]) = spa J := by rw [spa_app]; simp [spa]
  rw [hsp] at hnd hsl h3
  have hk2 := List.pairwise_cons.mp ((List.Perm.pairwise_iff (fun {x y} q => fun e => q e.symm) hp).mp hkeys)
  have hnd1 : (a :: us1).Nodup := hp.nodup_iff.mp (List.nodup_append.mp (List.nodup_append.mp hnd).1).1
  have hj := List.pairwise_append.mp hjn
  refine ⟨hU, ?_, hj.1, ?_, hk2.2, by omega, hsl, by rw [List.length_append]; simp only [List.length_cons, List.length_nil]; omega, ?_, ?_⟩
  · have q : (us ++ bs ++ spa J).Perm (us1 ++ (bs ++ [a]) ++ spa J) := by
      refine List.Perm.append_right (spa J) ?_
      have q1 : (us ++ bs).Perm ((a :: us1) ++ bs) := hp.append_right bs
      have q2 : ((a :: us1) ++ bs).Perm ((us1 ++ bs) ++ [a]) := List.perm_append_comm (l₁ := [a]) (l₂ := us1 ++ bs)
      rw [← List.append_assoc]
      exact q1.trans q2
    exact q.nodup_iff.mp hnd
  · intro b hb
    have hba : b ≠ a := fun e => by
      have q := hj.2.2 (b, false) hb (a, false) List.mem_cons_self e
      exact absurd q.2 (by simp)
    rcases hj3 b (List.mem_append_left _ hb) with q | q
    · rcases List.mem_cons.mp (hp.mem_iff.mp q) with q2 | q2
      · exact absurd q2 hba
      · exact Or.inl q2
    · rcases List.mem_append.mp q with q2 | q2
      · exact Or.inr q2
      · rw [List.mem_singleton] at q2
        exact absurd (congrArg Prod.snd q2) (by simp)
  · rw [List.reverse_append] at hco
    have q1 : (us.erase a).Perm us1 := by
      have q2 := hp.erase a
      rw [List.erase_cons_head] at q2
      exact q2
    exact jn_perm J.reverse _ us1 q1 hco.2
  · intro b hb
    refine hcs b ?_
    rcases hb with q | q
    · exact Or.inl (hp.mem_iff.mpr (List.mem_cons_of_mem _ q))
    · rw [List.map_append]
      exact Or.inr (List.mem_append_left _ q)
theorem dk_ok.last_spent {U : Nat} {us bs : List Nat} {J : List (Nat × Bool)} {cx : Nat → cCoin} {a : Nat} (h : dk_ok U us bs (J ++ [(a, true)]) cx) : a ∉ us ∧ (∀ b ∈ us, (cx b).1 ≠ (cx a).1) ∧ us.length < U := by
  have hco := h.2.2.2.2.2.2.2.2.1
  rw [List.reverse_append] at hco
  exact ⟨hco.1, hco.2.1, hco.2.2.1⟩
theorem dk_ok.unspend {U : Nat} {us bs : List Nat} {J : List (Nat × Bool)} {cx : Nat → cCoin} {a : Nat} (h : dk_ok U us bs (J ++ [(a, true)]) cx) : dk_ok U (us ++ [a]) bs J cx := by
  obtain ⟨ha, hka, hlt⟩ := h.last_spent
  obtain ⟨hU, hnd, hjn, hj3, hkeys, hul, hsl, h3, hco, hcs⟩ := h
  have hsp : spa (J ++ [(a, true)]) = spa J ++ [a] := by rw [spa_app]; rfl
  rw [hsp] at hnd hsl h3
  rw [List.length_append] at hsl h3
  simp only [List.length_cons, List.length_nil] at hsl h3
  have hj := List.pairwise_append.mp hjn
  refine ⟨hU, ?_, hj.1, ?_, ?_, by rw [List.length_append]; simp only [List.length_cons, List.length_nil]; omega, by omega, by rw [List.length_append]; simp only [List.length_cons, List.length_nil]; omega, ?_, ?_⟩
  · have q : (us ++ bs ++ (spa J ++ [a])).Perm (us ++ [a] ++ bs ++ spa J) := by
      have q1 : (us ++ bs ++ spa J ++ [a]).Perm (a :: (us ++ bs ++ spa J)) := List.perm_append_comm (l₁ := us ++ bs ++ spa J) (l₂ := [a])
      have q2 : ((a :: us) ++ bs ++ spa J).Perm (us ++ [a] ++ bs ++ spa J) := ((List.perm_append_comm (l₁ := [a]) (l₂ := us)).append_right bs).append_right (spa J)
      rw [← List.append_assoc]
      exact q1.trans q2
    exact q.nodup_iff.mp hnd
  · intro b hb
    rcases hj3 b (List.mem_append_left _ hb) with q | q
    · exact Or.inl (List.mem_append_left _ q)
    · rcases List.mem_append.mp q with q2 | q2
      · exact Or.inr q2
      · rw [List.mem_singleton] at q2
        rw [show b = a from congrArg Prod.fst q2]
        exact Or.inl (List.mem_append_right _ List.mem_cons_self)
  · refine List.pairwise_append.mpr ⟨hkeys, List.pairwise_singleton _ _, ?_⟩
    intro b hb c hc
    rw [List.mem_singleton] at hc
    subst hc
    exact hka b hb
  · rw [List.reverse_append] at hco
    exact jn_perm J.reverse (a :: us) (us ++ [a]) (List.perm_append_comm (l₁ := [a]) (l₂ := us)) hco.2.2.2
  · intro b hb
    refine hcs b ?_
    rw [List.map_append]
    rcases hb with q | q
    · rcases List.mem_append.mp q with q2 | q2
      · exact Or.inl q2
      · rw [List.mem_singleton] at q2
        rw [q2]
        exact Or.inr (List.mem_append_right _ List.mem_cons_self)
    · exact Or.inr (List.mem_append_left _ q)
theorem dk_ok.forget {U : Nat} {us bs : List Nat} {J1 J2 : List (Nat × Bool)} {cx : Nat → cCoin} (h : dk_ok U us bs (J1 ++ J2) cx) : dk_ok U us (bs ++ spa J1) J2 cx := by
  obtain ⟨hU, hnd, hjn, hj3, hkeys, hul, hsl, h3, hco, hcs⟩ := h
  rw [spa_app] at hnd hsl h3
  rw [List.length_append] at hsl h3
  have hj := List.pairwise_append.mp hjn
  refine ⟨hU, ?_, hj.2.1, ?_, hkeys, hul, by omega, by rw [List.length_append]; omega, ?_, ?_⟩
  · rw [show us ++ (bs ++ spa J1) ++ spa J2 = us ++ bs ++ (spa J1 ++ spa J2) by simp only [List.append_assoc]]
    exact hnd
  · intro b hb
    rcases hj3 b (List.mem_append_right _ hb) with q | q
    · exact Or.inl q
    · rcases List.mem_append.mp q with q2 | q2
      · have q3 := hj.2.2 (b, true) q2 (b, false) hb rfl
        exact absurd q3.1 (by simp)
      · exact Or.inr q2
  · rw [List.reverse_append] at hco
    exact jn_take J2.reverse J1.reverse us hco
  · intro b hb
    refine hcs b ?_
    rw [List.map_append]
    rcases hb with q | q
    · exact Or.inl q
    · exact Or.inr (List.mem_append_right _ q)
/-! the records' lengths -/
def linc (ls : List Nat) : List Nat := ls.set (ls.length - 1) (ls.getD (ls.length - 1) 0 + 1)
theorem linc_len (ls : List Nat) : (linc ls).length = ls.length := by simp [linc]
theorem linc_app (ls : List Nat) (x : Nat) : linc (ls ++ [x]) = ls ++ [x + 1] := by
  unfold linc
  have e1 : (ls ++ [x]).length - 1 = ls.length := by simp
  rw [e1, List.set_append_right _ _ (Nat.le_refl _)]
  simp [List.getD]
theorem lf_add {ls : List Nat} {lf : Nat → Nat} (h : ∀ j (h : j < ls.length), lf j = ls[j]) (x : Nat) : ∀ j (h : j < (ls ++ [x]).length), gup lf ls.length x j = (ls ++ [x])[j] := by
  intro j hj
  by_cases hq : j = ls.length
  · subst hq; simp [gup]
  · have hlt : j < ls.length := by simp at hj; omega
    rw [gup_ne hq, h j hlt, List.getElem_append_left hlt]
theorem lf_inc {ls : List Nat} {lf : Nat → Nat} (h : ∀ j (h : j < ls.length), lf j = ls[j]) (h1 : 1 ≤ ls.length) : ∀ j (h : j < (linc ls).length), gup lf (ls.length - 1) (lf (ls.length - 1) + 1) j = (linc ls)[j] := by
  intro j hj
  have hj2 : j < ls.length := by rw [linc_len] at hj; exact hj
  have hl : lf (ls.length - 1) = ls.getD (ls.length - 1) 0 := by
    rw [h _ (by omega)]
    simp [List.getD, show ls.length - 1 < ls.length by omega]
  have hj3 : j < (ls.set (ls.length - 1) (ls.getD (ls.length - 1) 0 + 1)).length := hj
  have q : gup lf (ls.length - 1) (lf (ls.length - 1) + 1) j = (ls.set (ls.length - 1) (ls.getD (ls.length - 1) 0 + 1))[j]'hj3 := by
    rw [List.getElem_set]
    by_cases hq : j = ls.length - 1
    · rw [if_pos hq.symm, hq, gup_same, hl]
    · rw [if_neg (fun e => hq e.symm), gup_ne hq, h j hj2]
  exact q
theorem jf_add {J : List (Nat × Bool)} {jf : Nat → Option Nat} {sb : Nat → Bool} (h : ∀ j (h : j < J.length), jf j = some J[j].1 ∧ sb j = J[j].2) (x : Nat × Bool) : ∀ j (h : j < (J ++ [x]).length), va_up jf J.length (some x.1) j = some (J ++ [x])[j].1 ∧ gup sb J.length x.2 j = (J ++ [x])[j].2 := by
  intro j hj
  by_cases hq : j = J.length
  · subst hq; simp [gup, va_up]
  · have hlt : j < J.length := by simp at hj; omega
    rw [List.getElem_append_left hlt, gup_ne hq]
    simp only [va_up, if_neg hq]
    exact h j hlt
