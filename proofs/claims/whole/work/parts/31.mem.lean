theorem ls_getD {α : Type} (l : List α) (j : Nat) (d : α) (h : j < l.length) : l.getD j d = l[j] := by simp [List.getD, h]
theorem dk_uniq {us : List Nat} {cx : Nat → cCoin} (h : us.Pairwise (fun a b => (cx a).1 ≠ (cx b).1)) {i j : Nat} (hi : i < us.length) (hj : j < us.length) (e : (cx (us.getD i 0)).1 = (cx (us.getD j 0)).1) : i = j := by
  have hg : ∀ q (hq : q < us.length), us.getD q 0 = us[q] := fun q hq => by simp [List.getD, hq]
  rw [hg i hi, hg j hj] at e
  have hp := List.pairwise_iff_getElem.mp h
  rcases Nat.lt_trichotomy i j with q | q | q
  · exact absurd e (hp i j hi hj q)
  · exact q
  · exact absurd e.symm (hp j i hj hi q)
theorem dk_getD {us : List Nat} {j : Nat} (hj : j < us.length) : us.getD j 0 ∈ us := by
  rw [show us.getD j 0 = us[j] by simp [List.getD, hj]]
  exact List.getElem_mem hj
theorem dk_m_spend {us us1 bs : List Nat} {J : List (Nat × Bool)} {x b : Nat} {t : Bool} (hp : us.Perm (x :: us1)) (h : b ∈ us1 ∨ b ∈ bs ∨ b ∈ (J ++ [(x, t)]).map (fun x => x.1)) : b ∈ us ∨ b ∈ bs ∨ b ∈ J.map (fun x => x.1) := by
  rcases h with q | q | q
  · exact Or.inl (hp.mem_iff.mpr (List.mem_cons_of_mem _ q))
  · exact Or.inr (Or.inl q)
  · rw [List.map_append] at q
    rcases List.mem_append.mp q with q2 | q2
    · exact Or.inr (Or.inr q2)
    · simp only [List.map_cons, List.map_nil, List.mem_singleton] at q2
      rw [q2]; exact Or.inl (hp.mem_iff.mpr List.mem_cons_self)
theorem dk_m_unmake {us us1 bs : List Nat} {J : List (Nat × Bool)} {x b : Nat} {t : Bool} (hp : us.Perm (x :: us1)) (h : b ∈ us1 ∨ b ∈ bs ++ [x] ∨ b ∈ J.map (fun x => x.1)) : b ∈ us ∨ b ∈ bs ∨ b ∈ (J ++ [(x, t)]).map (fun x => x.1) := by
  rcases h with q | q | q
  · exact Or.inl (hp.mem_iff.mpr (List.mem_cons_of_mem _ q))
  · rcases List.mem_append.mp q with q2 | q2
    · exact Or.inr (Or.inl q2)
    · rw [List.mem_singleton.mp q2]; exact Or.inl (hp.mem_iff.mpr List.mem_cons_self)
  · rw [List.map_append]; exact Or.inr (Or.inr (List.mem_append_left _ q))
theorem dk_m_unspend {us bs : List Nat} {J : List (Nat × Bool)} {x b : Nat} {t : Bool} (h : b ∈ us ++ [x] ∨ b ∈ bs ∨ b ∈ J.map (fun x => x.1)) : b ∈ us ∨ b ∈ bs ∨ b ∈ (J ++ [(x, t)]).map (fun x => x.1) := by
  rw [List.map_append]
  rcases h with q | q | q
  · rcases List.mem_append.mp q with q2 | q2
    · exact Or.inl q2
    · rw [List.mem_singleton.mp q2]; exact Or.inr (Or.inr (List.mem_append_right _ List.mem_cons_self))
  · exact Or.inr (Or.inl q)
  · exact Or.inr (Or.inr (List.mem_append_left _ q))
theorem dk_m_forget {us bs : List Nat} {J1 J2 : List (Nat × Bool)} {b : Nat} (h : b ∈ us ∨ b ∈ bs ++ spa J1 ∨ b ∈ J2.map (fun x => x.1)) : b ∈ us ∨ b ∈ bs ∨ b ∈ (J1 ++ J2).map (fun x => x.1) := by
  rw [List.map_append]
  rcases h with q | q | q
  · exact Or.inl q
  · rcases List.mem_append.mp q with q2 | q2
    · exact Or.inr (Or.inl q2)
    · exact Or.inr (Or.inr (List.mem_append_left _ (List.mem_map.mpr ⟨(b, true), spa_mem.mp q2, rfl⟩)))
  · exact Or.inr (Or.inr (List.mem_append_right _ q))
theorem dk_m_make {us bs : List Nat} {J : List (Nat × Bool)} {x b : Nat} {t : Bool} (hb : b ≠ x) (h : b ∈ us ++ [x] ∨ b ∈ bs ∨ b ∈ (J ++ [(x, t)]).map (fun x => x.1)) : b ∈ us ∨ b ∈ bs ∨ b ∈ J.map (fun x => x.1) := by
  rw [List.map_append] at h
  rcases h with q | q | q
  · rcases List.mem_append.mp q with q2 | q2
    · exact Or.inl q2
    · exact absurd (List.mem_singleton.mp q2) hb
  · exact Or.inr (Or.inl q)
  · rcases List.mem_append.mp q with q2 | q2
    · exact Or.inr (Or.inr q2)
    · simp only [List.map_cons, List.map_nil, List.mem_singleton] at q2
      exact absurd q2 hb
theorem jf_last {J : List (Nat × Bool)} {x : Nat × Bool} {jf : Nat → Option Nat} {sb : Nat → Bool} (h : ∀ j (h : j < (J ++ [x]).length), jf j = some (J ++ [x])[j].1 ∧ sb j = (J ++ [x])[j].2) : jf ((J ++ [x]).length - 1) = some x.1 ∧ sb ((J ++ [x]).length - 1) = x.2 := by
  have e : (J ++ [x]).length - 1 = J.length := by simp
  rw [e]
  have q := h J.length (by simp)
  simp only [List.getElem_concat_length] at q
  exact q
theorem jf_less {J : List (Nat × Bool)} {x : Nat × Bool} {jf : Nat → Option Nat} {sb : Nat → Bool} (h : ∀ j (h : j < (J ++ [x]).length), jf j = some (J ++ [x])[j].1 ∧ sb j = (J ++ [x])[j].2) : ∀ j (h : j < J.length), jf j = some J[j].1 ∧ sb j = J[j].2 := by
  intro j hj
  have q := h j (by simp; omega)
  rw [List.getElem_append_left hj] at q
  exact q
theorem rl_last {bs : List Nat} {a : Nat} {f : Nat → Option Nat} (h : rl (bs ++ [a]) f) : f ((bs ++ [a]).length - 1) = some a := by
  have e : (bs ++ [a]).length - 1 = bs.length := by simp
  rw [e]
  have q := h bs.length (by simp)
  simp only [List.getElem_concat_length] at q
  exact q
theorem rl_less {bs : List Nat} {a : Nat} {f : Nat → Option Nat} (h : rl (bs ++ [a]) f) : rl bs f := by
  intro j hj
  have q := h j (by simp; omega)
  rw [List.getElem_append_left hj] at q
  exact q
theorem lf_less {ls : List Nat} {x : Nat} {lf : Nat → Nat} (h : ∀ j (h : j < (ls ++ [x]).length), lf j = (ls ++ [x])[j]) : ∀ j (h : j < ls.length), lf j = ls[j] := by
  intro j hj
  have q := h j (by simp; omega)
  rw [List.getElem_append_left hj] at q
  exact q
theorem lf_last {ls : List Nat} {x : Nat} {lf : Nat → Nat} (h : ∀ j (h : j < (ls ++ [x]).length), lf j = (ls ++ [x])[j]) : lf ((ls ++ [x]).length - 1) = x := by
  have e : (ls ++ [x]).length - 1 = ls.length := by simp
  rw [e]
  have q := h ls.length (by simp)
  simp only [List.getElem_concat_length] at q
  exact q
/-- two coins lie apart -/
theorem cn_sep {ta : Nat → ClassId} {w : fw_W} {a b : Nat} {x y : cCoin} (ha : cn_at ta w a x) (hb : cn_at ta w b y) (h : a ≠ b) : a + 3 < b ∨ b + 3 < a := by
  have h01 := fw_noo ha.1 hb.2.1 (by decide)
  have h02 := fw_noo ha.1 hb.2.2.1 (by decide)
  have h03 := (fw_nio hb.2.2.2 ha.1).symm
  have h10 := fw_noo ha.2.1 hb.1 (by decide)
  have h20 := fw_noo ha.2.2.1 hb.1 (by decide)
  have h30 := fw_nio ha.2.2.2 hb.1
  omega
/-- taking back K (the latest first) leads from us, bs to us1, bs1 -/
def jn_un : List (Nat × Bool) → List Nat → List Nat → List Nat → List Nat → Prop
  | [], us, bs, us1, bs1 => us1 = us ∧ bs1 = bs
  | (a, false) :: K, us, bs, us1, bs1 => ∃ u, us.Perm (a :: u) ∧ jn_un K u (bs ++ [a]) us1 bs1
  | (a, true) :: K, us, bs, us1, bs1 => jn_un K (us ++ [a]) bs us1 bs1
theorem jn_un_trans : ∀ (K K2 : List (Nat × Bool)) (us bs us1 bs1 us2 bs2 : List Nat), jn_un K us bs us1 bs1 → jn_un K2 us1 bs1 us2 bs2 → jn_un (K ++ K2) us bs us2 bs2 := by
  intro K
  induction K with
  | nil =>
    intro K2 us bs us1 bs1 us2 bs2 h h2
    obtain ⟨rfl, rfl⟩ := h
    exact h2
  | cons x K ih =>
    intro K2 us bs us1 bs1 us2 bs2 h h2
    obtain ⟨a, b⟩ := x
    cases b with
    | false =>
      obtain ⟨u, hp, hq⟩ := h
      exact ⟨u, hp, ih K2 _ _ _ _ _ _ hq h2⟩
    | true => exact ih K2 _ _ _ _ _ _ h h2
theorem sadd_spa {J1 : List (Nat × Bool)} {ga : Nat → Nat} {sb : Nat → Bool} (h : ∀ j (h : j < J1.length), ga j = J1[j].1 ∧ sb j = J1[j].2) : sadd ga sb J1.length = spa J1 := by
  have key : ∀ i, i ≤ J1.length → sadd ga sb i = spa (J1.take i) := by
    intro i
    induction i with
    | zero => intro _; rfl
    | succ i ih =>
      intro hi
      have hlt : i < J1.length := by omega
      have e : J1.take (i + 1) = J1.take i ++ [J1[i]] := by rw [List.take_succ_eq_append_getElem hlt]
      obtain ⟨h1, h2⟩ := h i hlt
      rw [e, spa_app, ← ih (by omega)]
      show (if sb i then sadd ga sb i ++ [ga i] else sadd ga sb i) = _
      rw [h1, h2]
      cases hq : J1[i].2 <;> simp [spa, hq]
  rw [key J1.length (Nat.le_refl _), List.take_length]
