/-! THE CLASS AND THE REFERENCE SIDE BY SIDE, in pure words: pl tells a coin's place in the reference's rows -/
theorem ls_nodup_range (n : Nat) : (List.range n).Nodup := by
  induction n with
  | zero => exact List.nodup_nil
  | succ n ih =>
    rw [List.range_succ]
    refine List.nodup_append.mpr ⟨ih, List.nodup_cons.mpr ⟨List.not_mem_nil, List.nodup_nil⟩, ?_⟩
    intro a ha b hb
    rw [List.mem_singleton] at hb
    rw [List.mem_range] at ha
    omega
theorem cnt_filter (f : Nat → Nat) (v N : Nat) : cnt f v N = ((List.range N).filter (fun p => decide (f p = v))).length := by
  induction N with
  | zero => rfl
  | succ N ih =>
    rw [List.range_succ, List.filter_append, List.length_append, ← ih]
    show cnt f v N + (if f N = v then 1 else 0) = _
    by_cases h : f N = v <;> simp [h]
theorem ls_filter_perm {f : Nat → Nat} {v N : Nat} {l : List Nat} (hn : l.Nodup) (hl : ∀ p ∈ l, p < N) (h : ∀ p, p < N → (f p = v ↔ p ∈ l)) : ((List.range N).filter (fun p => decide (f p = v))).Perm l := by
  refine (List.perm_ext_iff_of_nodup (List.Pairwise.filter _ (ls_nodup_range N)) hn).mpr (fun p => ?_)
  rw [List.mem_filter, List.mem_range]
  constructor
  · rintro ⟨h1, h2⟩
    exact (h p h1).mp (of_decide_eq_true h2)
  · intro hp
    exact ⟨hl p hp, decide_eq_true ((h p (hl p hp)).mpr hp)⟩
theorem cnt_mem {f : Nat → Nat} {v N : Nat} {l : List Nat} (hn : l.Nodup) (hl : ∀ p ∈ l, p < N) (h : ∀ p, p < N → (f p = v ↔ p ∈ l)) : cnt f v N = l.length := by
  rw [cnt_filter]
  exact (ls_filter_perm hn hl h).length_eq
/-! sums -/
def lsum : List Int64 → Int64
  | [] => 0
  | x :: t => x + lsum t
theorem lsum_perm {l1 l2 : List Int64} (h : l1.Perm l2) : lsum l1 = lsum l2 := by
  induction h with
  | nil => rfl
  | cons x _ ih => show x + _ = x + _; rw [ih]
  | swap x y l =>
    show y + (x + lsum l) = x + (y + lsum l)
    rw [← Int64.add_assoc, ← Int64.add_assoc, Int64.add_comm y x]
  | trans _ _ ih1 ih2 => exact ih1.trans ih2
theorem lsum_app (l : List Int64) (x : Int64) : lsum (l ++ [x]) = lsum l + x := by
  induction l with
  | nil => show x + 0 = 0 + x; rw [Int64.add_comm]
  | cons a t ih => show a + lsum (t ++ [x]) = a + lsum t + x; rw [ih, Int64.add_assoc]
theorem csum_lsum (g : Nat → cCoin) (n : Nat) : csum g n = lsum ((List.range n).map (fun j => (g j).2.2.1)) := by
  induction n with
  | zero => rfl
  | succ n ih =>
    rw [List.range_succ, List.map_append]
    show csum g n + (g n).2.2.1 = lsum (_ ++ [_])
    rw [lsum_app, ih]
theorem msum_lsum (stt : Nat → Nat) (vls : Nat → Int64) (N : Nat) : msum stt vls N = lsum (((List.range N).filter (fun p => decide (stt p = 1))).map vls) := by
  induction N with
  | zero => rfl
  | succ N ih =>
    rw [List.range_succ, List.filter_append, List.map_append]
    show msum stt vls N + (if stt N = 1 then vls N else 0) = _
    by_cases h : stt N = 1
    · have e : ([N].filter (fun p => decide (stt p = 1))).map vls = [vls N] := by simp [h]
      rw [e, lsum_app, if_pos h, ih]
    · have e : ([N].filter (fun p => decide (stt p = 1))).map vls = [] := by simp [h]
      rw [e, if_neg h, List.append_nil, ih, Int64.add_zero]
theorem ls_range_map (us : List Nat) : (List.range us.length).map (fun j => us.getD j 0) = us := by
  apply List.ext_getElem
  · simp
  · intro i h1 h2
    simp [List.getD, h2]
/-! the key in hand, the script in hand, a coin -/
def kc (k : cKey) (j : Nat) : Int64 := if j = 0 then k.1 else if j = 1 then k.2.1 else if j = 2 then k.2.2.1 else k.2.2.2.1
theorem kc_ext {k k2 : cKey} (h : ∀ j, j < 4 → kc k j = kc k2 j) (hi : k.2.2.2.2 = k2.2.2.2.2) : k = k2 :=
  Prod.ext (h 0 (by decide)) (Prod.ext (h 1 (by decide)) (Prod.ext (h 2 (by decide)) (Prod.ext (h 3 (by decide)) hi)))
def sm_hand (k : cKey) (L : Nat) (f : Nat → Int32) (ix : Int32) (kyh : Nat → Int64) (scf : Nat → Int32) : Prop := ix = k.2.2.2.2 ∧ (∀ j, j < 4 → kyh j = kc k j) ∧ (∀ j, j < L → scf j = f j)
def sm_coin (x : cCoin) (p : Nat) (kys : Nat → Int64) (idx : Nat → Int32) (vls : Nat → Int64) (hgs : Nat → Nat) (frs : Nat → Bool) (szs : Nat → Nat) (ss : Nat → Nat → Int32) : Prop :=
  (∀ j, j < 4 → kys (4 * p + j) = kc x.1 j) ∧ idx p = x.1.2.2.2.2 ∧ vls p = x.2.2.1 ∧ iI ((hgs p : Nat) : Int) = x.2.2.2.1 ∧ frs p = x.2.2.2.2 ∧ szs p = x.2.1.1 ∧ ∀ i, i < x.2.1.1 → mget ss p i = x.2.1.2 i
def sm_st (us sp : List Nat) (pl : Nat → Nat) (stt : Nat → Nat) : Prop := ((us ++ sp).map pl).Nodup ∧ (∀ a, a ∈ us ++ sp → pl a < 600) ∧ (∀ p, p < 600 → stt p = if p ∈ us.map pl then 1 else if p ∈ sp.map pl then 2 else 0)
theorem sm_st.lt {us sp : List Nat} {pl stt : Nat → Nat} (h : sm_st us sp pl stt) : ∀ p, p < 600 → stt p < 3 := by
  intro p hp
  rw [h.2.2 p hp]
  split
  · decide
  · split <;> decide
theorem sm_st.one {us sp : List Nat} {pl stt : Nat → Nat} (h : sm_st us sp pl stt) {p : Nat} (hp : p < 600) : stt p = 1 ↔ p ∈ us.map pl := by
  rw [h.2.2 p hp]
  by_cases h1 : p ∈ us.map pl
  · simp [h1]
  · rw [if_neg h1]
    constructor
    · intro q
      by_cases h2 : p ∈ sp.map pl
      · rw [if_pos h2] at q; omega
      · rw [if_neg h2] at q; omega
    · intro q; exact absurd q h1
theorem sm_st.two {us sp : List Nat} {pl stt : Nat → Nat} (h : sm_st us sp pl stt) {p : Nat} (hp : p < 600) : stt p = 2 ↔ p ∈ sp.map pl := by
  have hd := h.1
  rw [List.map_append] at hd
  rw [h.2.2 p hp]
  by_cases h1 : p ∈ us.map pl
  · rw [if_pos h1]
    constructor
    · intro q; omega
    · intro q; exact absurd rfl ((List.nodup_append.mp hd).2.2 p h1 p q)
  · rw [if_neg h1]
    by_cases h2 : p ∈ sp.map pl
    · simp [h2]
    · rw [if_neg h2]
      constructor
      · intro q; omega
      · intro q; exact absurd q h2
theorem sm_st.c1 {us sp : List Nat} {pl stt : Nat → Nat} (h : sm_st us sp pl stt) : cnt stt 1 600 = us.length := by
  have hd := h.1
  rw [List.map_append] at hd
  rw [cnt_mem (l := us.map pl) (List.nodup_append.mp hd).1 (fun p hp => by
    obtain ⟨a, ha, rfl⟩ := List.mem_map.mp hp
    exact h.2.1 a (List.mem_append_left _ ha)) (fun p hp => h.one hp), List.length_map]
theorem sm_st.c2 {us sp : List Nat} {pl stt : Nat → Nat} (h : sm_st us sp pl stt) : cnt stt 2 600 = sp.length := by
  have hd := h.1
  rw [List.map_append] at hd
  rw [cnt_mem (l := sp.map pl) (List.nodup_append.mp hd).2.1 (fun p hp => by
    obtain ⟨a, ha, rfl⟩ := List.mem_map.mp hp
    exact h.2.1 a (List.mem_append_right _ ha)) (fun p hp => h.two hp), List.length_map]
theorem sm_total {us sp : List Nat} {pl stt : Nat → Nat} {vls : Nat → Int64} {cx : Nat → cCoin} (h : sm_st us sp pl stt) (hv : ∀ a ∈ us, vls (pl a) = (cx a).2.2.1) : msum stt vls 600 = csum (fun j => cx (us.getD j 0)) us.length := by
  have hd := h.1
  rw [List.map_append] at hd
  have hp : ((List.range 600).filter (fun p => decide (stt p = 1))).Perm (us.map pl) := ls_filter_perm (List.nodup_append.mp hd).1 (fun p hp => by
    obtain ⟨a, ha, rfl⟩ := List.mem_map.mp hp
    exact h.2.1 a (List.mem_append_left _ ha)) (fun p hp => h.one hp)
  rw [msum_lsum, lsum_perm (hp.map vls), csum_lsum, List.map_map]
  have e1 : us.map (vls ∘ pl) = us.map (fun a => (cx a).2.2.1) := List.map_congr_left (fun a ha => hv a ha)
  have e2 : (List.range us.length).map (fun j => (cx (us.getD j 0)).2.2.1) = us.map (fun a => (cx a).2.2.1) := by
    have q := congrArg (List.map (fun a => (cx a).2.2.1)) (ls_range_map us)
    rw [List.map_map] at q
    exact q
  rw [e1, e2]
theorem mmb_iff {stt : Nat → Nat} {idx : Nat → Int32} {ix : Int32} {kys kyh : Nat → Int64} {p : Nat} : mmb stt idx ix kys kyh p 4 = true ↔ stt p = 1 ∧ idx p = ix ∧ ∀ j, j < 4 → kys (4 * p + j) = kyh j := by
  constructor
  · intro h
    simp only [mmb, Bool.and_eq_true, decide_eq_true_eq] at h
    obtain ⟨⟨⟨⟨⟨h1, h2⟩, h3⟩, h4⟩, h5⟩, h6⟩ := h
    refine ⟨h1, h2, fun j hj => ?_⟩
    match j, hj with
    | 0, _ => exact h3
    | 1, _ => exact h4
    | 2, _ => exact h5
    | 3, _ => exact h6
    | j + 4, hj => exact absurd hj (by omega)
  · rintro ⟨h1, h2, h3⟩
    simp only [mmb, Bool.and_eq_true, decide_eq_true_eq]
    exact ⟨⟨⟨⟨⟨h1, h2⟩, h3 0 (by decide)⟩, h3 1 (by decide)⟩, h3 2 (by decide)⟩, h3 3 (by decide)⟩
section SF
variable {us sp : List Nat} {pl stt : Nat → Nat} {kys : Nat → Int64} {idx : Nat → Int32} {vls : Nat → Int64} {hgs : Nat → Nat} {frs : Nat → Bool} {szs : Nat → Nat} {ss : Nat → Nat → Int32} {cx : Nat → cCoin} {k : cKey} {L : Nat} {f : Nat → Int32} {ix : Int32} {kyh : Nat → Int64} {scf : Nat → Int32}
theorem sm_find (h : sm_st us sp pl stt) (hc : ∀ a, a ∈ us ++ sp → sm_coin (cx a) (pl a) kys idx vls hgs frs szs ss) (hh : sm_hand k L f ix kyh scf) {p : Nat} (hp : p < 600) (hm : mmb stt idx ix kys kyh p 4 = true) : ∃ a ∈ us, p = pl a ∧ (cx a).1 = k := by
  obtain ⟨h1, h2, h3⟩ := mmb_iff.mp hm
  obtain ⟨a, ha, e⟩ := List.mem_map.mp ((h.one hp).mp h1)
  subst e
  have hca := hc a (List.mem_append_left _ ha)
  refine ⟨a, ha, rfl, kc_ext (fun j hj => ?_) ?_⟩
  · rw [← hca.1 j hj, h3 j hj, hh.2.1 j hj]
  · rw [← hca.2.1, h2, hh.1]
theorem sm_hit1 (h : sm_st us sp pl stt) (hc : ∀ a, a ∈ us ++ sp → sm_coin (cx a) (pl a) kys idx vls hgs frs szs ss) (hh : sm_hand k L f ix kyh scf) {a : Nat} (ha : a ∈ us) (hk : (cx a).1 = k) : mmb stt idx ix kys kyh (pl a) 4 = true := by
  have hca := hc a (List.mem_append_left _ ha)
  refine mmb_iff.mpr ⟨(h.one (h.2.1 a (List.mem_append_left _ ha))).mpr (List.mem_map.mpr ⟨a, ha, rfl⟩), ?_, fun j hj => ?_⟩
  · rw [hca.2.1, hh.1, hk]
  · rw [hca.1 j hj, hh.2.1 j hj, hk]
theorem sm_hit2 (h : sm_st us sp pl stt) (hc : ∀ a, a ∈ us ++ sp → sm_coin (cx a) (pl a) kys idx vls hgs frs szs ss) (hh : sm_hand k L f ix kyh scf) (hkeys : us.Pairwise (fun a b => (cx a).1 ≠ (cx b).1)) {a : Nat} (ha : a ∈ us) (hk : (cx a).1 = k) : ∀ p, p < 600 → mmb stt idx ix kys kyh p 4 = true → p = pl a := by
  intro p hp hm
  obtain ⟨b, hb, e, hkb⟩ := sm_find h hc hh hp hm
  by_cases hab : a = b
  · rw [hab]; exact e
  · exfalso
    obtain ⟨i, hi, ei⟩ := List.getElem_of_mem ha
    obtain ⟨j, hj, ej⟩ := List.getElem_of_mem hb
    have hp2 := List.pairwise_iff_getElem.mp hkeys
    rcases Nat.lt_trichotomy i j with q | q | q
    · have q2 := hp2 i j hi hj q
      rw [ei, ej, hk, hkb] at q2
      exact q2 rfl
    · subst q
      exact hab (ei.symm.trans ej)
    · have q2 := hp2 j i hj hi q
      rw [ei, ej, hk, hkb] at q2
      exact q2 rfl
theorem sm_miss (h : sm_st us sp pl stt) (hc : ∀ a, a ∈ us ++ sp → sm_coin (cx a) (pl a) kys idx vls hgs frs szs ss) (hh : sm_hand k L f ix kyh scf) (hm : ∀ a ∈ us, (cx a).1 ≠ k) : ∀ p, p < 600 → mmb stt idx ix kys kyh p 4 = false := by
  intro p hp
  cases hq : mmb stt idx ix kys kyh p 4 with
  | false => rfl
  | true =>
    obtain ⟨a, ha, -, hk⟩ := sm_find h hc hh hp hq
    exact absurd hk (hm a ha)
end SF
/-! the states of the places behind each thing done or taken back -/
theorem sm_spend {us us1 sp : List Nat} {pl stt : Nat → Nat} {a : Nat} (h : sm_st us sp pl stt) (hp : us.Perm (a :: us1)) : sm_st us1 (sp ++ [a]) pl (gup stt (pl a) 2) := by
  have q : (us ++ sp).Perm (us1 ++ (sp ++ [a])) := by
    rw [← List.append_assoc]
    exact (hp.append_right sp).trans (List.perm_append_comm (l₁ := [a]) (l₂ := us1 ++ sp))
  have hn : ((us1 ++ (sp ++ [a])).map pl).Nodup := (q.map pl).nodup_iff.mp h.1
  refine ⟨hn, fun b hb => h.2.1 b (q.mem_iff.mpr hb), fun p hpp => ?_⟩
  have hn1 : ((a :: us1).map pl).Nodup := by
    have q2 := h.1
    rw [List.map_append] at q2
    exact (hp.map pl).nodup_iff.mp (List.nodup_append.mp q2).1
  have hn2 := (List.nodup_cons.mp hn1).1
  by_cases he : p = pl a
  · subst he
    rw [gup_same, if_neg hn2, if_pos (by rw [List.map_append]; exact List.mem_append_right _ List.mem_cons_self)]
  · rw [gup_ne he, h.2.2 p hpp]
    have e1 : p ∈ us.map pl ↔ p ∈ us1.map pl := by
      rw [(hp.map pl).mem_iff]
      show p ∈ pl a :: us1.map pl ↔ _
      rw [List.mem_cons]
      exact ⟨fun q => q.elim (fun q => absurd q he) id, Or.inr⟩
    have e2 : p ∈ (sp ++ [a]).map pl ↔ p ∈ sp.map pl := by
      rw [List.map_append, List.mem_append]
      show _ ∨ p ∈ [pl a] ↔ _
      rw [List.mem_singleton]
      exact ⟨fun q => q.elim id (fun q => absurd q he), Or.inl⟩
    simp only [e1, e2]
theorem sm_unspend {us sp : List Nat} {pl stt : Nat → Nat} {a : Nat} (h : sm_st us (sp ++ [a]) pl stt) : sm_st (us ++ [a]) sp pl (gup stt (pl a) 1) := by
  have q : (us ++ (sp ++ [a])).Perm (us ++ [a] ++ sp) := by
    rw [List.append_assoc]
    exact List.Perm.append_left us (List.perm_append_comm (l₁ := sp) (l₂ := [a]))
  have hn : ((us ++ [a] ++ sp).map pl).Nodup := (q.map pl).nodup_iff.mp h.1
  refine ⟨hn, fun b hb => h.2.1 b (q.mem_iff.mpr hb), fun p hpp => ?_⟩
  by_cases he : p = pl a
  · subst he
    rw [gup_same, if_pos (by rw [List.map_append]; exact List.mem_append_right _ List.mem_cons_self)]
  · rw [gup_ne he, h.2.2 p hpp]
    have e1 : p ∈ (us ++ [a]).map pl ↔ p ∈ us.map pl := by
      rw [List.map_append, List.mem_append]
      show _ ∨ p ∈ [pl a] ↔ _
      rw [List.mem_singleton]
      exact ⟨fun q => q.elim id (fun q => absurd q he), Or.inl⟩
    have e2 : p ∈ (sp ++ [a]).map pl ↔ p ∈ sp.map pl := by
      rw [List.map_append, List.mem_append]
      show _ ∨ p ∈ [pl a] ↔ _
      rw [List.mem_singleton]
      exact ⟨fun q => q.elim id (fun q => absurd q he), Or.inl⟩
    simp only [e1, e2]
theorem sm_unmake {us us1 sp : List Nat} {pl stt : Nat → Nat} {a : Nat} (h : sm_st us sp pl stt) (hp : us.Perm (a :: us1)) : sm_st us1 sp pl (gup stt (pl a) 0) := by
  have q : (us ++ sp).Perm (a :: (us1 ++ sp)) := hp.append_right sp
  have hn0 : ((a :: (us1 ++ sp)).map pl).Nodup := (q.map pl).nodup_iff.mp h.1
  have hn1 := List.nodup_cons.mp hn0
  refine ⟨hn1.2, fun b hb => h.2.1 b (q.mem_iff.mpr (List.mem_cons_of_mem _ hb)), fun p hpp => ?_⟩
  have hna := hn1.1
  rw [List.map_append, List.mem_append] at hna
  by_cases he : p = pl a
  · subst he
    rw [gup_same, if_neg (fun q => hna (Or.inl q)), if_neg (fun q => hna (Or.inr q))]
  · rw [gup_ne he, h.2.2 p hpp]
    have e1 : p ∈ us.map pl ↔ p ∈ us1.map pl := by
      rw [(hp.map pl).mem_iff]
      show p ∈ pl a :: us1.map pl ↔ _
      rw [List.mem_cons]
      exact ⟨fun q => q.elim (fun q => absurd q he) id, Or.inr⟩
    simp only [e1]
theorem sm_forget1 {us sp : List Nat} {pl stt : Nat → Nat} {a : Nat} (h : sm_st us (a :: sp) pl stt) : sm_st us sp pl (gup stt (pl a) 0) := by
  have q : (us ++ a :: sp).Perm (a :: (us ++ sp)) := List.perm_middle
  have hn0 : ((a :: (us ++ sp)).map pl).Nodup := (q.map pl).nodup_iff.mp h.1
  have hn1 := List.nodup_cons.mp hn0
  refine ⟨hn1.2, fun b hb => h.2.1 b (q.mem_iff.mpr (List.mem_cons_of_mem _ hb)), fun p hpp => ?_⟩
  have hna := hn1.1
  rw [List.map_append, List.mem_append] at hna
  by_cases he : p = pl a
  · subst he
    rw [gup_same, if_neg (fun q => hna (Or.inl q)), if_neg (fun q => hna (Or.inr q))]
  · rw [gup_ne he, h.2.2 p hpp]
    have e2 : p ∈ (a :: sp).map pl ↔ p ∈ sp.map pl := by
      show p ∈ pl a :: sp.map pl ↔ _
      rw [List.mem_cons]
      exact ⟨fun q => q.elim (fun q => absurd q he) id, Or.inr⟩
    simp only [e2]
theorem sm_make {us sp : List Nat} {pl stt : Nat → Nat} {a fk : Nat} (h : sm_st us sp pl stt) (ha : a ∉ us ++ sp) (hf : fk < 600) (h0 : stt fk = 0) : sm_st (us ++ [a]) sp (gup pl a fk) (gup stt fk 1) := by
  have hmap : ∀ l : List Nat, (∀ b ∈ l, b ∈ us ++ sp) → l.map (gup pl a fk) = l.map pl := fun l hl => List.map_congr_left (fun b hb => gup_ne (fun e => ha (e ▸ hl b hb)))
  have hu := hmap us (fun b hb => List.mem_append_left _ hb)
  have hs := hmap sp (fun b hb => List.mem_append_right _ hb)
  have hnu : fk ∉ us.map pl := fun q => by rw [(h.one hf).mpr q] at h0; omega
  have hns : fk ∉ sp.map pl := fun q => by rw [(h.two hf).mpr q] at h0; omega
  have ea : [a].map (gup pl a fk) = [fk] := by simp [gup]
  refine ⟨?_, fun b hb => ?_, fun p hpp => ?_⟩
  · rw [List.map_append, List.map_append, hu, hs, ea]
    have hd := h.1
    rw [List.map_append] at hd
    have q : (fk :: (us.map pl ++ sp.map pl)).Perm (us.map pl ++ [fk] ++ sp.map pl) := (List.perm_append_comm (l₁ := [fk]) (l₂ := us.map pl)).append_right (sp.map pl)
    refine q.nodup_iff.mp (List.nodup_cons.mpr ⟨fun q2 => ?_, hd⟩)
    rcases List.mem_append.mp q2 with q3 | q3
    · exact hnu q3
    · exact hns q3
  · by_cases hba : b = a
    · rw [hba, gup_same]; exact hf
    · rw [gup_ne hba]
      refine h.2.1 b ?_
      rcases List.mem_append.mp hb with q | q
      · rcases List.mem_append.mp q with q2 | q2
        · exact List.mem_append_left _ q2
        · exact absurd (List.mem_singleton.mp q2) hba
      · exact List.mem_append_right _ q
  · rw [List.map_append, hu, hs, ea]
    by_cases he : p = fk
    · subst he
      rw [gup_same, if_pos (List.mem_append_right _ List.mem_cons_self)]
    · rw [gup_ne he, h.2.2 p hpp]
      have e1 : p ∈ us.map pl ++ [fk] ↔ p ∈ us.map pl := by
        rw [List.mem_append, List.mem_singleton]
        exact ⟨fun q => q.elim id (fun q => absurd q he), Or.inl⟩
      simp only [e1]
theorem ls_least (P : Nat → Bool) (n : Nat) (h : P n = true) : ∃ q, q ≤ n ∧ P q = true ∧ ∀ j, j < q → P j = false := by
  induction n with
  | zero => exact ⟨0, Nat.le_refl _, h, fun j hj => absurd hj (by omega)⟩
  | succ n ih =>
    by_cases hq : ∃ j, j ≤ n ∧ P j = true
    · obtain ⟨j, hj, hpj⟩ := hq
      have key : ∀ d, d ≤ n → P d = true → ∃ q, q ≤ n ∧ P q = true ∧ ∀ j, j < q → P j = false := by
        intro d
        refine Nat.strongRecOn d ?_
        intro d ihd hd hpd
        by_cases hr : ∃ i, i < d ∧ P i = true
        · obtain ⟨i, hi, hpi⟩ := hr
          exact ihd i hi (by omega) hpi
        · refine ⟨d, hd, hpd, fun i hi => ?_⟩
          cases hpi : P i with
          | false => rfl
          | true => exact absurd ⟨i, hi, hpi⟩ hr
      obtain ⟨q, h1, h2, h3⟩ := key j hj hpj
      exact ⟨q, by omega, h2, h3⟩
    · refine ⟨n + 1, Nat.le_refl _, h, fun j hj => ?_⟩
      cases hpj : P j with
      | false => rfl
      | true => exact absurd ⟨j, by omega, hpj⟩ hq
theorem sm_free {us sp : List Nat} {pl stt : Nat → Nat} (h : sm_st us sp pl stt) (hl : us.length + sp.length < 600) : ∃ fk, fk < 600 ∧ stt fk = 0 ∧ ∀ j, j < fk → stt j ≠ 0 := by
  have hex : ∃ p, p < 600 ∧ stt p = 0 := by
    by_cases hq : ∃ p, p < 600 ∧ stt p = 0
    · exact hq
    · exfalso
      have h1 := ls_sublen (List.range 600) ((us ++ sp).map pl) (ls_nodup_range 600) (fun p hp => by
        rw [List.mem_range] at hp
        rw [List.map_append]
        have hs := h.2.2 p hp
        by_cases q1 : p ∈ us.map pl
        · exact List.mem_append_left _ q1
        · rw [if_neg q1] at hs
          by_cases q2 : p ∈ sp.map pl
          · exact List.mem_append_right _ q2
          · rw [if_neg q2] at hs
            exact absurd ⟨p, hp, hs⟩ hq)
      rw [List.length_range, List.length_map, List.length_append] at h1
      omega
  obtain ⟨p, hp, h0⟩ := hex
  obtain ⟨q, h1, h2, h3⟩ := ls_least (fun i => decide (stt i = 0)) p (decide_eq_true h0)
  exact ⟨q, by omega, of_decide_eq_true h2, fun j hj => of_decide_eq_false (h3 j hj)⟩
