/-! LISTS: the unspent coins as a list of addresses, what was done as a list of (address, spending) -/
theorem ls_setperm : ∀ (xs : List Nat) (l j : Nat) (h : j < xs.length), (l :: xs).Perm (xs[j] :: xs.set j l) := by
  intro xs
  induction xs with
  | nil => intro l j h; exact absurd h (by simp)
  | cons x t ih =>
    intro l j h
    match j, h with
    | 0, h => exact List.Perm.swap x l t
    | j + 1, h =>
      have hj : j < t.length := by simpa using h
      have h1 := ih l j hj
      show (l :: x :: t).Perm (t[j] :: x :: t.set j l)
      exact ((List.Perm.swap x l t).trans (h1.cons x)).trans (List.Perm.swap t[j] x (t.set j l))
/-- the list without its j-th, the last in its place -/
def lrem (us : List Nat) (j : Nat) : List Nat := (us.set j (us.getD (us.length - 1) 0)).dropLast
theorem lrem_len (us : List Nat) (j : Nat) : (lrem us j).length = us.length - 1 := by simp [lrem]
theorem lrem_perm {us : List Nat} {j : Nat} (h : j < us.length) : us.Perm (us[j] :: lrem us j) := by
  have hne : us ≠ [] := fun q => by rw [q] at h; exact absurd h (by simp)
  obtain ⟨xs, l, rfl⟩ : ∃ xs l, us = xs ++ [l] := ⟨us.dropLast, us.getLast hne, (List.dropLast_concat_getLast hne).symm⟩
  have hl : (xs ++ [l]).getD ((xs ++ [l]).length - 1) 0 = l := by simp [List.getD]
  unfold lrem
  rw [hl]
  by_cases hj : j < xs.length
  · have e1 : (xs ++ [l]).set j l = xs.set j l ++ [l] := by rw [List.set_append_left _ _ hj]
    rw [e1, List.dropLast_concat, List.getElem_append_left hj]
    exact (List.perm_append_comm (l₁ := xs) (l₂ := [l])).trans (ls_setperm xs l j hj)
  · have hj2 : j = xs.length := by simp at h; omega
    subst hj2
    have e1 : (xs ++ [l]).set xs.length l = xs ++ [l] := by
      rw [List.set_append_right _ _ (Nat.le_refl _)]
      simp
    rw [e1, List.dropLast_concat]
    have e2 : (xs ++ [l])[xs.length] = l := by simp
    rw [e2]
    exact List.perm_append_comm (l₁ := xs) (l₂ := [l])
theorem lrem_get {us : List Nat} {j i : Nat} (h : j < us.length) (hi : i < (lrem us j).length) : (lrem us j)[i] = if i = j then us.getD (us.length - 1) 0 else us.getD i 0 := by
  have hi2 : i < us.length := by rw [lrem_len] at hi; omega
  have hi3 : i < ((us.set j (us.getD (us.length - 1) 0)).dropLast).length := hi
  have q : ((us.set j (us.getD (us.length - 1) 0)).dropLast)[i]'hi3 = if i = j then us.getD (us.length - 1) 0 else us.getD i 0 := by
    rw [List.getElem_dropLast, List.getElem_set]
    by_cases hq : j = i
    · rw [if_pos hq, if_pos hq.symm]
    · rw [if_neg hq, if_neg (fun q => hq q.symm)]
      simp [List.getD, hi2]
  exact q
theorem rl_rem {us : List Nat} {f f2 : Nat → Option Nat} {j : Nat} (h : rl us f) (hj : j < us.length) (h2 : ∀ i, i < us.length - 1 → f2 i = if i = j then f (us.length - 1) else f i) : rl (lrem us j) f2 := by
  intro i hi
  have hi2 : i < us.length - 1 := by rw [lrem_len] at hi; exact hi
  rw [h2 i hi2, lrem_get hj hi]
  by_cases hq : i = j
  · rw [if_pos hq, if_pos hq, h _ (by omega)]
    simp [List.getD, show us.length - 1 < us.length by omega]
  · rw [if_neg hq, if_neg hq, h _ (by omega)]
    simp [List.getD, show i < us.length by omega]
theorem ls_sublen : ∀ (l1 l2 : List Nat), l1.Nodup → (∀ a ∈ l1, a ∈ l2) → l1.length ≤ l2.length := by
  intro l1
  induction l1 with
  | nil => intro l2 _ _; exact Nat.zero_le _
  | cons a t ih =>
    intro l2 hn hs
    have ha : a ∈ l2 := hs a List.mem_cons_self
    have hn2 := List.nodup_cons.mp hn
    have h1 := ih (l2.erase a) hn2.2 (fun b hb => (List.mem_erase_of_ne (fun (q : b = a) => hn2.1 (by rw [← q]; exact hb))).mpr (hs b (List.mem_cons_of_mem _ hb)))
    rw [List.length_erase_of_mem ha] at h1
    have h2 := List.length_pos_of_mem ha
    simp only [List.length_cons]
    omega
/-! what was done: the addresses of the coins spent, how many -/
def spa (J : List (Nat × Bool)) : List Nat := (J.filter (fun x => x.2)).map (fun x => x.1)
def mka (J : List (Nat × Bool)) : List Nat := (J.filter (fun x => !x.2)).map (fun x => x.1)
theorem spa_app (J K : List (Nat × Bool)) : spa (J ++ K) = spa J ++ spa K := by simp [spa]
theorem mka_app (J K : List (Nat × Bool)) : mka (J ++ K) = mka J ++ mka K := by simp [mka]
theorem spa_mem {J : List (Nat × Bool)} {a : Nat} : a ∈ spa J ↔ (a, true) ∈ J := by
  simp only [spa, List.mem_map, List.mem_filter]
  constructor
  · rintro ⟨⟨x, b⟩, ⟨h1, h2⟩, rfl⟩
    cases b with
    | true => exact h1
    | false => exact absurd h2 (by simp)
  · intro h
    exact ⟨(a, true), ⟨h, rfl⟩, rfl⟩
theorem mka_mem {J : List (Nat × Bool)} {a : Nat} : a ∈ mka J ↔ (a, false) ∈ J := by
  simp only [mka, List.mem_map, List.mem_filter]
  constructor
  · rintro ⟨⟨x, b⟩, ⟨h1, h2⟩, rfl⟩
    cases b with
    | false => exact h1
    | true => exact absurd h2 (by simp)
  · intro h
    exact ⟨(a, false), ⟨h, rfl⟩, rfl⟩
theorem mka_spa_len (J : List (Nat × Bool)) : (mka J).length + (spa J).length = J.length := by
  induction J with
  | nil => rfl
  | cons x t ih =>
    obtain ⟨a, b⟩ := x
    cases b
    · have e1 : mka ((a, false) :: t) = a :: mka t := by simp [mka]
      have e2 : spa ((a, false) :: t) = spa t := by simp [spa]
      rw [e1, e2]
      simp only [List.length_cons]
      omega
    · have e1 : mka ((a, true) :: t) = mka t := by simp [mka]
      have e2 : spa ((a, true) :: t) = a :: spa t := by simp [spa]
      rw [e1, e2]
      simp only [List.length_cons]
      omega
/-- the order of what was done to one coin: made, then spent -/
def jn_ok (J : List (Nat × Bool)) : Prop := J.Pairwise (fun x y => x.1 = y.1 → x.2 = false ∧ y.2 = true)
theorem mka_nodup {J : List (Nat × Bool)} (h : jn_ok J) : (mka J).Nodup := by
  induction J with
  | nil => exact List.nodup_nil
  | cons x t ih =>
    obtain ⟨a, b⟩ := x
    have h2 := List.pairwise_cons.mp h
    cases b
    · have e1 : mka ((a, false) :: t) = a :: mka t := by simp [mka]
      rw [e1]
      refine List.nodup_cons.mpr ⟨fun q => ?_, ih h2.2⟩
      have q2 := h2.1 _ (mka_mem.mp q) rfl
      exact absurd q2.2 (by simp)
    · have e1 : mka ((a, true) :: t) = mka t := by simp [mka]
      rw [e1]
      exact ih h2.2
theorem jn_len {us : List Nat} {J : List (Nat × Bool)} (h : jn_ok J) (h3 : ∀ a, (a, false) ∈ J → a ∈ us ∨ (a, true) ∈ J) : J.length ≤ us.length + 2 * (spa J).length := by
  have h1 := ls_sublen (mka J) (us ++ spa J) (mka_nodup h) (fun a ha => by
    rcases h3 a (mka_mem.mp ha) with q | q
    · exact List.mem_append_left _ q
    · exact List.mem_append_right _ (spa_mem.mpr q))
  have h2 := mka_spa_len J
  rw [List.length_append] at h1
  omega
/-- taking back, the latest first (the list K has the latest first): each step finds what it needs -/
def jn_co (κ : Nat → cKey) (U : Nat) : List (Nat × Bool) → List Nat → Prop
  | [], _ => True
  | (a, false) :: K, us => a ∈ us ∧ jn_co κ U K (us.erase a)
  | (a, true) :: K, us => a ∉ us ∧ (∀ b ∈ us, κ b ≠ κ a) ∧ us.length < U ∧ jn_co κ U K (a :: us)
theorem jn_perm {κ : Nat → cKey} {U : Nat} : ∀ (K : List (Nat × Bool)) (us vs : List Nat), us.Perm vs → jn_co κ U K us → jn_co κ U K vs := by
  intro K
  induction K with
  | nil => intro _ _ _ _; trivial
  | cons x K ih =>
    intro us vs hp h
    obtain ⟨a, b⟩ := x
    cases b with
    | false => exact ⟨hp.mem_iff.mp h.1, ih _ _ (hp.erase a) h.2⟩
    | true => exact ⟨fun q => h.1 (hp.mem_iff.mpr q), fun b hb => h.2.1 b (hp.mem_iff.mpr hb), by rw [← hp.length_eq]; exact h.2.2.1, ih _ _ (hp.cons a) h.2.2.2⟩
theorem jn_congr {κ κ2 : Nat → cKey} {U : Nat} : ∀ (K : List (Nat × Bool)) (us : List Nat), (∀ b ∈ us, κ b = κ2 b) → (∀ x ∈ K, κ x.1 = κ2 x.1) → jn_co κ U K us → jn_co κ2 U K us := by
  intro K
  induction K with
  | nil => intro _ _ _ _; trivial
  | cons x K ih =>
    intro us h1 h2 h
    obtain ⟨a, b⟩ := x
    have ha : κ a = κ2 a := h2 (a, b) List.mem_cons_self
    have h2' : ∀ x ∈ K, κ x.1 = κ2 x.1 := fun x hx => h2 x (List.mem_cons_of_mem _ hx)
    cases b with
    | false => exact ⟨h.1, ih _ (fun b hb => h1 b (List.mem_of_mem_erase hb)) h2' h.2⟩
    | true => exact ⟨h.1, fun b hb => by rw [← h1 b hb, ← ha]; exact h.2.1 b hb, h.2.2.1, ih _ (fun b hb => by
        rcases List.mem_cons.mp hb with q | q
        · rw [q]; exact ha
        · exact h1 b q) h2' h.2.2.2⟩
theorem jn_take {κ : Nat → cKey} {U : Nat} : ∀ (K K2 : List (Nat × Bool)) (us : List Nat), jn_co κ U (K ++ K2) us → jn_co κ U K us := by
  intro K
  induction K with
  | nil => intro _ _ _; trivial
  | cons x K ih =>
    intro K2 us h
    obtain ⟨a, b⟩ := x
    cases b with
    | false => exact ⟨h.1, ih _ _ h.2⟩
    | true => exact ⟨h.1, h.2.1, h.2.2.1, ih _ _ h.2.2.2⟩
