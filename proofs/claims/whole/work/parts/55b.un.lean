theorem jn_un_mem : ∀ (K : List (Nat × Bool)) (us bs us1 bs1 : List Nat), jn_un K us bs us1 bs1 → ∀ b ∈ us1, b ∈ us ∨ ∃ x ∈ K, x.1 = b := by
  intro K
  induction K with
  | nil =>
    intro us bs us1 bs1 h b hb
    obtain ⟨rfl, rfl⟩ := h
    exact Or.inl hb
  | cons x K ih =>
    intro us bs us1 bs1 h b hb
    obtain ⟨a, t⟩ := x
    cases t with
    | false =>
      obtain ⟨u, hp, hq⟩ := h
      rcases ih u _ us1 bs1 hq b hb with q | ⟨y, q1, q2⟩
      · exact Or.inl (hp.mem_iff.mpr (List.mem_cons_of_mem _ q))
      · exact Or.inr ⟨y, List.mem_cons_of_mem _ q1, q2⟩
    | true =>
      rcases ih (us ++ [a]) bs us1 bs1 h b hb with q | ⟨y, q1, q2⟩
      · rcases List.mem_append.mp q with q3 | q3
        · exact Or.inl q3
        · exact Or.inr ⟨(a, true), List.mem_cons_self, (List.mem_singleton.mp q3).symm⟩
      · exact Or.inr ⟨y, List.mem_cons_of_mem _ q1, q2⟩
