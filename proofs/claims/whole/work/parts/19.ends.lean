/-! A run that ends so has an end. -/
theorem ru_ex {d me pc : Nat} {ls : List (Option sm_V)} {st : List sm_V} {M : sm_M} {Q : Option sm_V → sm_M → Prop} (h : sm_Run d me pc ls st M Q) : ∃ v M', Q v M' := by
  obtain ⟨v, M', -, h2⟩ := h
  exact ⟨v, M', h2⟩
