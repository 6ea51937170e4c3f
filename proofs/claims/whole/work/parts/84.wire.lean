/-! The wire: what holds between packets. -/
section WB
variable {P P' Q : pP} {d : Nat}
def UD (P : pP) : Prop := ∀ d d', d < 6 → d' < 6 → s_ P 83 d = 1 → s_ P 83 d' = 1 → d = d'
def WU (P : pP) : Prop := ∀ d d', d < 6 → d' < 6 → s_ P 83 d ≠ 0 → s_ P 83 d' ≠ 0 → s_ P 89 d ≠ 0 → s_ P 89 d' ≠ 0 → d = d'
def W0 (P : pP) : Prop := ∀ d, d < 6 → s_ P 91 d = 0
def WI (P : pP) : Prop := EX P ∧ (∀ d, d < 6 → ID (sh P d) d) ∧ (∀ d, d < 6 → IA P d) ∧ UD P ∧ WU P
theorem wi_au (h : WI P) {d d' : Nat} (hd : d < 6) (hd' : d' < 6) (p : s_ P 83 d ≠ 0) (p' : s_ P 83 d' ≠ 0) (e : s_ P 84 d = s_ P 84 d') : d = d' := by
  obtain ⟨-, -, hA, hU, -⟩ := h
  obtain ⟨a1, a2, a3, -⟩ := hA d hd
  obtain ⟨b1, b2, b3, -⟩ := hA d' hd'
  by_cases q : s_ P 83 d = 1
  · by_cases q' : s_ P 83 d' = 1
    · exact hU d d' hd hd' q q'
    · have := a2 (by omega); have := b3 (by omega); omega
  · by_cases q' : s_ P 83 d' = 1
    · have := a3 (by omega); have := b2 (by omega); omega
    · have := a3 (by omega); have := b3 (by omega); omega
theorem wi_cand (h : WI P) {j d d' : Nat} (hd : d < 6) (hd' : d' < 6) (c : cand P j d) (c' : cand P j d') : d = d' := by
  obtain ⟨p, c⟩ := c
  obtain ⟨p', c'⟩ := c'
  rcases c with c | c
  · rcases c' with c' | c'
    · exact wi_au h hd hd' p p' (by rw [← c.2, ← c'.2])
    · unfold isDat at c'; omega
  · rcases c' with c' | c'
    · unfold isDat at c; omega
    · exact h.2.2.2.2 d d' hd hd' p p' c.2 c'.2
/-- what the wire's own changes leave of the devices -/
theorem so_all (hs : ∀ f i, 60 ≤ f ∧ f < 120 → s_ P' f i = s_ P f i) (hp : ∀ f i, 140 ≤ f ∧ f < 160 → 60 ≤ i → s_ P' f i = s_ P f i) (h7 : ∀ i, 60 ≤ i → b_ P' 7 i = b_ P 7 i) (hb : ∀ c i, c = 28 ∨ c = 29 ∨ (c = 1 ∧ 1 ≤ i) → b_ P' c i = b_ P c i) (d : Nat) : SO d P P' := by
  refine ⟨fun f i o => ?_, fun c i o => ?_⟩
  · unfold own at o
    rcases o with o | o | o
    · exact hs f i (by omega)
    · exact hs f i (by omega)
    · exact hp f i (by omega) (by omega)
  · unfold ownB at o
    rcases o with o | o | o
    · rw [o.1]; exact h7 i (by omega)
    · exact hb c i (by omega)
    · exact hb c i (by omega)
theorem wi_so (h : WI P) (hx : EX P') (so : ∀ d, d < 6 → SO d P P') : WI P' := by
  obtain ⟨h1, h2, h3, h4, h5⟩ := h
  have e83 : ∀ d, d < 6 → s_ P' 83 d = s_ P 83 d := fun d hd => so_s (so d hd) (by decide)
  have e89 : ∀ d, d < 6 → s_ P' 89 d = s_ P 89 d := fun d hd => so_s (so d hd) (by decide)
  refine ⟨hx, fun d hd => so_IDs (so d hd) (ex_86 h1 hd) (h2 d hd), fun d hd => so_IA (so d hd) (h3 d hd), fun d d' hd hd' p p' => ?_, fun d d' hd hd' p p' q q' => ?_⟩
  · rw [e83 d hd] at p; rw [e83 d' hd'] at p'; exact h4 d d' hd hd' p p'
  · rw [e83 d hd] at p; rw [e83 d' hd'] at p'; rw [e89 d hd] at q; rw [e89 d' hd'] at q'; exact h5 d d' hd hd' p p' q q'
/-- a device, after all have heard -/
theorem hears_at {s : Nat} {r : Option Nat} (h6 : ∀ d, d < 6 → s_ P 86 d ≤ 6) (hd : d < 6) : ∃ Q, SO d P Q ∧ (∀ j, j < 60 → (∀ f, 140 ≤ f ∧ f < 160 → s_ Q f j = s_ P f j) ∧ b_ Q 7 j = b_ P 7 j) ∧ SO d (if s = d + 1 ∨ s_ P 83 d = 0 then Q else p_hear Q d r) (p_hears P s r 6) := by
  refine ⟨p_hears P s r d, hears_so h6 hd d (Nat.le_refl _), fun j hj => ⟨fun f hf => hears_K h6 (own_j hj hf) d (by omega), hears_KB h6 (ownB_j hj) d (by omega)⟩, ?_⟩
  have e83 : s_ (p_hears P s r d) 83 d = s_ P 83 d := so_s (hears_so h6 hd d (Nat.le_refl _)) (by decide)
  have e : (if s = d + 1 ∨ s_ P 83 d = 0 then p_hears P s r d else p_hear (p_hears P s r d) d r) = p_hears P s r (d + 1) := by
    rw [hears_S, e83]
  rw [e]
  have go : ∀ m n, d + 1 ≤ n → n + m = 6 → SO d (p_hears P s r n) (p_hears P s r 6) := by
    intro m
    induction m with
    | zero => intro n h1 h2; obtain rfl : n = 6 := by omega
              exact so_rf
    | succ m ih => intro n h1 h2
                   exact so_tr (so_fr (hears_fr h6 (by omega)) hd (by omega) (by omega)) (ih (n + 1) (by omega) (by omega))
  exact go (5 - d) (d + 1) (Nat.le_refl _) (by omega)
/-- what all have heard keeps the wire's invariant -/
theorem wi_hears {s : Nat} {r : Option Nat} (h : WI P) (hx : EX (p_hears P s r 6)) (hI : ∀ d, d < 6 → ID (sh (p_hears P s r 6) d) d) (hr : ∀ j, r = some j → j < 60) (hs : ∀ d, s ≠ d + 1 ∨ ∀ j, r = some j → ¬ isTok (s_ P 141 j)) (hsa : ∀ d j, d < 6 → r = some j → s_ P 83 d ≠ 0 → s_ P 89 d = 14 → s_ P 141 j = 3 → (b_ P 7 j).length = 8 → lwh (b_ P 7 j) = 5 → 1 ≤ l16 (b_ P 7 j) 2 → l16 (b_ P 7 j) 2 ≤ 127 → l16 (b_ P 7 j) 2 = d + 1 ∧ s_ P 83 d = 1) : WI (p_hears P s r 6) := by
  obtain ⟨h1, h2, h3, h4, h5⟩ := id h
  have h6 : ∀ d, d < 6 → s_ P 86 d ≤ 6 := fun d hd => ex_86 h1 hd
  have f83 : ∀ d, d < 6 → s_ (p_hears P s r 6) 83 d = s_ P 83 d ∨ 2 ≤ s_ (p_hears P s r 6) 83 d := by
    intro d hd
    obtain ⟨Q, q1, -, q3⟩ := hears_at (s := s) (r := r) h6 hd
    rw [so_s q3 (by decide)]
    split
    · exact Or.inl (so_s q1 (by decide))
    · rw [← so_s q1 (f := 83) (by decide)]; exact hear_83b
  have g83 : ∀ d, d < 6 → s_ (p_hears P s r 6) 83 d ≠ 0 → s_ P 83 d ≠ 0 := by
    intro d hd q q0
    obtain ⟨Q, q1, -, q3⟩ := hears_at (s := s) (r := r) h6 hd
    rw [so_s q3 (by decide), if_pos (Or.inr q0), so_s q1 (by decide)] at q
    exact q q0
  refine ⟨hx, hI, fun d hd => ?_, fun d d' hd hd' p p' => ?_, ?_⟩
  · obtain ⟨Q, q1, q2, q3⟩ := hears_at (s := s) (r := r) h6 hd
    refine so_IA q3 ?_
    split
    · exact so_IA q1 (h3 d hd)
    · rename_i c
      refine ia_hear (so_IA q1 (h3 d hd)) (by rw [so_s q1 (by decide)]; omega) (fun j e => ?_)
      obtain ⟨k1, k2⟩ := q2 j (hr j e)
      rw [so_s q1 (by decide), so_s q1 (by decide), k1 141 (by decide), k2]
      exact hsa d j hd e (by omega)
  · have a := f83 d hd
    have b := f83 d' hd'
    exact h4 d d' hd hd' (by omega) (by omega)
  · -- who waits
    have w : ∀ d, d < 6 → s_ (p_hears P s r 6) 83 d ≠ 0 → s_ (p_hears P s r 6) 89 d ≠ 0 → (s = d + 1 ∧ s_ P 89 d ≠ 0 ∧ ∀ j, r = some j → ¬ isTok (s_ P 141 j)) ∨ ∃ j, r = some j ∧ isTok (s_ P 141 j) ∧ s_ P 142 j % 128 = s_ P 84 d := by
      intro d hd p q
      have p0 := g83 d hd p
      obtain ⟨Q, q1, q2, q3⟩ := hears_at (s := s) (r := r) h6 hd
      rw [so_s q3 (by decide)] at q
      by_cases c : s = d + 1
      · rw [if_pos (Or.inl c), so_s q1 (by decide)] at q
        exact Or.inl ⟨c, q, (hs d).resolve_left (fun n => n c)⟩
      · rw [if_neg (by omega)] at q
        obtain ⟨j, e, t1, t2⟩ := hear_89 q
        obtain ⟨k1, k2⟩ := q2 j (hr j e)
        rw [k1 141 (by decide)] at t1
        rw [k1 142 (by decide), so_s q1 (by decide)] at t2
        exact Or.inr ⟨j, e, t1, t2⟩
    intro d d' hd hd' p p' q q'
    rcases w d hd p q with c | ⟨j, e, t1, t2⟩
    · rcases w d' hd' p' q' with c' | ⟨j', e', t1', t2'⟩
      · omega
      · exact absurd t1' (c.2.2 j' e')
    · rcases w d' hd' p' q' with c' | ⟨j', e', t1', t2'⟩
      · exact absurd t1 (c'.2.2 j e)
      · rw [e] at e'; cases e'
        exact wi_au h hd hd' (g83 d hd p) (g83 d' hd' p') (by rw [← t2, ← t2'])
end WB
