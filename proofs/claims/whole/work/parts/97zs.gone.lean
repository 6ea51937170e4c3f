/-! Calls, both sides: detach, the host's part. -/
section JB_
variable {a : Nat} {ra : Nat → Nat} {R R' : Nat → Nat → Int32} {M : sm_M} {D : Nat} {P P' Q X : pP} {d k t i n m e : Nat}
theorem fg_211 : ∀ n t, s_ (p_fg Q d n) 211 t = if t < n ∧ s_ Q 200 t = d ∧ s_ Q 211 t = 0 then 3 else s_ Q 211 t
  | 0, t => by rw [if_neg (by omega)]; rfl
  | n + 1, t => by
    have e0 : s_ (p_fg Q d n) 200 n = s_ Q 200 n := fg_s (by decide) n
    have e1 := fg_211 n n
    rw [if_neg (by omega)] at e1
    unfold p_fg
    rw [e0, e1]
    by_cases c : s_ Q 200 n = d ∧ s_ Q 211 n = 0
    · rw [if_pos c, s_n (by decide), s_S]
      by_cases z : t = n
      · subst z; rw [if_pos ⟨rfl, rfl⟩, if_pos ⟨by omega, c⟩]
      · rw [if_neg (fun q => z q.2), fg_211 n t]
        by_cases y : t < n ∧ s_ Q 200 t = d ∧ s_ Q 211 t = 0
        · rw [if_pos y, if_pos ⟨by omega, y.2⟩]
        · rw [if_neg y, if_neg (fun q => y ⟨by omega, q.2⟩)]
    · rw [if_neg c, fg_211 n t]
      by_cases y : t < n ∧ s_ Q 200 t = d ∧ s_ Q 211 t = 0
      · rw [if_pos y, if_pos ⟨by omega, y.2⟩]
      · rw [if_neg y, if_neg]
        rintro ⟨q1, q2⟩
        by_cases z : t = n
        · subst z; exact c q2
        · exact y ⟨by omega, q2⟩
theorem fg_f : ∀ n, f_ (p_fg Q d n) = f_ Q
  | 0 => rfl
  | n + 1 => by
    unfold p_fg
    split
    · exact fg_f n
    · exact fg_f n
theorem fg_cnt {T : Nat} (h : s_ Q 123 0 = cntN (s_ Q 211) T) : ∀ n, n ≤ T → s_ (p_fg Q d n) 123 0 = cntN (s_ (p_fg Q d n) 211) T
  | 0, _ => h
  | n + 1, hn => by
    have ih := fg_cnt h n (by omega)
    by_cases c : s_ (p_fg Q d n) 200 n = d ∧ s_ (p_fg Q d n) 211 n = 0
    · have e : p_fg Q d (n + 1) = pS (pS (p_fg Q d n) 211 n 3) 123 0 (s_ (p_fg Q d n) 123 0 - 1) := by
        show (if _ then _ else _) = _
        rw [if_pos c]
      have e3 : s_ (p_fg Q d (n + 1)) 123 0 = s_ (p_fg Q d n) 123 0 - 1 := by rw [e, s_S, if_pos ⟨rfl, rfl⟩]
      have e2 : ∀ t, s_ (p_fg Q d (n + 1)) 211 t = if t = n then 3 else s_ (p_fg Q d n) 211 t := fun t => by
        rw [e, s_n (by decide), s_S]
        by_cases z : t = n
        · rw [if_pos ⟨rfl, z⟩, if_pos z]
        · rw [if_neg (fun q => z q.2), if_neg z]
      have := cnt_dn (f := s_ (p_fg Q d n) 211) (f' := s_ (p_fg Q d (n + 1)) 211) (t := n) T (by omega) c.2 (by rw [e2, if_pos rfl]; decide) (fun t' _ hne => by rw [e2, if_neg hne])
      have p := cnt_pos (f := s_ (p_fg Q d n) 211) T (show n < T by omega) c.2
      omega
    · have e : p_fg Q d (n + 1) = p_fg Q d n := by
        show (if _ then _ else _) = _
        rw [if_neg c]
      rw [e]; exact ih
/-- c_detach's premise -/
theorem hW_of (hI : INV P) : ∀ d, d < 6 → ∀ n, n < s_ (p_leave P d) 122 0 → s_ (p_fg (p_prst (p_leave P d) d 0) d n) 200 n = d → s_ (p_fg (p_prst (p_leave P d) d 0) d n) 211 n = 0 → 1 ≤ s_ (p_fg (p_prst (p_leave P d) d 0) d n) 123 0 := by
  intro d hd n hn _ h2
  have l : ∀ f j, f ≠ 83 → f ≠ 84 → s_ (p_leave P d) f j = s_ P f j := fun f j n1 n2 => by unfold p_leave; rw [s_n n2, s_n n1]
  have q : ∀ f j, f ≠ 83 → f ≠ 84 → f < 160 ∨ 165 < f → s_ (p_prst (p_leave P d) d 0) f j = s_ P f j := fun f j n1 n2 n3 => by rw [prst_s (by omega), l f j n1 n2]
  rw [l 122 0 (by decide) (by decide)] at hn
  have c0 : s_ (p_prst (p_leave P d) d 0) 123 0 = cntN (s_ (p_prst (p_leave P d) d 0) 211) (s_ P 122 0) := by
    rw [q 123 0 (by decide) (by decide) (by decide), hI.2.2.2.2.2.1]
    exact (cnt_cg _ (fun t _ => by rw [q 211 t (by decide) (by decide) (by decide)])).symm
  have := fg_cnt (d := d) c0 n (by omega)
  rw [this]
  exact cnt_pos _ hn h2
end JB_
