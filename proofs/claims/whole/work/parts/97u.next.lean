/-! The reference's FINDING: the next one. -/
section HZ
variable {a : Nat} {ra : Nat → Nat} {R R' : Nat → Nat → Int32} {M : sm_M} {D : Nat} {P X Z : pP} {T d k t m s tot : Nat}
theorem fnd_o {f j : Nat} (n1 : f ≠ 122) (n2 : f ≠ 123) (n3 : ¬ (200 ≤ f ∧ f ≤ 213 ∧ j = s_ X 122 0)) : s_ (p_fnd X d s tot) f j = s_ X f j := by
  unfold p_fnd p_addC p_mk p_mkF
  rw [s_S, if_neg (by omega), s_n n2, s_n n1, s_B]
  rw [s_S, if_neg (by omega), s_S, if_neg (by omega), s_S, if_neg (by omega), s_S, if_neg (by omega), s_S, if_neg (by omega), s_S, if_neg (by omega), s_S, if_neg (by omega), s_S, if_neg (by omega), s_S, if_neg (by omega), s_S, if_neg (by omega), s_S, if_neg (by omega), s_S, if_neg (by omega)]
theorem fnd_b {c j : Nat} (n : ¬ (c = 36 ∧ j = s_ X 122 0)) : b_ (p_fnd X d s tot) c j = b_ X c j := by
  unfold p_fnd p_addC p_mk
  rw [b_S, b_S, b_S, b_B, if_neg n]; rfl
theorem fnd_v : s_ (p_fnd X d s tot) 200 (s_ X 122 0) = d ∧ s_ (p_fnd X d s tot) 202 (s_ X 122 0) = s_ X 162 d ∧ s_ (p_fnd X d s tot) 203 (s_ X 122 0) = (if fdW s < 32768 then 0 else 1) ∧ s_ (p_fnd X d s tot) 205 (s_ X 122 0) = fdW s ∧ s_ (p_fnd X d s tot) 206 (s_ X 122 0) = fdV d s ∧ s_ (p_fnd X d s tot) 207 (s_ X 122 0) = 0 ∧ s_ (p_fnd X d s tot) 208 (s_ X 122 0) = s ∧ s_ (p_fnd X d s tot) 209 (s_ X 122 0) = 0 ∧ s_ (p_fnd X d s tot) 210 (s_ X 122 0) = 0 ∧ s_ (p_fnd X d s tot) 211 (s_ X 122 0) = 0 ∧ s_ (p_fnd X d s tot) 212 (s_ X 122 0) = 0 ∧ s_ (p_fnd X d s tot) 213 (s_ X 122 0) = 0 := by
  unfold p_fnd p_addC p_mk p_mkF; simp only [s_S, s_B, s_F, b_S, b_B, b_F, f_S, f_B, Nat.reduceEqDiff, false_and, and_false, true_and, and_true, and_self, if_true, if_false, reduceIte, ite_self]
theorem fnd_36 : b_ (p_fnd X d s tot) 36 (s_ X 122 0) = List.replicate (fdN s tot) 0 := by unfold p_fnd p_addC p_mk; simp only [s_S, s_B, s_F, b_S, b_B, b_F, f_S, f_B, Nat.reduceEqDiff, false_and, and_false, true_and, and_true, and_self, if_true, if_false, reduceIte, ite_self]
theorem fnd_122 : s_ (p_fnd X d s tot) 122 0 = s_ X 122 0 + 1 := by unfold p_fnd p_addC p_mk; simp only [s_S, s_B, s_F, b_S, b_B, b_F, f_S, f_B, Nat.reduceEqDiff, false_and, and_false, true_and, and_true, and_self, if_true, if_false, reduceIte, ite_self]
theorem fho_fnd : FHo X (p_fnd X d s tot) := by
  refine ⟨fun f j n => fnd_o (by omega) (by omega) (by omega), fun c j n => fnd_b ?_, ?_⟩
  · intro q; exact n (Or.inl q.1)
  · rfl
/-- frames of a step of FINDING -/
def KF (R R' : Nat → Nat → Int32) (t : Nat) : Prop := (∀ f i, f < 56 ∨ f = 68 ∨ f = 69 ∨ f = 87 → R' f i = R f i) ∧ ∀ f i, (f = 73 ∧ i = t) ∨ (f = 80 ∧ 8 * t ≤ i ∧ i < 8 * t + 8) → R' f i = R f i
theorem kf_rf : KF R R t := ⟨fun _ _ _ => rfl, fun _ _ _ => rfl⟩
theorem kf_tr {R'' : Nat → Nat → Int32} (h : KF R R' t) (k : KF R' R'' t) : KF R R'' t := ⟨fun f i hf => (k.1 f i hf).trans (h.1 f i hf), fun f i hf => (k.2 f i hf).trans (h.2 f i hf)⟩
theorem kf_u {f i : Nat} {v : Int32} (h : KF R R' t) (hf : 56 ≤ f ∧ f ≠ 68 ∧ f ≠ 69 ∧ f ≠ 87) (h1 : ¬ (f = 73 ∧ i = t)) (h2 : f ≠ 80) : KF R (sm_u2 R' f i v) t := ⟨fun f' i' hf' => by rw [u2_r, if_neg (by omega)]; exact h.1 f' i' hf', fun f' i' hf' => by rw [u2_r, if_neg (by omega)]; exact h.2 f' i' hf'⟩
/-- the next of FINDING is made, both sides -/
theorem r_next0 (h : RM a ra R M) (hH : HREL X R) (hx : ∀ t, t < s_ X 122 0 → (b_ X 36 t).length ≤ 100) (hT : s_ X 122 0 < 336) (hd : d < 6) (hs : 1 ≤ s ∧ s ≤ 6) (hn : ∀ t', wtc X t' → s_ X 200 t' ≠ d) (h180 : s_ X 180 0 = 0) (h165 : ∀ d, s_ X 165 d ≤ s_ X 122 0) (h5 : s = 5 → R 85 d = nI tot ∧ tot < 65536) (h6 : s = 6 → s_ X 165 d ≠ 0 ∧ R 85 d = nI (b_ X 36 (s_ X 165 d - 1)).length ∧ ∀ i, i < (b_ X 36 (s_ X 165 d - 1)).length → R 86 (60 * d + i) = nI ((b_ X 36 (s_ X 165 d - 1)).getD i 0)) : sm_Run (D + 2) 188 0 (sm_ent 188 [.inr (some a), .inl (nI d), .inl (nI (s - 1))]) [] M (fun v M' => v = none ∧ ∃ R', RM a ra R' M' ∧ HREL (p_fnd X d s tot) R' ∧ (∀ t, t < s_ X 122 0 → KF R R' t) ∧ ∀ f i, f < 56 ∨ f = 68 ∨ f = 69 ∨ f = 87 → R' f i = R f i) := by
  have h70 : R 70 0 = nI (s_ X 122 0) := hH.1.2.2.1
  refine ru_mono (r_find (D := D) (T := s_ X 122 0) (w := tot) h h70 hT hd hs h5) ?_
  rintro v M1 ⟨rfl, h1⟩
  refine ⟨rfl, _, h1, ?_, ?_⟩
  · obtain ⟨v200, v202, v203, v205, v206, v207, v208, v209, v210, v211, v212, v213⟩ := fnd_v (X := X) (d := d) (s := s) (tot := tot)
    have v36 := fnd_36 (X := X) (d := d) (s := s) (tot := tot)
    have o : ∀ f j, ¬ (200 ≤ f ∧ f ≤ 213) → f ≠ 122 → f ≠ 123 → s_ (p_fnd X d s tot) f j = s_ X f j := fun f j n1 n2 n3 => fnd_o n2 n3 (by omega)
    -- the rows
    have q : ∀ f j, ¬ (70 ≤ f ∧ f ≤ 80) → ¬ (f = 60 ∧ j = d) → sm_u2 (ncR (ntR (sm_u2 R 60 d (nI (s - 1))) (s_ X 122 0) d 0 (fdN s tot)) (s_ X 122 0) (ncL (fdW s / 256) (fdW s % 256) (fdV d s) 0 (fdN s tot))) 79 (s_ X 122 0) (nI 1) f j = R f j := fun f j n1 n2 => by
      unfold ncR ntR
      rw [u2_r, if_neg (by omega), rowU_r, if_neg (by omega)]
      simp only [u2_r]
      rw [if_neg (by omega), if_neg (by omega), if_neg (by omega), if_neg (by omega), if_neg (by omega), if_neg (by omega), if_neg (by omega), if_neg (by omega), if_neg (by omega), if_neg (by omega), if_neg (by omega)]
    refine hrel_new (d := d) hH hx rfl (fun f j _ n1 n2 n3 => fnd_o n1 n2 n3) (fun j hj => fnd_b (by omega)) fnd_122 (fun f j n0 n1 n2 n3 n4 n5 n6 => ?_) (Or.inr (fun t' k1 k2 k3 _ => hn t' ⟨k1, k2, k3⟩)) ?_ ?_ h165 ?_
    · by_cases c : 70 ≤ f ∧ f ≤ 80
      · unfold ncR ntR
        rw [u2_r, if_neg (by omega), rowU_r, if_neg (by omega)]
        simp only [u2_r]
        rw [if_neg (by omega), if_neg (by omega), if_neg (by omega), if_neg (by omega), if_neg (by omega), if_neg (by omega), if_neg (by omega), if_neg (by omega), if_neg (by omega), if_neg (by omega), if_neg (by omega)]
      · exact q f j c n5
    · unfold ncR ntR; simp only [u2_r, rowU_r, s_S, s_B, s_F, b_S, b_B, b_F, f_S, f_B, nfl_S, nfl_B, Nat.reduceEqDiff, false_and, and_false, true_and, and_true, and_self, if_true, if_false, reduceIte, ite_self, or_self, or_false, false_or, or_true, true_or, false_implies, implies_true, true_implies, Nat.reduceLeDiff, not_true_eq_false, not_false_eq_true, ne_eq]
    · unfold RelT RelC
      have esu : su (p_fnd X d s tot) (s_ X 122 0) = ncL (fdW s / 256) (fdW s % 256) (fdV d s) 0 (fdN s tot) := by
        unfold su
        rw [v205, v206, v207, v36, List.length_replicate]; rfl
      rw [esu, v200, v203, v208, v209, v210, v211, v212, v213, v36, List.length_replicate, o 180 0 (by decide) (by decide) (by decide), h180, o 165 d (by decide) (by decide) (by decide)]
      refine ⟨?_, ?_, ?_, ?_, ?_, ?_, fun i hi hj => ?_, fun _ => ⟨?_, fun i hi => ?_, fun _ => ⟨?_, fun c => absurd rfl c, fun _ => ?_, fun c => ?_, fun c => ?_⟩⟩⟩
      · unfold ncR ntR; simp only [u2_r, rowU_r, s_S, s_B, s_F, b_S, b_B, b_F, f_S, f_B, nfl_S, nfl_B, Nat.reduceEqDiff, false_and, and_false, true_and, and_true, and_self, if_true, if_false, reduceIte, ite_self, or_self, or_false, false_or, or_true, true_or, false_implies, implies_true, true_implies, Nat.reduceLeDiff, not_true_eq_false, not_false_eq_true, ne_eq]
      · unfold ncR ntR; simp only [u2_r, rowU_r, s_S, s_B, s_F, b_S, b_B, b_F, f_S, f_B, nfl_S, nfl_B, Nat.reduceEqDiff, false_and, and_false, true_and, and_true, and_self, if_true, if_false, reduceIte, ite_self, or_self, or_false, false_or, or_true, true_or, false_implies, implies_true, true_implies, Nat.reduceLeDiff, not_true_eq_false, not_false_eq_true, ne_eq]
      · unfold ncR ntR; simp only [u2_r, rowU_r, s_S, s_B, s_F, b_S, b_B, b_F, f_S, f_B, nfl_S, nfl_B, Nat.reduceEqDiff, false_and, and_false, true_and, and_true, and_self, if_true, if_false, reduceIte, ite_self, or_self, or_false, false_or, or_true, true_or, false_implies, implies_true, true_implies, Nat.reduceLeDiff, not_true_eq_false, not_false_eq_true, ne_eq]
      · unfold ncR ntR; simp only [u2_r, rowU_r, s_S, s_B, s_F, b_S, b_B, b_F, f_S, f_B, nfl_S, nfl_B, Nat.reduceEqDiff, false_and, and_false, true_and, and_true, and_self, if_true, if_false, reduceIte, ite_self, or_self, or_false, false_or, or_true, true_or, false_implies, implies_true, true_implies, Nat.reduceLeDiff, not_true_eq_false, not_false_eq_true, ne_eq]
      · unfold ncR ntR; simp only [u2_r, rowU_r, s_S, s_B, s_F, b_S, b_B, b_F, f_S, f_B, nfl_S, nfl_B, Nat.reduceEqDiff, false_and, and_false, true_and, and_true, and_self, if_true, if_false, reduceIte, ite_self, or_self, or_false, false_or, or_true, true_or, false_implies, implies_true, true_implies, Nat.reduceLeDiff, not_true_eq_false, not_false_eq_true, ne_eq]
      · unfold ncR ntR; simp only [u2_r, rowU_r, s_S, s_B, s_F, b_S, b_B, b_F, f_S, f_B, nfl_S, nfl_B, Nat.reduceEqDiff, false_and, and_false, true_and, and_true, and_self, if_true, if_false, reduceIte, ite_self, or_self, or_false, false_or, or_true, true_or, false_implies, implies_true, true_implies, Nat.reduceLeDiff, not_true_eq_false, not_false_eq_true, ne_eq]
      · exfalso
        rcases hj with c | c
        · have : fdN s tot = 0 := by
            unfold fdW at c
            unfold fdN
            by_cases c2 : s = 2
            · rw [c2]; rfl
            · rw [if_neg c2] at c
              by_cases c6 : s = 6
              · rw [c6]; rfl
              · rw [if_neg c6, if_neg (by decide)] at c; omega
          omega
        · omega
      · rw [if_neg (by omega)]; simp only [u2_r, rowU_r, s_S, s_B, s_F, b_S, b_B, b_F, f_S, f_B, nfl_S, nfl_B, Nat.reduceEqDiff, false_and, and_false, true_and, and_true, and_self, if_true, if_false, reduceIte, ite_self, or_self, or_false, false_or, or_true, true_or, false_implies, implies_true, true_implies, Nat.reduceLeDiff, not_true_eq_false, not_false_eq_true, ne_eq]
      · unfold ncR
        rw [u2_r, if_neg (by omega), rowU_r, if_pos (by omega), show 8 * s_ X 122 0 + i - 8 * s_ X 122 0 = i by omega]
      · unfold ncR ntR; simp only [u2_r, rowU_r, s_S, s_B, s_F, b_S, b_B, b_F, f_S, f_B, nfl_S, nfl_B, Nat.reduceEqDiff, false_and, and_false, true_and, and_true, and_self, if_true, if_false, reduceIte, ite_self, or_self, or_false, false_or, or_true, true_or, false_implies, implies_true, true_implies, Nat.reduceLeDiff, not_true_eq_false, not_false_eq_true, ne_eq]
      · unfold ncR ntR; simp only [u2_r, rowU_r, s_S, s_B, s_F, b_S, b_B, b_F, f_S, f_B, nfl_S, nfl_B, Nat.reduceEqDiff, false_and, and_false, true_and, and_true, and_self, if_true, if_false, reduceIte, ite_self, or_self, or_false, false_or, or_true, true_or, false_implies, implies_true, true_implies, Nat.reduceLeDiff, not_true_eq_false, not_false_eq_true, ne_eq]
      · rw [q 85 d (by decide) (by omega), (h5 c).1]
        subst c; rfl
      · obtain ⟨z1, z2, z3⟩ := h6 c
        have nb : ¬ (36 = 36 ∧ s_ X 165 d - 1 = s_ X 122 0) := by have := h165 d; omega
        rw [fnd_b nb]
        refine ⟨z1, by rw [q 85 d (by decide) (by omega)]; exact z2, fun i hi => by rw [q 86 _ (by decide) (by omega)]; exact z3 i hi⟩
    · obtain ⟨p1, p2, p3⟩ := hH.2.2.2
      rw [fnd_b (by omega), fnd_b (by omega), q 3 0 (by decide) (by omega)]
      exact ⟨p1, fun i hi => by rw [q 2 i (by decide) (by omega)]; exact p2 i hi, fun i hi => by rw [q 1 i (by decide) (by omega)]; exact p3 i hi⟩
  · unfold ncR ntR
    refine ⟨fun t ht => ⟨fun f i hf => ?_, fun f i hf => ?_⟩, fun f i hf => ?_⟩
    · rw [u2_r, if_neg (by omega), rowU_r, if_neg (by omega)]
      simp only [u2_r]
      rw [if_neg (by omega), if_neg (by omega), if_neg (by omega), if_neg (by omega), if_neg (by omega), if_neg (by omega), if_neg (by omega), if_neg (by omega), if_neg (by omega), if_neg (by omega), if_neg (by omega)]
    · rw [u2_r, if_neg (by omega), rowU_r, if_neg (by omega)]
      simp only [u2_r]
      rw [if_neg (by omega), if_neg (by omega), if_neg (by omega), if_neg (by omega), if_neg (by omega), if_neg (by omega), if_neg (by omega), if_neg (by omega), if_neg (by omega), if_neg (by omega), if_neg (by omega)]
    · rw [u2_r, if_neg (by omega), rowU_r, if_neg (by omega)]
      simp only [u2_r]
      rw [if_neg (by omega), if_neg (by omega), if_neg (by omega), if_neg (by omega), if_neg (by omega), if_neg (by omega), if_neg (by omega), if_neg (by omega), if_neg (by omega), if_neg (by omega), if_neg (by omega)]
theorem r_next (h : RM a ra R M) (hH : HREL X R) (hx : ∀ t, t < s_ X 122 0 → (b_ X 36 t).length ≤ 100) (hT : s_ X 122 0 < 336) (ht : t < s_ X 122 0) (hd : d < 6) (hs : 1 ≤ s ∧ s ≤ 6) (hn : ∀ t', wtc X t' → s_ X 200 t' ≠ d) (h180 : s_ X 180 0 = 0) (h165 : ∀ d, s_ X 165 d ≤ s_ X 122 0) (h5 : s = 5 → R 85 d = nI tot ∧ tot < 65536) (h6 : s = 6 → s_ X 165 d ≠ 0 ∧ R 85 d = nI (b_ X 36 (s_ X 165 d - 1)).length ∧ ∀ i, i < (b_ X 36 (s_ X 165 d - 1)).length → R 86 (60 * d + i) = nI ((b_ X 36 (s_ X 165 d - 1)).getD i 0)) : sm_Run (D + 2) 188 0 (sm_ent 188 [.inr (some a), .inl (nI d), .inl (nI (s - 1))]) [] M (fun v M' => v = none ∧ ∃ R', RM a ra R' M' ∧ HREL (p_fnd X d s tot) R' ∧ KF R R' t) := by
  refine ru_mono (r_next0 (D := D) h hH hx hT hd hs hn h180 h165 h5 h6) ?_
  rintro v M1 ⟨rfl, R', h1, h2, h3, -⟩
  exact ⟨rfl, R', h1, h2, h3 t ht⟩
end HZ
