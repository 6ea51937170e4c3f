/-! Bytes are bytes, kinds are kinds. -/
section WD
variable {P P' : pP} {d : Nat}
abbrev B8 (l : List Nat) : Prop := ∀ x ∈ l, x < 256
theorem b8_nil : B8 [] := fun _ h => by cases h
theorem b8_app {l m : List Nat} (h : B8 l) (k : B8 m) : B8 (l ++ m) := fun x hx => (List.mem_append.mp hx).elim (h x) (k x)
theorem b8_take {l : List Nat} {n : Nat} (h : B8 l) : B8 (l.take n) := fun x hx => h x (List.mem_of_mem_take hx)
theorem b8_drop {l : List Nat} {n : Nat} (h : B8 l) : B8 (l.drop n) := fun x hx => h x (List.mem_of_mem_drop hx)
theorem b8_cons {y : Nat} {l : List Nat} (hy : y < 256) (h : B8 l) : B8 (y :: l) := fun x hx => by
  rcases List.mem_cons.mp hx with q | q
  · rw [q]; exact hy
  · exact h x q
/-- a device's bytes -/
def IB (P : pP) (d : Nat) : Prop := B8 (b_ P 28 d) ∧ B8 (b_ P 29 d) ∧ (∀ k, k < 6 → B8 (b_ P 1 (1 + (6 * d + k)))) ∧ s_ P 80 d < 256 ∧ s_ P 81 d < 65536 ∧ s_ P 82 d < 65536 ∧ s_ P 86 d ≤ 6 ∧ ∀ k, k < s_ P 86 d → s_ P 100 (6 * d + k) < 256 ∧ s_ P 101 (6 * d + k) < 256 ∧ s_ P 102 (6 * d + k) < 256
/-- its answer -/
def AK (P : pP) (d : Nat) : Prop := s_ P 91 d ≠ 0 → (s_ P 141 (60 + d) = 2 ∨ s_ P 141 (60 + d) = 10 ∨ s_ P 141 (60 + d) = 14 ∨ (isDat (s_ P 141 (60 + d)) ∧ s_ P 89 d = 3)) ∧ B8 (b_ P 7 (60 + d))
def IK (P : pP) (d : Nat) : Prop := IB P d ∧ AK P d
theorem ib_cg (h : IB P d) (h28 : B8 (b_ P' 28 d)) (h29 : B8 (b_ P' 29 d)) (h1 : ∀ k, k < 6 → B8 (b_ P' 1 (1 + (6 * d + k)))) (hs : ∀ f, 80 ≤ f ∧ f ≤ 82 ∨ f = 86 → s_ P' f d = s_ P f d) (he : ∀ f k, 100 ≤ f ∧ f ≤ 102 → s_ P' f (6 * d + k) = s_ P f (6 * d + k)) : IB P' d := by
  unfold IB at *
  rw [hs 80 (by decide), hs 81 (by decide), hs 82 (by decide), hs 86 (by decide)]
  obtain ⟨-, -, -, b4, b5, b6, b7, b8⟩ := h
  refine ⟨h28, h29, h1, b4, b5, b6, b7, fun k hk => ?_⟩
  rw [he 100 k (by decide), he 101 k (by decide), he 102 k (by decide)]
  exact b8 k hk
theorem ak_0 (h : s_ P 91 d = 0) : AK P d := fun q => absurd h q
theorem ik_ans {k : Nat} (h : IB P d) (hk : k = 2 ∨ k = 10 ∨ k = 14) : IK (p_ans P d k) d := by
  unfold p_ans
  refine ⟨ib_cg h ?_ ?_ (fun k hk => ?_) (fun f hf => ?_) (fun f k hf => ?_), fun _ => ?_⟩
  · simp only [s_S, s_B, s_F, b_S, b_B, b_F, f_S, f_B, Nat.reduceEqDiff, false_and, and_false, true_and, and_true, and_self, if_true, if_false, reduceIte, ite_self]; exact h.1
  · simp only [s_S, s_B, s_F, b_S, b_B, b_F, f_S, f_B, Nat.reduceEqDiff, false_and, and_false, true_and, and_true, and_self, if_true, if_false, reduceIte, ite_self]; exact h.2.1
  · simp only [s_S, s_B, s_F, b_S, b_B, b_F, f_S, f_B, Nat.reduceEqDiff, false_and, and_false, true_and, and_true, and_self, if_true, if_false, reduceIte, ite_self]; exact h.2.2.1 k hk
  · rw [s_S, if_neg (by omega), s_B, s_S, if_neg (by omega)]
  · rw [s_S, if_neg (by omega), s_B, s_S, if_neg (by omega)]
  · simp only [s_S, s_B, s_F, b_S, b_B, b_F, f_S, f_B, Nat.reduceEqDiff, false_and, and_false, true_and, and_true, and_self, if_true, if_false, reduceIte, ite_self]; exact ⟨by omega, b8_nil⟩
theorem dkn_d (t : Nat) : isDat (dkn t) := by unfold dkn isDat; split <;> decide
theorem ik_ansD {t e : Nat} {l : List Nat} (h : IB P d) (hl : B8 l) : IK (pB (p_ansD P d t e) 7 (60 + d) l) d := by
  unfold p_ansD p_ans
  refine ⟨ib_cg h ?_ ?_ (fun k hk => ?_) (fun f hf => ?_) (fun f k hf => ?_), fun _ => ?_⟩
  · simp only [s_S, s_B, s_F, b_S, b_B, b_F, f_S, f_B, Nat.reduceEqDiff, false_and, and_false, true_and, and_true, and_self, if_true, if_false, reduceIte, ite_self]; exact h.1
  · simp only [s_S, s_B, s_F, b_S, b_B, b_F, f_S, f_B, Nat.reduceEqDiff, false_and, and_false, true_and, and_true, and_self, if_true, if_false, reduceIte, ite_self]; exact h.2.1
  · simp only [s_S, s_B, s_F, b_S, b_B, b_F, f_S, f_B, Nat.reduceEqDiff, false_and, and_false, true_and, and_true, and_self, if_true, if_false, reduceIte, ite_self]; exact h.2.2.1 k hk
  · rw [s_B, s_S, if_neg (by omega), s_S, if_neg (by omega), s_S, if_neg (by omega), s_B, s_S, if_neg (by omega)]
  · rw [s_B, s_S, if_neg (by omega), s_S, if_neg (by omega), s_S, if_neg (by omega), s_B, s_S, if_neg (by omega)]
  · simp only [s_S, s_B, s_F, b_S, b_B, b_F, f_S, f_B, Nat.reduceEqDiff, false_and, and_false, true_and, and_true, and_self, if_true, if_false, reduceIte, ite_self]; exact ⟨Or.inr (Or.inr (Or.inr (dkn_d t))), hl⟩
theorem ik_ansE {t e : Nat} (h : IB P d) : IK (p_ansD P d t e) d := by
  unfold p_ansD p_ans
  refine ⟨ib_cg h ?_ ?_ (fun k hk => ?_) (fun f hf => ?_) (fun f k hf => ?_), fun _ => ?_⟩
  · simp only [s_S, s_B, s_F, b_S, b_B, b_F, f_S, f_B, Nat.reduceEqDiff, false_and, and_false, true_and, and_true, and_self, if_true, if_false, reduceIte, ite_self]; exact h.1
  · simp only [s_S, s_B, s_F, b_S, b_B, b_F, f_S, f_B, Nat.reduceEqDiff, false_and, and_false, true_and, and_true, and_self, if_true, if_false, reduceIte, ite_self]; exact h.2.1
  · simp only [s_S, s_B, s_F, b_S, b_B, b_F, f_S, f_B, Nat.reduceEqDiff, false_and, and_false, true_and, and_true, and_self, if_true, if_false, reduceIte, ite_self]; exact h.2.2.1 k hk
  · rw [s_S, if_neg (by omega), s_S, if_neg (by omega), s_S, if_neg (by omega), s_B, s_S, if_neg (by omega)]
  · rw [s_S, if_neg (by omega), s_S, if_neg (by omega), s_S, if_neg (by omega), s_B, s_S, if_neg (by omega)]
  · simp only [s_S, s_B, s_F, b_S, b_B, b_F, f_S, f_B, Nat.reduceEqDiff, false_and, and_false, true_and, and_true, and_self, if_true, if_false, reduceIte, ite_self]; exact ⟨Or.inr (Or.inr (Or.inr (dkn_d t))), b8_nil⟩
/-- numbers may change -/
theorem ib_S {f i v : Nat} (h : IB P d) (hf : f < 80 ∨ 83 ≤ f ∧ f ≠ 86 ∧ f ≠ 100 ∧ f ≠ 101 ∧ f ≠ 102) : IB (pS P f i v) d := ib_cg h h.1 h.2.1 h.2.2.1 (fun f' hf' => by rw [s_S, if_neg (by omega)]) (fun f' k hf' => by rw [s_S, if_neg (by omega)])
theorem ib_29 {l : List Nat} (h : IB P d) (hl : B8 l) : IB (pB P 29 d l) d := by
  refine ib_cg h ?_ ?_ (fun k hk => ?_) (fun _ _ => rfl) (fun _ _ _ => rfl)
  · simp only [s_S, s_B, s_F, b_S, b_B, b_F, f_S, f_B, Nat.reduceEqDiff, false_and, and_false, true_and, and_true, and_self, if_true, if_false, reduceIte, ite_self]; exact h.1
  · simp only [s_S, s_B, s_F, b_S, b_B, b_F, f_S, f_B, Nat.reduceEqDiff, false_and, and_false, true_and, and_true, and_self, if_true, if_false, reduceIte, ite_self]; exact hl
  · simp only [s_S, s_B, s_F, b_S, b_B, b_F, f_S, f_B, Nat.reduceEqDiff, false_and, and_false, true_and, and_true, and_self, if_true, if_false, reduceIte, ite_self]; exact h.2.2.1 k hk
theorem ib_28 {l : List Nat} (h : IB P d) (hl : B8 l) : IB (pB P 28 d l) d := by
  refine ib_cg h ?_ ?_ (fun k hk => ?_) (fun _ _ => rfl) (fun _ _ _ => rfl)
  · simp only [s_S, s_B, s_F, b_S, b_B, b_F, f_S, f_B, Nat.reduceEqDiff, false_and, and_false, true_and, and_true, and_self, if_true, if_false, reduceIte, ite_self]; exact hl
  · simp only [s_S, s_B, s_F, b_S, b_B, b_F, f_S, f_B, Nat.reduceEqDiff, false_and, and_false, true_and, and_true, and_self, if_true, if_false, reduceIte, ite_self]; exact h.2.1
  · simp only [s_S, s_B, s_F, b_S, b_B, b_F, f_S, f_B, Nat.reduceEqDiff, false_and, and_false, true_and, and_true, and_self, if_true, if_false, reduceIte, ite_self]; exact h.2.2.1 k hk
theorem ib_1 {k : Nat} {l : List Nat} (h : IB P d) (hl : B8 l) : IB (pB P 1 (1 + (6 * d + k)) l) d := by
  refine ib_cg h ?_ ?_ (fun k' hk' => ?_) (fun _ _ => rfl) (fun _ _ _ => rfl)
  · simp only [s_S, s_B, s_F, b_S, b_B, b_F, f_S, f_B, Nat.reduceEqDiff, false_and, and_false, true_and, and_true, and_self, if_true, if_false, reduceIte, ite_self]; exact h.1
  · simp only [s_S, s_B, s_F, b_S, b_B, b_F, f_S, f_B, Nat.reduceEqDiff, false_and, and_false, true_and, and_true, and_self, if_true, if_false, reduceIte, ite_self]; exact h.2.1
  · rw [b_B]
    split
    · exact hl
    · exact h.2.2.1 k' hk'
theorem ib_h0 (h : IB P d) : IB (p_h0 P d) d := ib_S (ib_S h (by decide)) (by decide)
theorem ib_eRs {e : Nat} (h : IB P d) : IB (p_eRs P e) d := ib_S (ib_S (ib_S h (by decide)) (by decide)) (by decide)
theorem ib_rsAll (h : IB P d) : ∀ n, IB (p_rsAll P d n) d
  | 0 => h
  | n + 1 => ib_eRs (ib_rsAll h n)
theorem ib_obey {w v ix : Nat} (h : IB P d) : IB (p_obey P d w v ix).1 d := by
  unfold p_obey
  repeat' split
  · exact h
  · exact ib_rsAll (ib_S h (by decide)) _
  · exact h
  · exact h
  · exact ib_eRs h
  · exact ib_S h (by decide)
  · exact h
theorem b8_rows (h : IB P d) : ∀ n, n ≤ s_ P 86 d → B8 (p_rows P d n)
  | 0, _ => b8_nil
  | n + 1, hn => by
    obtain ⟨-, -, -, -, -, -, -, b8⟩ := id h
    show B8 (p_rows P d n ++ p_row P (6 * d + n))
    refine b8_app (b8_rows h n (by omega)) ?_
    obtain ⟨c1, c2, c3⟩ := b8 n (by omega)
    unfold p_row
    refine b8_cons (by omega) (b8_cons (by omega) (b8_cons c1 (b8_cons ?_ (b8_cons c2 (b8_cons (by omega) (b8_cons c3 b8_nil))))))
    split <;> omega
theorem b8_tell {w v ix : Nat} {t : List Nat} (h : IB P d) (ht : p_tell P d w v ix = some t) : B8 t := by
  obtain ⟨b1, b2, b3, b4, b5, b6, b7, b8⟩ := id h
  unfold p_tell at ht
  by_cases q1 : w = 32768
  · rw [if_pos q1] at ht; cases ht; exact b8_cons (by omega) (b8_cons (by omega) b8_nil)
  rw [if_neg q1] at ht
  by_cases q2 : w = 33280
  · rw [if_pos q2] at ht
    cases hf : p_find P d ix with
    | none =>
      rw [hf] at ht; dsimp only at ht
      split at ht
      · cases ht; exact b8_cons (by omega) (b8_cons (by omega) b8_nil)
      · cases ht
    | some k => rw [hf] at ht; cases ht; exact b8_cons (by split <;> omega) (b8_cons (by omega) b8_nil)
  rw [if_neg q2] at ht
  by_cases q3 : w = 32774
  · rw [if_pos q3] at ht
    split at ht
    · cases ht
      unfold p_desc
      repeat' (refine b8_cons ?_ ?_)
      all_goals first | exact b8_nil | omega
    · split at ht
      · cases ht
        unfold p_conf
        refine b8_app ?_ (b8_rows h _ (Nat.le_refl _))
        unfold p_head
        repeat' (refine b8_cons ?_ ?_)
        all_goals first | exact b8_nil | omega
      · cases ht
  rw [if_neg q3] at ht
  split at ht
  · cases ht; exact b8_cons (by split <;> omega) b8_nil
  · split at ht
    · split at ht
      · cases ht; exact b8_drop b1
      · cases ht
    · cases ht
theorem ib_zBeg {l : List Nat} (h : IB P d) : IB (p_zBeg P d l) d := by
  have h1 : IB (p_zB1 P d l) d := ib_S (ib_S (ib_S (ib_S (ib_S (ib_S h (by decide)) (by decide)) (by decide)) (by decide)) (by decide)) (by decide)
  unfold p_zBeg
  split
  · refine ib_S ?_ (by decide)
    have h2 := ib_29 h1 b8_nil
    unfold p_bfh
    repeat' split
    all_goals first | exact h2 | exact ib_S h2 (by decide) | exact ib_obey h2
  · split
    · exact ib_S (ib_S h1 (by decide)) (by decide)
    · rename_i t ht
      exact ib_S (ib_S (ib_29 h1 (b8_tell h1 ht)) (by decide)) (by decide)
theorem ik_hear {o : Option Nat} (h : IB P d) (ho : ∀ j, o = some j → B8 (b_ P 7 j)) : IK (p_hear P d o) d := by
  have h0 := ib_h0 h
  have k0 : IK (p_h0 P d) d := ⟨h0, ak_0 h0_91⟩
  unfold p_hear
  split
  · exact k0
  · rename_i j
    have hb : B8 (b_ (p_h0 P d) 7 j) := ho j rfl
    have e91 : s_ (p_h0 P d) 91 d = 0 := h0_91
    have eb : b_ P 7 j = b_ (p_h0 P d) 7 j := rfl
    split
    · split
      · generalize p_h0 P d = Q at *
        unfold p_hIn
        split
        · unfold p_zIn
          have h1 : IB (p_zIn1 Q d) d := by
            unfold p_zIn1; split
            · exact ib_S h0 (by decide)
            · exact h0
          generalize p_zIn1 Q d = Q1 at *
          unfold p_zIn2
          repeat' split
          · exact ik_ans h1 (by decide)
          · exact ik_ansD (ib_S h1 (by decide)) (b8_take (b8_drop h1.2.1))
          · exact ik_ansE h1
          · exact ik_ans h1 (by decide)
        · split
          · exact k0
          · rename_i k hf
            split
            · have h1 : IB (p_eIn1 Q (6 * d + k)) d := by
                unfold p_eIn1; split
                · exact ib_S h0 (by decide)
                · exact h0
              have k6 : k < 6 := by have := (find_lt hf).1; have := h0.2.2.2.2.2.2.1; omega
              unfold p_eIn
              repeat' split
              · exact ik_ans h0 (by decide)
              · exact ik_ans h1 (by decide)
              · exact ik_ansD h1 (b8_take (h0.2.2.1 k k6))
            · exact k0
      · exact ⟨ib_S (ib_S h0 (by decide)) (by decide), ak_0 (by simp only [s_S, s_B, s_F, b_S, b_B, b_F, f_S, f_B, Nat.reduceEqDiff, false_and, and_false, true_and, and_true, and_self, if_true, if_false, reduceIte, ite_self]; exact e91)⟩
    · split
      · exact ik_ans (ib_zBeg h0) (by decide)
      · split
        · generalize p_h0 P d = Q at *
          unfold p_hOut
          split
          · unfold p_zOut
            split
            · exact ik_ans h0 (by decide)
            split
            · split
              · exact ik_ans (ib_S h0 (by decide)) (by decide)
              · exact ik_ans (ib_S h0 (by decide)) (by decide)
            split
            · have t1 : IK (p_zTk1 Q d j) d := ik_ans (ib_S (ib_S (ib_29 h0 (b8_app h0.2.1 hb)) (by decide)) (by decide)) (by decide)
              unfold p_zTake
              split
              · exact ik_ans h0 (by decide)
              split
              · exact ik_ans (ib_S h0 (by decide)) (by decide)
              split
              · generalize p_zTk1 Q d j = Q1 at *
                unfold p_keep
                refine ⟨ib_S (ib_28 t1.1 ?_) (by decide), ?_⟩
                · unfold kpl
                  exact b8_app (b8_app (b8_take t1.1.1) (b8_take t1.1.2.1)) (b8_drop t1.1.1)
                · have := t1.2
                  unfold AK at *; simp only [s_S, s_B, s_F, b_S, b_B, b_F, f_S, f_B, Nat.reduceEqDiff, false_and, and_false, true_and, and_true, and_self, if_true, if_false, reduceIte, ite_self]; exact this
              · exact t1
            split
            · split
              · exact ik_ans h0 (by decide)
              · exact ik_ans (ib_S h0 (by decide)) (by decide)
            · exact ik_ans h0 (by decide)
          · split
            · exact k0
            · rename_i k hf
              split
              · have k6 : k < 6 := by have := (find_lt hf).1; have := h0.2.2.2.2.2.2.1; omega
                unfold p_eOut
                repeat' split
                · exact ik_ans h0 (by decide)
                · exact ik_ans h0 (by decide)
                · exact ik_ans h0 (by decide)
                · exact ik_ans (ib_S (ib_1 h0 (b8_app (h0.2.2.1 k k6) hb)) (by decide)) (by decide)
              · exact k0
        · split
          · refine ⟨?_, ak_0 (by rw [hAck_91]; exact e91)⟩
            generalize p_h0 P d = Q at *
            unfold p_hAck
            split
            · unfold p_zAck
              repeat' split
              all_goals first | exact h0 | exact ib_S (ib_S (ib_S h0 (by decide)) (by decide)) (by decide) | exact ib_S h0 (by decide)
            · split
              · exact h0
              · rename_i k hf
                have k6 : k < 6 := by have := (find_lt hf).1; have := h0.2.2.2.2.2.2.1; omega
                exact ib_S (ib_S (ib_1 h0 (b8_drop (h0.2.2.1 k k6))) (by decide)) (by decide)
          · exact k0
theorem so_IB (h : SO d P P') (hI : IB P d) : IB P' d := by
  obtain ⟨b1, b2, b3, b4, b5, b6, b7, b8⟩ := hI
  unfold IB
  rw [so_28 h, so_29 h, so_s h (by decide), so_s h (by decide), so_s h (by decide), so_s h (by decide)]
  refine ⟨b1, b2, fun k hk => by rw [so_1 h hk]; exact b3 k hk, b4, b5, b6, b7, fun k hk => ?_⟩
  have k6 : k < 6 := by omega
  rw [so_e h (by decide) k6, so_e h (by decide) k6, so_e h (by decide) k6]; exact b8 k hk
theorem so_IK (h : SO d P P') (hI : IK P d) : IK P' d := by
  refine ⟨so_IB h hI.1, ?_⟩
  have := hI.2
  unfold AK at *
  rw [so_s h (by decide), so_s h (by decide), so_p h (by decide), so_7 h]
  exact this
/-- after all have heard -/
theorem ik_hears {s : Nat} {r : Option Nat} (h6 : ∀ d, d < 6 → s_ P 86 d ≤ 6) (h : ∀ d, d < 6 → IK P d) (hr : ∀ j, r = some j → j < 60 ∧ B8 (b_ P 7 j)) (hd : d < 6) : IK (p_hears P s r 6) d := by
  obtain ⟨Q, q1, q2, q3⟩ := hears_at (s := s) (r := r) h6 hd
  refine so_IK q3 ?_
  split
  · exact so_IK q1 (h d hd)
  · refine ik_hear (so_IB q1 (h d hd).1) (fun j e => ?_)
    rw [(q2 j (hr j e).1).2]; exact (hr j e).2
/-- who answers -/
theorem hears_91 {s j : Nat} (h6 : ∀ d, d < 6 → s_ P 86 d ≤ 6) (h0 : s_ P 91 d = 0) (hj : j < 60) (hd : d < 6) (h : s_ (p_hears P s (some j) 6) 91 d ≠ 0) : s ≠ d + 1 ∧ cand P j d := by
  obtain ⟨Q, q1, q2, q3⟩ := hears_at (s := s) (r := some j) h6 hd
  rw [so_s q3 (by decide)] at h
  by_cases c : s = d + 1 ∨ s_ P 83 d = 0
  · rw [if_pos c, so_s q1 (by decide)] at h
    exact absurd h0 h
  · rw [if_neg c] at h
    have := hear_91 h
    rw [(q2 j hj).1 141 (by decide), (q2 j hj).1 142 (by decide), so_s q1 (by decide), so_s q1 (by decide)] at this
    exact ⟨fun q => c (Or.inl q), fun q => c (Or.inr q), this⟩
end WD
