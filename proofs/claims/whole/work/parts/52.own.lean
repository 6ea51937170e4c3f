/-! What a device's hearing may change -/
section OW
variable {P Q : pP} {d : Nat}
def own (d f i : Nat) : Prop := (60 ≤ f ∧ f < 100 ∧ i = d) ∨ (100 ≤ f ∧ f < 120 ∧ 6 * d ≤ i ∧ i < 6 * d + 6) ∨ (140 ≤ f ∧ f < 160 ∧ i = 60 + d)
def ownB (d c i : Nat) : Prop := (c = 7 ∧ i = 60 + d) ∨ (c = 1 ∧ 1 + 6 * d ≤ i ∧ i < 7 + 6 * d) ∨ ((c = 28 ∨ c = 29) ∧ i = d)
def Fr (d : Nat) (P Q : pP) : Prop := (∀ f i, ¬ own d f i → s_ Q f i = s_ P f i) ∧ (∀ c i, ¬ ownB d c i → b_ Q c i = b_ P c i) ∧ f_ Q = f_ P ∧ s_ Q 86 d = s_ P 86 d
theorem fr_rf : Fr d P P := ⟨fun _ _ _ => rfl, fun _ _ _ => rfl, rfl, rfl⟩
theorem fr_tr {R : pP} (h : Fr d P Q) (k : Fr d Q R) : Fr d P R := ⟨fun f i hn => (k.1 f i hn).trans (h.1 f i hn), fun c i hn => (k.2.1 c i hn).trans (h.2.1 c i hn), k.2.2.1.trans h.2.2.1, k.2.2.2.trans h.2.2.2⟩
theorem fr_S {f i v : Nat} (h : Fr d P Q) (ho : own d f i) (hf : f ≠ 86) : Fr d P (pS Q f i v) := by
  refine fr_tr h ⟨fun f' i' hn => ?_, fun _ _ _ => rfl, rfl, ?_⟩
  · rw [s_S, if_neg]
    rintro ⟨rfl, rfl⟩
    exact hn ho
  · rw [s_S, if_neg (fun q => hf q.1.symm)]
theorem fr_B {c i : Nat} {l : List Nat} (h : Fr d P Q) (ho : ownB d c i) : Fr d P (pB Q c i l) := by
  refine fr_tr h ⟨fun _ _ _ => rfl, fun c' i' hn => ?_, rfl, rfl⟩
  rw [b_B, if_neg]
  rintro ⟨rfl, rfl⟩
  exact hn ho
theorem fr_ans {k : Nat} (h : Fr d P Q) : Fr d P (p_ans Q d k) := by
  unfold p_ans
  exact fr_S (fr_B (fr_S h (by unfold own; omega) (by decide)) (by unfold ownB; omega)) (by unfold own; omega) (by decide)
theorem fr_ansD {t e : Nat} (h : Fr d P Q) : Fr d P (p_ansD Q d t e) := by
  unfold p_ansD
  exact fr_S (fr_S (fr_ans h) (by unfold own; omega) (by decide)) (by unfold own; omega) (by decide)
theorem fr_eRs {k : Nat} (h : Fr d P Q) (hk : k < 6) : Fr d P (p_eRs Q (6 * d + k)) := by
  unfold p_eRs
  exact fr_S (fr_S (fr_S h (by unfold own; omega) (by decide)) (by unfold own; omega) (by decide)) (by unfold own; omega) (by decide)
theorem fr_rsAll (h : Fr d P Q) : ∀ n, n ≤ 6 → Fr d P (p_rsAll Q d n)
  | 0, _ => h
  | n + 1, hn => fr_eRs (fr_rsAll h n (by omega)) (by omega)
theorem fr_eOut {k j : Nat} (h : Fr d P Q) (hk : k < 6) : Fr d P (p_eOut Q d (6 * d + k) j) := by
  unfold p_eOut
  repeat' split
  · exact fr_ans h
  · exact fr_ans h
  · exact fr_ans h
  · exact fr_ans (fr_S (fr_B h (by unfold ownB; omega)) (by unfold own; omega) (by decide))
theorem fr_eIn {k : Nat} (h : Fr d P Q) (hk : k < 6) : Fr d P (p_eIn Q d (6 * d + k)) := by
  have h1 : Fr d P (p_eIn1 Q (6 * d + k)) := by
    unfold p_eIn1
    split
    · exact fr_S h (by unfold own; omega) (by decide)
    · exact h
  unfold p_eIn
  repeat' split
  · exact fr_ans h
  · exact fr_ans h1
  · exact fr_B (fr_ansD h1) (by unfold ownB; omega)
theorem fr_eAck {k : Nat} (h : Fr d P Q) (hk : k < 6) : Fr d P (p_eAck Q (6 * d + k)) := by
  unfold p_eAck
  exact fr_S (fr_S (fr_B h (by unfold ownB; omega)) (by unfold own; omega) (by decide)) (by unfold own; omega) (by decide)
theorem fr_zAck (h : Fr d P Q) : Fr d P (p_zAck Q d) := by
  unfold p_zAck
  repeat' split
  all_goals first | exact h | (repeat' (first | exact h | (refine fr_S ?_ (by unfold own; omega) (by decide))))
theorem fr_zIn (h : Fr d P Q) : Fr d P (p_zIn Q d) := by
  have h1 : Fr d P (p_zIn1 Q d) := by
    unfold p_zIn1
    split
    · exact fr_S h (by unfold own; omega) (by decide)
    · exact h
  unfold p_zIn p_zIn2
  repeat' split
  · exact fr_ans h1
  · exact fr_B (fr_ansD (fr_S h1 (by unfold own; omega) (by decide))) (by unfold ownB; omega)
  · exact fr_ansD h1
  · exact fr_ans h1
theorem fr_keep {v n : Nat} (h : Fr d P Q) : Fr d P (p_keep Q d v n) := by
  unfold p_keep
  exact fr_B h (by unfold ownB; omega)
theorem fr_zTake {j : Nat} (h : Fr d P Q) : Fr d P (p_zTake Q d j) := by
  have h1 : Fr d P (p_zTk1 Q d j) := by
    unfold p_zTk1
    exact fr_ans (fr_S (fr_S (fr_B h (by unfold ownB; omega)) (by unfold own; omega) (by decide)) (by unfold own; omega) (by decide))
  unfold p_zTake
  repeat' split
  · exact fr_ans h
  · exact fr_ans (fr_S h (by unfold own; omega) (by decide))
  · exact fr_S (fr_keep h1) (by unfold own; omega) (by decide)
  · exact h1
theorem fr_zOut {j : Nat} (h : Fr d P Q) : Fr d P (p_zOut Q d j) := by
  unfold p_zOut
  repeat' split
  all_goals first | exact fr_ans h | exact fr_zTake h | exact fr_ans (fr_S h (by unfold own; omega) (by decide))
theorem fr_obey {w v ix : Nat} (h : Fr d P Q) (h6 : s_ Q 86 d ≤ 6) : Fr d P (p_obey Q d w v ix).1 := by
  unfold p_obey
  repeat' split
  · exact h
  · exact fr_rsAll (fr_S h (by unfold own; omega) (by decide)) _ h6
  · exact h
  · exact h
  · rename_i k hf _ _
    exact fr_eRs h (by have := (find_lt hf).1; omega)
  · rename_i k hf _ _ _
    have := (find_lt hf).1
    exact fr_S h (by unfold own; omega) (by decide)
  · exact h
theorem fr_zB1 {l : List Nat} (h : Fr d P Q) : Fr d P (p_zB1 Q d l) := by
  unfold p_zB1
  exact fr_S (fr_S (fr_S (fr_S (fr_S (fr_S h (by unfold own; omega) (by decide)) (by unfold own; omega) (by decide)) (by unfold own; omega) (by decide)) (by unfold own; omega) (by decide)) (by unfold own; omega) (by decide)) (by unfold own; omega) (by decide)
theorem fr_bfh {w ix : Nat} (h : Fr d P Q) (h6 : s_ Q 86 d ≤ 6) : Fr d P (p_bfh Q d w ix).1 := by
  unfold p_bfh
  repeat' split
  all_goals first | exact h | exact fr_obey h h6 | exact (fr_S h (by unfold own; omega) (by decide) : Fr d P (pS Q 67 d _))
theorem fr_zBeg {l : List Nat} (h : Fr d P Q) (h6 : s_ Q 86 d ≤ 6) : Fr d P (p_zBeg Q d l) := by
  have h1 := fr_zB1 (l := l) h
  have e6 : s_ (pB (p_zB1 Q d l) 29 d []) 86 d = s_ Q 86 d := by rw [s_B]; exact (fr_zB1 (P := Q) (l := l) fr_rf).2.2.2
  unfold p_zBeg
  split
  · exact fr_S (fr_bfh (fr_B h1 (by unfold ownB; omega)) (by rw [e6]; exact h6)) (by unfold own; omega) (by decide)
  · split
    · exact fr_S (fr_S h1 (by unfold own; omega) (by decide)) (by unfold own; omega) (by decide)
    · exact fr_S (fr_S (fr_B h1 (by unfold ownB; omega)) (by unfold own; omega) (by decide)) (by unfold own; omega) (by decide)
theorem fr_hIn {e : Nat} (h : Fr d P Q) (h6 : s_ Q 86 d ≤ 6) : Fr d P (p_hIn Q d e) := by
  unfold p_hIn
  split
  · exact fr_zIn h
  · split
    · exact h
    · rename_i k hf
      have := (find_lt hf).1
      split
      · exact fr_eIn h (by omega)
      · exact h
theorem fr_hOut {j : Nat} (h : Fr d P Q) (h6 : s_ Q 86 d ≤ 6) : Fr d P (p_hOut Q d j) := by
  unfold p_hOut
  split
  · exact fr_zOut h
  · split
    · exact h
    · rename_i k hf
      have := (find_lt hf).1
      split
      · exact fr_eOut h (by omega)
      · exact h
theorem fr_hAck (h : Fr d P Q) (h6 : s_ Q 86 d ≤ 6) : Fr d P (p_hAck Q d) := by
  unfold p_hAck
  split
  · exact fr_zAck h
  · split
    · exact h
    · rename_i k hf
      have := (find_lt hf).1
      exact fr_eAck h (by omega)
theorem fr_h0 (h : Fr d P Q) : Fr d P (p_h0 Q d) := by
  unfold p_h0
  exact fr_S (fr_S h (by unfold own; omega) (by decide)) (by unfold own; omega) (by decide)
theorem fr_hear {o : Option Nat} (h : Fr d P Q) (h6 : s_ Q 86 d ≤ 6) : Fr d P (p_hear Q d o) := by
  have h0 := fr_h0 h
  have e6 : s_ (p_h0 Q d) 86 d ≤ 6 := by rw [(fr_h0 (P := Q) fr_rf).2.2.2]; exact h6
  unfold p_hear
  split
  · exact h0
  · repeat' split
    · exact fr_hIn h0 e6
    · exact fr_S (fr_S h0 (by unfold own; omega) (by decide)) (by unfold own; omega) (by decide)
    · exact fr_ans (fr_zBeg h0 e6)
    · exact fr_hOut h0 e6
    · exact fr_hAck h0 e6
    · exact h0
/-- what carrying may change: nothing of the host's -/
def hostF (f : Nat) : Prop := ((120 ≤ f ∧ f < 140) ∨ f < 20) ∨ (160 ≤ f ∧ f < 220)
def hostB (c i : Nat) : Prop := c = 36 ∨ c = 20 ∨ (c = 1 ∧ i = 0)
def Fh (P Q : pP) : Prop := (∀ f i, hostF f → s_ Q f i = s_ P f i) ∧ (∀ c i, hostB c i → b_ Q c i = b_ P c i) ∧ (∀ d, s_ Q 86 d = s_ P 86 d)
theorem fh_rf : Fh P P := ⟨fun _ _ _ => rfl, fun _ _ _ => rfl, fun _ => rfl⟩
theorem fh_tr {R : pP} (h : Fh P Q) (k : Fh Q R) : Fh P R := ⟨fun f i hn => (k.1 f i hn).trans (h.1 f i hn), fun c i hn => (k.2.1 c i hn).trans (h.2.1 c i hn), fun d => (k.2.2 d).trans (h.2.2 d)⟩
theorem fh_S {f i v : Nat} (h : Fh P Q) (ho : ¬ hostF f) (hf : f ≠ 86) : Fh P (pS Q f i v) := by
  refine fh_tr h ⟨fun f' i' hn => ?_, fun _ _ _ => rfl, fun d => ?_⟩
  · rw [s_S, if_neg]
    rintro ⟨rfl, rfl⟩
    exact ho hn
  · rw [s_S, if_neg (fun q => hf q.1.symm)]
theorem fh_B {c i : Nat} {l : List Nat} (h : Fh P Q) (ho : ¬ hostB c i) : Fh P (pB Q c i l) := by
  refine fh_tr h ⟨fun _ _ _ => rfl, fun c' i' hn => ?_, fun _ => rfl⟩
  rw [b_B, if_neg]
  rintro ⟨rfl, rfl⟩
  exact ho hn
theorem fh_F {p : Nat} {w : Option (Nat × Nat)} (h : Fh P Q) : Fh P (pF Q p w) := fh_tr h ⟨fun _ _ _ => rfl, fun _ _ _ => rfl, fun _ => rfl⟩
theorem fh_fr (h : Fr d P Q) (hd : d < 6) : Fh P Q := by
  refine ⟨fun f i hf => h.1 f i ?_, fun c i hc => h.2.1 c i ?_, fun e => ?_⟩
  · unfold own; unfold hostF at hf; omega
  · unfold ownB; unfold hostB at hc; omega
  · by_cases q : e = d
    · subst q; exact h.2.2.2
    · exact h.1 86 e (by unfold own; omega)
theorem fh_rst {j s k : Nat} (h : Fh P Q) : Fh P (p_rst Q j s k) := by
  unfold p_rst
  exact fh_S (fh_B (fh_S (fh_S (fh_S h (by unfold hostF; omega) (by decide)) (by unfold hostF; omega) (by decide)) (by unfold hostF; omega) (by decide)) (by unfold hostB; omega)) (by unfold hostF; omega) (by decide)
theorem fh_drop {p : Nat} (h : Fh P Q) : Fh P (p_drop Q p) := by
  unfold p_drop
  exact fh_S (fh_F h) (by unfold hostF; omega) (by decide)
theorem fh_strike {j : Nat} (h : Fh P Q) : Fh P (p_strike Q j).1 := by
  have h1 := fh_drop (p := s_ Q 228 0) h
  have h2 : Fh P (pS (pB (p_drop Q (s_ Q 228 0)) 24 0 (p_lev Q j)) 229 0 0) := fh_S (fh_B h1 (by unfold hostB; omega)) (by unfold hostF; omega) (by decide)
  unfold p_strike
  split
  · exact h
  · repeat' split
    · exact fh_S h1 (by unfold hostF; omega) (by decide)
    · exact h2
    · exact fh_B (fh_S (fh_S (fh_S h2 (by unfold hostF; omega) (by decide)) (by unfold hostF; omega) (by decide)) (by unfold hostF; omega) (by decide)) (by unfold hostB; omega)
theorem fh_carry1 (h : Fh P Q) : Fh P (p_carry1 Q).1 := by
  unfold p_carry1
  split
  · exact h
  · exact fh_strike h
theorem fh_hears0 {s : Nat} {r : Option Nat} (h6 : ∀ d, d < 6 → s_ Q 86 d ≤ 6) : ∀ n, n ≤ 6 → Fh Q (p_hears Q s r n)
  | 0, _ => fh_rf
  | n + 1, hn => by
    have ih := fh_hears0 (s := s) (r := r) h6 n (by omega)
    have e6 : s_ (p_hears Q s r n) 86 n ≤ 6 := by
      rw [ih.2.2 n]; exact h6 n (by omega)
    unfold p_hears
    split
    · exact ih
    · exact fh_tr ih (fh_fr (fr_hear fr_rf e6) (by omega))
theorem fh_hears {s n : Nat} {r : Option Nat} (h : Fh P Q) (h6 : ∀ d, d < 6 → s_ Q 86 d ≤ 6) (hn : n ≤ 6) : Fh P (p_hears Q s r n) := fh_tr h (fh_hears0 h6 n hn)
theorem fh_carry (h : Fh P Q) (h6 : ∀ d, d < 6 → s_ Q 86 d ≤ 6) : Fh P (p_carry Q).1 := by
  unfold p_carry
  refine fh_hears (fh_S (fh_carry1 h) (by unfold hostF; omega) (by decide)) (fun d hd => ?_) (Nat.le_refl _)
  rw [s_S, if_neg (by omega), (fh_carry1 (P := Q) fh_rf).2.2 d]
  exact h6 d hd
theorem fh_hasAns (h : Fh P Q) : Fh P (p_hasAns Q).1 := by
  unfold p_hasAns
  split
  · exact h
  · unfold p_bring
    exact fh_S (fh_B (fh_rst h) (by unfold hostB; omega)) (by unfold hostF; omega) (by decide)
theorem strike_228 {j : Nat} : s_ (p_strike P j).1 228 0 = s_ P 228 0 := by
  unfold p_strike p_drop
  split
  · rfl
  · repeat' split
    all_goals (dsimp only; simp only [s_S, s_B, s_F, Nat.reduceEqDiff, false_and, if_false])
theorem carry1_228 : s_ (p_carry1 P).1 228 0 = s_ P 228 0 := by
  unfold p_carry1
  split
  · rfl
  · exact strike_228
end OW
