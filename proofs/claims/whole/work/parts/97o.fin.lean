/-! What always holds of the host: a transfer of FINDING ends. -/
section HV
variable {P P' Q X : pP} {d k t : Nat}
def sum6 (r : Nat → Nat) : Nat := r 0 + r 1 + r 2 + r 3 + r 4 + r 5
theorem sum6_dn {r : Nat → Nat} (hd : d < 6) (h1 : 1 ≤ r d) : sum6 (fun e => if e = d then r e - 1 else r e) + 1 = sum6 r := by
  have : d = 0 ∨ d = 1 ∨ d = 2 ∨ d = 3 ∨ d = 4 ∨ d = 5 := by omega
  unfold sum6
  rcases this with rfl | rfl | rfl | rfl | rfl | rfl <;> simp <;> omega
def FN (X : pP) (t : Nat) : Prop := t < s_ X 122 0 ∧ s_ X 213 t = 0 ∧ s_ X 211 t ≠ 0 ∧ s_ X 208 t ≠ 0 ∧ s_ X 160 (s_ X 200 t) = 1 ∧ ((s_ X 208 t = 1 ∨ s_ X 208 t = 2) ↔ s_ X 161 (s_ X 200 t) = 0) ∧ WS X t ∧ (s_ X 203 t = if s_ X 205 t < 32768 then 0 else 1) ∧ (s_ X 208 t = 1 → MN (s_ X 200 t) X) ∧ (s_ X 208 t = 5 → PFX X t) ∧ (s_ X 208 t = 6 → s_ X 165 (s_ X 200 t) ≠ 0) ∧ (∀ t', wtc X t' → s_ X 200 t' ≠ s_ X 200 t) ∧ (∃ r : Nat → Nat, (∀ d, r d ≤ 5) ∧ (∀ t', wtc X t' → s_ X 208 t' ≠ 0 → 6 ≤ s_ X 208 t' + r (s_ X 200 t')) ∧ 6 ≤ s_ X 208 t + r (s_ X 200 t) ∧ s_ X 122 0 + sum6 r ≤ 330) ∧ s_ X 83 (s_ X 200 t) ≠ 0 ∧ s_ X 130 0 + 6 * s_ X 123 0 + 6 ≤ 1 + 6 * s_ X 122 0
theorem fn_Y (hI : INV P) (hW : WX P) (hT : XT P t) (hS : s_ P 228 0 + 4 < 2 ^ 31) (h126 : s_ P 126 0 + 1 < 2 ^ 31) (ht : wtg P t) (hc : s_ P 213 t = 0 → ∀ t', t' < t → ¬ wtc P t') (h0 : s_ P 213 t = 0) (h8 : s_ P 208 t ≠ 0) (hy : s_ (Yv P t) 211 t ≠ 0) : FN (Y1 P t) t := by
  obtain ⟨-, mnt, pft⟩ := inv_Y hI hW hT hS h126 ht hc
  obtain ⟨iG, iT, iW, iU, iF, iN, iR, iQ, iD, iI⟩ := id hI
  obtain ⟨h1, h2⟩ := id ht
  obtain ⟨wy, -, yh, -⟩ := yv hW hT hS h126 h2
  obtain ⟨y1, y2, st, yl, yn, y186⟩ := yh
  have a1 := (iT t h1).1
  have wc := (iW t ht).2.1 h0
  obtain ⟨c1, c2, c3, c4, c5, c6, c7, c8, c9, c10, c11, c12⟩ := id wc
  have eX : ∀ f j, hoF f → f ≠ 123 → ¬ (209 ≤ f ∧ f ≤ 212 ∧ j = t) → ¬ ((f = 185 ∨ f = 186) ∧ j = s_ P 213 t) → s_ (Y1 P t) f j = s_ P f j := fun f j k1 k2 k3 k4 => by rw [Y1_s k2]; exact y1 f j k1 k3 k4
  have eT0 : ∀ f, (200 ≤ f ∧ f ≤ 208) ∨ f = 213 → s_ (Y1 P t) f t = s_ P f t := fun f k1 => eX f t (by omega) (by omega) (by omega) (by omega)
  have x122 : s_ (Y1 P t) 122 0 = s_ P 122 0 := eX 122 0 (by decide) (by decide) (by omega) (by omega)
  have eP : ∀ f, 160 ≤ f → f < 180 → ∀ j, s_ (Y1 P t) f j = s_ P f j := fun f k1 k2 j => eX f j (by omega) (by omega) (by omega) (by omega)
  have t1 : s_ (Y1 P t) 211 t = s_ (Yv P t) 211 t := Y1_s (by decide)
  have wcb : ∀ t', wtc (Y1 P t) t' → wtc P t' ∧ t' ≠ t := fun t' hw => by
    obtain ⟨w1, w2, w3⟩ := hw
    have n : t' ≠ t := fun q => by rw [q, t1] at w2; exact hy w2
    rw [x122] at w1
    rw [eX 211 t' (by decide) (by decide) (by omega) (by omega)] at w2
    rw [eX 213 t' (by decide) (by decide) (by omega) (by omega)] at w3
    exact ⟨⟨w1, w2, w3⟩, n⟩
  have e200 : ∀ t', s_ (Y1 P t) 200 t' = s_ P 200 t' := fun t' => eX 200 t' (by decide) (by decide) (by omega) (by omega)
  have e208 : ∀ t', s_ (Y1 P t) 208 t' = s_ P 208 t' := fun t' => eX 208 t' (by decide) (by decide) (by omega) (by omega)
  unfold FN WS
  rw [x122, eT0 213 (by decide), t1, e208, e200, eP 160 (by decide) (by decide), eP 161 (by decide) (by decide), eP 165 (by decide) (by decide), eT0 203 (by decide), eT0 205 (by decide), eT0 206 (by decide), eT0 207 (by decide), Y1_b, yl]
  have w8 := c8 h8
  refine ⟨h1, h0, hy, h8, c4.mp h8, c3, w8, c1, fun q => mn_cg (mnt h0 q) (fun f _ => Y1_s (by omega)), fun q => ?_, c12, fun t' hw => ?_, ?_, ?_, ?_⟩
  · refine pfx_cg (pft h0 q) (Y1_s (by decide)) Y1_b (Y1_s (by decide)) ?_
    exact conf_cg (Y1_s (by decide)) (fun f k k1 k2 _ => Y1_s (by omega))
  · obtain ⟨w, n⟩ := wcb t' hw
    rw [e200]
    exact fun c => n ((iU t t' ⟨h1, h2, h0⟩ w).1 c.symm h8).symm
  · obtain ⟨r, r1, r2, r3⟩ := iR
    refine ⟨r, r1, fun t' hw n => ?_, r2 t ⟨h1, h2, h0⟩ h8, r3⟩
    rw [e208] at n
    rw [e208, e200]
    exact r2 t' (wcb t' hw).1 n
  · rw [Y1_s (by decide)]
    intro q
    exact ((iD _ a1).1 (yv_83 hW hT hS h126 h2 a1 q)).2.2.2 t ht rfl
  · have w123 : s_ (Yv P t) 123 0 = s_ P 123 0 := y1 123 0 (by decide) (by omega) (by omega)
    have x123 : s_ (Y1 P t) 123 0 = s_ P 123 0 - 1 := by unfold Y1; rw [if_neg hy, s_S, if_pos ⟨rfl, rfl⟩, w123]
    have := cnt_pos (f := s_ P 211) (s_ P 122 0) h1 h2
    rw [eX 130 0 (by decide) (by decide) (by omega) (by omega), x123]
    omega
theorem b8_rep {n : Nat} : B8 (List.replicate n 0) := fun x hx => by rw [(List.mem_replicate.mp hx).2]; decide
theorem fdW_lt {s : Nat} : fdW s < 65536 := by unfold fdW; split; decide; split <;> decide
theorem fdV_lt {s : Nat} (hd : d < 6) : fdV d s < 65536 := by unfold fdV; split; omega; split; decide; split <;> decide
theorem fdN_n {s tot : Nat} (h : s ≠ 5) : fdN s tot = fdN s 0 := by unfold fdN; rw [if_neg h, if_neg h]
/-- the next of FINDING is made -/
theorem inv_fnd {s tot : Nat} (hI : INV X) (hd : d < 6) (hs : 1 ≤ s ∧ s ≤ 6) (h83 : s_ X 83 d ≠ 0) (h160 : s_ X 160 d = 1) (h161 : (s = 1 ∨ s = 2) ↔ s_ X 161 d = 0) (hn : ∀ t', wtc X t' → s_ X 200 t' ≠ d) (hm : s = 1 → MN d X) (h2 : s = 2 → s_ X 83 d = 1) (h5 : s = 5 → 18 ≤ tot ∧ tot ≤ 60) (h6 : s = 6 → s_ X 165 d ≠ 0) (hR : ∃ r : Nat → Nat, (∀ d, r d ≤ 5) ∧ (∀ t', wtc X t' → s_ X 208 t' ≠ 0 → 6 ≤ s_ X 208 t' + r (s_ X 200 t')) ∧ 6 ≤ s + r d ∧ s_ X 122 0 + 1 + sum6 r ≤ 330) (hx : ∀ d, s_ X 165 d ≤ s_ X 122 0) : INV (p_fnd X d s tot) := by
  have eq : ∀ f j, f ≠ 122 → f ≠ 123 → ¬ (200 ≤ f ∧ f ≤ 213 ∧ j = s_ X 122 0) → s_ (p_fnd X d s tot) f j = s_ X f j := fun f j n1 n2 n3 => by
    unfold p_fnd p_addC p_mk p_mkF
    rw [s_S, if_neg (by omega), s_n n2, s_n n1, s_B]
    rw [s_S, if_neg (by omega), s_S, if_neg (by omega), s_S, if_neg (by omega), s_S, if_neg (by omega), s_S, if_neg (by omega), s_S, if_neg (by omega), s_S, if_neg (by omega), s_S, if_neg (by omega), s_S, if_neg (by omega), s_S, if_neg (by omega), s_S, if_neg (by omega), s_S, if_neg (by omega)]
  have eb : ∀ c j, ¬ (c = 36 ∧ j = s_ X 122 0) → b_ (p_fnd X d s tot) c j = b_ X c j := fun c j n => by
    unfold p_fnd p_addC p_mk
    rw [b_S, b_S, b_S, b_B, if_neg n]; rfl
  have f0 : s_ (p_fnd X d s tot) 200 (s_ X 122 0) = d ∧ s_ (p_fnd X d s tot) 202 (s_ X 122 0) = s_ X 162 d ∧ s_ (p_fnd X d s tot) 203 (s_ X 122 0) = (if fdW s < 32768 then 0 else 1) ∧ s_ (p_fnd X d s tot) 205 (s_ X 122 0) = fdW s ∧ s_ (p_fnd X d s tot) 206 (s_ X 122 0) = fdV d s ∧ s_ (p_fnd X d s tot) 207 (s_ X 122 0) = 0 ∧ s_ (p_fnd X d s tot) 208 (s_ X 122 0) = s ∧ s_ (p_fnd X d s tot) 209 (s_ X 122 0) = 0 ∧ s_ (p_fnd X d s tot) 210 (s_ X 122 0) = 0 ∧ s_ (p_fnd X d s tot) 211 (s_ X 122 0) = 0 ∧ s_ (p_fnd X d s tot) 212 (s_ X 122 0) = 0 ∧ s_ (p_fnd X d s tot) 213 (s_ X 122 0) = 0 := by
    unfold p_fnd p_addC p_mk p_mkF; simp only [s_S, s_B, s_F, b_S, b_B, b_F, f_S, f_B, Nat.reduceEqDiff, false_and, and_false, true_and, and_true, and_self, if_true, if_false, reduceIte, ite_self]
  obtain ⟨v200, v202, v203, v205, v206, v207, v208, v209, v210, v211, v212, v213⟩ := f0
  have v36 : b_ (p_fnd X d s tot) 36 (s_ X 122 0) = List.replicate (fdN s tot) 0 := by unfold p_fnd p_addC p_mk; simp only [s_S, s_B, s_F, b_S, b_B, b_F, f_S, f_B, Nat.reduceEqDiff, false_and, and_false, true_and, and_true, and_self, if_true, if_false, reduceIte, ite_self]
  have v122 : s_ (p_fnd X d s tot) 122 0 = s_ X 122 0 + 1 := by unfold p_fnd p_addC p_mk; simp only [s_S, s_B, s_F, b_S, b_B, b_F, f_S, f_B, Nat.reduceEqDiff, false_and, and_false, true_and, and_true, and_self, if_true, if_false, reduceIte, ite_self]
  have v123 : s_ (p_fnd X d s tot) 123 0 = s_ X 123 0 + 1 := by unfold p_fnd p_addC p_mk p_mkF; simp only [s_S, s_B, s_F, b_S, b_B, b_F, f_S, f_B, Nat.reduceEqDiff, false_and, and_false, true_and, and_true, and_self, if_true, if_false, reduceIte, ite_self]
  obtain ⟨iG, iT, iW, iU, iF, iN, iR, iQ, iD, iI⟩ := id hI
  have g8 := iG.2.2.2.2.2.2.2.1
  have dd := iD d hd
  have cX : p_conf (p_fnd X d s tot) d = p_conf X d := conf_cg (eq 86 d (by decide) (by decide) (by omega)) (fun f k k1 k2 _ => eq f _ (by omega) (by omega) (by omega))
  refine inv_new hI eq eb v122 v123 v211 ?_ (by rw [v212]; decide) (fun _ => ?_) (fun c => absurd v213 c) (fun _ => ⟨v209, fun t' hw c => ?_⟩) (by rw [v200]; exact h83) ?_ (fun d' => Or.inl (hx d'))
  · unfold TT
    rw [v200, v210, v212, v209, v202, v36, v205, v206, v207, v213, v208, v211, eq 130 0 (by decide) (by decide) (by omega)]
    exact ⟨hd, Nat.zero_le _, by decide, by decide, dd.2.1, b8_rep, fdW_lt, fdV_lt hd, by decide, by omega, hs.2, by decide⟩
  · unfold WC WS
    rw [v200, v202, v203, v205, v206, v207, v208, v209, v210, v36, List.length_replicate, eq 160 d (by decide) (by decide) (by omega), eq 161 d (by decide) (by decide) (by omega), eq 162 d (by decide) (by decide) (by omega), eq 165 d (by decide) (by decide) (by omega), eq 83 d (by decide) (by decide) (by omega)]
    refine ⟨rfl, rfl, h161, ⟨fun _ => h160, fun _ => by omega⟩, fun _ => by decide, fun _ => rfl, fun q => by omega, fun _ => ⟨rfl, rfl, rfl, fun q => fdN_n q, fun q => ?_⟩, fun q => mn_cg (hm q) (fun f hf => eq f d (by omega) (by omega) (by omega)), h2, fun q => ⟨?_, ?_⟩, h6⟩
    · subst q; exact h5 rfl
    · unfold PFX
      rw [v210]
      exact ⟨Nat.zero_le _, by rw [List.take_zero, List.take_zero]⟩
    · intro c
      rw [v209] at c; omega
  · rw [v200] at c
    exact absurd c (hn t' hw)
  · obtain ⟨r, r1, r2, r3, r4⟩ := hR
    refine ⟨r, r1, r2, fun _ _ => by rw [v208, v200]; exact r3, r4⟩
end HV
