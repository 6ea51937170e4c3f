/-! The reference's FINDING: what changes of one peer. -/
section HY
variable {a : Nat} {ra : Nat → Nat} {R R' : Nat → Nat → Int32} {M : sm_M} {D : Nat} {P X Z : pP} {T d k t m : Nat}
/-- a peer's numbers, both sides -/
theorem hrel_pd (hH : HREL P R) (hn : ∀ t, wtc P t → s_ P 200 t ≠ d) (h60 : ∀ e, e < 6 → s_ P 165 e ≠ 0 → (b_ P 36 (s_ P 165 e - 1)).length ≤ 60) (h200 : ∀ t, t < s_ P 122 0 → s_ P 200 t < 6) (hs : ∀ f j, hoF f → ¬ ((f = 160 ∨ f = 161 ∨ f = 162 ∨ f = 165) ∧ j = d) → s_ X f j = s_ P f j) (hb : ∀ c j, hostB c j → b_ X c j = b_ P c j) (hr : ∀ f j, f < 4 ∨ 55 ≤ f → ¬ ((f = 57 ∨ f = 58 ∨ f = 59 ∨ f = 60 ∨ f = 85) ∧ j = d) → ¬ (f = 86 ∧ 60 * d ≤ j ∧ j < 60 * d + 60) → R' f j = R f j) (hp : R' 57 d = nI (s_ X 160 d) ∧ R' 58 d = nI (s_ X 162 d) ∧ R' 59 d = nI (if s_ X 161 d = 0 then 0 else d + 1)) : HREL X R' := by
  obtain ⟨⟨p1, p2, p3, p4⟩, p5, p6, p7⟩ := hH
  have en : ∀ f j, hoF f → f ≠ 160 → f ≠ 161 → f ≠ 162 → f ≠ 165 → s_ X f j = s_ P f j := fun f j n0 n1 n2 n3 n4 => hs f j n0 (by omega)
  have er : ∀ f j, f < 4 ∨ 55 ≤ f → f ≠ 57 → f ≠ 58 → f ≠ 59 → f ≠ 60 → f ≠ 85 → f ≠ 86 → R' f j = R f j := fun f j n0 n1 n2 n3 n4 n5 n6 => hr f j n0 (by omega) (by omega)
  refine ⟨⟨?_, ?_, ?_, ?_⟩, fun d' hd' => ?_, fun t ht => ?_, ?_⟩
  · rw [er 0 0 (by decide) (by decide) (by decide) (by decide) (by decide) (by decide) (by decide), en 0 0 (by decide) (by decide) (by decide) (by decide) (by decide)]; exact p1
  · rw [er 56 0 (by decide) (by decide) (by decide) (by decide) (by decide) (by decide) (by decide), en 125 0 (by decide) (by decide) (by decide) (by decide) (by decide)]; exact p2
  · rw [er 70 0 (by decide) (by decide) (by decide) (by decide) (by decide) (by decide) (by decide), en 122 0 (by decide) (by decide) (by decide) (by decide) (by decide)]; exact p3
  · trivial
  · obtain ⟨f1, f2, f3, f4, f5⟩ := p5 d' hd'
    have ep : ∀ k, pid X d' k = pid P d' k := fun k => en 166 _ (by decide) (by decide) (by decide) (by decide) (by decide)
    have q : ∀ k, k < s_ P 164 d' → RelQ X R' (10 * d' + k) (pid X d' k) := fun k hk => by
      have g := f5 k hk
      rw [ep]
      unfold RelQ at *
      rw [er 62 _ (by decide) (by decide) (by decide) (by decide) (by decide) (by decide) (by decide), er 63 _ (by decide) (by decide) (by decide) (by decide) (by decide) (by decide) (by decide), er 64 _ (by decide) (by decide) (by decide) (by decide) (by decide) (by decide) (by decide), er 65 _ (by decide) (by decide) (by decide) (by decide) (by decide) (by decide) (by decide), er 66 _ (by decide) (by decide) (by decide) (by decide) (by decide) (by decide) (by decide), er 67 _ (by decide) (by decide) (by decide) (by decide) (by decide) (by decide) (by decide), en 180 _ (by decide) (by decide) (by decide) (by decide) (by decide), en 181 _ (by decide) (by decide) (by decide) (by decide) (by decide), en 182 _ (by decide) (by decide) (by decide) (by decide) (by decide), en 183 _ (by decide) (by decide) (by decide) (by decide) (by decide), en 184 _ (by decide) (by decide) (by decide) (by decide) (by decide), en 185 _ (by decide) (by decide) (by decide) (by decide) (by decide)]
      exact g
    unfold RelP
    rw [er 61 d' (by decide) (by decide) (by decide) (by decide) (by decide) (by decide) (by decide), en 164 d' (by decide) (by decide) (by decide) (by decide) (by decide)]
    by_cases c : d' = d
    · subst c
      exact ⟨hp.1, hp.2.1, hp.2.2, f4, q⟩
    · rw [hr 57 d' (by omega) (by omega) (by omega), hr 58 d' (by omega) (by omega) (by omega), hr 59 d' (by omega) (by omega) (by omega), hs 160 d' (by decide) (by omega), hs 161 d' (by decide) (by omega), hs 162 d' (by decide) (by omega)]
      exact ⟨f1, f2, f3, f4, q⟩
  · rw [en 122 0 (by decide) (by decide) (by decide) (by decide) (by decide)] at ht
    obtain ⟨t1, t2, t3, t4, t5, t6, t7, t8⟩ := p6 t ht
    have es : ∀ f, 200 ≤ f → f ≤ 213 → s_ X f t = s_ P f t := fun f k1 k2 => en f t (by omega) (by omega) (by omega) (by omega) (by omega)
    have rr : ∀ f, 71 ≤ f → f ≤ 79 → R' f t = R f t := fun f k1 k2 => er f t (by omega) (by omega) (by omega) (by omega) (by omega) (by omega) (by omega)
    have hb36 : ∀ j, b_ X 36 j = b_ P 36 j := fun j => hb 36 j (Or.inl rfl)
    unfold RelT
    rw [hb36, es 200 (by decide) (by decide), es 213 (by decide) (by decide), es 211 (by decide) (by decide), es 210 (by decide) (by decide), es 212 (by decide) (by decide), es 203 (by decide) (by decide), en 180 _ (by decide) (by decide) (by decide) (by decide) (by decide), rr 71 (by decide) (by decide), rr 72 (by decide) (by decide), rr 73 (by decide) (by decide), rr 74 (by decide) (by decide), rr 75 (by decide) (by decide), rr 76 (by decide) (by decide)]
    refine ⟨t1, t2, t3, t4, t5, t6, fun i hi hj => by rw [er 81 _ (by decide) (by decide) (by decide) (by decide) (by decide) (by decide) (by decide)]; exact t7 i hi hj, fun z => ?_⟩
    obtain ⟨d1, d2, d3⟩ := t8 z
    have esu : su X t = su P t := by
      unfold su
      rw [hb36, es 205 (by decide) (by decide), es 206 (by decide) (by decide), es 207 (by decide) (by decide)]
    unfold RelC
    rw [esu, rr 79 (by decide) (by decide), rr 77 (by decide) (by decide), rr 78 (by decide) (by decide), es 208 (by decide) (by decide), es 211 (by decide) (by decide), es 209 (by decide) (by decide), es 200 (by decide) (by decide), hb36, hb36, en 185 0 (by decide) (by decide) (by decide) (by decide) (by decide)]
    refine ⟨d1, fun i hi => by rw [er 80 _ (by decide) (by decide) (by decide) (by decide) (by decide) (by decide) (by decide)]; exact d2 i hi, fun w => ?_⟩
    obtain ⟨w1, w2, w3, w4, w5⟩ := d3 w
    have nd := hn t ⟨ht, w, z⟩
    have o6 := h200 t ht
    rw [hr 60 _ (by omega) (by omega) (by omega), hr 85 _ (by omega) (by omega) (by omega), hs 165 _ (by decide) (by omega)]
    refine ⟨w1, w2, w3, w4, fun n => ?_⟩
    obtain ⟨v1, v2, v3⟩ := w5 n
    refine ⟨v1, v2, fun i hi => ?_⟩
    have := h60 _ o6 v1
    rw [hr 86 _ (by omega) (by omega) (by omega)]
    exact v3 i hi
  · rw [er 3 0 (by decide) (by decide) (by decide) (by decide) (by decide) (by decide) (by decide), hb 1 0 (Or.inr (Or.inr ⟨rfl, rfl⟩)), hb 20 0 (Or.inr (Or.inl rfl))]
    exact ⟨p7.1, fun i hi => by rw [er 2 i (by decide) (by decide) (by decide) (by decide) (by decide) (by decide) (by decide)]; exact p7.2.1 i hi, fun i hi => by rw [er 1 i (by decide) (by decide) (by decide) (by decide) (by decide) (by decide) (by decide)]; exact p7.2.2 i hi⟩
/-- one pipe more, both sides -/
theorem hrel_pipe {ad bk sz iv : Nat} (hH : HREL P R) (hd : d < 6) (hm : s_ P 164 d = m) (h6 : m < 6) (hpl : ∀ d' k', d' < 6 → k' < s_ P 164 d' → pid P d' k' < s_ P 130 0 ∧ k' < 6) (hpt : ∀ t, t < s_ P 122 0 → s_ P 213 t < s_ P 130 0) (h130 : 1 ≤ s_ P 130 0) (hr : ∀ f j, f < 4 ∨ 55 ≤ f → ¬ (f = 61 ∧ j = d) → ¬ (62 ≤ f ∧ f ≤ 67 ∧ j = 10 * d + m) → R' f j = R f j) (h61 : R' 61 d = nI (m + 1)) (h62 : R' 62 (10 * d + m) = nI ad) (h63 : R' 63 (10 * d + m) = nI (if bk = 0 then 3 else 2)) (h64 : R' 64 (10 * d + m) = nI sz) (h65 : R' 65 (10 * d + m) = nI iv) (h66 : R' 66 (10 * d + m) = nI 0) (h67 : R' 67 (10 * d + m) = nI 1) : HREL (p_mkP P d ad bk sz iv) R' := by
  obtain ⟨⟨p1, p2, p3, p4⟩, p5, p6, p7⟩ := hH
  subst hm
  have e : ∀ f j, ¬ (180 ≤ f ∧ f ≤ 187 ∧ j = s_ P 130 0) → ¬ (f = 166 ∧ j = 10 * d + s_ P 164 d) → ¬ (f = 164 ∧ j = d) → f ≠ 130 → s_ (p_mkP P d ad bk sz iv) f j = s_ P f j := fun f j n1 n2 n3 n4 => mkP_n n1 n2 n3 n4
  have e164 : s_ (p_mkP P d ad bk sz iv) 164 d = s_ P 164 d + 1 := by unfold p_mkP; simp only [s_S, s_B, s_F, b_S, b_B, b_F, f_S, f_B, Nat.reduceEqDiff, false_and, and_false, true_and, and_true, and_self, if_true, if_false, reduceIte, ite_self]
  have e166 : s_ (p_mkP P d ad bk sz iv) 166 (10 * d + s_ P 164 d) = s_ P 130 0 := by unfold p_mkP; simp only [s_S, s_B, s_F, b_S, b_B, b_F, f_S, f_B, Nat.reduceEqDiff, false_and, and_false, true_and, and_true, and_self, if_true, if_false, reduceIte, ite_self]
  have e180 : s_ (p_mkP P d ad bk sz iv) 180 (s_ P 130 0) = ad ∧ s_ (p_mkP P d ad bk sz iv) 181 (s_ P 130 0) = bk ∧ s_ (p_mkP P d ad bk sz iv) 182 (s_ P 130 0) = sz ∧ s_ (p_mkP P d ad bk sz iv) 183 (s_ P 130 0) = iv ∧ s_ (p_mkP P d ad bk sz iv) 184 (s_ P 130 0) = 1 ∧ s_ (p_mkP P d ad bk sz iv) 185 (s_ P 130 0) = 0 := by unfold p_mkP p_mkPf; simp only [s_S, s_B, s_F, b_S, b_B, b_F, f_S, f_B, Nat.reduceEqDiff, false_and, and_false, true_and, and_true, and_self, if_true, if_false, reduceIte, ite_self]
  have xb : ∀ c j, b_ (p_mkP P d ad bk sz iv) c j = b_ P c j := fun c j => rfl
  generalize hX : p_mkP P d ad bk sz iv = X at *
  have en : ∀ f j, ¬ (160 ≤ f ∧ f < 200) → f ≠ 130 → s_ X f j = s_ P f j := fun f j n1 n4 => e f j (by omega) (by omega) (by omega) n4
  have er : ∀ f j, f < 4 ∨ 55 ≤ f → ¬ (61 ≤ f ∧ f ≤ 67) → R' f j = R f j := fun f j n0 n1 => hr f j n0 (by omega) (by omega)
  refine ⟨⟨?_, ?_, ?_, ?_⟩, fun d' hd' => ?_, fun t ht => ?_, ?_⟩
  · rw [er 0 0 (by decide) (by decide), en 0 0 (by decide) (by decide)]; exact p1
  · rw [er 56 0 (by decide) (by decide), en 125 0 (by decide) (by decide)]; exact p2
  · rw [er 70 0 (by decide) (by decide), en 122 0 (by decide) (by decide)]; exact p3
  · trivial
  · obtain ⟨f1, f2, f3, f4, f5⟩ := p5 d' hd'
    have q : ∀ k, k < s_ P 164 d' → ¬ (d' = d ∧ k = s_ P 164 d) → RelQ X R' (10 * d' + k) (pid X d' k) := fun k hk n => by
      have g := f5 k hk
      obtain ⟨pl, k6⟩ := hpl d' k hd' hk
      have ep : pid X d' k = pid P d' k := e 166 _ (by omega) (by omega) (by omega) (by omega)
      rw [ep]
      unfold RelQ at *
      rw [hr 62 _ (by omega) (by omega) (by omega), hr 63 _ (by omega) (by omega) (by omega), hr 64 _ (by omega) (by omega) (by omega), hr 65 _ (by omega) (by omega) (by omega), hr 66 _ (by omega) (by omega) (by omega), hr 67 _ (by omega) (by omega) (by omega), e 180 _ (by omega) (by omega) (by omega) (by omega), e 181 _ (by omega) (by omega) (by omega) (by omega), e 182 _ (by omega) (by omega) (by omega) (by omega), e 183 _ (by omega) (by omega) (by omega) (by omega), e 184 _ (by omega) (by omega) (by omega) (by omega), e 185 _ (by omega) (by omega) (by omega) (by omega)]
      exact g
    unfold RelP
    rw [er 57 d' (by decide) (by decide), er 58 d' (by decide) (by decide), er 59 d' (by decide) (by decide), e 160 d' (by omega) (by omega) (by omega) (by omega), e 161 d' (by omega) (by omega) (by omega) (by omega), e 162 d' (by omega) (by omega) (by omega) (by omega)]
    by_cases c : d' = d
    · subst c
      rw [e164, h61]
      refine ⟨f1, f2, f3, rfl, fun k hk => ?_⟩
      by_cases c : k = s_ P 164 d'
      · subst c
        have ep : pid X d' (s_ P 164 d') = s_ P 130 0 := e166
        rw [ep]
        unfold RelQ
        rw [e180.1, e180.2.1, e180.2.2.1, e180.2.2.2.1, e180.2.2.2.2.1, e180.2.2.2.2.2]
        exact ⟨h62, h63, h64, h65, h66, h67⟩
      · exact q k (by omega) (by omega)
    · rw [e 164 d' (by omega) (by omega) (by omega) (by omega), hr 61 d' (by omega) (by omega) (by omega)]
      exact ⟨f1, f2, f3, f4, fun k hk => q k hk (by omega)⟩
  · rw [en 122 0 (by decide) (by decide)] at ht
    obtain ⟨t1, t2, t3, t4, t5, t6, t7, t8⟩ := p6 t ht
    have b13 := hpt t ht
    have es : ∀ f, 200 ≤ f → f ≤ 213 → s_ X f t = s_ P f t := fun f k1 k2 => en f t (by omega) (by omega)
    have rr : ∀ f, 71 ≤ f → f ≤ 79 → R' f t = R f t := fun f k1 k2 => er f t (by omega) (by omega)
    unfold RelT
    rw [xb, es 200 (by decide) (by decide), es 213 (by decide) (by decide), es 211 (by decide) (by decide), es 210 (by decide) (by decide), es 212 (by decide) (by decide), es 203 (by decide) (by decide), e 180 _ (by omega) (by omega) (by omega) (by omega), rr 71 (by decide) (by decide), rr 72 (by decide) (by decide), rr 73 (by decide) (by decide), rr 74 (by decide) (by decide), rr 75 (by decide) (by decide), rr 76 (by decide) (by decide)]
    refine ⟨t1, t2, t3, t4, t5, t6, fun i hi hj => by rw [er 81 _ (by decide) (by decide)]; exact t7 i hi hj, fun z => ?_⟩
    obtain ⟨d1, d2, d3⟩ := t8 z
    have esu : su X t = su P t := by
      unfold su
      rw [xb, es 205 (by decide) (by decide), es 206 (by decide) (by decide), es 207 (by decide) (by decide)]
    unfold RelC
    rw [esu, rr 79 (by decide) (by decide), rr 77 (by decide) (by decide), rr 78 (by decide) (by decide), es 208 (by decide) (by decide), es 211 (by decide) (by decide), es 209 (by decide) (by decide), es 200 (by decide) (by decide), xb, xb, e 185 0 (by omega) (by omega) (by omega) (by omega), e 165 _ (by omega) (by omega) (by omega) (by omega), er 60 _ (by decide) (by decide), er 85 _ (by decide) (by decide)]
    refine ⟨d1, fun i hi => by rw [er 80 _ (by decide) (by decide)]; exact d2 i hi, fun w => ?_⟩
    obtain ⟨w1, w2, w3, w4, w5⟩ := d3 w
    refine ⟨w1, w2, w3, w4, fun n => ?_⟩
    obtain ⟨v1, v2, v3⟩ := w5 n
    exact ⟨v1, v2, fun i hi => by rw [er 86 _ (by decide) (by decide)]; exact v3 i hi⟩
  · rw [er 3 0 (by decide) (by decide), xb, xb]
    exact ⟨p7.1, fun i hi => by rw [er 2 i (by decide) (by decide)]; exact p7.2.1 i hi, fun i hi => by rw [er 1 i (by decide) (by decide)]; exact p7.2.2 i hi⟩
/-- related, once the pipes of d are cleared -/
def HRx (P : pP) (R : Nat → Nat → Int32) (d m : Nat) : Prop := ∀ R'', (∀ f j, ¬ ((f = 66 ∨ f = 67) ∧ 10 * d ≤ j ∧ j < 10 * d + m) → R'' f j = R f j) → (∀ k, k < m → R'' 66 (10 * d + k) = nI 0 ∧ R'' 67 (10 * d + k) = nI 1) → HREL P R''
theorem hrx_0 (h : HREL P R) : HRx P R d 0 := fun R'' h1 _ => by
  have : R'' = R := funext fun f => funext fun j => h1 f j (by omega)
  rw [this]; exact h
theorem hrx_S {ad bk sz iv : Nat} (h : HRx P R d m) (hd : d < 6) (hm : s_ P 164 d = m) (h6 : m < 6) (hpl : ∀ d' k', d' < 6 → k' < s_ P 164 d' → pid P d' k' < s_ P 130 0 ∧ k' < 6) (hpt : ∀ t, t < s_ P 122 0 → s_ P 213 t < s_ P 130 0) (h130 : 1 ≤ s_ P 130 0) (hr : ∀ f j, ¬ (f = 61 ∧ j = d) → ¬ (62 ≤ f ∧ f ≤ 65 ∧ j = 10 * d + m) → R' f j = R f j) (h61 : R' 61 d = nI (m + 1)) (h62 : R' 62 (10 * d + m) = nI ad) (h63 : R' 63 (10 * d + m) = nI (if bk = 0 then 3 else 2)) (h64 : R' 64 (10 * d + m) = nI sz) (h65 : R' 65 (10 * d + m) = nI iv) : HRx (p_mkP P d ad bk sz iv) R' d (m + 1) := by
  intro R'' k1 k2
  have k3 : HREL P (fun f j => if (f = 61 ∧ j = d) ∨ (62 ≤ f ∧ f ≤ 67 ∧ j = 10 * d + m) then R f j else R'' f j) := by
    refine h _ (fun f j n => ?_) (fun k hk => ?_)
    · by_cases c : (f = 61 ∧ j = d) ∨ (62 ≤ f ∧ f ≤ 67 ∧ j = 10 * d + m)
      · rw [if_pos c]
      · rw [if_neg c, k1 f j (by omega), hr f j (by omega) (by omega)]
    · rw [if_neg (by omega), if_neg (by omega)]
      exact k2 k (by omega)
  refine hrel_pipe k3 hd hm h6 hpl hpt h130 (fun f j _ n1 n2 => ?_) ?_ ?_ ?_ ?_ ?_ (k2 m (by omega)).1 (k2 m (by omega)).2
  · rw [if_neg (by omega)]
  · rw [k1 _ _ (by omega)]; exact h61
  · rw [k1 _ _ (by omega)]; exact h62
  · rw [k1 _ _ (by omega)]; exact h63
  · rw [k1 _ _ (by omega)]; exact h64
  · rw [k1 _ _ (by omega)]; exact h65
end HY
