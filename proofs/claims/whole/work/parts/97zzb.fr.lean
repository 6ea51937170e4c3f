/-! The reference's methods make nothing; what the two sides keep of each other. -/
def sm_na (i : ClassFile.Instr) (x : sm_X) : Bool := match i with
  | .new _ => false
  | .newarray _ => false
  | .anewarray _ => false
  | .invokevirtual _ => decide (151 ≤ x.2.1 ∧ x.2.1 < 208)
  | .invokespecial _ => decide (x.1 = 1 ∨ (151 ≤ x.2.1 ∧ x.2.1 < 208))
  | .invokestatic _ => if x.1 = 2 ∨ x.1 = 3 then true else if x.1 = 4 then true else decide (151 ≤ x.2.1 ∧ x.2.1 < 208)
  | _ => true
theorem sm_nak : (List.range 208).all (fun me => decide (me < 151) || (sm_tb me).all (fun q => sm_na q.2.1 q.2.2.2)) = true := by decide +kernel
theorem sm_naok {me pc : Nat} {i : ClassFile.Instr} {len : Nat} {x : sm_X} (h1 : 151 ≤ me) (hm : me < 208) (h : sm_at me pc = some (i, len, x)) : sm_na i x = true := by
  unfold sm_at at h
  obtain ⟨q, h1', h2⟩ := Option.map_eq_some_iff.mp h
  have h3 := List.all_eq_true.mp sm_nak me (List.mem_range.mpr hm)
  rw [decide_eq_false (by omega), Bool.false_or] at h3
  have h4 := List.all_eq_true.mp h3 q (List.mem_of_find?_eq_some h1')
  rw [h2] at h4
  exact h4
set_option maxHeartbeats 2000000 in
theorem sm_na_step {d : Nat} {i : ClassFile.Instr} {x : sm_X} {pc : Nat} {ls : List (Option sm_V)} {st : List sm_V} {M : sm_M} {t : sm_T} (hg : sm_na i x = true) (h : sm_step d i x pc ls st M = some t) : sm_N t.2.2.2 = sm_N M ∧ sm_U t.2.2.2 = sm_U M := by
  cases i
  case new k => cases hg
  case newarray k => cases hg
  case anewarray k => cases hg
  case putfield k =>
    dsimp only [sm_step] at h
    split at h
    · split at h
      · cases h; exact ⟨rfl, rfl⟩
      · cases h
    · split at h
      · cases h; exact ⟨rfl, rfl⟩
      · cases h
    · cases h
  case iastore =>
    dsimp only [sm_step] at h
    split at h
    · split at h
      · cases h; exact ⟨rfl, rfl⟩
      · cases h
    · cases h
  case bastore =>
    dsimp only [sm_step] at h
    split at h
    · split at h
      · cases h; exact ⟨rfl, rfl⟩
      · cases h
    · cases h
  case aastore =>
    dsimp only [sm_step] at h
    split at h
    · split at h
      · cases h; exact ⟨rfl, rfl⟩
      · cases h
    · cases h
  case invokestatic k =>
    dsimp only [sm_step] at h
    split at h
    · cases h
    · split at h
      · split at h
        · split at h
          · cases h; exact ⟨rfl, rfl⟩
          · cases h
        · cases h
      · split at h
        · split at h
          · split at h
            · cases h; exact ⟨rfl, rfl⟩
            · cases h
          · cases h
        · split at h
          · split at h
            · split at h
              · cases h; exact ⟨rfl, rfl⟩
              · cases h
            · cases h
          · cases h
  case invokespecial k =>
    dsimp only [sm_step] at h
    split at h
    · cases h
    · split at h
      · split at h
        · cases h; exact ⟨rfl, rfl⟩
        · cases h
      · cases h
  all_goals (dsimp only [sm_step] at h; first | (cases h; done) | (cases h; exact ⟨rfl, rfl⟩) | (split at h <;> first | (cases h; done) | (cases h; exact ⟨rfl, rfl⟩) | (split at h <;> first | (cases h; done) | (cases h; exact ⟨rfl, rfl⟩) | (split at h <;> first | (cases h; done) | (cases h; exact ⟨rfl, rfl⟩)))))
theorem sm_na_y {i : ClassFile.Instr} {x : sm_X} {st : List sm_V} {M : sm_M} {y : Nat} {As r : List sm_V} (hg : sm_na i x = true) (h : sm_call i x st M = some (y, As, r)) : 151 ≤ y ∧ y < 208 := by
  unfold sm_call at h
  split at h
  · have hg : 151 ≤ x.2.1 ∧ x.2.1 < 208 := of_decide_eq_true hg
    split at h
    · split at h
      · split at h
        · cases h; exact hg
        · cases h
      · cases h
    · cases h
  · have hg : x.1 = 1 ∨ (151 ≤ x.2.1 ∧ x.2.1 < 208) := of_decide_eq_true hg
    split at h
    · rename_i hk
      split at h
      · split at h
        · cases h
          rcases hg with hg | hg
          · omega
          · exact hg
        · cases h
      · cases h
    · cases h
  · split at h
    · rename_i hk
      dsimp only [sm_na] at hg
      rw [if_neg (by omega), if_neg (by omega)] at hg
      split at h
      · cases h; exact of_decide_eq_true hg
      · cases h
    · cases h
  · cases h
theorem sm_noal : ∀ (f d me pc : Nat) (ls : List (Option sm_V)) (st : List sm_V) (M : sm_M) (v : Option sm_V) (M' : sm_M), sm_exec f d me pc ls st M = some (v, M') → 151 ≤ me → me < 208 → sm_N M' = sm_N M ∧ sm_U M' = sm_U M := by
  intro f
  induction f with
  | zero => intro d me pc ls st M v M' h; cases h
  | succ f ih =>
    intro d me pc ls st M v M' h h1 hm
    change sm_F (sm_exec f) d me pc ls st M = some (v, M') at h
    unfold sm_F at h
    split at h
    · cases h
    · rename_i i len x hat
      have hg := sm_naok h1 hm hat
      split at h
      · cases h; exact ⟨rfl, rfl⟩
      · split at h
        · rename_i y As r hcall
          obtain ⟨hy, hyg⟩ := sm_na_y hg hcall
          split at h
          · cases h
          · split at h
            · rename_i e1
              obtain ⟨w1, f1⟩ := ih _ _ _ _ _ _ _ _ e1 hy hyg
              obtain ⟨w2, f2⟩ := ih _ _ _ _ _ _ _ _ h h1 hm
              exact ⟨w2.trans w1, f2.trans f1⟩
            · cases h
        · split at h
          · rename_i e1
            obtain ⟨w1, f1⟩ := sm_na_step hg e1
            obtain ⟨w2, f2⟩ := ih _ _ _ _ _ _ _ _ h h1 hm
            exact ⟨w2.trans w1, f2.trans f1⟩
          · cases h
section JJ_
variable {a : Nat} {ra : Nat → Nat} {R : Nat → Nat → Int32} {M M' : sm_M} {g : pG} {P : pP}
theorem rK_g : ∀ k, k < 88 → rK k ≠ 0 → sm_grp (rK k) = 1 ∧ rK k ≠ 1 := by decide +kernel
theorem rm_fr (h : RM a ra R M) (hf : sm_Fr 0 M M') : RM a ra R M' := by
  obtain ⟨k1, k2, k3, k4⟩ := h
  obtain ⟨-, -, f1, -⟩ := hf
  obtain ⟨e1, e2, e3⟩ := f1 a (by rw [k1]; decide)
  obtain ⟨e4, e5⟩ := e3 (Or.inr (by rw [k1]; decide))
  have row : ∀ k, k < 88 → rK k ≠ 0 → sm_K M' (ra k) = sm_K M (ra k) ∧ sm_L M' (ra k) = sm_L M (ra k) ∧ sm_I M' (ra k) = sm_I M (ra k) := fun k hk h0 => by
    have y := (k2 k hk h0).2.1
    obtain ⟨q1, q2, q3⟩ := f1 (ra k) (by rw [y]; exact h0)
    obtain ⟨q4, -⟩ := q3 (Or.inr (by rw [y, (rK_g k hk h0).1]; decide))
    exact ⟨q1, q2, q4⟩
  refine ⟨e1.trans k1, fun k hk h0 => ?_, fun k j hk h0 => ?_, fun k hk h0 => ?_⟩
  · obtain ⟨q1, q2, q3⟩ := row k hk h0
    rw [e5, q1, q2]; exact k2 k hk h0
  · rw [(row k hk h0).2.2]; exact k3 k j hk h0
  · rw [e4]; exact k4 k hk h0
theorem kd_g : ∀ c, c < 37 → (c < 12 ∨ 20 ≤ c → sm_grp (kd c) ≠ 1) ∧ kd c ≠ 0 := by decide +kernel
/-- a run of the reference's methods leaves the class's -/
theorem rc_fr (h : RC g P M) (hf : sm_Fr 1 M M') : RC (g.1, g.2.1, sm_N M', sm_U M') P M' := by
  obtain ⟨hS, hN, f1, -⟩ := hf
  have lv : ∀ {c i}, g.2.1 c i = true → sm_K M' (g.1 c i) = sm_K M (g.1 c i) ∧ sm_L M' (g.1 c i) = sm_L M (g.1 c i) ∧ (c < 12 ∨ 20 ≤ c → sm_I M' (g.1 c i) = sm_I M (g.1 c i) ∧ sm_R M' (g.1 c i) = sm_R M (g.1 c i)) := fun {c i} hl => by
    obtain ⟨q1, q2, -⟩ := h.1.1.2.2.2.1 c i hl
    obtain ⟨g1, g2⟩ := kd_g c q2
    obtain ⟨e1, e2, e3⟩ := f1 (g.1 c i) (by rw [q1]; exact g2)
    exact ⟨e1, e2, fun hc => e3 (Or.inr (by rw [q1]; exact g1 hc))⟩
  have st : ∀ {c i}, i < stn c → g.2.1 c i = true := fun hi => rc_st h hi
  have I : ∀ {c i}, g.2.1 c i = true → (hc : c < 12 ∨ 20 ≤ c := by decide) → sm_I M' (g.1 c i) = sm_I M (g.1 c i) := fun hl hc => ((lv hl).2.2 hc).1
  have Rr : ∀ {c i}, g.2.1 c i = true → (hc : c < 12 ∨ 20 ≤ c := by decide) → sm_R M' (g.1 c i) = sm_R M (g.1 c i) := fun hl hc => ((lv hl).2.2 hc).2
  obtain ⟨⟨⟨a1, a2, a3, a4, a5, a6⟩, ⟨b1, b2, b3, b4, b5, b6, b7, b8⟩, c1, c2, c3, c4, c5, c6⟩, ia, ib, ic, ⟨d1, d2, d3, d4⟩, ⟨e1, e2, e3⟩, ⟨k1, k2, k3⟩, tb, bn⟩ := h
  have l7 : ∀ j, j < 67 → g.2.1 7 j = true ∧ g.2.1 27 j = true := fun j hj => by
    by_cases c : j = 66
    · subst c; exact b1
    · exact ⟨st (c := 7) (show j < 66 by omega), st (c := 27) (show j < 66 by omega)⟩
  refine ⟨⟨⟨rfl, rfl, a3, fun c i hl => ?_, a5, fun c i hl l0 => ?_⟩, ⟨b1, ?_, ?_, ?_, ?_, fun i hi => ?_, fun j hj => ?_, fun d hd => ?_⟩, fun j hj => ?_, fun d hd => ⟨(c2 d hd).1, (c2 d hd).2.1, fun k hk => ?_⟩, fun e he => ?_, ⟨c4.1, fun t ht => ?_⟩, fun d hd => ⟨(c5 d hd).1, fun k hk => ?_⟩, fun d hd => ⟨(c6 d hd).1, ?_⟩⟩, fun c i k hl hf h7 => ?_, fun j hj => ?_, fun j hj => ?_, ⟨d1, ?_, fun d hd => ?_, fun t ht => ?_⟩, ⟨?_, e2, ?_⟩, ⟨?_, k2, fun i hi => ?_⟩, fun k hk => ?_, bn⟩
  · obtain ⟨q1, q2, q3⟩ := a4 c i hl
    exact ⟨(lv hl).1.trans q1, q2, by show g.1 c i < sm_N M'; omega⟩
  · exact (lv hl).2.1.trans (a6 c i hl l0)
  · rw [Rr (st (c := 0) (by decide))]; exact b2
  · rw [Rr (st (c := 11) (by decide))]; exact b3
  · rw [Rr (st (c := 2) (by decide))]; exact b4
  · rw [Rr (st (c := 6) (by decide))]; exact b5
  · rw [Rr (st (c := 22) (by decide))]; exact b6 i hi
  · rw [Rr (l7 j hj).1]; exact b7 j hj
  · rw [Rr (st (c := 25) (by decide)), Rr (st (c := 4) (i := d) hd), Rr (st (c := 3) (i := d) hd), Rr (st (c := 33) (by decide)), Rr (st (c := 8) (i := d) hd)]; exact b8 d hd
  · rw [Rr hj]; exact c1 j hj
  · rw [Rr (st (c := 26) hd)]; exact (c2 d hd).2.2 k hk
  · rw [Rr he]; exact c3 e he
  · obtain ⟨q1, q2, q3, q4, q5, q6⟩ := c4.2 t ht
    rw [Rr (st (c := 34) (by decide)), Rr q1]
    exact ⟨q1, q2, q3, q4, q5, q6⟩
  · rw [Rr (st (c := 35) hd)]; exact (c5 d hd).2 k hk
  · rw [Rr (st (c := 8) hd)]; exact (c6 d hd).2
  · rw [I hl (Or.inl (fi_c hf))]; exact ia c i k hl hf h7
  · obtain ⟨q1, q2, q3⟩ := ib j hj
    refine ⟨by rw [I (l7 j (by omega)).1]; exact q1, q2, fun i hi => by rw [I (l7 j (by omega)).2]; exact q3 i hi⟩
  · have q := ic j hj
    have h21 := (c1 j hj).2
    unfold by_Q at *
    rw [(lv hj).1, Rr hj, (lv h21).1, (lv h21).2.1, I hj, I h21]
    exact q
  · intro i hi; rw [I (st (c := 20) (by decide))]; exact d2 i hi
  · obtain ⟨q1, q2, q3, q4⟩ := d3 d hd
    refine ⟨q1, fun i hi => by rw [I (st (c := 28) hd)]; exact q2 i hi, q3, fun i hi => by rw [I (st (c := 29) hd)]; exact q4 i hi⟩
  · obtain ⟨q1, q2, q3⟩ := d4 t ht
    have l36 := (c4.2 t ht).2.1
    refine ⟨by rw [(lv l36).2.1]; exact q1, q2, fun i hi => by rw [I l36]; exact q3 i hi⟩
  · rw [I (st (c := 11) (by decide))]; exact e1
  · unfold ft at *
    rw [I (st (c := 30) (by decide)), I (st (c := 31) (by decide)), I (st (c := 32) (by decide))]
    exact e3
  · rw [I (st (c := 2) (by decide))]; exact k1
  · rw [I (st (c := 24) (by decide))]; exact k3 i hi
  · obtain ⟨t, t1, ⟨t2, t3⟩, t4, t5⟩ := tb k hk
    obtain ⟨q1, q2, q3⟩ := f1 t (by rw [t2]; decide)
    obtain ⟨q4, -⟩ := q3 (Or.inl t2)
    refine ⟨t, by rw [hS]; exact t1, ⟨q1.trans t2, by omega⟩, q2.trans t4, fun j hj => by rw [q4]; exact t5 j hj⟩
theorem rc_fr0 (h : RC g P M) (hf : sm_Fr 1 M M') (hN : sm_N M' = sm_N M) (hU : sm_U M' = sm_U M) : RC g P M' := by
  have := rc_fr h hf
  rw [hN, hU, rc_N h, rc_U h] at this
  exact this
variable {Q : Option sm_V → sm_M → Prop} {d me : Nat} {ls : List (Option sm_V)}
theorem ru_fr (h : sm_Run d me 0 ls [] M Q) (hm : me < 208) (hw : sm_Wf M) : sm_Run d me 0 ls [] M (fun v M' => Q v M' ∧ sm_Wf M' ∧ sm_Fr (sm_mg me) M M') := by
  obtain ⟨v, M', ⟨f, hf⟩, q⟩ := h
  obtain ⟨w1, w2⟩ := sm_frame f d me 0 ls [] M v M' hf hm hw
  exact ⟨v, M', ⟨f, hf⟩, q, w1, w2⟩
theorem ru_na (h : sm_Run d me 0 ls [] M Q) (h1 : 151 ≤ me) (hm : me < 208) : sm_Run d me 0 ls [] M (fun v M' => Q v M' ∧ sm_N M' = sm_N M ∧ sm_U M' = sm_U M) := by
  obtain ⟨v, M', ⟨f, hf⟩, q⟩ := h
  obtain ⟨w1, w2⟩ := sm_noal f d me 0 ls [] M v M' hf h1 hm
  exact ⟨v, M', ⟨f, hf⟩, q, w1, w2⟩
end JJ_
