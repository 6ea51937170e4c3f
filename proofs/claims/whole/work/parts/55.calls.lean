/-! WireBus: send, receive, control, put, take, fault -/
section CL
variable {g : pG} {P : pP} {M M' : sm_M} {D : Nat}
/-- Device.find at any int -/
def p_findI (P : pP) (d : Nat) (x : Int32) : Option Nat := (List.range (s_ P 86 d)).find? (fun k => nI (s_ P 100 (6 * d + k)) == x)
theorem findI_lt {d k : Nat} {x : Int32} (h : p_findI P d x = some k) : k < s_ P 86 d ∧ nI (s_ P 100 (6 * d + k)) = x := by
  unfold p_findI at h
  exact ⟨List.mem_range.mp (List.mem_of_find?_eq_some h), by simpa using List.find?_some h⟩
theorem c_findI {d : Nat} {x : Int32} (h : RC g P M) (hd : d < 6) : sm_Run D 62 0 (sm_ent 62 [.inr (some (g.1 4 d)), .inl x]) [] M (fun v M' => v = some (.inr ((p_findI P d x).map (fun k => g.1 5 (6 * d + k)))) ∧ M = M') := by
  obtain ⟨l4, l3, l8, l7, l26, l28, l29, l35, l67⟩ := lq_s h hd
  have h6 := (rc_E h hd).1
  have key : ∀ (m i : Nat), i + m = s_ P 86 d → (∀ k, k < i → (nI (s_ P 100 (6 * d + k)) == x) = false) → sm_Run D 62 2 [some (.inr (some (g.1 4 d))), some (.inl x), some (.inl (nI i))] [] M (fun v M' => v = some (.inr ((p_findI P d x).map (fun k => g.1 5 (6 * d + k)))) ∧ M = M') := by
    intro m
    induction m with
    | zero =>
      intro i hi hn
      have e : p_findI P d x = none := List.find?_eq_none.mpr (fun y hy => by rw [hn y (by have := List.mem_range.mp hy; omega)]; decide)
      rw [e]
      refine bb_62_2 ⟨rc_K h l4, fun _ => ⟨rfl, rfl⟩, fun q => ?_⟩
      rw [rI_86 h hd] at q
      exact absurd (nI_le (by omega) (by omega)) q
    | succ m ih =>
      intro i hi hn
      have hi' : i < s_ P 86 d := by omega
      have l5 := lq_5 h hd hi'
      have r5 := rd_26_i h hd hi'
      have hin : sm_in_ M (g.1 26 d) (nI i) := rc_in h l26 (by decide) (show i < 6 by omega) (by decide)
      have r5' : sm_R M (g.1 26 d) (nI i).toNatClampNeg = some (g.1 5 (6 * d + i)) := by rw [nI_clamp (by omega)]; exact r5
      refine bb_62_2 ⟨rc_K h l4, fun q => ?_, fun _ => ⟨_, rd_4_5 h hd, ⟨5, rc_K h l26⟩, hin, _, r5', rc_K h l5, fun q => ?_, fun q => ⟨_, rd_4_5 h hd, ⟨5, rc_K h l26⟩, hin, ?_, rfl⟩⟩⟩
      · rw [rI_86 h hd, nI_leI (by omega) (by omega)] at q; omega
      · rw [rI_100 h l5] at q
        rw [nI_1]
        refine ih (i + 1) (by omega) (fun k hk => ?_)
        rcases Nat.lt_or_ge k i with h1 | h1
        · exact hn k h1
        · obtain rfl : k = i := by omega
          simpa using q
      · rw [Decidable.not_not, rI_100 h l5] at q
        have e : p_findI P d x = some i := by
          unfold p_findI
          rw [rf_r (i := i) (by omega) hn, show s_ P 86 d - i = (s_ P 86 d - i - 1) + 1 by omega, List.range'_succ]
          exact List.find?_cons_of_pos (by simpa using q)
        rw [e, r5']; rfl
  exact bb_62_0 (key (s_ P 86 d) 0 (by omega) (fun k hk => absurd hk (Nat.not_lt_zero _)))
/-- presentEndpoint -/
def p_pres (P : pP) (x1 x2 : Int32) : Option Nat := (devN x1).bind (fun d => if s_ P 83 d = 0 then none else (p_findI P d x2).map (fun k => 6 * d + k))
theorem pres_live {x1 x2 : Int32} {e : Nat} (h : RC g P M) (he : p_pres P x1 x2 = some e) : g.2.1 5 e = true := by
  unfold p_pres at he
  cases hd : devN x1 with
  | none => rw [hd] at he; cases he
  | some d =>
    rw [hd] at he
    have he : (if s_ P 83 d = 0 then none else (p_findI P d x2).map (fun k => 6 * d + k)) = some e := he
    split at he
    · cases he
    · cases hf : p_findI P d x2 with
      | none => rw [hf] at he; cases he
      | some k =>
        rw [hf] at he
        cases he
        exact lq_5 h (devN_some hd).2 (findI_lt hf).1
theorem c_pres {x1 x2 : Int32} (h : RC g P M) : sm_Run (D + 1) 14 0 (sm_ent 14 [.inr (some (g.1 0 0)), .inl x1, .inl x2]) [] M (fun v M' => v = some (.inr ((p_pres P x1 x2).map (fun e => g.1 5 e))) ∧ M = M') := by
  have l0 := rc_st h (c := 0) (i := 0) (by decide)
  have l11 := rc_st h (c := 11) (i := 0) (by decide)
  have l25 := rc_st h (c := 25) (i := 0) (by decide)
  refine bb_14_0 (ru_mono c_isDev ?_)
  rintro r M1 ⟨rfl, hM⟩
  subst hM
  unfold p_pres
  cases hdv : devN x1 with
  | none => exact bb_14_4 ⟨fun _ => ⟨rfl, rfl⟩, fun q => absurd rfl q⟩
  | some d =>
    obtain ⟨rfl, hd⟩ := devN_some hdv
    have l4 := (lq_s h hd).1
    have hin : sm_in_ M (g.1 25 0) (nI d) := rc_in h l25 (by decide) (show d < 6 from hd) (by decide)
    have r25 : sm_R M (g.1 25 0) (nI d).toNatClampNeg = some (g.1 4 d) := by rw [nI_clamp (by omega)]; exact rd_25_i h hd
    show sm_Run _ _ _ _ _ _ (fun v M' => v = some (.inr ((if s_ P 83 d = 0 then none else (p_findI P d x2).map (fun k => 6 * d + k)).map (fun e => g.1 5 e))) ∧ M = M')
    refine bb_14_4 ⟨fun q => absurd q (show ¬ bI true = 0 by decide), fun _ => ⟨rc_K h l0, _, rd_0_3 h, rc_K h l11, _, rd_11_3 h, ⟨4, rc_K h l25⟩, hin, _, r25, rc_K h l4, fun q => ⟨_, rd_0_3 h, rc_K h l11, _, rd_11_3 h, ⟨4, rc_K h l25⟩, hin, _, r25, rc_K h l4, ru_mono (c_findI h hd) ?_⟩, fun q => ?_⟩⟩
    · rw [rI_83 h hd, li_0, nI_eq (rc_B h _ _) (by decide)] at q
      rintro r M2 ⟨rfl, hM⟩
      subst hM
      rw [if_neg q]
      refine bb_14_37 ⟨?_, rfl⟩
      rw [Option.map_map]; rfl
    · rw [rI_83 h hd, li_0, Decidable.not_not, nI_eq (rc_B h _ _) (by decide)] at q
      rw [if_pos q]
      exact ⟨rfl, rfl⟩
/-- put -/
def p_put (P : pP) (x1 x2 x3 : Int32) : Option Int32 × pP := match p_pres P x1 x2 with
  | none => (some (-1), P)
  | some e => if x2 < 128 ∨ x3 < 0 ∨ (b_ P 1 0).length < x3.toNatClampNeg ∨ 256 - (b_ P 1 (1 + e)).length < x3.toNatClampNeg then (some (-1), P)
    else (some (nI ((b_ P 1 (1 + e)).length + x3.toNatClampNeg)), pB (pB P 1 (1 + e) (b_ P 1 (1 + e) ++ (b_ P 1 0).take x3.toNatClampNeg)) 1 0 ((b_ P 1 0).drop x3.toNatClampNeg))
theorem c_put {x1 x2 x3 : Int32} (h : RC g P M) : sm_Run (D + 3) 12 0 (sm_ent 12 [.inr (some (g.1 0 0)), .inl x1, .inl x2, .inl x3]) [] M (fun v M' => v = (p_put P x1 x2 x3).1.map Sum.inl ∧ RC g (p_put P x1 x2 x3).2 M') := by
  have l0 := rc_st h (c := 0) (i := 0) (by decide)
  have l1 : g.2.1 1 0 = true := rc_st h (by decide)
  have hlen := rg_len h l1
  have hcl := (capR_le 0).1
  refine bb_12_0 ⟨rc_K h l0, ru_mono (c_pres h) ?_⟩
  rintro r M1 ⟨rfl, hM⟩
  subst hM
  unfold p_put
  cases hp : p_pres P x1 x2 with
  | none => exact bb_12_6 ⟨fun _ => ⟨rfl, h⟩, fun b hb => by cases hb⟩
  | some e =>
    have l5 := pres_live h hp
    have lB := (rc_EB h l5).2
    have rB := rd_5_6 h l5
    have hlB := rg_len h lB
    have hcB : capR (1 + e) = 256 := by unfold capR; rw [if_neg (by omega)]
    dsimp only
    refine bb_12_6 ⟨(fun hb => by cases hb), fun b hb => ?_⟩
    obtain rfl : g.1 5 e = b := Option.some.inj hb
    refine ⟨fun q => ?_, fun q => ⟨fun q1 => ?_, fun q1 => ⟨rc_K h l0, _, rd_0_2 h, rc_K h l1, fun q2 => ?_, fun q2 => ⟨rc_K h l5, _, rB, rc_K h lB, ru_mono (c_rspace h lB) ?_⟩⟩⟩⟩
    · rw [if_pos (Or.inl q)]; exact ⟨rfl, h⟩
    · rw [if_pos (Or.inr (Or.inl q1))]; exact ⟨rfl, h⟩
    · obtain ⟨n, hn, rfl⟩ := nI_of q1
      rw [rg_cnt h l1, nI_ltI (by omega) hn] at q2
      rw [nI_clamp hn, if_pos (Or.inr (Or.inr (Or.inl q2)))]
      exact ⟨rfl, h⟩
    obtain ⟨n, hn, rfl⟩ := nI_of q1
    rw [rg_cnt h l1, nI_ltI (by omega) hn] at q2
    rw [nI_clamp hn]
    rintro r M1 ⟨rfl, hM⟩
    subst hM
    refine bb_12_44 ⟨fun q3 => ?_, fun q3 => ?_⟩
    · rw [hcB, nI_leI hn (by omega)] at q3
      rw [if_neg (by rintro (c | c | c | c); exact q c; exact q1 c; omega; omega)]
      have key : ∀ (m i : Nat) (M : sm_M), i + m = n → RC g (pB (pB P 1 (1 + e) (b_ P 1 (1 + e) ++ (b_ P 1 0).take i)) 1 0 ((b_ P 1 0).drop i)) M → sm_Run (D + 3) 12 52 [some (.inr (some (g.1 0 0))), some (.inl x1), some (.inl x2), some (.inl (nI n)), some (.inr (some (g.1 5 e))), some (.inl (nI i))] [] M (fun v M' => v = (some (nI ((b_ P 1 (1 + e)).length + n))).map Sum.inl ∧ RC g (pB (pB P 1 (1 + e) (b_ P 1 (1 + e) ++ (b_ P 1 0).take n)) 1 0 ((b_ P 1 0).drop n)) M') := by
        intro m
        induction m with
        | zero =>
          intro i M hi hh
          obtain rfl : i = n := by omega
          refine bb_12_52 ⟨fun _ => ⟨_, rfl, rc_K hh l5, _, rd_5_6 hh l5, rc_K hh lB, ?_, hh⟩, fun q4 => absurd (nI_le (Nat.le_refl _) hn) q4⟩
          rw [rg_cnt hh lB, b_B, if_neg (by omega), b_Bs, List.length_append, List.length_take, Nat.min_eq_left (by omega)]; rfl
        | succ m ih =>
          intro i M hi hh
          have e1 : b_ (pB (pB P 1 (1 + e) (b_ P 1 (1 + e) ++ (b_ P 1 0).take i)) 1 0 ((b_ P 1 0).drop i)) 1 0 = (b_ P 1 0).drop i := by rw [b_Bs]
          refine bb_12_52 ⟨fun q4 => ?_, fun _ => ⟨_, rfl, rc_K hh l5, rc_K hh l0, _, rd_0_2 hh, rc_K hh l1, ?_⟩⟩
          · rw [nI_leI hn (by omega)] at q4; omega
          rw [rd_5_6 hh l5]
          refine ru_mono (c_rpoll (D := D) hh l1) ?_
          rintro r M2 ⟨rfl, h2⟩
          rw [e1, if_pos (by rw [List.length_drop]; omega), getD_dropN, Nat.add_zero]
          rw [e1, List.drop_drop, pBB] at h2
          have e2 : b_ (pB (pB P 1 (1 + e) (b_ P 1 (1 + e) ++ (b_ P 1 0).take i)) 1 0 ((b_ P 1 0).drop (i + 1))) 1 (1 + e) = b_ P 1 (1 + e) ++ (b_ P 1 0).take i := by rw [b_B, if_neg (by omega), b_Bs]
          refine bb_12_70 ⟨_, rfl, rc_K h2 lB, ru_mono (c_radd (D := D + 1) h2 lB ?_) ?_⟩
          · rw [e2, List.length_append, List.length_take, hcB]; omega
          rintro r M3 ⟨rfl, h3⟩
          refine bb_12_73 ?_
          rw [nI_1]
          refine ih (i + 1) M3 (by omega) ?_
          rw [e2, List.append_assoc, show i + 0 = i from rfl, ← take_sN (by omega)] at h3
          have ec : pB (pB (pB P 1 (1 + e) (b_ P 1 (1 + e) ++ (b_ P 1 0).take i)) 1 0 ((b_ P 1 0).drop (i + 1))) 1 (1 + e) (b_ P 1 (1 + e) ++ (b_ P 1 0).take (i + 1)) = pB (pB P 1 (1 + e) (b_ P 1 (1 + e) ++ (b_ P 1 0).take (i + 1))) 1 0 ((b_ P 1 0).drop (i + 1)) := by
            unfold pB
            congr 2
            funext a b
            simp only [sm_u2]
            by_cases q1 : a = 1 ∧ b = 1 + e
            · rw [if_pos q1, if_neg (by omega), if_pos q1]
            · rw [if_neg q1]
              by_cases q2 : a = 1 ∧ b = 0
              · rw [if_pos q2, if_pos q2]
              · rw [if_neg q2, if_neg q2, if_neg q1, if_neg q1]
          rw [ec] at h3
          exact h3
      exact key n 0 M (by omega) (by
        have e3 : (b_ P 1 0).drop 0 = b_ (pB P 1 (1 + e) (b_ P 1 (1 + e) ++ (b_ P 1 0).take 0)) 1 0 := by rw [b_B, if_neg (by omega)]; rfl
        rw [e3, pBe, List.take_zero, List.append_nil, pBe]; exact h)
    · rw [hcB, nI_leI hn (by omega)] at q3
      rw [if_pos (Or.inr (Or.inr (Or.inr (by omega))))]
      exact ⟨rfl, h⟩
/-- take -/
def p_take (P : pP) (x1 x2 : Int32) : Option Int32 × pP := match p_pres P x1 x2 with
  | none => (some (-1), P)
  | some e => if x2 < 128 then (some (if 0 < (b_ P 1 (1 + e)).length then nI ((b_ P 1 (1 + e)).getD 0 0) else -1), pB P 1 (1 + e) ((b_ P 1 (1 + e)).drop 1)) else (some (-1), P)
theorem c_take {x1 x2 : Int32} (h : RC g P M) : sm_Run (D + 3) 13 0 (sm_ent 13 [.inr (some (g.1 0 0)), .inl x1, .inl x2]) [] M (fun v M' => v = (p_take P x1 x2).1.map Sum.inl ∧ RC g (p_take P x1 x2).2 M') := by
  have l0 := rc_st h (c := 0) (i := 0) (by decide)
  refine bb_13_0 ⟨rc_K h l0, ru_mono (c_pres h) ?_⟩
  rintro r M1 ⟨rfl, hM⟩
  subst hM
  unfold p_take
  cases hp : p_pres P x1 x2 with
  | none => exact bb_13_6 ⟨fun _ => ⟨rfl, h⟩, fun b hb => by cases hb⟩
  | some e =>
    have l5 := pres_live h hp
    have lB := (rc_EB h l5).2
    dsimp only
    refine bb_13_6 ⟨(fun hb => by cases hb), fun b hb => ?_⟩
    obtain rfl : g.1 5 e = b := Option.some.inj hb
    refine ⟨fun q => ⟨rc_K h l5, _, rd_5_6 h l5, rc_K h lB, ru_mono (c_rpoll (D := D) h lB) ?_⟩, fun q => ?_⟩
    · rw [if_pos q]
      rintro r M1 ⟨rfl, h1⟩
      exact bb_13_29 ⟨rfl, h1⟩
    · rw [if_neg q]; exact ⟨rfl, h⟩
/-- fault -/
def p_fault (P : pP) (x1 x2 x3 : Int32) : Option Int32 × pP :=
  if x2 < 0 ∨ (3 : Int32) < x2 ∨ (¬ x2 = 0 ∧ ¬ 0 ≤ x3) ∨ x1 < 0 then (some 0, P)
  else (some (nI (p_plan P x1.toNatClampNeg x2.toNatClampNeg x3.toNatClampNeg).2), (p_plan P x1.toNatClampNeg x2.toNatClampNeg x3.toNatClampNeg).1)
theorem c_fault {x1 x2 x3 : Int32} (h : RC g P M) : sm_Run (D + 2) 15 0 (sm_ent 15 [.inr (some (g.1 0 0)), .inl x1, .inl x2, .inl x3]) [] M (fun v M' => v = (p_fault P x1 x2 x3).1.map Sum.inl ∧ RC g (p_fault P x1 x2 x3).2 M') := by
  have l0 := rc_st h (c := 0) (i := 0) (by decide)
  have l11 := rc_st h (c := 11) (i := 0) (by decide)
  have b8 := rc_B h 228 0
  have run : ¬ x2 < 0 → ¬ (3 : Int32) < x2 → ¬ (¬ x2 = 0 ∧ ¬ 0 ≤ x3) → sm_Run (D + 1) 140 0 (sm_ent 140 [.inr (some (g.1 11 0)), .inl x1, .inl x2, .inl x3]) [] M (fun v M1 => sm_Run (D + 2) 15 29 [some (.inr (some (g.1 0 0))), some (.inl x1), some (.inl x2), some (.inl x3)] (v.toList ++ []) M1 (fun v M' => v = (p_fault P x1 x2 x3).1.map Sum.inl ∧ RC g (p_fault P x1 x2 x3).2 M')) := by
    intro c1 c2 c3
    obtain ⟨w, hw, rfl⟩ := nI_of c1
    have c2' := c2
    rw [li_3, nI_ltI (by decide) hw] at c2'
    by_cases hx : x1 < 0
    · have ep : p_fault P x1 (nI w) x3 = (some 0, P) := by unfold p_fault; rw [if_pos (Or.inr (Or.inr (Or.inr hx)))]
      rw [ep]
      refine bb_140_0 ⟨rc_K h l11, fun _ => bb_15_29 ⟨rfl, rfl, h⟩, fun q => ?_⟩
      rw [rI_228 h] at q
      exfalso
      apply q
      rw [Int32.lt_iff_toInt_lt] at hx ⊢
      rw [nI_toInt b8]
      have : (0 : Int32).toInt = 0 := rfl
      omega
    · obtain ⟨p, hp, rfl⟩ := nI_of hx
      have ep : p_fault P (nI p) (nI w) x3 = (some (nI (p_plan P p w x3.toNatClampNeg).2), (p_plan P p w x3.toNatClampNeg).1) := by
        unfold p_fault
        rw [if_neg (by rintro (c | c | c | c); exact c1 c; exact c2 c; exact c3 c; exact hx c), nI_clamp hp, nI_clamp hw]
      have hx3 : x3.toNatClampNeg < 2 ^ 31 := by
        by_cases q3 : x3 < 0
        · have := Int32.lt_iff_toInt_lt.mp q3
          have e0 : (0 : Int32).toInt = 0 := rfl
          rw [e0] at this
          have : x3.toNatClampNeg = 0 := by unfold Int32.toNatClampNeg; omega
          omega
        · obtain ⟨j, hj, rfl⟩ := nI_of q3
          rw [nI_clamp hj]; exact hj
      have hxx : w ≠ 0 → x3 = nI x3.toNatClampNeg := by
        intro hw0
        have : 0 ≤ x3 := by
          by_cases q3 : 0 ≤ x3
          · exact q3
          · exact absurd ⟨by rw [li_0, nI_eq hw (by decide)]; exact hw0, q3⟩ c3
        have q3 : ¬ x3 < 0 := by
          intro c
          have a1 := Int32.lt_iff_toInt_lt.mp c
          have a2 := Int32.le_iff_toInt_le.mp this
          omega
        obtain ⟨j, hj, rfl⟩ := nI_of q3
        rw [nI_clamp hj]
      rw [ep]
      refine ru_mono (c_plan (D := D) h hp (by omega) hx3 hxx) ?_
      rintro r M1 ⟨rfl, h1⟩
      refine bb_15_29 ⟨?_, rfl, h1⟩
      unfold p_plan
      split <;> rfl
  refine bb_15_0 ⟨fun q => ?_, fun q => ⟨fun q1 => ?_, fun q1 => ⟨fun q2 => ⟨rc_K h l0, _, rd_0_3 h, rc_K h l11, run q q1 (fun c => c.1 q2)⟩, fun q2 => ⟨fun q3 => ⟨rc_K h l0, _, rd_0_3 h, rc_K h l11, run q q1 (fun c => c.2 q3)⟩, fun q3 => ?_⟩⟩⟩⟩
  · unfold p_fault; rw [if_pos (Or.inl q)]; exact ⟨rfl, h⟩
  · unfold p_fault; rw [if_pos (Or.inr (Or.inl q1))]; exact ⟨rfl, h⟩
  · unfold p_fault; rw [if_pos (Or.inr (Or.inr (Or.inl ⟨q2, q3⟩)))]; exact ⟨rfl, h⟩
/-- send, receive, control -/
def lastT (P : pP) : Option Int32 := some (nI (s_ P 122 0))
theorem pf_len {n p o l th w v ix st : Nat} : (b_ (p_mk P p o l th n w v ix st) 36 (s_ P 122 0)).length = n := by
  rw [b_mk, if_pos ⟨rfl, rfl⟩, List.length_replicate]
def p_send (P : pP) (x1 x2 x3 : Int32) : Option Int32 × pP :=
  if x3 < 0 ∨ (128 : Int32) ≤ x2 ∨ (b_ P 1 0).length < x3.toNatClampNeg then (some (-1), P)
  else match (devN x1).bind (fun d => p_mfp P d x2 x3.toNatClampNeg) with
    | none => (some (-1), P)
    | some P' => (lastT P, p_load P' (s_ P 122 0))
theorem mfp_mk {P' : pP} {x1 x2 : Int32} {n : Nat} (h : (devN x1).bind (fun d => p_mfp P d x2 n) = some P') : s_ P' 122 0 = s_ P 122 0 + 1 ∧ (b_ P' 36 (s_ P 122 0)).length = n ∧ b_ P' 1 0 = b_ P 1 0 ∧ s_ P' 130 0 = s_ P 130 0 := by
  cases hd : devN x1 with
  | none => rw [hd] at h; cases h
  | some d =>
    rw [hd] at h
    have h : p_mfp P d x2 n = some P' := h
    unfold p_mfp at h
    split at h
    · cases h
    · split at h
      · cases h
      · split at h
        · cases h
        · cases h
          exact ⟨by rw [s_mk, if_neg (by omega), if_pos ⟨rfl, rfl⟩], pf_len, by rw [b_mk, if_neg (by omega)], by rw [s_mk, if_neg (by omega), if_neg (by omega), mkF_o (by omega)]⟩
theorem c_send {n0 u0 : Nat} {x1 x2 x3 : Int32} (h : RC g P M) (hg : gO n0 u0 g P) (hw : s_ P 123 0 + 1 < 2 ^ 31) : sm_Run (D + 4) 8 0 (sm_ent 8 [.inr (some (g.1 0 0)), .inl x1, .inl x2, .inl x3]) [] M (fun v M' => v = (p_send P x1 x2 x3).1.map Sum.inl ∧ ∃ g', gx g g' ∧ gO n0 u0 g' (p_send P x1 x2 x3).2 ∧ RC g' (p_send P x1 x2 x3).2 M') := by
  have l0 := rc_st h (c := 0) (i := 0) (by decide)
  have l1 : g.2.1 1 0 = true := rc_st h (by decide)
  have l6 := rc_st h (c := 6) (i := 0) (by decide)
  have hlen := rg_len h l1
  have hcl := (capR_le 0).1
  unfold p_send
  refine bb_8_0 ⟨fun q => ?_, fun q => ⟨fun q1 => ?_, fun q1 => ⟨rc_K h l0, _, rd_0_2 h, rc_K h l1, fun q2 => ⟨_, rd_0_4 h, rc_K h l6, ?_⟩, fun q2 => ?_⟩⟩⟩
  · rw [if_pos (Or.inl q)]; exact ⟨rfl, g, gx_rf, hg, h⟩
  · rw [if_pos (Or.inr (Or.inl q1))]; exact ⟨rfl, g, gx_rf, hg, h⟩
  · obtain ⟨n, hn, rfl⟩ := nI_of q
    rw [rg_cnt h l1, nI_leI hn (by omega)] at q2
    rw [if_neg (by rintro (c | c | c); exact q c; exact q1 c; rw [nI_clamp hn] at c; omega), nI_clamp hn]
    refine ru_mono (c_mfp (D := D + 1) h hg hn hw) ?_
    intro r M1 hr
    cases hm : (devN x1).bind (fun d => p_mfp P d x2 n) with
    | none =>
      rw [hm] at hr
      obtain ⟨rfl, h1⟩ := hr
      exact bb_8_34 ⟨fun _ => ⟨rfl, g, gx_rf, hg, h1⟩, fun b hb => by cases hb⟩
    | some P' =>
      rw [hm] at hr
      obtain ⟨g', e1, e2, rfl, e4⟩ := hr
      obtain ⟨m1, m2, m3, m4⟩ := mfp_mk hm
      have ht : s_ P 122 0 < s_ P' 122 0 := by omega
      obtain ⟨l10, l36, l9⟩ := lq_10 e4 ht
      have a0 := (e1 0 0 l0).2
      dsimp only
      refine bb_8_34 ⟨(fun hb => by cases hb), fun b hb => ?_⟩
      obtain rfl : g'.1 10 (s_ P 122 0) = b := Option.some.inj hb
      have r02 := rd_0_2 e4
      rw [a0] at r02
      refine ⟨by rw [← a0]; exact rc_K e4 (e1 0 0 l0).1, rc_K e4 l10, ?_⟩
      rw [r02]
      refine ru_mono (c_load (D := D) e4 ht (by rw [m2, m3]; omega)) ?_
      rintro r M2 ⟨rfl, h2⟩
      have r04 := rd_0_4 h2
      rw [a0] at r04
      refine bb_8_52 ⟨by rw [← a0]; exact rc_K h2 (e1 0 0 l0).1, _, r04, rc_K h2 (e1 6 0 l6).1, ?_, g', e1, gO_eq e2 rfl rfl, h2⟩
      rw [rI_122 h2]
      show _ = some (Sum.inl (nI (s_ P 122 0)))
      rw [show s_ (p_load P' (s_ P 122 0)) 122 0 = s_ P' 122 0 from rfl, m1, nI_pred]
  · obtain ⟨n, hn, rfl⟩ := nI_of q
    rw [rg_cnt h l1, nI_leI hn (by omega)] at q2
    rw [if_pos (Or.inr (Or.inr (by rw [nI_clamp hn]; omega)))]
    exact ⟨rfl, g, gx_rf, hg, h⟩
def p_recv (P : pP) (x1 x2 x3 : Int32) : Option Int32 × pP :=
  if x3 < 1 ∨ ¬ (128 : Int32) ≤ x2 then (some (-1), P)
  else match (devN x1).bind (fun d => p_mfp P d x2 x3.toNatClampNeg) with
    | none => (some (-1), P)
    | some P' => (lastT P, P')
theorem c_recv {n0 u0 : Nat} {x1 x2 x3 : Int32} (h : RC g P M) (hg : gO n0 u0 g P) (hw : s_ P 123 0 + 1 < 2 ^ 31) : sm_Run (D + 3) 9 0 (sm_ent 9 [.inr (some (g.1 0 0)), .inl x1, .inl x2, .inl x3]) [] M (fun v M' => v = (p_recv P x1 x2 x3).1.map Sum.inl ∧ ∃ g', gx g g' ∧ gO n0 u0 g' (p_recv P x1 x2 x3).2 ∧ RC g' (p_recv P x1 x2 x3).2 M') := by
  have l0 := rc_st h (c := 0) (i := 0) (by decide)
  have l6 := rc_st h (c := 6) (i := 0) (by decide)
  unfold p_recv
  refine bb_9_0 ⟨fun q => ?_, fun q => ⟨fun q1 => ⟨rc_K h l0, _, rd_0_4 h, rc_K h l6, ?_⟩, fun q1 => ?_⟩⟩
  · rw [if_pos (Or.inl q)]; exact ⟨rfl, g, gx_rf, hg, h⟩
  · rw [if_neg (by rintro (c | c); exact q c; exact c q1)]
    have q' : ¬ x3 < 0 := by
      intro c
      apply q
      rw [Int32.lt_iff_toInt_lt] at c ⊢
      have a0 : (0 : Int32).toInt = 0 := rfl
      have a1 : (1 : Int32).toInt = 1 := rfl
      omega
    obtain ⟨n, hn, rfl⟩ := nI_of q'
    rw [nI_clamp hn]
    refine ru_mono (c_mfp (D := D) h hg hn hw) ?_
    intro r M1 hr
    cases hm : (devN x1).bind (fun d => p_mfp P d x2 n) with
    | none =>
      rw [hm] at hr
      obtain ⟨rfl, h1⟩ := hr
      exact bb_9_24 ⟨fun _ => ⟨rfl, g, gx_rf, hg, h1⟩, fun b hb => by cases hb⟩
    | some P' =>
      rw [hm] at hr
      obtain ⟨g', e1, e2, rfl, e4⟩ := hr
      obtain ⟨m1, m2, m3, m4⟩ := mfp_mk hm
      have a0 := (e1 0 0 l0).2
      have r04 := rd_0_4 e4
      rw [a0] at r04
      dsimp only
      refine bb_9_24 ⟨(fun hb => by cases hb), fun b hb => ⟨by rw [← a0]; exact rc_K e4 (e1 0 0 l0).1, _, r04, rc_K e4 (e1 6 0 l6).1, ?_, g', e1, e2, e4⟩⟩
      rw [rI_122 e4, m1, nI_pred]
      rfl
  · rw [if_pos (Or.inr q1)]; exact ⟨rfl, g, gx_rf, hg, h⟩
def p_control (P : pP) (x1 x2 x3 x4 x5 : Int32) : Option Int32 × pP :=
  if n16 x2 < 32768 ∧ ¬ x5 ≤ nI (b_ P 1 0).length then (some (-1), P)
  else match (devN x1).bind (fun d => p_mct P d (n16 x2) (n16 x3) (n16 x4) x5) with
    | none => (some (-1), P)
    | some P' => (lastT P, if n16 x2 < 32768 then p_load P' (s_ P 122 0) else P')
theorem mct_mk {P' : pP} {x1 y : Int32} {w v ix : Nat} (h : (devN x1).bind (fun d => p_mct P d w v ix y) = some P') : s_ P' 122 0 = s_ P 122 0 + 1 ∧ (b_ P' 36 (s_ P 122 0)).length = y.toNatClampNeg ∧ b_ P' 1 0 = b_ P 1 0 ∧ s_ P' 130 0 = s_ P 130 0 ∧ ¬ y < 0 := by
  cases hd : devN x1 with
  | none => rw [hd] at h; cases h
  | some d =>
    rw [hd] at h
    have h : p_mct P d w v ix y = some P' := h
    unfold p_mct at h
    split at h
    · cases h
    · rename_i hn
      cases h
      unfold p_addC
      exact ⟨by rw [s_mk, if_neg (by omega), if_pos ⟨rfl, rfl⟩], pf_len, by rw [b_mk, if_neg (by omega)], by rw [s_mk, if_neg (by omega), if_neg (by omega), mkF_o (by omega)], fun c => hn (Or.inl c)⟩
theorem c_control {n0 u0 : Nat} {x1 x2 x3 x4 x5 : Int32} (h : RC g P M) (hg : gO n0 u0 g P) (hw : s_ P 123 0 + 1 < 2 ^ 31) : sm_Run (D + 4) 10 0 (sm_ent 10 [.inr (some (g.1 0 0)), .inl x1, .inl x2, .inl x3, .inl x4, .inl x5]) [] M (fun v M' => v = (p_control P x1 x2 x3 x4 x5).1.map Sum.inl ∧ ∃ g', gx g g' ∧ gO n0 u0 g' (p_control P x1 x2 x3 x4 x5).2 ∧ RC g' (p_control P x1 x2 x3 x4 x5).2 M') := by
  have l0 := rc_st h (c := 0) (i := 0) (by decide)
  have l1 : g.2.1 1 0 = true := rc_st h (by decide)
  have l6 := rc_st h (c := 6) (i := 0) (by decide)
  have hlen := rg_len h l1
  have hcl := (capR_le 0).1
  have a2 := n16_lt x2
  have a3 := n16_lt x3
  have a4 := n16_lt x4
  have t39 : ∀ th, th = (if n16 x2 < 32768 then (0 : Int32) else 1) → ¬ (n16 x2 < 32768 ∧ ¬ x5 ≤ nI (b_ P 1 0).length) → sm_Run (D + 4) 10 39 [some (.inr (some (g.1 0 0))), some (.inl x1), some (.inl x2), some (.inl x3), some (.inl x4), some (.inl x5), some (.inl (nI (n16 x2))), some (.inl th), none] [] M (fun v M' => v = (p_control P x1 x2 x3 x4 x5).1.map Sum.inl ∧ ∃ g', gx g g' ∧ gO n0 u0 g' (p_control P x1 x2 x3 x4 x5).2 ∧ RC g' (p_control P x1 x2 x3 x4 x5).2 M') := by
    intro th hth hc
    unfold p_control
    rw [if_neg hc]
    refine bb_10_39 ⟨rc_K h l0, _, rd_0_4 h, rc_K h l6, ?_⟩
    rw [n16_and, n16_and]
    refine ru_mono (c_mct (D := D) h hg (by omega) (by omega) (by omega) hw) ?_
    intro r M1 hr
    cases hm : (devN x1).bind (fun d => p_mct P d (n16 x2) (n16 x3) (n16 x4) x5) with
    | none =>
      rw [hm] at hr
      obtain ⟨rfl, h1⟩ := hr
      exact bb_10_60 ⟨fun _ => ⟨rfl, g, gx_rf, hg, h1⟩, fun b hb => by cases hb⟩
    | some P' =>
      rw [hm] at hr
      obtain ⟨g', e1, e2, rfl, e4⟩ := hr
      obtain ⟨m1, m2, m3, m4, m5⟩ := mct_mk hm
      have ht : s_ P 122 0 < s_ P' 122 0 := by omega
      obtain ⟨l10, l36, l9⟩ := lq_10 e4 ht
      have a0 := (e1 0 0 l0).2
      have r04 := rd_0_4 e4
      rw [a0] at r04
      dsimp only
      refine bb_10_60 ⟨(fun hb => by cases hb), fun b hb => ?_⟩
      obtain rfl : g'.1 10 (s_ P 122 0) = b := Option.some.inj hb
      refine ⟨fun q => ⟨by rw [← a0]; exact rc_K e4 (e1 0 0 l0).1, _, r04, rc_K e4 (e1 6 0 l6).1, ?_, g', e1, ?_, ?_⟩, fun q => ⟨by rw [← a0]; exact rc_K e4 (e1 0 0 l0).1, rc_K e4 l10, ?_⟩⟩
      · rw [rI_122 e4, m1, nI_pred]; rfl
      · have : ¬ n16 x2 < 32768 := by intro c; rw [if_pos c] at hth; exact q hth
        rw [if_neg this]; exact e2
      · have : ¬ n16 x2 < 32768 := by intro c; rw [if_pos c] at hth; exact q hth
        rw [if_neg this]; exact e4
      · have hlo : n16 x2 < 32768 := by
          by_cases c : n16 x2 < 32768
          · exact c
          · rw [if_neg c] at hth
            rw [hth] at q
            exact absurd (by decide) q
        rw [if_pos hlo]
        have r02 := rd_0_2 e4
        rw [a0] at r02
        rw [r02]
        obtain ⟨n, hn, rfl⟩ := nI_of m5
        rw [nI_clamp hn] at m2
        have hle : n ≤ (b_ P 1 0).length := by
          by_cases c : nI n ≤ nI (b_ P 1 0).length
          · rw [nI_leI hn (by omega)] at c; exact c
          · exact absurd ⟨hlo, c⟩ hc
        refine ru_mono (c_load (D := D) e4 ht (by rw [m2, m3]; exact hle)) ?_
        rintro r M2 ⟨rfl, h2⟩
        have r04' := rd_0_4 h2
        rw [a0] at r04'
        refine bb_10_83 ⟨by rw [← a0]; exact rc_K h2 (e1 0 0 l0).1, _, r04', rc_K h2 (e1 6 0 l6).1, ?_, g', e1, gO_eq e2 rfl rfl, h2⟩
        rw [rI_122 h2]
        show _ = some (Sum.inl (nI (s_ P 122 0)))
        rw [show s_ (p_load P' (s_ P 122 0)) 122 0 = s_ P' 122 0 from rfl, m1, nI_pred]
  refine bb_10_0 ⟨fun q => ⟨rc_K h l0, _, rd_0_2 h, rc_K h l1, fun q1 => ?_, fun q1 => ?_⟩, fun q => ?_⟩
  · rw [n16_and] at q ⊢
    rw [li_32768, nI_ltI (by omega) (by decide)] at q
    rw [rg_cnt h l1] at q1
    exact t39 0 (by rw [if_pos q]) (fun c => c.2 q1)
  · rw [n16_and] at q
    rw [li_32768, nI_ltI (by omega) (by decide)] at q
    rw [rg_cnt h l1] at q1
    unfold p_control
    rw [if_pos ⟨q, q1⟩]
    exact ⟨rfl, g, gx_rf, hg, h⟩
  · rw [n16_and] at q ⊢
    rw [li_32768, nI_ltI (by omega) (by decide)] at q
    exact t39 1 (by rw [if_neg q]) (fun c => q c.1)
end CL
