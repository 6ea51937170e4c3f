/-! Peer's pipes; Host.choose -/
section CH
variable {g : pG} {P : pP} {M M' : sm_M} {D : Nat}
abbrev pid (P : pP) (d k : Nat) : Nat := s_ P 166 (10 * d + k)
theorem rc_Pc (h : RC g P M) {d : Nat} (hd : d < 6) : s_ P 164 d ≤ 6 := (h.1.2.2.2.2.2.2.1 d hd).1
theorem rc_made (h : RC g P M) : s_ P 122 0 ≤ 336 := h.1.2.2.2.2.2.1.1
/-- Peer.find -/
def p_pfind (P : pP) (d : Nat) (x : Int32) : Option Nat := (List.range (s_ P 164 d)).find? (fun k => nI (s_ P 180 (pid P d k)) == x)
theorem pfind_lt {d k : Nat} {x : Int32} (h : p_pfind P d x = some k) : k < s_ P 164 d ∧ nI (s_ P 180 (pid P d k)) = x := by
  unfold p_pfind at h
  exact ⟨List.mem_range.mp (List.mem_of_find?_eq_some h), by simpa using List.find?_some h⟩
theorem c_pfind {d : Nat} {x : Int32} (h : RC g P M) (hd : d < 6) : sm_Run D 114 0 (sm_ent 114 [.inr (some (g.1 8 d)), .inl x]) [] M (fun v M' => v = some (.inr ((p_pfind P d x).map (fun k => g.1 9 (pid P d k)))) ∧ M = M') := by
  obtain ⟨l4, l3, l8, l7, l26, l28, l29, l35, l67⟩ := lq_s h hd
  have h6 := rc_Pc h hd
  have key : ∀ (m i : Nat), i + m = s_ P 164 d → (∀ k, k < i → (nI (s_ P 180 (pid P d k)) == x) = false) → sm_Run D 114 2 [some (.inr (some (g.1 8 d))), some (.inl x), some (.inl (nI i))] [] M (fun v M' => v = some (.inr ((p_pfind P d x).map (fun k => g.1 9 (pid P d k)))) ∧ M = M') := by
    intro m
    induction m with
    | zero =>
      intro i hi hn
      have e : p_pfind P d x = none := List.find?_eq_none.mpr (fun y hy => by rw [hn y (by have := List.mem_range.mp hy; omega)]; decide)
      rw [e]
      refine bb_114_2 ⟨rc_K h l8, fun _ => ⟨rfl, rfl⟩, fun q => ?_⟩
      rw [rI_164 h hd] at q
      exact absurd (nI_le (by omega) (by omega)) q
    | succ m ih =>
      intro i hi hn
      have hi' : i < s_ P 164 d := by omega
      have l9 := lq_9 h hd hi'
      have r9 := rd_35_i h hd hi'
      have hin : sm_in_ M (g.1 35 d) (nI i) := rc_in h l35 (by decide) (show i < 6 by omega) (by decide)
      have r9' : sm_R M (g.1 35 d) (nI i).toNatClampNeg = some (g.1 9 (pid P d i)) := by rw [nI_clamp (by omega)]; exact r9
      refine bb_114_2 ⟨rc_K h l8, fun q => ?_, fun _ => ⟨_, rd_8_3 h hd, ⟨9, rc_K h l35⟩, hin, _, r9', rc_K h l9, fun q => ?_, fun q => ⟨_, rd_8_3 h hd, ⟨9, rc_K h l35⟩, hin, ?_, rfl⟩⟩⟩
      · rw [rI_164 h hd, nI_leI (by omega) (by omega)] at q; omega
      · rw [rI_180 h l9] at q
        rw [nI_1]
        refine ih (i + 1) (by omega) (fun k hk => ?_)
        rcases Nat.lt_or_ge k i with h1 | h1
        · exact hn k h1
        · obtain rfl : k = i := by omega
          simpa using q
      · rw [Decidable.not_not, rI_180 h l9] at q
        have e : p_pfind P d x = some i := by
          unfold p_pfind
          rw [rf_r (i := i) (by omega) hn, show s_ P 164 d - i = (s_ P 164 d - i - 1) + 1 by omega, List.range'_succ]
          exact List.find?_cons_of_pos (by simpa using q)
        rw [e, r9']; rfl
  exact bb_114_0 (key (s_ P 164 d) 0 (by omega) (fun k hk => absurd hk (Nat.not_lt_zero _)))
/-- Host.pipeAt -/
def p_pat (P : pP) (pl : Nat) : Option Nat := if pl % 6 < s_ P 164 (pl / 6) then some (pid P (pl / 6) (pl % 6)) else none
theorem c_pipeAt {pl : Nat} (h : RC g P M) (hp : pl < 36) : sm_Run (D + 1) 96 0 (sm_ent 96 [.inr (some (g.1 6 0)), .inl (nI pl)]) [] M (fun v M' => v = some (.inr ((p_pat P pl).map (fun i => g.1 9 i))) ∧ M = M') := by
  have l6 := rc_st h (c := 6) (i := 0) (by decide)
  have l33 := rc_st h (c := 33) (i := 0) (by decide)
  have hd : pl / 6 < 6 := by omega
  obtain ⟨l4, l3, l8, l7, l26, l28, l29, l35, l67⟩ := lq_s h hd
  have h6 := rc_Pc h hd
  have hv : nI pl / 6 = nI (pl / 6) := pk_div (by omega) (by decide) (by decide)
  have hm : nI pl - nI pl / 6 * 6 = nI (pl % 6) := pk_rem (by omega) (by decide) (by decide)
  refine bb_96_0 ⟨rc_K h l6, _, rd_6_0 h, ⟨8, rc_K h l33⟩, ?_, g.1 8 (pl / 6), ?_, rc_K h l8, ?_⟩
  · rw [hv]; exact rc_in h l33 (by decide) (show pl / 6 < 6 from hd) (by decide)
  · rw [hv, nI_clamp (by omega)]; exact rd_33_i h hd
  rw [hm]
  have : sm_Run D 115 0 (sm_ent 115 [.inr (some (g.1 8 (pl / 6))), .inl (nI (pl % 6))]) [] M (fun v M' => v = some (.inr ((p_pat P pl).map (fun i => g.1 9 i))) ∧ M = M') := by
    refine bb_115_0 ⟨fun q => absurd q (nI_pos (by omega)), fun _ => ⟨rc_K h l8, fun q => ?_, fun q => ⟨_, rd_8_3 h hd, ⟨9, rc_K h l35⟩, rc_in h l35 (by decide) (show pl % 6 < 6 by omega) (by decide), ?_⟩⟩⟩
    · rw [rI_164 h hd, nI_leI (by omega) (by omega)] at q
      unfold p_pat
      rw [if_neg (by omega)]
      exact ⟨rfl, rfl⟩
    · rw [rI_164 h hd, nI_leI (by omega) (by omega)] at q
      unfold p_pat
      rw [if_pos (by omega), nI_clamp (by omega), rd_35_i h hd (by omega)]
      exact ⟨rfl, rfl⟩
  refine ru_mono this ?_
  rintro v M1 ⟨rfl, rfl⟩
  exact bb_96_16 ⟨rfl, rfl⟩
theorem pat_live {pl i : Nat} (h : RC g P M) (hp : pl < 36) (he : p_pat P pl = some i) : g.2.1 9 i = true := by
  unfold p_pat at he
  split at he
  · rename_i q
    cases he
    exact lq_9 h (show pl / 6 < 6 by omega) q
  · cases he
/-- Host.firstWaiting -/
abbrev fwp (P : pP) (i : Nat) : Nat → Bool := fun t => s_ P 213 t == i && s_ P 211 t == 0
def fwt (P : pP) (i : Nat) : Option Nat := (List.range' (s_ P 187 i) (s_ P 122 0 - s_ P 187 i)).find? (fwp P i)
def p_fw (P : pP) (i : Nat) : pP × Option Nat := match fwt P i with
  | some t => (pS P 187 i t, some t)
  | none => (pS P 187 i (s_ P 122 0), none)
theorem fwt_lt {i t : Nat} (h : fwt P i = some t) : t < s_ P 122 0 ∧ s_ P 187 i ≤ t ∧ s_ P 213 t = i ∧ s_ P 211 t = 0 := by
  unfold fwt at h
  have h1 := List.mem_of_find?_eq_some h
  have h2 := List.find?_some h
  rw [List.mem_range'_1] at h1
  simp [fwp] at h2
  omega
theorem c_fw {i : Nat} (h : RC g P M) (hl : g.2.1 9 i = true) : sm_Run D 100 0 (sm_ent 100 [.inr (some (g.1 6 0)), .inr (some (g.1 9 i))]) [] M (fun v M' => v = some (.inr ((p_fw P i).2.map (fun t => g.1 10 t))) ∧ RC g (p_fw P i).1 M') := by
  have l6 := rc_st h (c := 6) (i := 0) (by decide)
  have l34 := rc_st h (c := 34) (i := 0) (by decide)
  have h336 := rc_made h
  have b7 := rc_B h 187 i
  have key : ∀ (m x : Nat) (z3 : Option sm_V), x + m = max (s_ P 187 i) (s_ P 122 0) → s_ P 187 i ≤ x → (∀ t, s_ P 187 i ≤ t → t < x → fwp P i t = false) → sm_Run D 100 5 [some (.inr (some (g.1 6 0))), some (.inr (some (g.1 9 i))), some (.inl (nI x)), z3] [] M (fun v M' => v = some (.inr ((p_fw P i).2.map (fun t => g.1 10 t))) ∧ RC g (p_fw P i).1 M') := by
    intro m
    induction m with
    | zero =>
      intro x z3 hx hle hn
      have e : fwt P i = none := List.find?_eq_none.mpr (fun y hy => by
        have := List.mem_range'_1.mp hy
        rw [hn y (by omega) (by omega)]; decide)
      unfold p_fw
      rw [e]
      refine bb_100_5 ⟨rc_K h l6, fun _ => ⟨_, rfl, rc_K h hl, rfl, ?_⟩, fun q => ?_⟩
      · rw [rI_122 h]
        exact rc_w' h hl (rc_B h _ _)
      · rw [rI_122 h] at q
        exact absurd (nI_le (by omega) (by omega)) q
    | succ m ih =>
      intro x z3 hx hle hn
      by_cases hxm : s_ P 122 0 ≤ x
      · have e : fwt P i = none := List.find?_eq_none.mpr (fun y hy => by
          have := List.mem_range'_1.mp hy
          rw [hn y (by omega) (by omega)]; decide)
        unfold p_fw
        rw [e]
        refine bb_100_5 ⟨rc_K h l6, fun _ => ⟨_, rfl, rc_K h hl, rfl, ?_⟩, fun q => ?_⟩
        · rw [rI_122 h]
          exact rc_w' h hl (rc_B h _ _)
        · rw [rI_122 h] at q
          exact absurd (nI_le hxm (by omega)) q
      · have hxm : x < s_ P 122 0 := by omega
        obtain ⟨l10, l36, l9⟩ := lq_10 h hxm
        have nx : fwp P i x = false → ∀ t, s_ P 187 i ≤ t → t < x + 1 → fwp P i t = false := by
          intro q t h1 h2
          rcases Nat.lt_or_ge t x with h3 | h3
          · exact hn t h1 h3
          · obtain rfl : t = x := by omega
            exact q
        refine bb_100_5 ⟨rc_K h l6, fun q => ?_, fun _ => ⟨_, rd_6_1 h, ⟨10, rc_K h l34⟩, rc_in h l34 (by decide) (show x < 336 by omega) (by decide), g.1 10 x, by rw [nI_clamp (by omega)]; exact rd_34_i h hxm, rc_K h l10, fun q => ?_, fun q => ⟨fun q1 => ?_, fun q1 => ⟨_, rfl, rc_K h hl, ?_⟩⟩⟩⟩
        · rw [rI_122 h, nI_leI (by omega) (by omega)] at q; omega
        · rw [nI_1]
          refine ih (x + 1) _ (by omega) (by omega) (nx ?_)
          rw [rd_10_1 h hxm] at q
          unfold fwp
          rw [Bool.and_eq_false_iff]
          refine Or.inl ?_
          rw [beq_eq_false_iff_ne]
          rintro rfl
          exact q rfl
        · rw [nI_1]
          refine ih (x + 1) _ (by omega) (by omega) (nx ?_)
          rw [rI_211 h l10, li_0, nI_eq (rc_B h _ _) (by decide)] at q1
          unfold fwp
          rw [Bool.and_eq_false_iff]
          exact Or.inr (by rw [beq_eq_false_iff_ne]; exact q1)
        · rw [rd_10_1 h hxm] at q
          rw [rI_211 h l10, li_0, Decidable.not_not, nI_eq (rc_B h _ _) (by decide)] at q1
          have hid : s_ P 213 x = i := h.1.1.2.2.2.2.1 9 _ _ l9 hl (Option.some.inj q)
          have e : fwt P i = some x := by
            unfold fwt
            have es : List.range' (s_ P 187 i) (s_ P 122 0 - s_ P 187 i) = List.range' (s_ P 187 i) (x - s_ P 187 i) ++ (x :: List.range' (x + 1) (s_ P 122 0 - x - 1)) := by
              rw [← List.range'_succ, show s_ P 122 0 - s_ P 187 i = (x - s_ P 187 i) + (s_ P 122 0 - x - 1 + 1) by omega, ← List.range'_append_1, show s_ P 187 i + (x - s_ P 187 i) = x by omega]
            rw [es, List.find?_append, List.find?_eq_none.mpr (fun y hy => by
              have := List.mem_range'_1.mp hy
              rw [hn y (by omega) (by omega)]; decide)]
            show List.find? _ _ = _
            exact List.find?_cons_of_pos (by unfold fwp; rw [hid, q1]; simp)
          unfold p_fw
          rw [e]
          exact ⟨rfl, rc_w' h hl (by omega)⟩
  refine bb_100_0 ⟨_, rfl, rc_K h hl, ?_⟩
  rw [rI_187 h hl]
  exact key (max (s_ P 187 i) (s_ P 122 0) - s_ P 187 i) (s_ P 187 i) none (by omega) (Nat.le_refl _) (fun t h1 h2 => by omega)
/-- Host.ready -/
def p_rdy (P : pP) (i : Nat) : pP × Option Nat := if s_ P 184 i = 0 ∨ s_ P 186 i = s_ P 126 0 + 1 then (P, none) else p_fw P i
theorem c_rdy {i : Nat} (h : RC g P M) (hl : g.2.1 9 i = true) (hs : s_ P 126 0 + 1 < 2 ^ 31) : sm_Run (D + 1) 99 0 (sm_ent 99 [.inr (some (g.1 6 0)), .inr (some (g.1 9 i))]) [] M (fun v M' => v = some (.inr ((p_rdy P i).2.map (fun t => g.1 10 t))) ∧ RC g (p_rdy P i).1 M') := by
  have l6 := rc_st h (c := 6) (i := 0) (by decide)
  refine bb_99_0 ⟨_, rfl, rc_K h hl, fun q => ?_, fun q => ⟨rc_K h l6, fun q1 => ?_, fun q1 => ?_⟩⟩
  · rw [rI_184 h hl, li_0, nI_eq (rc_B h _ _) (by decide)] at q
    unfold p_rdy
    rw [if_pos (Or.inl q)]
    exact ⟨rfl, h⟩
  · rw [rI_186 h hl, rI_126 h, nE_I (rc_B h _ _) hs] at q1
    unfold p_rdy
    rw [if_pos (Or.inr q1)]
    exact ⟨rfl, h⟩
  · rw [rI_184 h hl, li_0, nI_eq (rc_B h _ _) (by decide)] at q
    rw [rI_186 h hl, rI_126 h, nE_I (rc_B h _ _) hs] at q1
    refine ru_mono (c_fw h hl) ?_
    rintro v M1 ⟨rfl, h1⟩
    refine bb_99_23 ?_
    unfold p_rdy
    rw [if_neg (by omega)]
    exact ⟨rfl, h1⟩
/-- Host.chooseInterrupt -/
def p_ci (P : pP) : Nat → pP × Option Nat
  | 0 => (P, none)
  | n + 1 => match p_pat P (s_ P 127 0) with
    | none => p_ci (pS P 127 0 (s_ P 127 0 + 1)) n
    | some i => if due P i (s_ P 125 0) then (match (p_fw (pS P 127 0 (s_ P 127 0 + 1)) i).2 with
        | some t => ((p_fw (pS P 127 0 (s_ P 127 0 + 1)) i).1, some t)
        | none => p_ci (p_fw (pS P 127 0 (s_ P 127 0 + 1)) i).1 n)
      else p_ci (pS P 127 0 (s_ P 127 0 + 1)) n
theorem fw_s {i f k : Nat} (hf : f ≠ 187) : s_ (p_fw P i).1 f k = s_ P f k := by
  unfold p_fw
  split <;> (rw [s_S, if_neg (fun q => hf q.1)])
theorem c_ci : ∀ (n : Nat) (P : pP) (M : sm_M) (z1 z2 : Option sm_V), s_ P 127 0 + n = 36 → RC g P M → sm_Run (D + 2) 97 0 [some (.inr (some (g.1 6 0))), z1, z2] [] M (fun v M' => v = some (.inr ((p_ci P n).2.map (fun t => g.1 10 t))) ∧ RC g (p_ci P n).1 M') := by
  intro n
  induction n with
  | zero =>
    intro P M z1 z2 hn h
    have l6 := rc_st h (c := 6) (i := 0) (by decide)
    refine bb_97_0 ⟨rc_K h l6, fun _ => ⟨rfl, h⟩, fun q => ?_⟩
    rw [rI_127 h, li_36] at q
    exact absurd (nI_le (by omega) (rc_B h _ _)) q
  | succ n ih =>
    intro P M z1 z2 hn h
    have l6 := rc_st h (c := 6) (i := 0) (by decide)
    have h1 : RC g (pS P 127 0 (s_ P 127 0 + 1)) (sm_putI M (g.1 6 0) 7 (nI (s_ P 127 0 + 1))) := rc_w' h l6 (by omega)
    have e1 : s_ (pS P 127 0 (s_ P 127 0 + 1)) 127 0 + n = 36 := by rw [s_Ss]; omega
    have e5 : s_ (pS P 127 0 (s_ P 127 0 + 1)) 125 0 = s_ P 125 0 := by simp only [s_S, Nat.reduceEqDiff, and_true, if_false]
    refine bb_97_0 ⟨rc_K h l6, fun q => ?_, fun _ => ?_⟩
    · rw [rI_127 h, li_36, nI_leI (by decide) (rc_B h _ _)] at q; omega
    rw [rI_127 h]
    refine ru_mono (c_pipeAt h (by omega)) ?_
    rintro v M1 ⟨rfl, hM⟩
    subst hM
    refine bb_97_17 ⟨rc_K h l6, ?_⟩
    rw [rI_127 h, nI_1]
    unfold p_ci
    cases hp : p_pat P (s_ P 127 0) with
    | none =>
      exact ⟨fun _ => ih _ _ _ _ e1 h1, fun b hb => by cases hb⟩
    | some i =>
      have l9 := pat_live h (by omega) hp
      refine ⟨(fun hb => by cases hb), fun b hb => ?_⟩
      obtain rfl : g.1 9 i = b := Option.some.inj hb
      refine ⟨rc_K h l9, ?_⟩
      rw [rI_125 h1, e5]
      refine ru_mono (c_isDue h1 l9 (rc_B h _ _)) ?_
      rintro v M2 ⟨rfl, hM⟩
      subst hM
      have ed : due (pS P 127 0 (s_ P 127 0 + 1)) i (s_ P 125 0) ↔ due P i (s_ P 125 0) := by
        unfold due; simp only [s_S, Nat.reduceEqDiff, false_and, if_false]
      dsimp only
      refine bb_97_40 ⟨fun q => ?_, fun q => ⟨rc_K h1 l6, ru_mono (c_fw h1 l9) ?_⟩⟩
      · rw [bI_t, ed] at q
        rw [if_neg q]
        exact ih _ _ _ _ e1 h1
      · rw [bI_t, Decidable.not_not, ed] at q
        rw [if_pos q]
        rintro v M2 ⟨rfl, h2⟩
        cases hf : (p_fw (pS P 127 0 (s_ P 127 0 + 1)) i).2 with
        | none =>
          refine bb_97_48 ⟨fun _ => ih _ _ _ _ ?_ h2, fun b hb => by cases hb⟩
          rw [fw_s (by decide)]
          exact e1
        | some t =>
          refine bb_97_48 ⟨(fun hb => by cases hb), fun b hb => ?_⟩
          obtain rfl : g.1 10 t = b := Option.some.inj hb
          exact ⟨rfl, h2⟩
/-- Host.chooseBulk -/
def nxp (pl : Nat) : Nat := if 36 ≤ pl + 1 then 0 else pl + 1
def p_cb (P : pP) (pl : Nat) : Nat → pP × Option Nat
  | 0 => (P, none)
  | n + 1 => match p_pat P (nxp pl) with
    | none => p_cb P (nxp pl) n
    | some i => if s_ P 181 i = 0 then p_cb P (nxp pl) n else (match (p_rdy P i).2 with
        | some t => (pS (p_rdy P i).1 128 0 (nxp pl), some t)
        | none => p_cb (p_rdy P i).1 (nxp pl) n)
theorem rdy_s {i f k : Nat} (hf : f ≠ 187) : s_ (p_rdy P i).1 f k = s_ P f k := by
  unfold p_rdy
  split
  · rfl
  · exact fw_s hf
theorem c_cb : ∀ (n : Nat) (P : pP) (M : sm_M) (pl x2 : Nat) (z3 z4 : Option sm_V), x2 + n = 36 → pl < 36 → s_ P 126 0 + 1 < 2 ^ 31 → RC g P M → sm_Run (D + 2) 98 7 [some (.inr (some (g.1 6 0))), some (.inl (nI pl)), some (.inl (nI x2)), z3, z4] [] M (fun v M' => v = some (.inr ((p_cb P pl n).2.map (fun t => g.1 10 t))) ∧ RC g (p_cb P pl n).1 M') := by
  intro n
  induction n with
  | zero =>
    intro P M pl x2 z3 z4 hn hp hs h
    obtain rfl : x2 = 36 := by omega
    exact bb_98_7 ⟨fun _ => ⟨rfl, h⟩, fun q => absurd (by decide) q⟩
  | succ n ih =>
    intro P M pl x2 z3 z4 hn hp hs h
    have l6 := rc_st h (c := 6) (i := 0) (by decide)
    have hnx : nxp pl < 36 := by unfold nxp; split <;> omega
    have key : sm_Run (D + 1) 96 0 (sm_ent 96 [.inr (some (g.1 6 0)), .inl (nI (nxp pl))]) [] M (fun v M1 => sm_Run (D + 2) 98 34 [some (.inr (some (g.1 6 0))), some (.inl (nI (nxp pl))), some (.inl (nI x2)), z3, z4] (v.toList ++ []) M1 (fun v M' => v = some (.inr ((p_cb P pl (n + 1)).2.map (fun t => g.1 10 t))) ∧ RC g (p_cb P pl (n + 1)).1 M')) := by
      refine ru_mono (c_pipeAt h hnx) ?_
      rintro v M1 ⟨rfl, hM⟩
      subst hM
      unfold p_cb
      cases hpt : p_pat P (nxp pl) with
      | none =>
        refine bb_98_34 ⟨fun _ => bb_98_54 ?_, fun b hb => by cases hb⟩
        rw [nI_1]
        exact ih P M (nxp pl) (x2 + 1) _ _ (by omega) hnx hs h
      | some i =>
        have l9 := pat_live h hnx hpt
        refine bb_98_34 ⟨(fun hb => by cases hb), fun b hb => ?_⟩
        obtain rfl : g.1 9 i = b := Option.some.inj hb
        dsimp only
        refine ⟨rc_K h l9, fun q => bb_98_54 ?_, fun q => ⟨rc_K h l6, ru_mono (c_rdy h l9 hs) ?_⟩⟩
        · rw [rI_181 h l9, li_0, nI_eq (rc_B h _ _) (by decide)] at q
          rw [if_pos q, nI_1]
          exact ih P M (nxp pl) (x2 + 1) _ _ (by omega) hnx hs h
        · rw [rI_181 h l9, li_0, nI_eq (rc_B h _ _) (by decide)] at q
          rw [if_neg q]
          rintro v M1 ⟨rfl, h1⟩
          cases hf : (p_rdy P i).2 with
          | none =>
            refine bb_98_51 ⟨fun _ => ?_, fun b hb => by cases hb⟩
            rw [nI_1]
            exact ih _ M1 (nxp pl) (x2 + 1) _ _ (by omega) hnx (by rw [rdy_s (by decide)]; exact hs) h1
          | some t =>
            refine bb_98_51 ⟨(fun hb => by cases hb), fun b hb => ?_⟩
            obtain rfl : g.1 10 t = b := Option.some.inj hb
            exact ⟨rc_K h1 l6, rfl, rc_w' h1 l6 (by omega)⟩
    refine bb_98_7 ⟨fun q => ?_, fun _ => ⟨fun q => ⟨rc_K h l6, ?_⟩, fun q => ⟨rc_K h l6, ?_⟩⟩⟩
    · rw [li_36, nI_leI (by decide) (by omega)] at q; omega
    · rw [nI_1, li_36, nI_leI (by decide) (by omega)] at q
      have e : nxp pl = 0 := by unfold nxp; rw [if_pos q]
      rw [e] at key
      exact key
    · rw [nI_1, li_36, nI_leI (by decide) (by omega)] at q
      have e : nxp pl = pl + 1 := by unfold nxp; rw [if_neg q]
      rw [e] at key
      rw [nI_1]
      exact key
/-- Host.choose -/
def p_ch2 (P : pP) : pP × Option Nat := match (p_rdy P 0).2 with
  | some t => ((p_rdy P 0).1, some t)
  | none => p_cb (p_rdy P 0).1 (s_ (p_rdy P 0).1 128 0) 36
def p_ch1 (P : pP) : pP × Option Nat := match (p_ci P (36 - s_ P 127 0)).2 with
  | some t => ((p_ci P (36 - s_ P 127 0)).1, some t)
  | none => p_ch2 (p_ci P (36 - s_ P 127 0)).1
def p_choose (P : pP) : pP × Option Nat := if s_ P 123 0 = 0 then (P, none) else p_ch1 P
theorem ci_s {f k : Nat} (hf : f ≠ 187 ∧ f ≠ 127) : ∀ (n : Nat) (P : pP), s_ (p_ci P n).1 f k = s_ P f k := by
  intro n
  induction n with
  | zero => intro P; rfl
  | succ n ih =>
    intro P
    unfold p_ci
    split
    · rw [ih, s_S, if_neg (fun q => hf.2 q.1)]
    · split
      · split
        · dsimp only
          rw [fw_s hf.1, s_S, if_neg (fun q => hf.2 q.1)]
        · rw [ih, fw_s hf.1, s_S, if_neg (fun q => hf.2 q.1)]
      · rw [ih, s_S, if_neg (fun q => hf.2 q.1)]
theorem c_choose (h : RC g P M) (h7 : s_ P 127 0 ≤ 36) (h8 : s_ P 128 0 < 36) (hs : s_ P 126 0 + 1 < 2 ^ 31) : sm_Run (D + 3) 95 0 (sm_ent 95 [.inr (some (g.1 6 0))]) [] M (fun v M' => v = some (.inr ((p_choose P).2.map (fun t => g.1 10 t))) ∧ RC g (p_choose P).1 M') := by
  have l6 := rc_st h (c := 6) (i := 0) (by decide)
  have l9 : g.2.1 9 0 = true := rc_st h (by decide)
  refine bb_95_0 ⟨rc_K h l6, fun q => ?_, fun q => ?_⟩
  · rw [rI_123 h, li_0, nI_eq (rc_B h _ _) (by decide)] at q
    unfold p_choose
    rw [if_neg q]
    refine ru_mono (c_ci (D := D) (36 - s_ P 127 0) P M none none (by omega) h) ?_
    rintro v M1 ⟨rfl, h1⟩
    unfold p_ch1
    have hs1 : s_ (p_ci P (36 - s_ P 127 0)).1 126 0 = s_ P 126 0 := ci_s (by decide) _ _
    have h81 : s_ (p_ci P (36 - s_ P 127 0)).1 128 0 = s_ P 128 0 := ci_s (by decide) _ _
    cases hf : (p_ci P (36 - s_ P 127 0)).2 with
    | some t =>
      refine bb_95_13 ⟨(fun hb => by cases hb), fun b hb => ?_⟩
      obtain rfl : g.1 10 t = b := Option.some.inj hb
      exact ⟨rfl, h1⟩
    | none =>
      refine bb_95_13 ⟨fun _ => ⟨rc_K h1 l6, ?_⟩, fun b hb => by cases hb⟩
      rw [rd_6_4 h1]
      refine ru_mono (c_rdy h1 l9 (by omega)) ?_
      rintro v M2 ⟨rfl, h2⟩
      dsimp only
      unfold p_ch2
      cases hg : (p_rdy (p_ci P (36 - s_ P 127 0)).1 0).2 with
      | some t =>
        refine bb_95_26 ⟨(fun hb => by cases hb), fun b hb => ?_⟩
        obtain rfl : g.1 10 t = b := Option.some.inj hb
        exact ⟨rfl, h2⟩
      | none =>
        refine bb_95_26 ⟨fun _ => ⟨rc_K h2 l6, ?_⟩, fun b hb => by cases hb⟩
        have e8 : s_ (p_rdy (p_ci P (36 - s_ P 127 0)).1 0).1 128 0 = s_ P 128 0 := by rw [rdy_s (by decide), h81]
        have e6 : s_ (p_rdy (p_ci P (36 - s_ P 127 0)).1 0).1 126 0 = s_ P 126 0 := by rw [rdy_s (by decide), hs1]
        have : sm_Run (D + 2) 98 0 (sm_ent 98 [.inr (some (g.1 6 0))]) [] M2 (fun v M' => v = some (.inr ((p_cb (p_rdy (p_ci P (36 - s_ P 127 0)).1 0).1 (s_ (p_rdy (p_ci P (36 - s_ P 127 0)).1 0).1 128 0) 36).2.map (fun t => g.1 10 t))) ∧ RC g (p_cb (p_rdy (p_ci P (36 - s_ P 127 0)).1 0).1 (s_ (p_rdy (p_ci P (36 - s_ P 127 0)).1 0).1 128 0) 36).1 M') := by
          refine bb_98_0 ⟨rc_K h2 l6, ?_⟩
          rw [rI_128 h2]
          exact c_cb 36 _ M2 _ 0 none none rfl (by omega) (by omega) h2
        refine ru_mono this ?_
        rintro v M3 ⟨rfl, h3⟩
        exact bb_95_35 ⟨rfl, h3⟩
  · rw [rI_123 h, li_0, Decidable.not_not, nI_eq (rc_B h _ _) (by decide)] at q
    unfold p_choose
    rw [if_pos q]
    exact ⟨rfl, h⟩
end CH
