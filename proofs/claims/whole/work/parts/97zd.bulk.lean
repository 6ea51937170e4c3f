/-! A frame, both sides: transactions on pipes; bulk. -/
section IH_
variable {a : Nat} {ra : Nat → Nat} {R R' : Nat → Nat → Int32} {M : sm_M} {D : Nat} {P Pc P1 X Z : pP} {d k t i n m : Nat}
/-- a chosen transfer of a pipe is served, both sides -/
theorem st_pipe (h : RM a ra R M) (hF : FI P R (m + 1)) (ec : p_choose P = (P1, some t)) (hd : d < 6) (hk : k < s_ P 164 d) (hw : fw0 P (pid P d k) = some t) (h184 : s_ P 184 (pid P d k) ≠ 0) : sm_Run (D + 7) 185 0 (sm_ent 185 [.inr (some a), .inl (nI (10 * d + k)), .inl (nI t)]) [] M (fun v M' => v = some (.inl (nI (if s_ (p_serve P1 t) 186 (pid P d k) = s_ P 126 0 + 1 ∧ s_ P 186 (pid P d k) ≠ s_ P 126 0 + 1 ∨ hrd (sv5 (sv3 P1 t)) = 11 then 1 else 0))) ∧ ∃ R', RM a ra R' M' ∧ K60 R R' ∧ XR (p_serve P1 t) R' ∧ INV (p_serve P1 t) ∧ EXO (p_serve P1 t) ∧ p_inner P (m + 1) = p_inner (p_serve P1 t) m ∧ s_ (p_serve P1 t) 228 0 ≤ s_ P 228 0 + 4 ∧ (∀ f j, f = 126 ∨ f = 125 → s_ (p_serve P1 t) f j = s_ P f j) ∧ (∀ j, s_ (p_serve P1 t) 127 j = s_ P1 127 j ∧ s_ (p_serve P1 t) 128 j = s_ P1 128 j) ∧ (∀ i, s_ (p_serve P1 t) 186 i ≤ s_ P 126 0 + 1) ∧ (∀ e, s_ (p_serve P1 t) 164 e = s_ P 164 e) ∧ (∀ e k', pid (p_serve P1 t) e k' = pid P e k') ∧ (∀ e k', e < 6 → k' < s_ P 164 e → s_ P 181 (pid P e k') ≠ 0 → pid P e k' ≠ pid P d k → R' 68 (10 * e + k') = nI (if s_ (p_serve P1 t) 186 (pid P e k') = s_ P 126 0 + 1 then 1 else 0)) ∧ s_ (p_serve P1 t) 181 (pid P d k) = s_ P 181 (pid P d k) ∧ (∀ e k', e < 6 → k' < s_ P 164 e → s_ (p_serve P1 t) 181 (pid P e k') = s_ P 181 (pid P e k')) ∧ s_ (p_serve P1 t) 186 (pid P d k) = (if hrd (sv5 (sv3 P1 t)) = 11 then s_ P 126 0 + 1 else s_ P 186 (pid P d k)) ∧ s_ (p_serve P1 t) 186 0 = s_ P 186 0 ∧ (fw0 P 0 = none → fw0 (p_serve P1 t) 0 = none)) := by
  obtain ⟨f1, f2, f3, f4, f5, f6, f7, f8, f9, f10⟩ := hF
  obtain ⟨c1, c2, c3, c4, c5⟩ := ch_spec f2
  have e1 : (p_choose P).1 = P1 := by rw [ec]
  have e2 : (p_choose P).2 = some t := by rw [ec]
  obtain ⟨i1, x1, w1, wt, xt, hl⟩ := ch_ok f2 f1.1 f3 f9 e2
  rw [e1] at c1 c3 c4 i1 x1 w1 wt xt hl
  have o : ∀ f j, f ≠ 127 → f ≠ 187 → f ≠ 128 → s_ P1 f j = s_ P f j := c1.1
  have ep : ∀ e k', pid P1 e k' = pid P e k' := fun e k' => o 166 _ (by decide) (by decide) (by decide)
  have o4 : ∀ e, s_ P1 164 e = s_ P 164 e := fun e => o 164 e (by decide) (by decide) (by decide)
  have o228 := o 228 0 (by decide) (by decide) (by decide)
  have o126 := o 126 0 (by decide) (by decide) (by decide)
  obtain ⟨g1, g2, g3, g4⟩ := fw0_some hw
  have p213 : s_ P1 213 t = pid P1 d k := by rw [o 213 t (by decide) (by decide) (by decide), ep]; exact g2
  obtain ⟨pt, -⟩ := inv_pt i1 w1 wt hd (by rw [o4]; exact hk) p213 (by rw [ep, o 184 _ (by decide) (by decide) (by decide)]; exact h184)
  obtain ⟨hX, hH⟩ := xr_xw.mp f1
  have hX1 : XW P1 R := xw_ho hX (exo_ex x1) (ae8_fho c1) (fun _ _ _ => rfl)
  have hH1 : HREL P1 R := hrel_8 hH (fun f i hf => o f i (by omega) (by omega) (by omega)) c1.2.1
  obtain ⟨s1, s2, s3, s4, s5, s6, s7, s8, s9, s10⟩ := serve_all i1 w1 x1 xt (by omega) (by omega) wt hl (fun i => by rw [o 186 i (by decide) (by decide) (by decide), o126]; exact f10 i)
  have pr := (i1.2.2.2.2.2.2.2.2.1 d hd).2.2.2.2.2.2.1 k (by rw [o4]; exact hk)
  have n0 : s_ P1 213 t ≠ 0 := by rw [p213]; exact pr.1
  obtain ⟨-, -, yh, -⟩ := yv w1 xt (by omega) (by omega) wt.2
  have v164 := serve_164 n0 yh
  have s9' : p_serve P1 t = if s_ (Yv P1 t) 211 t = 0 then Yv P1 t else p_fin (pS (Yv P1 t) 123 0 (s_ (Yv P1 t) 123 0 - 1)) t := rfl
  have y3 := yh.1 213 t (by decide) (by omega) (by omega)
  -- what the end of a pipe's transfer leaves
  have vO : ∀ f j, f ≠ 184 → f ≠ 123 → s_ (p_serve P1 t) f j = s_ (Yv P1 t) f j := fun f j k1 k2 => by
    rw [s9']
    split
    · rfl
    · unfold p_fin
      rw [if_pos (by rw [s_n (by decide), y3]; exact n0), s_n k1, s_n k2]
  have vP : ∀ e k', pid (p_serve P1 t) e k' = pid P e k' := fun e k' => by
    unfold pid
    rw [vO 166 _ (by decide) (by decide), yh.1 166 _ (by decide) (by omega) (by omega)]
    exact ep e k'
  have p126 : s_ (p_serve P1 t) 126 0 = s_ P 126 0 := by rw [s6 126 0 (by decide)]; exact o126
  have v181 : ∀ i, s_ (p_serve P1 t) 181 i = s_ P 181 i := fun i => by rw [vO 181 i (by decide) (by decide), yh.1 181 i (by decide) (by omega) (by omega), o 181 i (by decide) (by decide) (by decide)]
  have v186 : s_ (p_serve P1 t) 186 (pid P d k) = (if hrd (sv5 (sv3 P1 t)) = 11 then s_ P 126 0 + 1 else s_ P 186 (pid P d k)) := by
    have := y_186 w1 xt (by omega) (by omega) wt.2
    rw [p213, ep, o126, o 186 _ (by decide) (by decide) (by decide)] at this
    rw [vO 186 _ (by decide) (by decide), this]
    have h9 : s_ P1 209 t ≠ 0 := by have := pt.2.2.2.2.2.2.2.2.2.2.1; omega
    by_cases c : hrd (sv5 (sv3 P1 t)) = 11
    · rw [if_pos ⟨c, h9⟩, if_pos c]
    · rw [if_neg (fun q => c q.1), if_neg c]
  refine ru_mono (r_pipe (D := D) h hX1 hH1 pt (by omega) (by omega)) ?_
  rintro v M' ⟨rfl, R', y1, yk, y2⟩
  refine ⟨?_, R', y1, yk, y2, s2, s3, ?_, by omega, fun f j hf => ?_, fun j => ⟨s6 127 j (by decide), s6 128 j (by decide)⟩, fun i => by rw [← o126]; exact s9 i, fun e => by rw [v164]; exact o4 e, vP, fun e k' he hk' h181 hne => ?_, v181 _, fun e k' _ _ => v181 _, v186, ?_, fun hn => ?_⟩
  · rw [v186]
    congr 2
    by_cases c : hrd (sv5 (sv3 P1 t)) = 11
    · rw [if_pos c, if_pos (Or.inr c)]
    · rw [if_neg c, if_neg c, if_neg]
      rintro (⟨q1, q2⟩ | q)
      · exact q2 q1
      · exact c q
  · show (match (p_choose P).2 with
      | none => (p_choose P).1
      | some t => p_inner (p_serve (p_choose P).1 t) m) = _
    rw [ec]
  · rcases hf with rfl | rfl
    · rw [s6 126 j (by decide)]; exact o 126 j (by decide) (by decide) (by decide)
    · rw [s6 125 j (by decide)]; exact o 125 j (by decide) (by decide) (by decide)
  · have := nk_serve (R' := R') f4 c1 i1 (exo_ex x1) w1 xt (by omega) (by omega) wt.2 s2 s10 (s6 126 0 (by decide)) (Or.inr n0) (fun j => yk 68 j (by decide)) (exo_ex s3) e k' he (by rw [v164, o4]; exact hk') (by rw [vP, v181]; exact h181) (by rw [vP, p213, ep]; exact hne)
    rw [vP, p126] at this
    exact this
  · rw [vO 186 0 (by decide) (by decide), yh.1 186 0 (by decide) (by omega) (by omega), o 186 0 (by decide) (by decide) (by decide)]
  · cases e : fw0 (p_serve P1 t) 0 with
    | none => rfl
    | some t' =>
      exfalso
      obtain ⟨q1, q2, q3, -⟩ := fw0_some e
      rw [vO 122 0 (by decide) (by decide), yh.1 122 0 (by decide) (by omega) (by omega), o 122 0 (by decide) (by decide) (by decide)] at q1
      rw [vO 213 t' (by decide) (by decide), yh.1 213 t' (by decide) (by omega) (by omega)] at q2
      have nt : t' ≠ t := fun q => by rw [q] at q2; exact n0 q2
      rw [vO 211 t' (by decide) (by decide), yh.1 211 t' (by decide) (by omega) (by omega), o 211 t' (by decide) (by decide) (by decide)] at q3
      rw [o 213 t' (by decide) (by decide) (by decide)] at q2
      exact fw0_none hn t' q1 ⟨q2, q3⟩
/-- places: how many there are below u -/
abbrev plc (u : Nat) : Nat := 6 * (u / 10) + min (u % 10) 6
theorem cb_skip {pl q : Nat} (h : AEc P Pc) (hc : p_pat P (nxp pl) = none ∨ ∃ j, p_pat P (nxp pl) = some j ∧ (s_ P 181 j = 0 ∨ s_ P 184 j = 0 ∨ s_ P 186 j = s_ P 126 0 + 1 ∨ fw0 P j = none)) : ∃ Pc', AEc P Pc' ∧ s_ Pc' 127 0 = s_ Pc 127 0 ∧ p_cb Pc pl (q + 1) = p_cb Pc' (nxp pl) q := by
  rcases hc with c | ⟨j, c, c2⟩
  · refine ⟨Pc, h, rfl, ?_⟩
    rw [← ae_pat h] at c
    show (match p_pat Pc (nxp pl) with
      | none => p_cb Pc (nxp pl) q
      | some i => if s_ Pc 181 i = 0 then p_cb Pc (nxp pl) q else (match (p_rdy Pc i).2 with
        | some t => (pS (p_rdy Pc i).1 128 0 (nxp pl), some t)
        | none => p_cb (p_rdy Pc i).1 (nxp pl) q)) = _
    rw [c]
  · rw [← ae_pat h] at c
    obtain ⟨r1, r2⟩ := ae_rdy (i := j) h
    have e : p_cb Pc pl (q + 1) = if s_ Pc 181 j = 0 then p_cb Pc (nxp pl) q else (match (p_rdy Pc j).2 with
        | some t => (pS (p_rdy Pc j).1 128 0 (nxp pl), some t)
        | none => p_cb (p_rdy Pc j).1 (nxp pl) q) := by
      show (match p_pat Pc (nxp pl) with
        | none => p_cb Pc (nxp pl) q
        | some i => if s_ Pc 181 i = 0 then p_cb Pc (nxp pl) q else (match (p_rdy Pc i).2 with
          | some t => (pS (p_rdy Pc i).1 128 0 (nxp pl), some t)
          | none => p_cb (p_rdy Pc i).1 (nxp pl) q)) = _
      rw [c]
    by_cases z : s_ P 181 j = 0
    · refine ⟨Pc, h, rfl, ?_⟩
      rw [e, if_pos (by rw [h.1 181 j (by decide) (by decide)]; exact z)]
    · refine ⟨(p_rdy Pc j).1, r1, rdy_s (by decide), ?_⟩
      have e2 : (p_rdy Pc j).2 = none := by
        rw [r2]
        split
        · rfl
        · rename_i n
          rcases c2 with c2 | c2 | c2 | c2
          · exact absurd c2 z
          · exact absurd (Or.inl c2) n
          · exact absurd (Or.inr c2) n
          · exact c2
      rw [e, if_neg (by rw [h.1 181 j (by decide) (by decide)]; exact z), e2]
theorem cb_hit {pl q j : Nat} (h : AEc P Pc) (c : p_pat P (nxp pl) = some j) (h1 : s_ P 181 j ≠ 0) (h4 : s_ P 184 j ≠ 0) (h6 : s_ P 186 j ≠ s_ P 126 0 + 1) (hw : fw0 P j = some t) : ∃ P1, p_cb Pc pl (q + 1) = (P1, some t) ∧ s_ P1 128 0 = nxp pl ∧ s_ P1 127 0 = s_ Pc 127 0 := by
  rw [← ae_pat h] at c
  obtain ⟨r1, r2⟩ := ae_rdy (i := j) h
  rw [if_neg (by omega), hw] at r2
  refine ⟨pS (p_rdy Pc j).1 128 0 (nxp pl), ?_, by rw [s_S, if_pos ⟨rfl, rfl⟩], by rw [s_n (by decide)]; exact rdy_s (by decide)⟩
  show (match p_pat Pc (nxp pl) with
    | none => p_cb Pc (nxp pl) q
    | some i => if s_ Pc 181 i = 0 then p_cb Pc (nxp pl) q else (match (p_rdy Pc i).2 with
      | some t => (pS (p_rdy Pc i).1 128 0 (nxp pl), some t)
      | none => p_cb (p_rdy Pc i).1 (nxp pl) q)) = _
  rw [c]
  dsimp only
  rw [if_neg (by rw [h.1 181 j (by decide) (by decide)]; exact h1), r2]
end IH_
