/-! An OUT endpoint has nothing in flight. -/
section IU_
variable {P P' P'' Q : pP} {d t i n k : Nat}
theorem k5_ans {k f i : Nat} (hf : f = 105) : s_ (p_ans P d k) f i = s_ P f i := by
  unfold p_ans
  rw [s_n (by omega), s_B, s_n (by omega)]
theorem k5_ansD {k e f i : Nat} (hf : f = 105) : s_ (p_ansD P d k e) f i = s_ P f i := by
  unfold p_ansD
  rw [s_n (by omega), s_n (by omega), k5_ans hf]
theorem k5_h0 {f i : Nat} (hf : f = 105) : s_ (p_h0 P d) f i = s_ P f i := by
  unfold p_h0
  rw [s_n (by omega), s_n (by omega)]
theorem k5_hOut {j f i : Nat} (hf : f = 105) : s_ (p_hOut P d j) f i = s_ P f i := by
  have z : s_ (p_zOut P d j) f i = s_ P f i := by
    unfold p_zOut
    split
    · rw [k5_ans hf]
    · split
      · split
        · rw [k5_ans hf, s_n (by omega)]
        · rw [k5_ans hf, s_n (by omega)]
      · split
        · unfold p_zTake p_zTk1
          split
          · rw [k5_ans hf]
          · split
            · rw [k5_ans hf, s_n (by omega)]
            · split
              · unfold p_keep
                rw [s_n (by omega), s_B, k5_ans hf, s_n (by omega), s_n (by omega), s_B]
              · rw [k5_ans hf, s_n (by omega), s_n (by omega), s_B]
        · split
          · split
            · rw [k5_ans hf]
            · rw [k5_ans hf, s_n (by omega)]
          · rw [k5_ans hf]
  have y : ∀ e, s_ (p_eOut P d e j) f i = s_ P f i := by
    intro e
    unfold p_eOut
    split
    · rw [k5_ans hf]
    · split
      · rw [k5_ans hf]
      · split
        · rw [k5_ans hf]
        · rw [k5_ans hf, s_n (by omega), s_B]
  unfold p_hOut
  split
  · exact z
  · split
    · rfl
    · split
      · exact y _
      · rfl
theorem k5_zIn {f i : Nat} (hf : f = 105) : s_ (p_zIn P d) f i = s_ P f i := by
  have z1 : s_ (p_zIn1 P d) f i = s_ P f i := by
    unfold p_zIn1
    split
    · rw [s_n (by omega)]
    · rfl
  unfold p_zIn p_zIn2
  split
  · rw [k5_ans hf, z1]
  · split
    · rw [s_B, k5_ansD hf, s_n (by omega), z1]
    · split
      · rw [k5_ansD hf, z1]
      · rw [k5_ans hf, z1]
def Zi (P P' : pP) (i : Nat) : Prop := s_ P' 105 i = s_ P 105 i ∨ s_ P' 105 i = 0 ∨ 128 ≤ s_ P 100 i
theorem zi_e (h : s_ P' 105 i = s_ P 105 i) : Zi P P' i := Or.inl h
theorem zi_tr (h : Zi P P' i) (k : Zi P' P'' i) (e : s_ P' 100 i = s_ P 100 i) : Zi P P'' i := by
  unfold Zi at *
  rw [e] at k
  rcases k with k | k | k
  · rw [k]; exact h
  · exact Or.inr (Or.inl k)
  · exact Or.inr (Or.inr k)
theorem zi_eRs {e : Nat} : Zi P (p_eRs P e) i := by
  unfold Zi
  rw [s_eRs]
  split
  · exact Or.inr (Or.inl rfl)
  · exact Or.inl rfl
theorem zi_rsAll : ∀ n, Zi P (p_rsAll P d n) i
  | 0 => zi_e rfl
  | n + 1 => zi_tr (zi_rsAll n) zi_eRs (st_rsAll (by omega) n)
theorem zi_obey {w v ix : Nat} : Zi P (p_obey P d w v ix).1 i := by
  unfold p_obey
  split
  · split
    · exact zi_e rfl
    · dsimp only
      exact zi_tr (zi_e (s_n (by decide))) (zi_rsAll _) (s_n (by decide))
  · split
    · exact zi_e rfl
    · split
      · exact zi_e rfl
      · split
        · exact zi_eRs
        · split
          · exact zi_e (s_n (by decide))
          · exact zi_e rfl
theorem zi_zBeg {l : List Nat} : Zi P (p_zBeg P d l) i := by
  have z1 : s_ (p_zB1 P d l) 105 i = s_ P 105 i := by
    unfold p_zB1
    rw [s_n (by omega), s_n (by omega), s_n (by omega), s_n (by omega), s_n (by omega), s_n (by omega)]
  have y1 : s_ (p_zB1 P d l) 100 i = s_ P 100 i := by
    unfold p_zB1
    rw [s_n (by omega), s_n (by omega), s_n (by omega), s_n (by omega), s_n (by omega), s_n (by omega)]
  unfold p_zBeg
  split
  · have : Zi P (p_bfh (pB (p_zB1 P d l) 29 d []) d (lwh l) (l16 l 4)).1 i := by
      unfold p_bfh
      split
      · dsimp only; exact zi_e (by rw [s_B, z1])
      · split
        · dsimp only; exact zi_e (by rw [s_B, z1])
        · split
          · split
            · dsimp only; exact zi_e (by rw [s_B, z1])
            · dsimp only; exact zi_e (by rw [s_n (by omega), s_B, z1])
          · dsimp only; exact zi_tr (zi_e (by rw [s_B, z1])) zi_obey (by rw [s_B, y1])
    unfold Zi at *
    rw [s_n (by omega)]
    exact this
  · split
    · exact zi_e (by rw [s_n (by omega), s_n (by omega), z1])
    · exact zi_e (by rw [s_n (by omega), s_n (by omega), s_B, z1])
theorem zi_hAck : Zi P (p_hAck P d) i := by
  unfold p_hAck p_zAck p_eAck
  split
  · split
    · exact zi_e (by rw [s_n (by omega), s_n (by omega), s_n (by omega)])
    · split
      · split
        · exact zi_e (by rw [s_n (by omega)])
        · exact zi_e (by rw [s_n (by omega), s_n (by omega), s_n (by omega)])
      · exact zi_e rfl
  · split
    · exact zi_e rfl
    · unfold Zi
      rw [s_n (by omega), s_S, s_B]
      split
      · exact Or.inr (Or.inl rfl)
      · exact Or.inl rfl
theorem zi_hIn {e : Nat} (h6 : s_ P 86 d ≤ 6) : Zi P (p_hIn P d e) i := by
  unfold p_hIn
  split
  · exact zi_e (k5_zIn rfl)
  · split
    · exact zi_e rfl
    · rename_i kk ek
      split
      · have hk := find_self ek
        by_cases c : i = 6 * d + kk
        · right; right
          rw [c]; omega
        · left
          have y1 : s_ (p_eIn1 P (6 * d + kk)) 105 i = s_ P 105 i := by
            unfold p_eIn1
            split
            · rw [s_S, if_neg (by omega)]
            · rfl
          unfold p_eIn
          split
          · rw [k5_ans rfl]
          · split
            · rw [k5_ans rfl, y1]
            · rw [s_B, k5_ansD rfl, y1]
      · exact zi_e rfl
theorem zi_hear {o : Option Nat} (h6 : s_ P 86 d ≤ 6) : Zi P (p_hear P d o) i := by
  have h0 : Zi P (p_h0 P d) i := zi_e (k5_h0 rfl)
  have e0 : s_ (p_h0 P d) 100 i = s_ P 100 i := st_h0 (by omega)
  have h6' : s_ (p_h0 P d) 86 d ≤ 6 := by rw [st_h0 (by omega)]; exact h6
  unfold p_hear
  split
  · exact h0
  · split
    · split
      · exact zi_tr h0 (zi_hIn h6') e0
      · exact zi_e (by rw [s_n (by omega), s_n (by omega), k5_h0 rfl])
    · split
      · exact zi_tr h0 (zi_tr zi_zBeg (zi_e (k5_ans rfl)) (st_zBeg (by omega))) e0
      · split
        · exact zi_tr h0 (zi_e (k5_hOut rfl)) e0
        · split
          · exact zi_tr h0 zi_hAck e0
          · exact h0
def J5 (P P' : pP) : Prop := STs P P' ∧ ∀ d k, d < 6 → k < 6 → Zi P P' (6 * d + k)
theorem j5_tr (h : J5 P P') (k : J5 P' P'') : J5 P P'' := ⟨sts_tr h.1 k.1, fun d n hd hn => zi_tr (h.2 d n hd hn) (k.2 d n hd hn) ((h.1 d hd).2 100 n (by decide) (by decide) hn)⟩
theorem j5_e (h : ∀ f i, f = 80 ∨ f = 81 ∨ f = 82 ∨ f = 86 ∨ f = 100 ∨ f = 101 ∨ f = 102 ∨ f = 105 → s_ P' f i = s_ P f i) : J5 P P' := ⟨fun d hd => ⟨fun f hf => h f d (by omega), fun f k h1 h2 h3 => h f _ (by omega)⟩, fun d k hd hk => zi_e (h 105 _ (by omega))⟩
theorem j5_rf : J5 P P := j5_e (fun _ _ _ => rfl)
theorem j5_ho (h : FHo P P') : J5 P P' := j5_e (fun f i hf => h.1 f i (by omega))
theorem j5_carry (h6 : ∀ d, d < 6 → s_ P 86 d ≤ 6) : J5 P (p_carry P).1 := by
  refine ⟨sts_carry h6, fun d k hd hk => ?_⟩
  obtain ⟨Q, q1, -, -, q4⟩ := carry_at h6 hd
  have a1 : s_ Q 105 (6 * d + k) = s_ P 105 (6 * d + k) := so_e q1 (by decide) hk
  have a0 : s_ Q 100 (6 * d + k) = s_ P 100 (6 * d + k) := so_e q1 (by decide) hk
  have b1 := so_e (f := 105) q4 (by decide) hk
  unfold Zi
  rw [b1, ← a1, ← a0]
  split
  · exact Or.inl rfl
  · exact zi_hear (by rw [so_s q1 (by decide)]; exact h6 d hd)
theorem j5_Yv (hW : WX P) (hT : XT P t) (hS : s_ P 228 0 + 4 < 2 ^ 31) (h126 : s_ P 126 0 + 1 < 2 ^ 31) (h1 : s_ P 211 t = 0) : J5 P (Yv P t) := by
  obtain ⟨-, w2, -, w3, -, w5, -⟩ := exch hW hT hS
  obtain ⟨w7, s7, -, f7, -⟩ := yv7 hW hT hS h126 h1
  have h6 : ∀ {X : pP}, WX X → ∀ d, d < 6 → s_ X 86 d ≤ 6 := fun w d hd => ex_86 w.1.1 hd
  have cr : ∀ {X Y : pP}, WX X → (∀ f i, f < 120 → f ≠ 91 → s_ Y f i = s_ X f i) → J5 X (p_carry Y).1 := fun w e => j5_tr (j5_e (fun f i hf => e f i (by omega) (by omega))) (j5_carry (fun d hd => by rw [e 86 d (by decide) (by decide)]; exact h6 w d hd))
  have l2 : J5 P (sv2 P t) := by
    unfold sv2
    rw [sv1_pr]
    exact cr hW (fun f i hf _ => prT_s (by omega))
  have l3 : J5 (sv2 P t) (sv3 P t) := by
    unfold sv3
    split
    · exact j5_rf
    · refine cr w2 (fun f i hf _ => ?_)
      unfold svB p_rst
      rw [s_B, s_n (by omega), s_B, s_n (by omega), s_n (by omega), s_n (by omega)]
  have l5 : J5 (sv3 P t) (sv5 (sv3 P t)).1 := by
    cases e : ansD (sv3 P t) with
    | none => unfold sv5 p_hasAns; rw [e]; exact j5_rf
    | some d =>
      rw [sv5_some e]
      refine cr w3 (fun f i hf n => ?_)
      unfold p_bring p_rst
      rw [s_n n, s_B, s_n (by omega), s_B, s_n (by omega), s_n (by omega), s_n (by omega)]
  refine j5_tr l2 (j5_tr l3 (j5_tr l5 (j5_tr (j5_ho f7) ?_)))
  unfold Yv sv8
  split
  · refine cr w7 (fun f i hf _ => ?_)
    unfold p_rst
    rw [s_n (by omega), s_B, s_n (by omega), s_n (by omega), s_n (by omega)]
  · exact j5_rf
theorem j5_inner : ∀ (n : Nat) (P : pP), INV P → WX P → EXO P → s_ P 228 0 + 4 * n + 4 < 2 ^ 31 → s_ P 126 0 + 1 < 2 ^ 31 → (∀ i, s_ P 186 i ≤ s_ P 126 0 + 1) → J5 P (p_inner P n)
  | 0, P, _, _, _, _, _, _ => j5_rf
  | n + 1, P, hI, hW, hE, hS, h126, h186 => by
    obtain ⟨c1, -⟩ := ch_spec hI
    have o : ∀ f j, f ≠ 127 → f ≠ 187 → f ≠ 128 → s_ (p_choose P).1 f j = s_ P f j := c1.1
    have h1 : J5 P (p_choose P).1 := j5_ho (ae8_fho c1)
    have e0 : p_inner P (n + 1) = match (p_choose P).2 with
      | none => (p_choose P).1
      | some t => p_inner (p_serve (p_choose P).1 t) n := rfl
    rw [e0]
    cases e : (p_choose P).2 with
    | none => exact h1
    | some t =>
      dsimp only
      obtain ⟨i1, x1, w1, wt, xt, hl⟩ := ch_ok hI hW hE h126 e
      have o228 := o 228 0 (by decide) (by decide) (by decide)
      have o126 := o 126 0 (by decide) (by decide) (by decide)
      obtain ⟨s1, s2, s3, s4, s5, s6, s7, s8, s9, s10⟩ := serve_all i1 w1 x1 xt (by omega) (by omega) wt hl (fun i => by rw [o 186 i (by decide) (by decide) (by decide), o126]; exact h186 i)
      have p126 := s6 126 0 (by decide)
      exact j5_tr h1 (j5_tr (j5_Yv w1 xt (by omega) (by omega) wt.2) (j5_tr (j5_ho s5) (j5_inner n _ s2 s4 s3 (by omega) (by omega) (fun i => by rw [p126]; exact s9 i))))
theorem j5_frame (hI : INV P) (hW : WX P) (hE : EXO P) (hS : s_ P 228 0 + 165 < 2 ^ 31) (h126 : s_ P 126 0 + 1 < 2 ^ 31) (h186 : ∀ i, s_ P 186 i ≤ s_ P 126 0) : J5 P (p_frame P) := by
  obtain ⟨b1, b2, b3, b4, b5⟩ := bfr_ok hI hW hE (by omega)
  have h6 : ∀ d, d < 6 → s_ P 86 d ≤ 6 := fun d hd => ex_86 hW.1.1 hd
  have b : ∀ f j, hoF f → f ≠ 127 → s_ (p_bfr P) f j = s_ P f j := fun f j h1 h2 => bfr_fh h6 (by unfold hostF; omega) h2
  have g2 := hI.1.2.1
  have e126 := b 126 0 (by decide) (by decide)
  have k1 : J5 P (p_carry (bf1 P)).1 := by
    rw [bf1_prT]
    exact j5_tr (j5_e (fun f i hf => prT_s (by omega))) (j5_carry (fun d hd => by rw [prT_s (by omega)]; exact h6 d hd))
  have k2 : J5 (p_carry (bf1 P)).1 (p_bfr P) := j5_ho (fho_S fho_rf (by decide))
  have k3 := j5_inner (s_ P 0 0) (p_bfr P) b2 b3 b4 (by omega) (by omega) (fun i => by rw [b 186 i (by decide) (by decide), e126]; have := h186 i; omega)
  exact j5_tr k1 (j5_tr k2 (j5_tr k3 (j5_ho (fho_S (fho_S fho_rf (by decide)) (by decide)))))
def I5 (P : pP) : Prop := ∀ d k, d < 6 → k < 6 → s_ P 100 (6 * d + k) < 128 → s_ P 105 (6 * d + k) = 0
theorem i5_j5 (h : I5 P) (k : J5 P P') : I5 P' := fun d n hd hn q => by
  rw [(k.1 d hd).2 100 n (by decide) (by decide) hn] at q
  rcases k.2 d n hd hn with c | c | c
  · rw [c]; exact h d n hd hn q
  · exact c
  · omega
end IU_
