/-! Wire: strike, carry, hasAnswer, levels -/
section CA
variable {g : pG} {P : pP} {M M' : sm_M} {D : Nat}
def levN (k n : Nat) (l : List Nat) : List Nat := (co_lev true 0 (pk_bits k n l)).map (fun x => x.toNatClampNeg)
theorem lev_012 {k n : Nat} {l : List Nat} : ∀ x ∈ co_lev true 0 (pk_bits k n l), x = 0 ∨ x = 1 ∨ x = 2 := by
  intro x hx
  unfold co_lev at hx
  rcases List.mem_append.mp hx with h | h
  · obtain ⟨b, -, rfl⟩ := List.mem_map.mp h
    cases b
    · exact Or.inl rfl
    · exact Or.inr (Or.inl rfl)
  · simp at h
    rcases h with rfl | rfl
    · exact Or.inr (Or.inr rfl)
    · exact Or.inr (Or.inl rfl)
theorem lev_map (k n : Nat) (l : List Nat) : (levN k n l).map nI = co_lev true 0 (pk_bits k n l) := by
  unfold levN
  rw [List.map_map]
  conv => rhs; rw [← List.map_id (co_lev true 0 (pk_bits k n l))]
  apply List.map_congr_left
  intro x hx
  rcases lev_012 x hx with rfl | rfl | rfl <;> rfl
theorem lev_len (k n : Nat) (l : List Nat) : (levN k n l).length = (co_lev true 0 (pk_bits k n l)).length := by
  unfold levN; rw [List.length_map]
theorem lev_3 {k n : Nat} {l : List Nat} : ∀ x ∈ levN k n l, x < 3 := by
  intro x hx
  unfold levN at hx
  obtain ⟨y, hy, rfl⟩ := List.mem_map.mp hx
  rcases lev_012 y hy with rfl | rfl | rfl <;> decide
def p_lev (P : pP) (j : Nat) : List Nat := levN (s_ P 141 j) (s_ P 142 j) (b_ P 7 j)
/-- a packet as it may lie on the wire -/
def PKo (P : pP) (j : Nat) : Prop := s_ P 141 j < 16 ∧ s_ P 142 j < 2048 ∧ ∀ x ∈ b_ P 7 j, x < 256
theorem rc_coS (h : RC g P M) : co_S M (g.1 2 0) (g.1 23 0) (g.1 24 0) :=
  ⟨rc_Ks h (c := 2) (by decide), rd_2_0 h, rc_Ks h (c := 23) (by decide), rc_Ls h (c := 23) (by decide) (by decide), rd_2_2 h, rc_Ks h (c := 24) (by decide), rc_Ls h (c := 24) (by decide) (by decide)⟩
theorem rc_paC {j : Nat} (h : RC g P M) (hj : j < 66) (hP : PKo P j) : pa_C M (g.1 7 j) (g.1 27 j) (s_ P 141 j) (s_ P 142 j) (b_ P 7 j) :=
  ⟨rc_Ks h (c := 7) hj, rd_7_3 h hj, rc_Ks h (c := 27) hj, rc_Ls h (c := 27) hj (by decide), rI_141 h hj, rI_142 h hj, rl_7 h hj, rl_64 h hj, hP.1, hP.2.1, fun i hi => ⟨byte_getD hP.2.2 i, (h.2.2.1 j hj).2.2 i hi⟩⟩
abbrev tC : Nat → Nat → Nat → Prop := fun c i _ => (c = 2 ∨ c = 23 ∨ c = 24) ∧ i = 0
theorem rc_lv {l : List Nat} (h : RC g P M) (hC : sm_Ch (tT g tC) M M') (hl : co_L M' (g.1 2 0) (g.1 24 0) (l.map nI)) : RC g (pB P 24 0 l) M' := by
  refine rc_ch h hC (fun _ _ => rfl) (fun _ => rfl) (fun c i k q _ => ?_) (fun j' hj' => Or.inl ⟨⟨by omega, fun k => by omega⟩, by rw [b_B, if_neg (by omega)]⟩) (fun _ _ => Or.inl ⟨fun k => ⟨by omega, by omega⟩, by rw [b_B, if_neg (by omega)]⟩) (Or.inl ⟨fun k => by omega, by rw [b_B, if_neg (by omega)]⟩) (fun _ _ => Or.inl ⟨fun k => by omega, by rw [b_B, if_neg (by omega)]⟩) (fun _ _ => Or.inl ⟨fun k => by omega, by rw [b_B, if_neg (by omega)]⟩) (fun _ _ => Or.inl ⟨fun k => by omega, by rw [b_B, if_neg (by omega)]⟩) (fun k => by omega) (Or.inr (by rw [b_Bs]; exact hl))
  rintro ⟨rfl | rfl | rfl, -⟩
  · simp [fi] at q
  · exact absurd (fi_c q) (by decide)
  · exact absurd (fi_c q) (by decide)
/-- Coder.encode -/
theorem c_encode {j : Nat} (h : RC g P M) (hj : j < 66) (hP : PKo P j) : sm_Run (D + 3) 38 0 (sm_ent 38 [.inr (some (g.1 2 0)), .inr (some (g.1 7 j))]) [] M (fun v M' => v = none ∧ RC g (pB P 24 0 (p_lev P j)) M') := by
  refine ru_mono (co_encode (rc_coS h) (rc_paC h hj hP)) ?_
  rintro v M1 ⟨rfl, hL, hC⟩
  refine ⟨rfl, rc_lv h (ch_mo hC (fun b k q => ?_)) (by unfold p_lev; rw [lev_map]; exact hL)⟩
  rcases q with rfl | rfl | rfl
  · exact ⟨2, 0, ⟨Or.inl rfl, rfl⟩, rc_st h (by decide), rfl⟩
  · exact ⟨23, 0, ⟨Or.inr (Or.inl rfl), rfl⟩, rc_st h (by decide), rfl⟩
  · exact ⟨24, 0, ⟨Or.inr (Or.inr rfl), rfl⟩, rc_st h (by decide), rfl⟩
abbrev tD : Nat → Nat → Nat → Prop := fun c i k => (c = 2 ∧ i = 0 ∧ k = 1) ∨ (c = 23 ∧ i = 0) ∨ (c = 7 ∧ i = 66) ∨ (c = 27 ∧ i = 66)
theorem rc_dm (h : RC g P M) (hC : sm_Ch (tT g tD) M M') : RC g P M' := by
  refine rc_ch h hC (fun _ _ => rfl) (fun _ => rfl) (fun c i k q h7 => ?_) (fun j' hj' => Or.inl ⟨⟨by omega, fun k => by omega⟩, rfl⟩) (fun _ _ => Or.inl ⟨fun k => ⟨by omega, by omega⟩, rfl⟩) (Or.inl ⟨fun k => by omega, rfl⟩) (fun _ _ => Or.inl ⟨fun k => by omega, rfl⟩) (fun _ _ => Or.inl ⟨fun k => by omega, rfl⟩) (fun _ _ => Or.inl ⟨fun k => by omega, rfl⟩) (fun k => by omega) (Or.inl ⟨⟨by omega, fun k => by omega⟩, rfl⟩)
  rintro (⟨rfl, -⟩ | ⟨rfl, -⟩ | ⟨rfl, rfl⟩ | ⟨rfl, -⟩)
  · simp [fi] at q
  · exact absurd (fi_c q) (by decide)
  · exact absurd (h7 rfl) (by decide)
  · exact absurd (fi_c q) (by decide)
/-- Wire.strike -/
def p_strike (P : pP) (j : Nat) : pP × Option Nat :=
  match f_ P (s_ P 228 0) with
  | none => (P, some j)
  | some (w, x) =>
    if w = 0 then (pS (p_drop P (s_ P 228 0)) 145 j 1, none)
    else if (p_lev P j).length ≤ x ∨ (p_lev P j).getD x 0 = w - 1 then (pS (pB (p_drop P (s_ P 228 0)) 24 0 (p_lev P j)) 229 0 0, some j)
    else (pB (pS (pS (pS (pS (pB (p_drop P (s_ P 228 0)) 24 0 (p_lev P j)) 229 0 0) 145 j 2) 146 j x) 147 j (w - 1)) 24 0 ((p_lev P j).set x (w - 1)), none)
theorem getD_map {l : List Nat} {i : Nat} (h : i < l.length) : (l.map nI).getD i 0 = nI (l.getD i 0) := by
  rw [List.getD_eq_getElem?_getD, List.getD_eq_getElem?_getD, List.getElem?_map, List.getElem?_eq_getElem h]; rfl
theorem rc_f (h : RC g P M) : sm_I M (g.1 2 0) 3 = nI (b_ P 24 0).length ∧ (b_ P 24 0).length ≤ 660 ∧ ∀ i, i < (b_ P 24 0).length → sm_I M (g.1 24 0) i = nI ((b_ P 24 0).getD i 0) := by
  obtain ⟨a1, a2, a3⟩ := h.2.2.2.2.2.2.1
  rw [List.length_map] at a1 a2 a3
  exact ⟨a1, a2, fun i hi => by rw [a3 i hi, getD_map hi]⟩
theorem c_strike {j : Nat} (h : RC g P M) (hj : j < 66) (hP : PKo P j) : sm_Run (D + 4) 144 0 (sm_ent 144 [.inr (some (g.1 11 0)), .inr (some (g.1 7 j))]) [] M (fun v M' => v = some (.inr ((p_strike P j).2.map (fun j => g.1 7 j))) ∧ RC g (p_strike P j).1 M') := by
  have l11 := rc_st h (c := 11) (i := 0) (by decide)
  have l2 := rc_st h (c := 2) (i := 0) (by decide)
  have l24 := rc_st h (c := 24) (i := 0) (by decide)
  have l31 := rc_st h (c := 31) (i := 0) (by decide)
  have l32 := rc_st h (c := 32) (i := 0) (by decide)
  have l7 := (lq_p h hj).1
  have b8 := rc_B h 228 0
  obtain ⟨e1, e2, e3, e4, e5⟩ := rc_e h
  refine bb_144_0 ⟨rc_K h l11, ?_⟩
  rw [rI_228 h]
  refine ru_mono (c_faultOf h b8) ?_
  rintro v M1 ⟨rfl, ⟨rfl, hf⟩ | ⟨i, hi, rfl, hip⟩⟩
  · refine bb_144_8 ⟨fun q => absurd rfl q, fun _ => ?_⟩
    unfold p_strike
    rw [hf]
    exact ⟨rfl, h⟩
  obtain ⟨p', w, x, a1, a2, a3, a4, a5, a6, a7⟩ := e3 i hi
  obtain rfl : p' = s_ P 228 0 := by rw [a4, nI_eq a1 b8] at hip; exact hip
  have hci : (nI i).toNatClampNeg = i := nI_clamp (by omega)
  refine bb_144_8 ⟨fun _ => ⟨rc_K h l11, _, rd_11_5 h, rc_iA h l31 (by decide), rc_in h l31 (by decide) (show i < 50 by omega) (by decide), _, rd_11_6 h, rc_iA h l32 (by decide), rc_in h l32 (by decide) (show i < 50 by omega) (by decide), ru_mono (c_drop h hi b8 a4) ?_⟩, fun q => ?_⟩
  rotate_left
  · rw [Decidable.not_not, li_m1, nI_E (by omega) (by decide)] at q; omega
  rintro v M1 ⟨rfl, h1⟩
  rw [hci, a5]
  have ed : ∀ {f i}, f ≠ 227 → s_ (p_drop P (s_ P 228 0)) f i = s_ P f i := by
    intro f i hf; unfold p_drop; rw [s_S, if_neg (fun q => hf q.1)]; rfl
  have eb : ∀ {c i}, b_ (p_drop P (s_ P 228 0)) c i = b_ P c i := rfl
  have eP : PKo (p_drop P (s_ P 228 0)) j := by unfold PKo; rw [ed (by decide), ed (by decide), eb]; exact hP
  have eL : p_lev (p_drop P (s_ P 228 0)) j = p_lev P j := by unfold p_lev; rw [ed (by decide), ed (by decide), eb]
  unfold p_strike
  rw [a7]
  dsimp only
  refine bb_144_36 ⟨fun q => ⟨rc_K h1 l11, _, rd_11_2 h1, rc_K h1 l2, ?_⟩, fun q => ⟨_, rfl, rc_K h1 l7, ?_⟩⟩
  rotate_left
  · rw [li_0, Decidable.not_not, nI_eq (by omega) (by decide)] at q
    rw [if_pos q]
    exact ⟨rfl, rc_w' h1 l7 (show 1 < 2 ^ 31 by decide)⟩
  rw [li_0, nI_eq (by omega) (by decide)] at q
  rw [a6 q, if_neg q]
  refine ru_mono (c_encode h1 hj eP) ?_
  rintro v M2 ⟨rfl, h2⟩
  rw [eL] at h2
  have h3 : RC g (pS (pB (p_drop P (s_ P 228 0)) 24 0 (p_lev P j)) 229 0 0) (sm_putI M2 (g.1 11 0) 9 (-1)) := rc_w' h2 l11 (show 0 < 2 ^ 31 by decide)
  obtain ⟨f1, f2, f3⟩ := rc_f h3
  rw [b_S, b_Bs] at f1 f2 f3
  have hw1 : nI w - 1 = nI (w - 1) := by rw [li_1, pk_sub (by omega)]
  have hcx : (nI x).toNatClampNeg = x := nI_clamp a3
  refine bb_144_55 ⟨rc_K h2 l11, _, (rd_11_2 h2 :), rc_K h2 l2, fun q1 => ?_, fun q1 => ⟨_, (rd_11_2 h2 :), rc_K h2 l2, _, (rd_2_2 h2 :), rc_iA h2 l24 (by decide), ?_, fun q2 => ⟨_, rfl, rc_K h2 l7, _, (rd_11_2 h2 :), rc_K h2 l2, _, (rd_2_2 h2 :), rc_wA h2 l24 (by decide), ?_, _, (rd_11_2 h2 :), rc_K h2 l2, ?_⟩, fun q2 => ?_⟩⟩
  · rw [f1, nI_leI (by omega) a3] at q1
    rw [if_pos (Or.inl q1)]
    exact ⟨rfl, h3⟩
  · rw [f1, nI_leI (by omega) a3] at q1
    exact rc_in h2 l24 (by decide) (show x < 660 by omega) (by decide)
  · rw [f1, nI_leI (by omega) a3] at q1
    exact rc_in h2 l24 (by decide) (show x < 660 by omega) (by decide)
  · rw [f1, nI_leI (by omega) a3] at q1
    rw [hcx, f3 x (by omega), hw1, nI_eq (by have := lev_3 ((p_lev P j).getD x 0) (by unfold p_lev; rw [List.getD_eq_getElem?_getD, List.getElem?_eq_getElem (by unfold p_lev at q1; omega)]; exact List.getElem_mem _); omega) (by omega)] at q2
    rw [if_neg (by omega)]
    have h4 : RC g (pS (pS (pS (pS (pB (p_drop P (s_ P 228 0)) 24 0 (p_lev P j)) 229 0 0) 145 j 2) 146 j x) 147 j (w - 1)) (sm_putI (sm_putI (sm_putI (sm_putI M2 (g.1 11 0) 9 (-1)) (g.1 7 j) 5 2) (g.1 7 j) 6 (nI x)) (g.1 7 j) 7 (nI (w - 1))) :=
      rc_w' (rc_w' (rc_w' h3 l7 (show 2 < 2 ^ 31 by decide)) l7 a3) l7 (show w - 1 < 2 ^ 31 by omega)
    rw [hcx, hw1, I_put_s]
    generalize hM4 : (sm_putI (sm_putI (sm_putI (sm_putI M2 (g.1 11 0) 9 (-1)) (g.1 7 j) 5 2) (g.1 7 j) 6 (nI x)) (g.1 7 j) 7 (nI (w - 1))) = M4 at h4 ⊢
    have g4 := rc_f h4
    have e24 : b_ (pS (pS (pS (pS (pB (p_drop P (s_ P 228 0)) 24 0 (p_lev P j)) 229 0 0) 145 j 2) 146 j x) 147 j (w - 1)) 24 0 = p_lev P j := by rw [b_S, b_S, b_S, b_S, b_Bs]
    rw [e24] at g4
    have hLs : co_L (sm_putI M4 (g.1 24 0) x (nI (w - 1))) (g.1 2 0) (g.1 24 0) (((p_lev P j).set x (w - 1)).map nI) := by
      refine ⟨?_, ?_, fun i hi => ?_⟩
      · rw [I_put_a (rf_ne h.1.1 l2 l24 (by decide)), List.length_map, List.length_set]; exact g4.1
      · rw [List.length_map, List.length_set]; exact g4.2.1
      · rw [List.length_map, List.length_set] at hi
        rw [getD_map (by rw [List.length_set]; exact hi)]
        by_cases hix : i = x
        · subst hix
          rw [I_put_s]
          simp [List.getD_eq_getElem?_getD, hi]
        · rw [I_put_k hix, g4.2.2 i hi]
          simp [List.getD_eq_getElem?_getD, List.getElem?_set_ne (Ne.symm hix)]
    have h5 := rc_lv (l := (p_lev P j).set x (w - 1)) h4 (ch_tp (T := tC) (k := x) (v := nI (w - 1)) l24 ⟨Or.inr (Or.inr rfl), rfl⟩) hLs
    rw [show sm_R (sm_putI M4 (g.1 24 0) x (nI (w - 1))) (g.1 11 0) 1 = some (g.1 7 66) from rd_11_1 h5]
    have l66 : g.2.1 7 66 = true := h.1.2.1.1.1
    have l27 : g.2.1 27 66 = true := h.1.2.1.1.2
    refine ru_mono (co_decode_no (p := g.1 7 66) (pb := g.1 27 66) (rc_coS h5) (rc_K h5 l66) hLs ?_ ?_) ?_
    · intro y hy
      rw [List.mem_map] at hy
      obtain ⟨z, hz, rfl⟩ := hy
      have hz3 : z < 3 := by
        rcases List.mem_or_eq_of_mem_set hz with q3 | q3
        · exact lev_3 z q3
        · omega
      match z, hz3 with
      | 0, _ => exact Or.inl rfl
      | 1, _ => exact Or.inr (Or.inl rfl)
      | 2, _ => exact Or.inr (Or.inr rfl)
    · refine co_never (k := s_ P 141 j) (n := s_ P 142 j) (l := b_ P 7 j) (j := x) (x := nI (w - 1)) hP.1 (rl_64 h hj) ?_ ?_ ?_ ?_
      · rw [← lev_len]; unfold p_lev at q1; omega
      · match w, a2, q with
        | 1, _, _ => exact Or.inl rfl
        | 2, _, _ => exact Or.inr (Or.inl rfl)
        | 3, _, _ => exact Or.inr (Or.inr rfl)
      · rw [← lev_map]
        have hx : x < (levN (s_ P 141 j) (s_ P 142 j) (b_ P 7 j)).length := by unfold p_lev at q1; omega
        rw [getD_map hx]
        have hlt := lev_3 ((levN (s_ P 141 j) (s_ P 142 j) (b_ P 7 j)).getD x 0) (by rw [List.getD_eq_getElem?_getD, List.getElem?_eq_getElem hx]; exact List.getElem_mem _)
        rw [ne_eq, nI_eq (by omega) (by omega)]
        exact q2
      · unfold p_lev
        rw [List.map_set, lev_map]
    · rintro v M6 ⟨rfl, hC⟩
      refine bb_144_133 ⟨fun _ => ⟨rfl, ?_⟩, fun q3 => absurd rfl q3⟩
      refine rc_dm h5 (ch_mo hC (fun b k q3 => ?_))
      rcases q3 with ⟨rfl, rfl⟩ | rfl | rfl | rfl
      · exact ⟨2, 0, Or.inl ⟨rfl, rfl, rfl⟩, l2, rfl⟩
      · exact ⟨23, 0, Or.inr (Or.inl ⟨rfl, rfl⟩), rc_st h (by decide), rfl⟩
      · exact ⟨7, 66, Or.inr (Or.inr (Or.inl ⟨rfl, rfl⟩)), l66, rfl⟩
      · exact ⟨27, 66, Or.inr (Or.inr (Or.inr ⟨rfl, rfl⟩)), l27, rfl⟩
  · rw [f1, nI_leI (by omega) a3] at q1
    rw [hcx, f3 x (by omega), hw1, Decidable.not_not, nI_eq (by have := lev_3 ((p_lev P j).getD x 0) (by unfold p_lev; rw [List.getD_eq_getElem?_getD, List.getElem?_eq_getElem (by unfold p_lev at q1; omega)]; exact List.getElem_mem _); omega) (by omega)] at q2
    rw [if_pos (Or.inr q2)]
    exact ⟨rfl, h3⟩
end CA
