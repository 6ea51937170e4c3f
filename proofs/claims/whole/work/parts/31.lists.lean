/-! Lists of the state are written -/
section LI
variable {g : pG} {P P' : pP} {M M' : sm_M}
theorem b_Bs {c i : Nat} {l : List Nat} : b_ (pB P c i l) c i = l := by rw [b_B, if_pos ⟨rfl, rfl⟩]
theorem s_Ss {f i v : Nat} : s_ (pS P f i v) f i = v := by rw [s_S, if_pos ⟨rfl, rfl⟩]
/-- the places (class, which, place) -/
abbrev tT (g : pG) (T : Nat → Nat → Nat → Prop) : Nat → Nat → Prop := fun b k => ∃ c i, T c i k ∧ g.2.1 c i = true ∧ b = g.1 c i
theorem tT_ne {T : Nat → Nat → Nat → Prop} (ha : rf_a g M) {c i k : Nat} (hl : g.2.1 c i = true) (h : ¬ T c i k) : ¬ tT g T (g.1 c i) k := by
  rintro ⟨c', i', h1, h2, h3⟩
  by_cases hq : c = c' ∧ i = i'
  · obtain ⟨rfl, rfl⟩ := hq; exact h h1
  · exact rf_ne ha hl h2 hq h3
theorem arr_ch {T : Nat → Nat → Prop} {a : Nat} {l : List Nat} (h : arr M a l) (hC : sm_Ch T M M') (hT : ∀ k, ¬ T a k) : arr M' a l := fun j hj => by rw [hC.2.2.2.2.2.2 a j (hT j)]; exact h j hj
theorem rc_ch {T : Nat → Nat → Nat → Prop} (h : RC g P M) (hC : sm_Ch (tT g T) M M') (hs : ∀ f i, s_ P' f i = s_ P f i) (hf : ∀ p, f_ P' p = f_ P p)
    (ta : ∀ c i k, fi c k = true → (c = 7 → i < 66) → ¬ T c i k)
    (tb : ∀ j, j < 66 → ((¬ T 7 j 4 ∧ ∀ k, ¬ T 27 j k) ∧ b_ P' 7 j = b_ P 7 j) ∨ (sm_I M' (g.1 7 j) 4 = nI (b_ P' 7 j).length ∧ (b_ P' 7 j).length ≤ 64 ∧ arr M' (g.1 27 j) (b_ P' 7 j)))
    (tc : ∀ j, g.2.1 1 j = true → ((∀ k, ¬ T 1 j k ∧ ¬ T 21 j k) ∧ b_ P' 1 j = b_ P 1 j) ∨ by_Q M' (g.1 1 j) (g.1 21 j) (if j = 0 then 200 else 256) ((b_ P' 1 j).map nI))
    (td : ((∀ k, ¬ T 20 0 k) ∧ b_ P' 20 0 = b_ P 20 0) ∨ ((b_ P' 20 0).length = 20 ∧ arr M' (g.1 20 0) (b_ P' 20 0)))
    (te : ∀ d, d < 6 → ((∀ k, ¬ T 28 d k) ∧ b_ P' 28 d = b_ P 28 d) ∨ ((b_ P' 28 d).length = 64 ∧ arr M' (g.1 28 d) (b_ P' 28 d)))
    (tg : ∀ d, d < 6 → ((∀ k, ¬ T 29 d k) ∧ b_ P' 29 d = b_ P 29 d) ∨ ((b_ P' 29 d).length ≤ 64 ∧ arr M' (g.1 29 d) (b_ P' 29 d)))
    (th : ∀ t, t < s_ P 122 0 → ((∀ k, ¬ T 36 t k) ∧ b_ P' 36 t = b_ P 36 t) ∨ ((b_ P' 36 t).length = (b_ P 36 t).length ∧ arr M' (g.1 36 t) (b_ P' 36 t)))
    (ti : ∀ k, ¬ T 11 0 k ∧ ¬ T 30 0 k ∧ ¬ T 31 0 k ∧ ¬ T 32 0 k)
    (tj : ((¬ T 2 0 3 ∧ ∀ k, ¬ T 24 0 k) ∧ b_ P' 24 0 = b_ P 24 0) ∨ co_L M' (g.1 2 0) (g.1 24 0) ((b_ P' 24 0).map nI)) : RC g P' M' := by
  obtain ⟨⟨ha, hb, hc⟩, i1, i2, i3, i4, i5, i6, i7, i8⟩ := h
  have hc0 := hC
  obtain ⟨c1, c2, c3, c4, c5, c6, c7⟩ := hC
  have st : ∀ {c i}, i < stn c → g.2.1 c i = true := fun hi => ha.2.2.1 _ _ hi
  have cI : ∀ {c i k}, g.2.1 c i = true → ¬ T c i k → sm_I M' (g.1 c i) k = sm_I M (g.1 c i) k := fun hl hn => c7 _ _ (tT_ne ha hl hn)
  refine ⟨⟨?_, ?_, ?_⟩, ?_, ?_, ?_, ?_, ?_, ?_, ?_, fun f i => by rw [hs]; exact i8 f i⟩
  · unfold rf_a; rw [c1, c2, c5, c6]; exact ha
  · unfold rf_b; rw [c3]; exact hb
  · unfold rf_c; rw [c3]; simp only [hs]; exact hc
  · intro c i k hl hfi h7
    rw [cI hl (ta c i k hfi h7), hs]
    exact i1 c i k hl hfi h7
  · intro j hj
    rcases tb j hj with ⟨⟨t1, t2⟩, e⟩ | q
    · obtain ⟨e1, e2, e3⟩ := i2 j hj
      rw [e, cI (st (c := 7) hj) t1]
      exact ⟨e1, e2, arr_ch e3 hc0 (fun k => tT_ne ha (st (c := 27) hj) (t2 k))⟩
    · exact q
  · intro j hj
    rcases tc j hj with ⟨t1, e⟩ | q
    · rw [e]
      have hl21 := (hc.1 j hj).2
      obtain ⟨h1, h2, h3, h4, h5, h6, h7, f, h8, h9, h10⟩ := i3 j hj
      refine ⟨by rw [c1]; exact h1, by rw [c3]; exact h2, by rw [c1]; exact h3, by rw [c2]; exact h4, h5, h6, by rw [cI hj (t1 2).1]; exact h7, f, h8, by rw [cI hj (t1 1).1]; exact h9, fun i hi => by rw [cI hl21 (t1 _).2]; exact h10 i hi⟩
    · exact q
  · obtain ⟨e1, e2, e3, e4⟩ := i4
    refine ⟨?_, ?_, fun d hd => ⟨?_, ?_, ?_, ?_⟩, fun t ht => ?_⟩
    · rcases td with ⟨t1, e⟩ | q
      · rw [e]; exact e1
      · exact q.1
    · rcases td with ⟨t1, e⟩ | q
      · rw [e]; exact arr_ch e2 hc0 (fun k => tT_ne ha (st (c := 20) (by decide)) (t1 k))
      · exact q.2
    · rcases te d hd with ⟨t1, e⟩ | q
      · rw [e]; exact (e3 d hd).1
      · exact q.1
    · rcases te d hd with ⟨t1, e⟩ | q
      · rw [e]; exact arr_ch (e3 d hd).2.1 hc0 (fun k => tT_ne ha (st (c := 28) hd) (t1 k))
      · exact q.2
    · rcases tg d hd with ⟨t1, e⟩ | q
      · rw [e]; exact (e3 d hd).2.2.1
      · exact q.1
    · rcases tg d hd with ⟨t1, e⟩ | q
      · rw [e]; exact arr_ch (e3 d hd).2.2.2 hc0 (fun k => tT_ne ha (st (c := 29) hd) (t1 k))
      · exact q.2
    · rw [hs] at ht
      have hl36 := (hc.2.2.2.1.2 t ht).2.1
      rw [c2]
      rcases th t ht with ⟨t1, e⟩ | q
      · rw [e]; exact ⟨(e4 t ht).1, (e4 t ht).2.1, arr_ch (e4 t ht).2.2 hc0 (fun k => tT_ne ha hl36 (t1 k))⟩
      · exact ⟨by rw [q.1]; exact (e4 t ht).1, by rw [q.1]; exact (e4 t ht).2.1, q.2⟩
  · have l11 := st (c := 11) (i := 0) (by decide)
    have l30 := st (c := 30) (i := 0) (by decide)
    have l31 := st (c := 31) (i := 0) (by decide)
    have l32 := st (c := 32) (i := 0) (by decide)
    have hf' : f_ P' = f_ P := funext hf
    unfold iv_e ft at i5 ⊢
    rw [hs, hf', cI l11 (ti 7).1]
    have x30 : ∀ i, sm_I M' (g.1 30 0) i = sm_I M (g.1 30 0) i := fun i => cI l30 (ti i).2.1
    have x31 : ∀ i, sm_I M' (g.1 31 0) i = sm_I M (g.1 31 0) i := fun i => cI l31 (ti i).2.2.1
    have x32 : ∀ i, sm_I M' (g.1 32 0) i = sm_I M (g.1 32 0) i := fun i => cI l32 (ti i).2.2.2
    simp only [x30, x31, x32]
    exact i5
  · rcases tj with ⟨⟨t1, t2⟩, e⟩ | q
    · unfold iv_f co_L at i6 ⊢
      rw [e, cI (st (c := 2) (by decide)) t1]
      exact ⟨i6.1, i6.2.1, fun i hi => by rw [cI (st (c := 24) (by decide)) (t2 i)]; exact i6.2.2 i hi⟩
    · exact q
  · intro k hk
    obtain ⟨t, e1, e2, e3, e4⟩ := i7 k hk
    refine ⟨t, by rw [c4]; exact e1, by rw [c1, c5]; exact e2, by rw [c2]; exact e3, fun j hj => ?_⟩
    rw [c7 t j]
    · exact e4 j hj
    · rintro ⟨c, i, -, h2, h3⟩
      exact rf_ne1 ha h2 e2.1 h3
/-- one place of an object or a row -/
theorem ch_tp {T : Nat → Nat → Nat → Prop} {c i k : Nat} {v : Int32} (hl : g.2.1 c i = true) (hT : T c i k) : sm_Ch (tT g T) M (sm_putI M (g.1 c i) k v) := ch_put ⟨c, i, hT, hl, rfl⟩
theorem fi74 {c i k j : Nat} (h : fi c k = true) : ¬ ((c = 7 ∧ i = j ∧ k = 4) ∨ (c = 27 ∧ i = j)) := by
  rintro (⟨rfl, -, rfl⟩ | ⟨rfl, -⟩)
  · exact absurd h (by decide)
  · exact absurd (fi_c h) (by decide)
theorem fi_hi {c k c0 : Nat} (h : fi c k = true) (h0 : 12 ≤ c0) : c ≠ c0 := by
  have := fi_c h
  omega
abbrev tPk (j : Nat) : Nat → Nat → Nat → Prop := fun c i k => (c = 7 ∧ i = j ∧ k = 4) ∨ (c = 27 ∧ i = j)
/-- the bytes of a packet anew -/
theorem rc_pk {j : Nat} {l : List Nat} (h : RC g P M) (hj : j < 66) (hC : sm_Ch (tT g (tPk j)) M M') (h1 : sm_I M' (g.1 7 j) 4 = nI l.length) (h2 : l.length ≤ 64) (h3 : arr M' (g.1 27 j) l) : RC g (pB P 7 j l) M' := by
  refine rc_ch h hC (fun _ _ => rfl) (fun _ => rfl) (fun c i k q _ => fi74 q) (fun j' hj' => ?_) (fun _ _ => Or.inl ⟨fun k => ⟨by omega, by omega⟩, by rw [b_B, if_neg (by omega)]⟩) (Or.inl ⟨fun k => by omega, by rw [b_B, if_neg (by omega)]⟩) (fun _ _ => Or.inl ⟨fun k => by omega, by rw [b_B, if_neg (by omega)]⟩) (fun _ _ => Or.inl ⟨fun k => by omega, by rw [b_B, if_neg (by omega)]⟩) (fun _ _ => Or.inl ⟨fun k => by omega, by rw [b_B, if_neg (by omega)]⟩) (fun k => by omega) (Or.inl ⟨⟨by omega, fun k => by omega⟩, by rw [b_B, if_neg (by omega)]⟩)
  by_cases hjj : j' = j
  · subst hjj
    right
    rw [b_B, if_pos ⟨rfl, rfl⟩]
    exact ⟨h1, h2, h3⟩
  · left
    exact ⟨⟨by omega, fun k => by omega⟩, by rw [b_B, if_neg (by omega)]⟩
theorem rc_pk0 {j : Nat} (h : RC g P M) (hj : j < 66) : RC g (pB P 7 j []) (sm_putI M (g.1 7 j) 4 0) :=
  rc_pk h hj (ch_tp (rc_st h (c := 7) hj) (Or.inl ⟨rfl, rfl, rfl⟩)) I_put_s (Nat.zero_le _) (fun i hi => absurd hi (Nat.not_lt_zero _))
theorem arr_app {a x : Nat} {l : List Nat} (h : arr M a l) : arr (sm_putI M a l.length (nI x)) a (l ++ [x]) := by
  intro j hj
  rw [List.length_append] at hj
  have hj : j < l.length + 1 := hj
  by_cases he : j = l.length
  · subst he; rw [I_put_s]; simp
  · rw [I_put_k he, h j (by omega)]
    simp [List.getD_eq_getElem?_getD, List.getElem?_append_left (show j < l.length by omega)]
theorem ar_set {a x j : Nat} {l : List Nat} (h : arr M a l) : arr (sm_putI M a j (nI x)) a (l.set j x) := by
  intro i hi
  rw [List.length_set] at hi
  by_cases he : i = j
  · subst he
    rw [I_put_s]
    simp [List.getD_eq_getElem?_getD, hi]
  · rw [I_put_k he, h i hi]
    simp [List.getD_eq_getElem?_getD, List.getElem?_set_ne (Ne.symm he)]
theorem rc_pka {j x : Nat} (h : RC g P M) (hj : j < 66) (hl : (b_ P 7 j).length < 64) : RC g (pB P 7 j (b_ P 7 j ++ [x])) (sm_putI (sm_putI M (g.1 27 j) (b_ P 7 j).length (nI x)) (g.1 7 j) 4 (nI ((b_ P 7 j).length + 1))) := by
  have l7 := rc_st h (c := 7) hj
  have l27 := rc_st h (c := 27) hj
  have hne : g.1 27 j ≠ g.1 7 j := rf_ne h.1.1 l27 l7 (by omega)
  refine rc_pk h hj (ch_tr (ch_tp l27 (Or.inr ⟨rfl, rfl⟩)) (ch_tp l7 (Or.inl ⟨rfl, rfl, rfl⟩))) ?_ ?_ ?_
  · rw [I_put_s, List.length_append]; rfl
  · rw [List.length_append]; exact hl
  · exact arr_ne (arr_app (h.2.2.1 j hj).2.2) hne
/-- a ring -/
theorem rc_ring {j : Nat} {l : List Nat} (h : RC g P M) (hj : g.2.1 1 j = true) (hO : sm_Only (fun b => b = g.1 1 j ∨ b = g.1 21 j) M M') (hq : by_Q M' (g.1 1 j) (g.1 21 j) (if j = 0 then 200 else 256) (l.map nI)) : RC g (pB P 1 j l) M' := by
  have l21 := (h.1.2.2.1 j hj).2
  have hC : sm_Ch (tT g (fun c i _ => (c = 1 ∨ c = 21) ∧ i = j)) M M' := by
    obtain ⟨o1, o2, o3, o4, o5, o6, o7⟩ := hO
    refine ⟨o1, o2, o3, o4, o5, o6, fun b k hb => congrFun (o7 b ?_) k⟩
    rintro (rfl | rfl)
    · exact hb ⟨1, j, ⟨Or.inl rfl, rfl⟩, hj, rfl⟩
    · exact hb ⟨21, j, ⟨Or.inr rfl, rfl⟩, l21, rfl⟩
  refine rc_ch h hC (fun _ _ => rfl) (fun _ => rfl) (fun c i k q _ => ?_) (fun j' hj' => Or.inl ⟨⟨by omega, fun k => by omega⟩, by rw [b_B, if_neg (by omega)]⟩) (fun j' hj' => ?_) (Or.inl ⟨fun k => by omega, by rw [b_B, if_neg (by omega)]⟩) (fun _ _ => Or.inl ⟨fun k => by omega, by rw [b_B, if_neg (by omega)]⟩) (fun _ _ => Or.inl ⟨fun k => by omega, by rw [b_B, if_neg (by omega)]⟩) (fun _ _ => Or.inl ⟨fun k => by omega, by rw [b_B, if_neg (by omega)]⟩) (fun k => by omega) (Or.inl ⟨⟨by omega, fun k => by omega⟩, by rw [b_B, if_neg (by omega)]⟩)
  · rintro ⟨rfl | rfl, -⟩
    · simp [fi] at q
    · exact absurd (fi_c q) (by decide)
  · by_cases hjj : j' = j
    · subst hjj
      right; rw [b_Bs]; exact hq
    · left; exact ⟨fun k => ⟨by omega, by omega⟩, by rw [b_B, if_neg (by omega)]⟩
/-- the other rows: ready, scratch, a ControlPoint's, a transfer's -/
theorem rc_row {c i : Nat} {l : List Nat} (h : RC g P M) (hcs : (c = 20 ∧ i = 0 ∧ l.length = 20) ∨ (c = 28 ∧ i < 6 ∧ l.length = 64) ∨ (c = 29 ∧ i < 6 ∧ l.length ≤ 64) ∨ (c = 36 ∧ i < s_ P 122 0 ∧ l.length = (b_ P 36 i).length)) (hC : sm_Ch (fun b _ => b = g.1 c i) M M') (hl : arr M' (g.1 c i) l) : RC g (pB P c i l) M' := by
  have hlv : g.2.1 c i = true := by
    rcases hcs with ⟨rfl, rfl, -⟩ | ⟨rfl, hi, -⟩ | ⟨rfl, hi, -⟩ | ⟨rfl, hi, -⟩
    · exact rc_st h (by decide)
    · exact rc_st h hi
    · exact rc_st h hi
    · exact (h.1.2.2.2.2.2.1.2 i hi).2.1
  have hC : sm_Ch (tT g (fun c' i' _ => c' = c ∧ i' = i)) M M' := ch_mo hC (fun b k q => ⟨c, i, ⟨rfl, rfl⟩, hlv, q⟩)
  refine rc_ch h hC (fun _ _ => rfl) (fun _ => rfl) (fun c' i' k q _ => ?_) (fun j' hj' => Or.inl ⟨⟨by omega, fun k => by omega⟩, by rw [b_B, if_neg (by omega)]⟩) (fun j' hj' => Or.inl ⟨fun k => ⟨by omega, by omega⟩, by rw [b_B, if_neg (by omega)]⟩) ?_ (fun d hd => ?_) (fun d hd => ?_) (fun t ht => ?_) (fun k => by omega) (Or.inl ⟨⟨by omega, fun k => by omega⟩, by rw [b_B, if_neg (by omega)]⟩)
  · have := fi_c q
    omega
  · by_cases hq : 20 = c ∧ 0 = i
    · right
      rw [b_B, if_pos hq]
      obtain ⟨rfl, rfl⟩ := hq
      exact ⟨by omega, hl⟩
    · left; exact ⟨fun k => hq, by rw [b_B, if_neg hq]⟩
  · by_cases hq : 28 = c ∧ d = i
    · right
      rw [b_B, if_pos hq]
      obtain ⟨rfl, rfl⟩ := hq
      exact ⟨by omega, hl⟩
    · left; exact ⟨fun k => hq, by rw [b_B, if_neg hq]⟩
  · by_cases hq : 29 = c ∧ d = i
    · right
      rw [b_B, if_pos hq]
      obtain ⟨rfl, rfl⟩ := hq
      exact ⟨by omega, hl⟩
    · left; exact ⟨fun k => hq, by rw [b_B, if_neg hq]⟩
  · by_cases hq : 36 = c ∧ t = i
    · right
      rw [b_B, if_pos hq]
      obtain ⟨rfl, rfl⟩ := hq
      exact ⟨by omega, hl⟩
    · left; exact ⟨fun k => hq, by rw [b_B, if_neg hq]⟩
/-- numbers and bytes as they are read -/
theorem rc_I (h : RC g P M) {c i k : Nat} (hl : g.2.1 c i = true) (hf : fi c k = true) (h7 : c = 7 → i < 66 := by intro q; cases q) : sm_I M (g.1 c i) k = enc c k (s_ P (20 * c + k) i) := (h.2.1 c i k hl hf h7).1
theorem rc_b (h : RC g P M) {c i k : Nat} (_ : g.2.1 c i = true) (_ : fi c k = true) : s_ P (20 * c + k) i < 2 ^ 31 := h.2.2.2.2.2.2.2.2 _ _
theorem rc_Is (h : RC g P M) {c i k : Nat} (hi : i < stn c) (hf : fi c k = true) : sm_I M (g.1 c i) k = enc c k (s_ P (20 * c + k) i) := rc_I h (rc_st h hi) hf (by rintro rfl; exact hi)
theorem rc_B (h : RC g P M) : ∀ f i, s_ P f i < 2 ^ 31 := h.2.2.2.2.2.2.2.2
end LI
