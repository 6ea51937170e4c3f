/-! A packet with one level changed is not read -/
theorem lf_2 : ∀ (w : List Int32) (last : Int32) (o : Nat), (2 : Int32) ∈ w → lf_d last o w = none
  | [], _, _, h => absurd h List.not_mem_nil
  | x :: r, last, o, h => by
    show (if x = 2 then none else if o < 6 then (lf_d x (if x = last then o + 1 else 0) r).map (fun l => decide (x = last) :: l) else if x = last then none else lf_d x 0 r) = none
    by_cases hx : x = 2
    · rw [if_pos hx]
    · have hr : (2 : Int32) ∈ r := by
        rcases List.mem_cons.mp h with h | h
        · exact absurd h.symm hx
        · exact h
      rw [if_neg hx, lf_2 r _ _ hr, lf_2 r _ _ hr]
      simp
theorem bI_2 (b : Bool) : bI b ≠ 2 := by cases b <;> decide
theorem lf_ds : ∀ (r : List Bool) (now : Bool) (o : Nat), o ≤ 6 → lf_d (bI now) o ((lv_s now r).map bI) = pu_ds o r
  | [], now, o, _ => rfl
  | b :: r, now, o, ho => by
    have e : (bI (bif b then now else !now) = bI now) ↔ b = true := by rw [bI_inj]; cases b <;> cases now <;> simp
    show (if bI (bif b then now else !now) = 2 then none else if o < 6 then (lf_d (bI (bif b then now else !now)) (if bI (bif b then now else !now) = bI now then o + 1 else 0) _).map (fun l => decide (bI (bif b then now else !now) = bI now) :: l) else if bI (bif b then now else !now) = bI now then none else lf_d (bI (bif b then now else !now)) 0 _) = (if o < 6 then (pu_ds (bif b then o + 1 else 0) r).map (fun l => b :: l) else bif b then none else pu_ds 0 r)
    rw [if_neg (bI_2 _)]
    by_cases h6 : o < 6
    · rw [if_pos h6, if_pos h6, lf_ds r _ _ (by split <;> omega)]
      cases b
      · rw [if_neg (by rw [e]; decide), decide_eq_false (by rw [e]; decide)]; rfl
      · rw [if_pos (by rw [e]), decide_eq_true (by rw [e])]; rfl
    · rw [if_neg h6, if_neg h6]
      cases b
      · rw [if_neg (by rw [e]; decide), lf_ds r _ _ (by omega)]; rfl
      · rw [if_pos (by rw [e])]; rfl
theorem lv_len : ∀ (r : List Bool) (now : Bool), (lv_s now r).length = r.length
  | [], _ => rfl
  | b :: r, now => by show (lv_s _ r).length + 1 = r.length + 1; rw [lv_len r]
theorem lv_f1 : ∀ (r : List Bool) (now : Bool), lv_s (!now) (pu_f1 r) = lv_s now r
  | [], _ => rfl
  | b :: r, now => by
    have e : (bif !b then !now else !(!now)) = (bif b then now else !now) := by cases b <;> cases now <;> rfl
    show (bif !b then !now else !(!now)) :: lv_s (bif !b then !now else !(!now)) r = (bif b then now else !now) :: lv_s (bif b then now else !now) r
    rw [e]
theorem lv_fl : ∀ (r : List Bool) (now : Bool) (j : Nat), j < r.length → (lv_s now r).set j (!(lv_s now r).getD j false) = lv_s now (pu_fl r j)
  | [], _, _, h => absurd h (Nat.not_lt_zero _)
  | b :: r, now, 0, _ => by
    have e : (!(bif b then now else !now)) = (bif !b then now else !now) := by cases b <;> cases now <;> rfl
    show (!(bif b then now else !now)) :: lv_s (bif b then now else !now) r = (bif !b then now else !now) :: lv_s (bif !b then now else !now) (pu_f1 r)
    rw [← e, lv_f1]
  | b :: r, now, j + 1, h => by
    show (bif b then now else !now) :: (lv_s (bif b then now else !now) r).set j (!(lv_s (bif b then now else !now) r).getD j false) = (bif b then now else !now) :: lv_s (bif b then now else !now) (pu_fl r j)
    rw [lv_fl r _ j (Nat.lt_of_succ_lt_succ h)]
theorem l8_ex : ∀ l : List Bool, 8 ≤ l.length → ∃ a b c d e f g h r, l = a :: b :: c :: d :: e :: f :: g :: h :: r
  | a :: b :: c :: d :: e :: f :: g :: h :: r, _ => ⟨a, b, c, d, e, f, g, h, r, rfl⟩
  | [], h => by simp at h
  | [_], h => by simp at h
  | [_, _], h => by simp at h
  | [_, _, _], h => by simp at h
  | [_, _, _, _], h => by simp at h
  | [_, _, _, _, _], h => by simp at h
  | [_, _, _, _, _, _], h => by simp at h
  | [_, _, _, _, _, _, _], h => by simp at h
theorem v8 : ∀ a b c d e f g h : Bool, vlB [a, b, c, d, e, f, g, h] = 128 → a = false ∧ b = false ∧ c = false ∧ d = false ∧ e = false ∧ f = false ∧ g = false ∧ h = true := by
  intro a b c d e f g h
  cases a <;> cases b <;> cases c <;> cases d <;> (revert e f g h; decide)
theorem v44 : ∀ a b c d e f g h : Bool, vlB [e, f, g, h] + vlB [a, b, c, d] = 15 → e = (!a) ∧ f = (!b) ∧ g = (!c) ∧ h = (!d) := by
  intro a b c d e f g h
  cases a <;> cases b <;> cases c <;> cases d <;> (revert e f g h; decide)
theorem i8 : ∀ (P : Nat → Prop), P 0 → P 1 → P 2 → P 3 → P 4 → P 5 → P 6 → P 7 → ∀ i, i < 8 → P i := by
  intro P h0 h1 h2 h3 h4 h5 h6 h7 i hi
  match i, hi with
  | 0, _ => exact h0
  | 1, _ => exact h1
  | 2, _ => exact h2
  | 3, _ => exact h3
  | 4, _ => exact h4
  | 5, _ => exact h5
  | 6, _ => exact h6
  | 7, _ => exact h7
theorem i4 : ∀ (P : Nat → Prop), P 0 → P 1 → P 2 → P 3 → ∀ i, i < 4 → P i := by
  intro P h0 h1 h2 h3 i hi
  match i, hi with
  | 0, _ => exact h0
  | 1, _ => exact h1
  | 2, _ => exact h2
  | 3, _ => exact h3
theorem rd_hd {l : List Bool} (h : rd_ok l) : pk_hd l := by
  obtain ⟨h16, -, h1, h2, -⟩ := h
  obtain ⟨a, b, c, d, e, f, g, x, r, rfl⟩ := l8_ex l (by omega)
  obtain ⟨a', b', c', d', e', f', g', x', r', rfl⟩ := l8_ex r (by simp at h16; omega)
  have h1 : vlB [a, b, c, d, e, f, g, x] = 128 := h1
  have h2 : vlB [e', f', g', x'] + vlB [a', b', c', d'] = 15 := h2
  obtain ⟨rfl, rfl, rfl, rfl, rfl, rfl, rfl, rfl⟩ := v8 _ _ _ _ _ _ _ _ h1
  obtain ⟨rfl, rfl, rfl, rfl⟩ := v44 _ _ _ _ _ _ _ _ h2
  exact ⟨h16, i8 _ rfl rfl rfl rfl rfl rfl rfl rfl, i4 _ rfl rfl rfl rfl⟩
theorem hd_k : ∀ k, k < 16 → (∀ i, i < 8 → (pk_head k).getD i false = decide (i = 7)) ∧ (∀ i, i < 4 → (pk_head k).getD (12 + i) false = !(pk_head k).getD (8 + i) false) ∧ vlB (((pk_head k).drop 8).take 4) = k := by decide +kernel
theorem hd_app {k : Nat} (hk : k < 16) (t : List Bool) : pk_hd (pk_head k ++ t) := by
  have hl := pk_head_len k
  obtain ⟨h1, h2, -⟩ := hd_k k hk
  refine ⟨by rw [List.length_append]; omega, fun i hi => ?_, fun i hi => ?_⟩
  · rw [gd_l (by omega)]; exact h1 i hi
  · rw [gd_l (by omega), gd_l (by omega)]; exact h2 i hi
theorem pk_bits_len (k n : Nat) (l : List Nat) : (pk_bits k n l).length = if k = 3 ∨ k = 11 then 32 + 8 * l.length else if k = 2 ∨ k = 10 ∨ k = 14 then 16 else 32 := by
  unfold pk_bits pk_wck
  split
  · simp [pk_head_len, pk_dat_len, cr_b_len]; omega
  · split <;> simp [pk_head_len, nuB_len, cr_b_len]
theorem rd_bad {k n : Nat} {l : List Nat} (hk : k < 16) {l' : List Bool} (hD : pu_D (pk_bits k n l) l') : ¬ rd_ok l' := by
  intro hr
  have hlen := pk_bits_len k n l
  have hhd : pk_hd (pk_bits k n l) := hd_app hk _
  obtain ⟨h, b, b', e1, e2, h16, hP⟩ := pk_one hD (by rw [hlen]; split <;> (try split) <;> omega) hr.2.1 hhd (rd_hd hr)
  have hh : h = pk_head k := by
    have := congrArg (List.take 16) e1
    unfold pk_bits at this
    rw [List.take_append_of_le_length (by rw [pk_head_len]; decide), List.take_append_of_le_length (by omega), List.take_of_length_le (by rw [pk_head_len]; decide), List.take_of_length_le (by omega)] at this
    exact this.symm
  subst hh
  have eb : b = (if k = 3 ∨ k = 11 then pk_wck 16 (pk_dat l) else if k = 2 ∨ k = 10 ∨ k = 14 then [] else pk_wck 5 (nuB n 11)) := (List.append_cancel_left e1).symm
  obtain ⟨-, -, -, -, r1, r2⟩ := hr
  have ek : vlB ((l'.drop 8).take 4) = k := by
    rw [e2, List.drop_append_of_le_length (by rw [h16]; decide), List.take_append_of_le_length (by rw [List.length_drop, h16]; decide)]
    exact (hd_k k hk).2.2
  have ed : l'.drop 16 = b' := by rw [e2, List.drop_append_of_le_length (by omega), List.drop_eq_nil_of_le (by omega)]; rfl
  have el : l'.length = 16 + b'.length := by rw [e2, List.length_append]; omega
  have elb := pu_P_len hP
  rw [ek] at r1 r2
  rw [ed] at r1 r2
  by_cases h3 : k = 3 ∨ k = 11
  · rw [if_pos h3] at eb
    exact pk_never cr_ok16 hP ⟨pk_dat l, eb⟩ (r1 h3).2
  · rw [if_neg h3] at eb
    by_cases h2 : k = 2 ∨ k = 10 ∨ k = 14
    · rw [if_pos h2] at eb
      subst eb
      obtain ⟨p, x, y, s, q1, q2, q3⟩ := hP
      have hx : x = [] := by
        have := (List.append_eq_nil_iff.mp q1.symm).2
        exact (List.append_eq_nil_iff.mp this).1
      subst hx
      rcases q3 with ⟨a, b, q, -⟩ | ⟨q, -⟩ | ⟨q, -⟩ | ⟨-, a, q, -⟩ <;> cases q
    · rw [if_neg h2] at eb
      rcases r2 h3 with ⟨-, r2⟩ | r2
      · exact pk_never cr_ok5 hP ⟨nuB n 11, eb⟩ r2
      · have : b.length = 16 := by rw [eb]; simp [pk_wck, nuB_len, cr_b_len]
        omega
theorem co_lev_len (l : List Bool) : (co_lev true 0 l).length = (pu_st 0 l).length + 3 := by
  simp [co_lev, lv_len]
/-- one level changed: not to be read -/
theorem co_never {k n j : Nat} {l : List Nat} {x : Int32} {v : List Int32} (hk : k < 16) (hl : l.length ≤ 64) (hj : j < (co_lev true 0 (pk_bits k n l)).length) (hx : x = 0 ∨ x = 1 ∨ x = 2) (hne : (co_lev true 0 (pk_bits k n l)).getD j 0 ≠ x) (hv : v = (co_lev true 0 (pk_bits k n l)).set j x) :
    3 < v.length → v.getD (v.length - 1) 0 = 1 → v.getD (v.length - 2) 0 = 2 → v.getD (v.length - 3) 0 = 2 → ∀ l, lf_d 1 0 (v.take (v.length - 3)) = some l → l.length ≤ 560 ∧ ¬ rd_ok l := by
  generalize hbits : pk_bits k n l = bits at hj hne hv
  have hblen : bits.length ≤ 544 := by
    rw [← hbits, pk_bits_len]
    split
    · omega
    · split <;> omega
  generalize hraw : pu_st 0 bits = raw
  have hlev : co_lev true 0 bits = (lv_s true raw).map bI ++ [2, 2, 1] := by unfold co_lev; rw [hraw]
  have hlb : ((lv_s true raw).map bI).length = raw.length := by rw [List.length_map, lv_len]
  rw [hlev] at hj hne hv
  have hvl : v.length = raw.length + 3 := by rw [hv]; simp [lv_len]
  rw [List.length_append, hlb] at hj
  have hj : j < raw.length + 3 := hj
  intro _ t1 t2 t3 l' hl'
  by_cases hjb : j < raw.length
  · rw [List.set_append_left _ _ (by omega)] at hv
    have htk : v.take (v.length - 3) = ((lv_s true raw).map bI).set j x := by
      rw [hvl, hv, Nat.add_sub_cancel, List.take_append_of_le_length (by rw [List.length_set]; omega), List.take_of_length_le (by rw [List.length_set]; omega)]
    rw [htk] at hl'
    have hgd : (((lv_s true raw).map bI) ++ [2, 2, 1]).getD j 0 = bI ((lv_s true raw).getD j false) := by
      rw [List.getD_eq_getElem?_getD, List.getElem?_append_left (by omega), List.getD_eq_getElem?_getD, List.getElem?_map]
      rw [List.getElem?_eq_getElem (by rw [lv_len]; omega)]; rfl
    rw [hgd] at hne
    have hxb : x ≠ 2 → x = bI (!(lv_s true raw).getD j false) := by
      intro h2
      cases hq : (lv_s true raw).getD j false <;> rw [hq] at hne <;> rcases hx with rfl | rfl | rfl <;> first | rfl | exact absurd rfl hne | exact absurd rfl h2
    by_cases h2 : x = 2
    · rw [lf_2 _ _ _ (by rw [h2]; exact List.mem_set (by omega) _)] at hl'
      cases hl'
    · rw [hxb h2, ← List.map_set, lv_fl raw true j hjb, show (1 : Int32) = bI true from rfl, lf_ds _ _ _ (by omega), ← hraw] at hl'
      have hm := pu_main bits 0 j (by omega) (by rw [hraw]; exact hjb)
      rw [hl'] at hm
      rcases hm with hm | ⟨l2, hm, hD⟩
      · cases hm
      · cases hm
        refine ⟨?_, ?_⟩
        · rcases hD with h | h | h
          · omega
          · omega
          · rw [pu_P_len h]; omega
        · rw [← hbits] at hD
          exact rd_bad hk hD
  · exfalso
    rw [List.set_append_right _ _ (by omega), hlb] at hv
    have hg : ∀ i, v.getD (raw.length + i) 0 = ([2, 2, 1].set (j - raw.length) x).getD i 0 := by
      intro i
      rw [hv, List.getD_eq_getElem?_getD, List.getElem?_append_right (by omega), hlb, Nat.add_sub_cancel_left, List.getD_eq_getElem?_getD]
    have hg0 : (((lv_s true raw).map bI) ++ [2, 2, 1]).getD j 0 = ([2, 2, 1] : List Int32).getD (j - raw.length) 0 := by
      rw [List.getD_eq_getElem?_getD, List.getElem?_append_right (by omega), hlb, List.getD_eq_getElem?_getD]
    rw [hg0] at hne
    rw [hvl, show raw.length + 3 - 1 = raw.length + 2 by omega, hg] at t1
    rw [hvl, show raw.length + 3 - 2 = raw.length + 1 by omega, hg] at t2
    rw [hvl, show raw.length + 3 - 3 = raw.length + 0 by omega, hg] at t3
    have h3 : j - raw.length < 3 := by omega
    generalize j - raw.length = t at hne t1 t2 t3 h3
    match t, h3 with
    | 0, _ => exact hne (Eq.symm t3)
    | 1, _ => exact hne (Eq.symm t2)
    | 2, _ => exact hne (Eq.symm t1)
