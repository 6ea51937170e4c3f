/-! Transfers and peers: constructors, Host.addControl, find, makeForPipe, makeControl, forget -/
section HO
variable {g : pG} {P : pP} {M M' : sm_M} {D : Nat}
theorem K_new {K L u b : Nat} : sm_K (sm_new M K L u) b = if b = sm_N M then K else sm_K M b := rfl
theorem L_new {K L u b : Nat} : sm_L (sm_new M K L u) b = if b = sm_N M then L else sm_L M b := rfl
theorem I_new {K L u b k : Nat} : sm_I (sm_new M K L u) b k = if b = sm_N M then 0 else sm_I M b k := by
  show sm_u1 (sm_I M) (sm_N M) (fun _ => 0) b k = _
  unfold sm_u1
  split <;> rfl
theorem R_new {K L u b k : Nat} : sm_R (sm_new M K L u) b k = if b = sm_N M then none else sm_R M b k := by
  show sm_u1 (sm_R M) (sm_N M) (fun _ => none) b k = _
  unfold sm_u1
  split <;> rfl
theorem I_putR {a k b j : Nat} {x : Option Nat} : sm_I (sm_putR M a k x) b j = sm_I M b j := rfl
theorem R_putI {a k b j : Nat} {x : Int32} : sm_R (sm_putI M a k x) b j = sm_R M b j := rfl
theorem K_putI {a k b : Nat} {x : Int32} : sm_K (sm_putI M a k x) b = sm_K M b := rfl
theorem K_putR {a k b : Nat} {x : Option Nat} : sm_K (sm_putR M a k x) b = sm_K M b := rfl
theorem L_putI {a k b : Nat} {x : Int32} : sm_L (sm_putI M a k x) b = sm_L M b := rfl
theorem L_putR {a k b : Nat} {x : Option Nat} : sm_L (sm_putR M a k x) b = sm_L M b := rfl
theorem N_putI {a k : Nat} {x : Int32} : sm_N (sm_putI M a k x) = sm_N M := rfl
theorem N_putR {a k : Nat} {x : Option Nat} : sm_N (sm_putR M a k x) = sm_N M := rfl
theorem N_new {K L u : Nat} : sm_N (sm_new M K L u) = sm_N M + 1 := rfl
/-- new Transfer -/
theorem c_tinit {pa o l th n : Nat} (hth : th ≤ 1) (hn : n ≤ 100) : sm_Run (D + 1) 121 0 (sm_ent 121 [.inr (some (sm_N M)), .inl (nI o), .inr (some pa), .inl (nI l), .inl (nI th), .inl (nI n)]) [] (sm_new M 33 0 13) (fun v M' => v = none ∧ FT (sm_N M) M' (sm_N M) (sm_N M + 1) pa o l th n 0 0 0 1 ∧ old_ (sm_N M) M M' ∧ sm_N M' = sm_N M + 2 ∧ sm_U M' = sm_U M + 13 + n) := by
  have hx : (if (0 : Int32) < nI n then nI n else 0) = nI n := by
    by_cases q : (0 : Int32) < nI n
    · rw [if_pos q]
    · rw [if_neg q, li_0]
      rw [li_0, nI_ltI (by decide) (by omega)] at q
      obtain rfl : n = 0 := by omega
      rfl
  refine bb_121_0 ?_
  rw [hx]
  have hK0 : sm_K (sm_new M 33 0 13) (sm_N M) = 33 := by rw [K_new, if_pos rfl]
  refine ⟨hK0, ?_, ?_, ?_, rfl, ?_⟩
  · match th, hth with
    | 0, _ => rfl
    | 1, _ => rfl
  · rw [nI_toInt (by omega)]; omega
  · rw [K_new, if_neg]
    · exact hK0
    · show sm_N M ≠ sm_N M + 1; omega
  rw [nI_clamp (by omega)]
  refine ⟨?_, ?_, rfl, rfl⟩
  · have n1 : nI 1 = 1 := rfl
    refine ⟨?_, ?_, Nat.le_refl _, by omega, by show sm_N M < sm_N M + 1 + 1; omega, by show sm_N M + 1 < sm_N M + 1 + 1; omega, ?_, fun j => ?_, ?_, ?_, ?_, ?_, ?_, ?_, ?_, ?_, ?_, ?_, ?_, ?_, ?_⟩
    all_goals simp [K_new, L_new, I_new, R_new, I_put, R_put, I_putR, R_putI, N_putI, N_putR, N_new, K_putI, K_putR, L_putR, nI_0, n1]
  · exact old_tr (old_tr (old_new (Nat.le_refl _)) (old_tr (old_tr (old_tr (old_tr (old_tr (old_putI (Nat.le_refl _)) (old_putI (Nat.le_refl _))) (old_putI (Nat.le_refl _))) (old_putR (Nat.le_refl _))) (old_putI (Nat.le_refl _))) (old_putI (Nat.le_refl _)))) (old_tr (old_new (by show sm_N M ≤ sm_N M + 1; omega)) (old_putR (Nat.le_refl _)))
theorem c_beC {n0 a b pa o l th n w v ix : Nat} (hF : FT n0 M a b pa o l th n 0 0 0 1) (hab : a ≠ b) : sm_Run D 122 0 (sm_ent 122 [.inr (some a), .inl (nI w), .inl (nI v), .inl (nI ix)]) [] M (fun r M' => r = none ∧ FT n0 M' a b pa o l th n w v ix 0 ∧ old_ n0 M M' ∧ sm_N M' = sm_N M ∧ sm_U M' = sm_U M) := by
  obtain ⟨f1, f2, f3, f4, f5, f6, f7, f8, f9, f10, f11, f12, f13, f14, f15, f16, f17, f18, f19, f20, f21⟩ := hF
  refine bb_122_0 ⟨f1, rfl, ?_, old_tr (old_tr (old_tr (old_putI f3) (old_putI f3)) (old_putI f3)) (old_putI f3), rfl, rfl⟩
  refine ⟨f1, f2, f3, f4, f5, f6, f7, fun j => ?_, ?_, ?_, ?_, ?_, ?_, ?_, ?_, ?_, ?_, ?_, ?_, f20, f21⟩
  · rw [I_put_a hab.symm, I_put_a hab.symm, I_put_a hab.symm, I_put_a hab.symm]; exact f8 j
  all_goals simp [I_put, f9, f10, f11, f15, f17, f18, f19, nI_0]
theorem gO_T {n0 u0 a b p o l th n w v ix st : Nat} (h : gO n0 u0 g P) (hn : n ≤ 100) : gO n0 u0 (gT g (s_ P 122 0) a b (g.2.2.1 + 2) (g.2.2.2 + 13 + n)) (p_mk P p o l th n w v ix st) := by
  obtain ⟨h1, h2, h3, h4, h5⟩ := h
  have s122 : s_ (p_mk P p o l th n w v ix st) 122 0 = s_ P 122 0 + 1 := by rw [s_mk, if_neg (by omega), if_pos ⟨rfl, rfl⟩]
  have s130 : s_ (p_mk P p o l th n w v ix st) 130 0 = s_ P 130 0 := by rw [s_mk, if_neg (by omega), if_neg (by omega), mkF_o (by omega)]
  have e5 : (fun e => (gT g (s_ P 122 0) a b (g.2.2.1 + 2) (g.2.2.2 + 13 + n)).2.1 5 e) = (fun e => g.2.1 5 e) := by
    funext e; rw [gT_2, if_neg (by omega), if_neg (by omega)]
  unfold gO
  rw [s122, s130, e5]
  refine ⟨fun t ht => ?_, fun i hi => ?_, fun e he => ?_, ?_, ?_⟩
  · rw [gT_2, if_neg (by omega), if_neg (by omega), gT_2, if_neg (by omega), if_neg (by omega)]
    exact h1 t (by omega)
  · rw [gT_2, if_neg (by omega), if_neg (by omega)]
    exact h2 i hi
  · rw [gT_2, if_neg (by omega), if_neg (by omega)] at he
    rw [gT_2, if_neg (by omega), if_neg (by omega), gT_2, if_neg (by omega), if_neg (by omega)]
    exact h3 e he
  · show g.2.2.1 + 2 ≤ _; omega
  · show g.2.2.2 + 13 + n ≤ _; omega
theorem gx_T {n0 u0 a b n u : Nat} (h : gO n0 u0 g P) : gx g (gT g (s_ P 122 0) a b n u) := by
  intro c i hl
  have q1 : ¬ (c = 10 ∧ i = s_ P 122 0) := by rintro ⟨rfl, rfl⟩; rw [(h.1 _ (Nat.le_refl _)).1] at hl; cases hl
  have q2 : ¬ (c = 36 ∧ i = s_ P 122 0) := by rintro ⟨rfl, rfl⟩; rw [(h.1 _ (Nat.le_refl _)).2] at hl; cases hl
  rw [gT_2, if_neg q2, if_neg q1, gT_1, if_neg q2, if_neg q1]
  exact ⟨hl, rfl⟩
/-- Host.addControl -/
def p_addC (P : pP) (d w v ix n : Nat) : pP := p_mk P 0 d (s_ P 162 d) (if w < 32768 then 0 else 1) n w v ix 0
theorem c_addC {n0 u0 d w v ix n : Nat} (h : RC g P M) (hg : gO n0 u0 g P) (hd : d < 6) (hm : s_ P 122 0 < 336) (hw1 : s_ P 123 0 + 1 < 2 ^ 31) (hn : n ≤ 100) (hw : w < 2 ^ 31) (hv : v < 2 ^ 31) (hix : ix < 2 ^ 31) : sm_Run (D + 2) 89 0 (sm_ent 89 [.inr (some (g.1 6 0)), .inl (nI d), .inl (nI w), .inl (nI v), .inl (nI ix), .inl (nI n)]) [] M (fun r M' => ∃ g', gx g g' ∧ gO n0 u0 g' (p_addC P d w v ix n) ∧ r = some (.inr (some (g'.1 10 (s_ P 122 0)))) ∧ RC g' (p_addC P d w v ix n) M') := by
  have l6 : g.2.1 6 0 = true := rc_st h (c := 6) (i := 0) (by decide)
  have l33 : g.2.1 33 0 = true := rc_st h (c := 33) (i := 0) (by decide)
  have l9 : g.2.1 9 0 = true := rc_st h (by decide)
  obtain ⟨l4, l3, l8, -⟩ := lq_s h hd
  have hN := rc_N h
  have hU := rc_U h
  have h1 := rc_old (M' := sm_new M 33 0 13) h (old_new (Nat.le_of_eq hN.symm)) rfl rfl (by show g.2.2.1 ≤ sm_N M + 1; omega)
  have ht : ∀ th, th ≤ 1 → th = (if w < 32768 then 0 else 1) → sm_Run (D + 1) 121 0 (sm_ent 121 [.inr (some (sm_N M)), .inl (nI d), .inr (sm_R (sm_new M 33 0 13) (g.1 6 0) 4), .inl (sm_I (sm_new M 33 0 13) (g.1 8 d) 2), .inl (nI th), .inl (nI n)]) [] (sm_new M 33 0 13) (fun v' M1 => sm_Run (D + 2) 89 34 [some (.inr (some (g.1 6 0))), some (.inl (nI d)), some (.inl (nI w)), some (.inl (nI v)), some (.inl (nI ix)), some (.inl (nI n)), none] (v'.toList ++ [.inr (some (sm_N M))]) M1 (fun r M' => ∃ g', gx g g' ∧ gO n0 u0 g' (p_addC P d w v ix n) ∧ r = some (.inr (some (g'.1 10 (s_ P 122 0)))) ∧ RC g' (p_addC P d w v ix n) M')) := by
    intro th hth hthe
    rw [show sm_R (sm_new M 33 0 13) (g.1 6 0) 4 = some (g.1 9 0) from (rd_6_4 h1 :), show sm_I (sm_new M 33 0 13) (g.1 8 d) 2 = nI (s_ P 162 d) from (rI_162 h1 hd :)]
    refine ru_mono (c_tinit hth hn) ?_
    rintro r M2 ⟨rfl, hF, ho, hN2, hU2⟩
    refine bb_89_34 ⟨_, rfl, hF.1, ru_mono (c_beC hF (by omega)) ?_⟩
    rintro r M3 ⟨rfl, hF3, ho3, hN3, hU3⟩
    rw [hN] at hF3 ho ho3
    have ho' : old_ g.2.2.1 M M3 := old_tr ho ho3
    have h3 := rc_old (M' := M3) h ho' rfl rfl (by omega)
    refine bb_89_45 ⟨(rc_K h3 l6 :), ?_⟩
    rw [hN]
    refine ru_mono (c_hkeep h ho' (by omega) hm hw1 l9 hF3 (hg.1 _ (Nat.le_refl _)).1 (hg.1 _ (Nat.le_refl _)).2 hn (by omega) (rc_B h _ _) (by omega) hw hv hix (by decide) (by decide)) ?_
    rintro r M4 ⟨rfl, h4⟩
    have eN : sm_N M3 = g.2.2.1 + 2 := by omega
    have eU : sm_U M3 = g.2.2.2 + 13 + n := by omega
    rw [eN, eU] at h4
    refine bb_89_51 ⟨gT g (s_ P 122 0) g.2.2.1 (g.2.2.1 + 1) (g.2.2.1 + 2) (g.2.2.2 + 13 + n), gx_T hg, gO_T hg hn, ?_, ?_⟩
    · rw [gT_1, if_neg (by omega), if_pos ⟨rfl, rfl⟩]
    · unfold p_addC
      rw [← hthe]
      exact h4
  refine bb_89_0 ⟨(rc_K h1 l6 :), _, (rd_6_0 h1 :), ⟨8, (rc_K h1 l33 :)⟩, (rc_in h1 l33 (by decide) (show d < 6 from hd) (by decide) :), g.1 8 d, ?_, (rc_K h1 l8 :), fun q => ?_, fun q => ?_⟩
  · rw [nI_clamp (by omega)]; exact (rd_33_i h1 hd :)
  · rw [li_32768, nI_ltI hw (by decide)] at q
    exact ht 0 (by decide) (by rw [if_pos q])
  · rw [li_32768, nI_ltI hw (by decide)] at q
    exact ht 1 (by decide) (by rw [if_neg q])
end HO
