/-! The claim, of the small machine. -/
section JM_
variable {b L : Nat} {M : sm_M}
theorem lw_cell {y : Int32} {D : Nat} (hk : sm_K M b = 1) (hl : sm_L M b = L) (hL : L ≤ 3073) (hy : y = if L = 0 then 0 else sm_I M b 0) : sm_Run D 208 0 (sm_ent 208 [.inr (some b), .inl 0]) [] M (fun v M' => v = some (.inl y) ∧ M' = M) := by
  refine bb_208_0 ⟨b, rfl, by rw [hk]; decide, fun q => ?_, fun q => ⟨iA_of hk, ?_, ?_, rfl⟩⟩
  · rw [hl, oN, li_0, nI_leI (by omega) (by decide)] at q
    rw [if_pos (by omega)] at hy
    rw [hy]; exact ⟨rfl, rfl⟩
  · rw [hl, oN, li_0, nI_leI (by omega) (by decide)] at q
    exact in_of (j := 0) rfl (by omega) hL hl
  · rw [hl, oN, li_0, nI_leI (by omega) (by decide)] at q
    rw [if_neg (by omega)] at hy
    rw [hy]; rfl
end JM_
theorem sm_goal : sm_Goal := by
  intro b L xs M hL hs
  obtain ⟨hU, hK, hb, hbl, hbi, ht⟩ := hs
  have wf0 : sm_Wf M := fun a ha => (hK a ha).2
  have hb0 : b < sm_N M := (hK b (by rw [hb]; decide)).2
  generalize hy : (if L = 0 then (0 : Int32) else sm_I M b 0) = y
  obtain ⟨r, er, r1, r40⟩ := room_nI y
  have scr : ∀ {k : Nat} {M1 M2 : sm_M}, sm_K M1 b = 1 ∧ sm_L M1 b = L ∧ sm_I M1 b = sm_I M b → sm_Fr k M1 M2 → sm_K M2 b = 1 ∧ sm_L M2 b = L ∧ sm_I M2 b = sm_I M b := fun {k M1 M2} h f => by
    obtain ⟨k1, k2, k3⟩ := h
    obtain ⟨e1, e2, e3⟩ := f.2.2.1 b (by rw [k1]; decide)
    exact ⟨e1.trans k1, e2.trans k2, (e3 (Or.inl k1)).1.trans k3⟩
  have go : sm_Run 12 209 0 (sm_ent 209 [.inr (some b)]) [] M (fun v M' => v = some (.inl 1) ∧ sm_N M' ≤ sm_N M + 600000 ∧ sm_U M' ≤ 7302250) := by
    have wfa := sm_Wf_new (K := 3) (n := 0) (u := 5) wf0
    have fra := sm_Fr_new (g := 0) (K := 3) (n := 0) (u := 5) wf0 (by decide) (by decide)
    have sa := scr ⟨hb, hbl, rfl⟩ fra
    refine bb_209_0 (ru_mono (lw_cell (D := 11) (L := L) sa.1 sa.2.1 hL (by rw [sa.2.2, hy])) ?_)
    rintro v Ma ⟨rfl, rfl⟩
    refine bb_209_9 ⟨_, rfl, ru_mono (ru_fr (c_buI (D := 7) (x := y)) (by decide) wfa) ?_⟩
    rintro v M1 ⟨⟨rfl, ⟨o1, n1, u1⟩, bf⟩, wf1, fr1⟩
    have fr1 : sm_Fr 0 (sm_new M 3 0 5) M1 := fr1
    have s1 := scr sa fr1
    have tb : tbl M1 := fun k hk => by
      obtain ⟨t, t1, t2, t3, t4⟩ := ht k hk
      have tn := (hK t (by rw [t2]; decide)).2
      obtain ⟨q1, q2, q3, q4⟩ := o1.1 t tn
      exact ⟨t, by rw [o1.2]; exact t1, ⟨q1.trans t2, by omega⟩, q2.trans t3, fun j hj => by rw [q3]; exact t4 j hj⟩
    rw [er] at bf
    have rc1 := rc_start bf r40 rfl rfl (by omega) tb
    -- the reference
    have wfb := sm_Wf_new (K := 39) (n := 0) (u := 88) wf1
    have frb := sm_Fr_new (g := 1) (K := 39) (n := 0) (u := 88) wf1 (by decide) (by decide)
    have sb := scr s1 frb
    refine bb_209_12 (ru_mono (lw_cell (D := 11) (L := L) sb.1 sb.2.1 hL (by rw [sb.2.2, hy])) ?_)
    rintro v Mb ⟨rfl, rfl⟩
    refine bb_209_22 ⟨_, rfl, ru_mono (ru_fr (r_build (D := 10) (a := sm_N M1) (x := y) (M := sm_new M1 39 0 88) (by rw [K_new, if_pos rfl]) (by rw [N_new]; omega) (fun k => by rw [I_new, if_pos rfl])) (by decide) wfb) ?_⟩
    rintro v M3 ⟨⟨rfl, ⟨ra, R, rm, rs⟩, n3, u3⟩, wf3, fr3⟩
    have fr3 : sm_Fr 1 (sm_new M1 39 0 88) M3 := fr3
    have s3 := scr sb fr3
    have fr13 := sm_Fr_tr frb fr3
    have rc3 : RC (g0 (sm_N M) (sm_N M3) (sm_U M3)) (P0 r) M3 := rc_fr rc1 fr13
    rw [er] at rs
    have go3 : gO (sm_N M3) (sm_U M3) (g0 (sm_N M) (sm_N M3) (sm_U M3)) (P0 r) := gO_start
    have hE : EXO (P0 r) := ⟨_, _, _, M3, rc3, go3⟩
    have li : LI b L (sm_I M b) (sm_N M) (sm_N M1) (sm_N M3) (sm_U M3) 0 M3 := ⟨wf3, s3, _, P0 r, ra, R, rfl, rc3, go3, rm, co_start hE r1 r40 rs, Nat.zero_le _⟩
    have n2 : sm_N (sm_new M1 39 0 88) = sm_N M1 + 1 := rfl
    have u2 : sm_U (sm_new M1 39 0 88) = sm_U M1 + 88 := rfl
    refine bb_209_25 (ru_mono (lw_loop hL 513 0 M3 rfl li) ?_)
    rintro v M4 ⟨rfl, k1, k2⟩
    exact ⟨rfl, by omega, by omega⟩
  obtain ⟨v, M', ev, rfl, k1, k2⟩ := go
  exact ⟨M', ev, k1, k2⟩
