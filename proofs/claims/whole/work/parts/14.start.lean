theorem sm_w_ao : ∀ ci ∈ sm_arrs, Cond.arrayOver (.object (sm_cn ci)) ∈ lw_tbl := by
  have h : ∀ ci ∈ sm_arrs, lw_tbl[([(7, 134), (4, 207), (5, 214), (8, 347), (10, 349), (9, 397)].lookup ci).getD 0]? = some (Cond.arrayOver (.object (sm_cn ci))) := by decide +kernel
  exact fun ci hc => List.mem_of_getElem? (h ci hc)
theorem sm_w_st : ∀ k, k < 3 → Cond.laysStatic (sm_sn k).1 (sm_sn k).2.1 (sm_sn k).2.2 ∈ lw_tbl := by
  have h : ∀ k, k < 3 → lw_tbl[[918, 927, 929].getD k 0]? = some (Cond.laysStatic (sm_sn k).1 (sm_sn k).2.1 (sm_sn k).2.2) := by decide +kernel
  exact fun k hk => List.mem_of_getElem? (h k hk)
theorem sm_w_si : ∀ k, k < 3 → Cond.initialized (sm_sn k).1 ∈ sm_gws := by
  intro k hk
  have h : (sm_sn k).1 = sm_cn 4 := by
    rcases (show k = 0 ∨ k = 1 ∨ k = 2 by omega) with rfl | rfl | rfl <;> rfl
  rw [h]
  exact (sm_clok 4 (by decide)).2.2.2.2.2
abbrev sm_tm (k : Nat) : Term := Term.static (sm_sn k).1 (sm_sn k).2.1 (sm_sn k).2.2
theorem sm_f_arr : ∀ k, k < 3 → Cond.arrayOf (sm_tm k) .int ∈ flatC (Jvm.Cond.and given_1 narrow_1) := by decide +kernel
theorem sm_f_len : ∀ k, k < 3 → Cond.eq (.length (sm_tm k)) (.int (Int32.ofNat (sm_Dk k).length)) ∈ flatC (Jvm.Cond.and given_1 narrow_1) := by decide +kernel
theorem sm_f_el : ∀ k, k < 3 → ∀ j, j < (sm_Dk k).length → Cond.eq (.elem (sm_tm k) (.int (Int32.ofNat j))) (.int ((sm_Dk k).getD j 0)) ∈ flatC (Jvm.Cond.and given_1 narrow_1) := by decide +kernel
theorem sm_isN_on {w : Cond} (h : sm_isN w = true) : w.onTables = true := by
  unfold sm_isN at h
  split at h
  · rfl
  · rfl
  · cases h
set_option maxHeartbeats 4000000 in
theorem sm_start (hg : sm_Goal) {p : Program} {e : Env} {s : State} {m : MethodId} {below : List Frame} {meth : Method} {c : Code} (l : Launch) {b L : Nat} {xs : Nat → Int32} (hL : L ≤ 3073) (C0 : lw_At p s m meth c b L xs) : W p l e room_1 s m #[Value.ref b] below meth c s.heap [] 0 0 (lw_Z below #[Value.ref b] s) (entryFrame m ([Value.ref b] : List Value).toArray 4) := by
  obtain ⟨hx, hb, hr, hml, hown, hts, hX, hbl, hlocks, hgv⟩ := C0
  have htg : ∀ w ∈ sm_gws, w.before #[Value.ref b] s = true := fun w h => hts w (List.mem_filter.mp h).1
  have htn : ∀ w ∈ sm_nws, va_Nw w s := fun w h => va_Nw.of (sm_isN_on (sm_nws_ok w h)) (hts w (List.mem_filter.mp h).1)
  -- classes
  have hcls : ∀ ci, ∃ q : ClassId × (Nat → Nat), ci < sm_nc → u_Kn s (sm_cn ci) (sm_ft ci) (sm_nf ci) q.1 q.2 := by
    intro ci
    by_cases hci : ci < sm_nc
    · obtain ⟨q1, q2, q3, q4, q5, q6⟩ := sm_clok ci hci
      obtain ⟨cC, iS, h⟩ := u_known (ws := sm_gws) htg q2 (htg _ q5)
      exact ⟨(cC, iS), fun _ => h⟩
    · exact ⟨(0, fun _ => 0), fun h => absurd h hci⟩
  obtain ⟨dq, hdq⟩ : ∃ dq : Nat → ClassId × (Nat → Nat), ∀ ci, ci < sm_nc → u_Kn s (sm_cn ci) (sm_ft ci) (sm_nf ci) (dq ci).1 (dq ci).2 := ⟨fun ci => Classical.choose (hcls ci), fun ci => Classical.choose_spec (hcls ci)⟩
  -- array classes
  obtain ⟨cI, kI, oI, f1, f2, f3⟩ := Cond.arrayClass_spec (htg _ sm_w_ai)
  obtain ⟨cZ, kZ, oZ, z1, z2, z3⟩ := Cond.arrayClass_spec (htg _ sm_w_ab)
  have hAO : ∀ ci ∈ sm_arrs, va_AO (sm_cn ci) s := fun ci hc => va_AO.of (hts _ (sm_w_ao ci hc))
  have harr : ∀ ci, ∃ cA : ClassId, ci ∈ sm_arrs → ArrOfT s cA (.object (sm_cn ci)) ∧ va_RA s cA (.object (sm_cn ci)) := by
    intro ci
    by_cases hc : ci ∈ sm_arrs
    · obtain ⟨comp, cA, k, h1, h2, h3, h4, h5⟩ := Cond.arrayOver_spec (hAO ci hc)
      exact ⟨cA, fun _ => ⟨fun n z => ⟨fun k h => (by cases h), k, h3, comp, h4⟩, k, comp, h3, h4, h1, h5⟩⟩
    · exact ⟨0, fun h => absurd h hc⟩
  obtain ⟨ta, hta⟩ : ∃ ta : Nat → ClassId, ∀ ci ∈ sm_arrs, ArrOfT s (ta ci) (.object (sm_cn ci)) ∧ va_RA s (ta ci) (.object (sm_cn ci)) := ⟨fun ci => Classical.choose (harr ci), fun ci => Classical.choose_spec (harr ci)⟩
  obtain ⟨tc, htc⟩ : ∃ tc : Nat → ClassId, tc = fun n => if n = 0 then cI else if n = 999 then cZ else ta (n - 1) := ⟨_, rfl⟩
  obtain ⟨G, hG⟩ : ∃ G : va_G, G = (fun ci => (dq ci).1, fun ci => (dq ci).2) := ⟨_, rfl⟩
  have hK : va_K G sm_cl (sm_tys tc) s := by
    refine ⟨fun ci q hq => ?_, fun k q hk => ?_⟩
    · have hlt : ci < sm_nc := (List.getElem?_eq_some_iff.mp hq).1
      have h1 := (sm_clok ci hlt).1
      cases hq.symm.trans h1
      rw [hG]
      exact hdq ci hlt
    · rcases List.mem_cons.mp (List.mem_of_getElem? hk) with rfl | hm
      · rw [htc]
        exact ⟨fun n z => ⟨fun k h => (by cases h), kI, f2, oI, f3⟩, f1⟩
      · rcases List.mem_cons.mp hm with rfl | hm
        · rw [htc]
          exact ⟨fun n z => ⟨fun k h => (by cases h), kZ, z2, oZ, z3⟩, z1⟩
        · obtain ⟨ci, hci, rfl⟩ := List.mem_map.mp hm
          have hlt : ci < 13 := sm_arr_lt hci
          have e9 : tc (1 + ci) = ta ci := by
            rw [htc]
            show (if 1 + ci = 0 then cI else if 1 + ci = 999 then cZ else ta (1 + ci - 1)) = ta ci
            rw [if_neg (by omega), if_neg (by omega), Nat.add_sub_cancel_left]
          show ArrOfT s (tc (1 + ci)) _ ∧ va_RA s (tc (1 + ci)) _
          rw [e9]
          exact hta ci hci
  -- what nobody writes
  have hnA : ∀ a : Nat, a < s.heap.size → ¬ sm_A s.heap.size a := fun a h => Nat.not_le.mpr h
  have hfl := flat_of_before _ hgv
  have hst : ∀ k, ∃ t : Nat, k < 3 → (sm_tm k).eval #[Value.ref b] s none [] s = some (.ref t) ∧ va_T .int t (sm_Dk k).length (fun j => .int ((sm_Dk k).getD j 0)) (sm_A s.heap.size) s s.heap := by
    intro k
    by_cases hk : k < 3
    · have hN : (sm_Dk k).length < 2 ^ 31 := by
        rcases (show k = 0 ∨ k = 1 ∨ k = 2 by omega) with rfl | rfl | rfl <;> decide
      obtain ⟨t, h1, h2⟩ := va_Tof (f := fun j => .int ((sm_Dk k).getD j 0)) hN (hfl _ (sm_f_arr k hk)) (va_eqt (hfl _ (sm_f_len k hk))) (fun j hj => va_eqt (hfl _ (sm_f_el k hk j hj))) hnA
      exact ⟨t, fun _ => ⟨h1, h2⟩⟩
    · exact ⟨0, fun h => absurd h hk⟩
  obtain ⟨ts, hts2⟩ : ∃ ts : Nat → Nat, ∀ k, k < 3 → (sm_tm k).eval #[Value.ref b] s none [] s = some (.ref (ts k)) ∧ va_T .int (ts k) (sm_Dk k).length (fun j => .int ((sm_Dk k).getD j 0)) (sm_A s.heap.size) s s.heap := ⟨fun k => Classical.choose (hst k), fun k => Classical.choose_spec (hst k)⟩
  have hTb : va_T .int b L (fun j => .int (xs j)) (sm_A s.heap.size) s s.heap := by
    obtain ⟨scr, h1, h2, h3, h4, h5⟩ := hX
    exact ⟨scr, h1, h2, h3, (by rw [h4]; exact Nat.le_refl _), (by rw [h4] <;> rfl), h5, hnA b hbl⟩
  obtain ⟨ro, hro⟩ : ∃ ro : List sm_Q, ro = [(b, L, xs), (ts 0, (sm_Dk 0).length, fun j => (sm_Dk 0).getD j 0), (ts 1, (sm_Dk 1).length, fun j => (sm_Dk 1).getD j 0), (ts 2, (sm_Dk 2).length, fun j => (sm_Dk 2).getD j 0)] := ⟨_, rfl⟩
  have hroT : ∀ q ∈ ro, va_T .int q.1 q.2.1 (fun j => .int (q.2.2 j)) (sm_A s.heap.size) s s.heap ∧ q.2.1 < 2 ^ 31 := by
    intro q hq
    rw [hro] at hq
    simp only [List.mem_cons, List.not_mem_nil, or_false] at hq
    rcases hq with rfl | rfl | rfl | rfl
    · exact ⟨hTb, Nat.lt_of_le_of_lt hL (by decide)⟩
    · exact ⟨(hts2 0 (by decide)).2, (by show (sm_Dk 0).length < 2 ^ 31; decide)⟩
    · exact ⟨(hts2 1 (by decide)).2, (by show (sm_Dk 1).length < 2 ^ 31; decide)⟩
    · exact ⟨(hts2 2 (by decide)).2, (by show (sm_Dk 2).length < 2 ^ 31; decide)⟩
  have hlt0 : ∀ q ∈ ro, q.1 < s.heap.size := fun q hq => by
    obtain ⟨cell, h1, -⟩ := (hroT q hq).1
    exact (Array.getElem?_eq_some_iff.mp h1).1
  obtain ⟨M, hM⟩ : ∃ M : sm_M, M = sm_M0 ro (fun k => some (ts k)) s.heap.size := ⟨_, rfl⟩
  have hin : ∀ k, k < 3 → (ts k, (sm_Dk k).length, fun j => (sm_Dk k).getD j 0) ∈ ro := by
    intro k hk
    rw [hro]
    rcases (show k = 0 ∨ k = 1 ∨ k = 2 by omega) with rfl | rfl | rfl <;> simp
  have hSt : sm_Start b L xs M := by
    rw [hM]
    have hb1 := sm_M0_at (S := fun k => some (ts k)) (n := s.heap.size) hroT (q := (b, L, xs)) (by rw [hro]; exact List.mem_cons_self)
    refine ⟨rfl, fun a ha => ?_, hb1.1, hb1.2.1, hb1.2.2, fun k hk => ⟨ts k, rfl, sm_M0_at hroT (hin k hk)⟩⟩
    obtain ⟨h1, q, hq, rfl, -⟩ := sm_M0_K ha
    exact ⟨h1, hlt0 q hq⟩
  have hRep : sm_Rep G tc s.heap.size M s.heap := by
    have hK01 : ∀ a, sm_K M a = 0 ∨ sm_K M a = 1 := fun a => by
      by_cases h : sm_K M a = 0
      · exact Or.inl h
      · rw [hM] at h ⊢; exact Or.inr (sm_M0_K h).1
    refine ⟨by rw [hM]; rfl, fun a => ?_, fun a ha => ?_⟩
    · rcases hK01 a with h | h <;> rw [h] <;> decide
    · rcases hK01 a with h | h <;> omega
  have hRo : sm_Ro s.heap.size M s s.heap := by
    refine ⟨fun a ha => ?_, fun k hk => ?_⟩
    · rw [hM] at ha ⊢
      obtain ⟨-, q, hq, rfl, e1, e2⟩ := sm_M0_K (by rw [ha]; decide)
      rw [e1, e2]
      exact (hroT q hq).1
    · have hk3 : k < 3 := hk
      rw [hM]
      exact va_Zof (hts _ (sm_w_st k hk3)) (htg _ (sm_w_si k hk3)) (hts2 k hk3).1 hnA
  obtain ⟨M', ⟨f, hf⟩, hN, hU⟩ := hg b L xs M hL hSt
  have hN0 : sm_N M = s.heap.size := hRep.1
  have hU0 : sm_U M = 0 := hSt.1
  have hC : sm_Cx p room_1 s m #[Value.ref b] meth c G tc s.heap.size 12 209 := ⟨hx, hb, hml, hown, htg, htn, hK, hAO, Nat.le_refl _, (fun h => by cases h), (by decide), (by decide)⟩
  have hE : sm_End p l e room_1 s m #[Value.ref b] below meth c G tc s.heap.size (sm_N M) (sm_U M) (lw_Z below #[Value.ref b] s) 209 (some (.inl 1)) M' := by
    intro H locs lsA pc i len x st hat hrv hR hRo' hS
    have hck := sm_tab hat
    unfold sm_chk at hck
    rw [Bool.and_eq_true, Bool.and_eq_true, Bool.or_eq_true, decide_eq_true_eq, decide_eq_true_eq, decide_eq_true_eq] at hck
    obtain ⟨hd, hlen, -⟩ := hck
    unfold sm_rv at hrv
    split at hrv
    · obtain rfl : len = 1 := hlen.resolve_left (by simp [sm_len])
      split at hrv
      · split at hrv
        · cases hrv
          refine va_forget hS.2.2 ?_
          refine W.widen (k := 600000) (n := 7302250) (by omega) (by omega) ?_
          exact lw_ret hx hb hr hlocks hd
        · cases hrv
      · cases hrv
    · split at hrv
      · split at hrv <;> cases hrv
      · cases hrv
    · split at hrv
      · split at hrv <;> cases hrv
      · cases hrv
    · cases hrv
  have K := sm_sound l G tc s.heap.size f 12 209 0 _ [] M _ M' hf p e room_1 s m #[Value.ref b] below meth c (sm_N M) (sm_U M) _ hC (Nat.le_refl _) (Nat.le_refl _) (by show _ ≤ 600000; omega) (by show _ ≤ 7302250; omega) hE s.heap [] _ hRep hRo va_S.rf (sm_ls_ent (by show 1 ≤ sm_mx 209; decide)) (Nat.le_refl _) (Nat.le_refl _)
  rw [Nat.sub_self, Nat.sub_self] at K
  rw [lg_entry_eq]
  exact K
