theorem sm_good_in (y : Nat) (hc : Cond.code (sm_yn y) (sm_by y) (sm_mx y) (sm_rt y) ∈ sm_gws) : GoodIn sm_gws (sm_ws y) := by
  intro w hw
  rcases List.mem_cons.mp hw with rfl | hw
  · exact ⟨hc, sm_good _ hc⟩
  · exact ⟨hw, sm_good _ hw⟩
set_option maxHeartbeats 4000000 in
theorem sm_sound (l : Launch) (G : va_G) (tc : Nat → ClassId) (base : Nat) : ∀ f, sm_Snd l G tc base f := by
  intro f
  induction f with
  | zero => intro d me pc ls st M v M' h; cases h
  | succ f IH =>
    intro d me pc ls st M v M' h p e R s m args below meth c n0 u0 Q hC hn0 hu0 hcl hsl hE
    change sm_F (sm_exec f) d me pc ls st M = some (v, M') at h
    unfold sm_F at h
    split at h
    · cases h
    · rename_i i len x hat
      have hck := sm_tab hat
      split at h
      · rename_i v9 hrv
        cases h
        intro H locs lsA hR hRo hS hl hn hu
        exact hE H locs lsA pc i len x st hat hrv hR hRo hS
      · split at h
        · rename_i y As r hcall
          split at h
          · cases h
          · rename_i d'
            split at h
            · rename_i v1 M1 h1
              have mono1 := sm_exec_mono _ _ _ _ _ _ _ _ _ h1
              have mono2 := sm_exec_mono _ _ _ _ _ _ _ _ _ h
              have hcont := IH _ _ _ _ _ _ _ _ h p e R s m args below meth c n0 u0 Q hC (Nat.le_trans hn0 mono1.1) (Nat.le_trans hu0 mono1.2) hcl hsl hE
              obtain ⟨hx, hb, hml, hown, hts, hnw, hK, hAO, hbase, hini, hfr, hlo⟩ := hC
              intro H locs lsA hR hRo hS hl hn hu
              have hKs : sm_Kx G tc base s := ⟨hK, hnw, hAO, hbase⟩
              have hPc : ∀ U : State, U.heap = H → s.WarmedH U.vm → sm_Pc G tc base As M ((As.map sm_v).toArray) U := fun U hU hW =>
                ⟨rfl, by rw [hU]; exact hR, sm_Ro_to hRo hW.alike (fun q hq => by rw [hU]; exact hS.2.1 q (Nat.lt_of_lt_of_le hq hbase) (Nat.not_le.mpr hq)), sm_Kx_warm hW (by rw [hU]; exact Nat.le_trans hbase hS.1) hKs⟩
              have hgo : ∀ {st0 : List Value}, va_Run p l e R s m args below meth c H locs (sm_N M - n0) (sm_U M - u0) (sm_N M1 - sm_N M) (sm_U M1 - sm_U M) (F0 m pc lsA st0) (r.map sm_v) (sm_Qc G tc base v1 M1 ((As.map sm_v).toArray)) (sm_A base) → W p l e R s m args below meth c H locs (sm_N M - n0) (sm_U M - u0) Q (F0 m pc lsA st0) := by
                intro st0 hr
                refine sm_Wcall hr hS hbase (fun H1 locs1 a1 a2 a3 => ?_)
                have K := hcont H1 locs1 lsA a1 a2 a3 hl (Nat.le_trans hn0 mono1.1) (Nat.le_trans hu0 mono1.2)
                rw [show sm_N M - n0 + (sm_N M1 - sm_N M) = sm_N M1 - n0 by omega, show sm_U M - u0 + (sm_U M1 - sm_U M) = sm_U M1 - u0 by omega]
                have e9 : (v1.map sm_v).toList ++ r.map sm_v = (v1.toList ++ r).map sm_v := by cases v1 <;> rfl
                rw [e9]
                exact K
              have hcells : sm_N M - n0 + (sm_N M1 - sm_N M) ≤ R.cells ∧ sm_U M - u0 + (sm_U M1 - sm_U M) ≤ R.slots := by omega
              have hsz : lsA.size = sm_mx me := hl.2.1
              unfold sm_chk at hck
              rw [Bool.and_eq_true, Bool.and_eq_true, Bool.or_eq_true, decide_eq_true_eq, decide_eq_true_eq, decide_eq_true_eq] at hck
              obtain ⟨hd, hlen, hck⟩ := hck
              unfold sm_call at hcall
              split at hcall
              · -- invokevirtual
                rename_i k hrv9
                obtain rfl : len = 3 := hlen.resolve_left (by simp [sm_len])
                dsimp only at hck
                simp only [Bool.and_eq_true, decide_eq_true_eq] at hck
                obtain ⟨hy, ⟨hst, hii⟩, hci, hcn, hck⟩ := hck
                split at hcall
                · rename_i hkind
                  split at hcall
                  · rename_i b1 r1 hdrop
                    split at hcall
                    · rename_i hcc
                      obtain ⟨hKb, hr8⟩ := hcc
                      cases hcall
                      obtain ⟨k1, k2, k3, k4, k5, k6, k7, k8⟩ := sm_mok x.2.1 hy
                      rw [hst] at k8
                      obtain ⟨w1, w2, w3⟩ := k8
                      have hlen9 : (st.take (sm_np x.2.1)).length = sm_np x.2.1 := sm_take_len hdrop
                      have hM := sm_met IH h1 hy (by simp only [List.length_cons, List.length_reverse, hlen9]; omega)
                      obtain ⟨q1, q2, q3, q4, q5, q6⟩ := sm_clok x.2.2.1 hci
                      have hrecv : ∃ cellB : Cell, H[b1]? = some cellB ∧ cellB.vm.isStatics = false ∧ s.vm.findClass (sm_cn x.2.2.1) = some cellB.cls := by
                        have hP := sm_P1 hR (a := b1) (by omega)
                        rw [sm_cell_o hKb] at hP
                        exact va_recv (q := (sm_cn x.2.2.1, sm_ft x.2.2.1, sm_nf x.2.2.1)) hK hP q1 (q0 := 0) rfl
                      have hstk : st.map sm_v = (((st.take (sm_np x.2.1)).reverse).map sm_v).reverse ++ .ref b1 :: r.map sm_v := by
                        rw [List.map_reverse, List.reverse_reverse]
                        conv => lhs; rw [← List.take_append_drop (sm_np x.2.1) st, hdrop]
                        rw [List.map_append]; rfl
                      have hp : PreV s H (sm_cn x.2.2.1) b1 (sm_Pc G tc base (.inr (some b1) :: (st.take (sm_np x.2.1)).reverse) M) (((st.take (sm_np x.2.1)).reverse).map sm_v) := ⟨sm_blind _ _ _ _ _, hrecv, hPc⟩
                      have hn9 : (((st.take (sm_np x.2.1)).reverse).map sm_v).length = sm_np x.2.1 := by rw [List.length_map, List.length_reverse]; exact hlen9
                      have hr9 : 2 * (F0 m pc lsA (st.map sm_v)).monitorRoom + ((r.map sm_v).map fun v => v.category).sum ≤ 8 := by show 2 * 0 + _ ≤ 8; rw [sm_cat_sum]; omega
                      rcases hkind with hkind | hkind
                      · rw [if_pos hkind] at hck
                        refine hgo (va_runV (C := sm_cn x.2.2.1) (bytes := sm_by x.2.1) (maxL := sm_mx x.2.1) (ret := sm_rt x.2.1) (n := sm_np x.2.1) ⟨hx, hb, hml, hown, hts⟩ hM ⟨callB_of (sm_np x.2.1) hts (sm_good_in _ k2) rfl rfl rfl (hts _ k3) (hts _ (sm_gw (of_decide_eq_true hck) rfl)) k4 ⟨by show d' + 1 ≤ _; omega, by show 8 + (sm_mx x.2.1 + 11) + 43 * d' ≤ _; omega⟩, hts _ w1, by rw [← hcn]; exact hts _ (w3 hii)⟩ hp rfl hn9 hsz hstk hr9 hd hcells)
                      · rw [if_neg (by rw [hkind]; decide)] at hck
                        refine hgo (va_runVN (C := sm_cn x.2.2.1) (bytes := sm_by x.2.1) (maxL := sm_mx x.2.1) (ret := sm_rt x.2.1) (n := sm_np x.2.1) ⟨hx, hb, hml, hown, hts⟩ hM ⟨va_cnB (sm_np x.2.1) hts (sm_good_in _ k2) rfl rfl rfl (hnw _ (sm_nw (of_decide_eq_true hck) rfl)) (hts _ k3) k4 ⟨by show d' + 1 ≤ _; omega, by show 8 + (sm_mx x.2.1 + 11) + 43 * d' ≤ _; omega⟩, hts _ w1, by rw [← hcn]; exact hts _ (w3 hii)⟩ hp rfl hn9 hsz hstk hr9 hd hcells)
                    · cases hcall
                  · cases hcall
                · cases hcall
              · -- invokespecial
                rename_i k hrv9
                obtain rfl : len = 3 := hlen.resolve_left (by simp [sm_len])
                dsimp only at hck
                split at hcall
                · rename_i hkind
                  rw [if_neg (by omega)] at hck
                  split at hcall
                  · rename_i b1 r1 hdrop
                    split at hcall
                    · rename_i hr8
                      cases hcall
                      have hck2 : (x.2.1 < sm_nm ∧ ((sm_yn x.2.1).name = "<init>" ∧ sm_st x.2.1 = false ∧ sm_rt x.2.1 = none)) ∧ ((x.1 = 14 → (Cond.methodLink (sm_ow me) k (sm_yn x.2.1)).before args s = true) ∧ (x.1 = 15 → va_Nw (.methodLinkNest (sm_ow me) k (sm_yn x.2.1) (sm_ho me)) s)) := by
                        rcases hkind with hkind | hkind
                        · rw [if_pos hkind] at hck
                          simp only [Bool.and_eq_true, decide_eq_true_eq] at hck
                          exact ⟨⟨hck.1, hck.2.1⟩, fun _ => hts _ (sm_gw hck.2.2 rfl), fun q => by omega⟩
                        · rw [if_neg (by omega)] at hck
                          simp only [Bool.and_eq_true, decide_eq_true_eq] at hck
                          exact ⟨⟨hck.1, hck.2.1⟩, fun q => by omega, fun _ => hnw _ (sm_nw hck.2.2 rfl)⟩
                      obtain ⟨⟨hy, hnm1, hst, hrt⟩, hl14, hl15⟩ := hck2
                      obtain ⟨k1, k2, k3, k4, k5, k6, k7, k8⟩ := sm_mok x.2.1 hy
                      rw [hst] at k8
                      obtain ⟨w1, w2, w3⟩ := k8
                      have hlen9 : (st.take (sm_np x.2.1)).length = sm_np x.2.1 := sm_take_len hdrop
                      have hM := sm_met IH h1 hy (by simp only [List.length_cons, List.length_reverse, hlen9]; omega)
                      have hstk : st.map sm_v = (((st.take (sm_np x.2.1)).reverse).map sm_v).reverse ++ .ref b1 :: r.map sm_v := by
                        rw [List.map_reverse, List.reverse_reverse]
                        conv => lhs; rw [← List.take_append_drop (sm_np x.2.1) st, hdrop]
                        rw [List.map_append]; rfl
                      have hp : PreS s H (sm_Pc G tc base (.inr (some b1) :: (st.take (sm_np x.2.1)).reverse) M) (.ref b1 :: ((st.take (sm_np x.2.1)).reverse).map sm_v) := ⟨sm_blind _ _ _ _ _, hPc⟩
                      have hn9 : (((st.take (sm_np x.2.1)).reverse).map sm_v).length = sm_np x.2.1 := by rw [List.length_map, List.length_reverse]; exact hlen9
                      have hr9 : 2 * (F0 m pc lsA (st.map sm_v)).monitorRoom + ((r.map sm_v).map fun v => v.category).sum ≤ 8 := by show 2 * 0 + _ ≤ 8; rw [sm_cat_sum]; omega
                      have hw9 : sm_ws x.2.1 = Cond.code (sm_yn x.2.1) (sm_by x.2.1) (sm_mx x.2.1) none :: sm_gws := by unfold sm_ws; rw [hrt]
                      rcases hkind with hkind | hkind
                      · exact hgo (va_runI (bytes := sm_by x.2.1) (maxL := sm_mx x.2.1) (n := sm_np x.2.1) ⟨hx, hb, hml, hown, hts⟩ hM ⟨callB_of (sm_np x.2.1) hts (sm_good_in _ k2) hw9 rfl rfl (hts _ k3) (hl14 hkind) k4 ⟨by show d' + 1 ≤ _; omega, by show 8 + (sm_mx x.2.1 + 11) + 43 * d' ≤ _; omega⟩, hnm1, hts _ w1⟩ hp rfl hn9 hsz hstk hr9 hd hcells)
                      · exact hgo (va_runIN (bytes := sm_by x.2.1) (maxL := sm_mx x.2.1) (n := sm_np x.2.1) ⟨hx, hb, hml, hown, hts⟩ hM ⟨va_cnB (sm_np x.2.1) hts (sm_good_in _ k2) hw9 rfl rfl (hl15 hkind) (hts _ k3) k4 ⟨by show d' + 1 ≤ _; omega, by show 8 + (sm_mx x.2.1 + 11) + 43 * d' ≤ _; omega⟩, hnm1, hts _ w1⟩ hp rfl hn9 hsz hstk hr9 hd hcells)
                    · cases hcall
                  · cases hcall
                · cases hcall
              · -- invokestatic
                rename_i k hrv9
                obtain rfl : len = 3 := hlen.resolve_left (by simp [sm_len])
                dsimp only at hck
                split at hcall
                · rename_i hkind
                  rw [if_neg (by omega), if_neg (by omega), if_neg (by omega)] at hck
                  split at hcall
                  · rename_i hcc
                    obtain ⟨hnp, hr8⟩ := hcc
                    cases hcall
                    have hck2 : (x.2.1 < sm_nm ∧ sm_st x.2.1 = true) ∧ ((x.1 = 12 → (Cond.methodLink (sm_ow me) k (sm_yn x.2.1)).before args s = true) ∧ (x.1 = 13 → va_Nw (.methodLinkNest (sm_ow me) k (sm_yn x.2.1) (sm_ho me)) s)) := by
                      rcases hkind with hkind | hkind
                      · rw [if_pos hkind] at hck
                        simp only [Bool.and_eq_true, decide_eq_true_eq] at hck
                        exact ⟨hck.1, fun _ => hts _ (sm_gw hck.2 rfl), fun q => by omega⟩
                      · rw [if_neg (by omega)] at hck
                        simp only [Bool.and_eq_true, decide_eq_true_eq] at hck
                        exact ⟨hck.1, fun q => by omega, fun _ => hnw _ (sm_nw hck.2 rfl)⟩
                    obtain ⟨⟨hy, hst⟩, hl12, hl13⟩ := hck2
                    obtain ⟨k1, k2, k3, k4, k5, k6, k7, k8⟩ := sm_mok x.2.1 hy
                    rw [hst] at k8
                    obtain ⟨w1, w2⟩ := k8
                    have hlen9 : (st.take (sm_np x.2.1)).length = sm_np x.2.1 := by rw [List.length_take]; omega
                    have hM := sm_met IH h1 hy (by simp only [List.length_reverse, hlen9]; omega)
                    have hstk : st.map sm_v = (((st.take (sm_np x.2.1)).reverse).map sm_v).reverse ++ (st.drop (sm_np x.2.1)).map sm_v := by
                      rw [List.map_reverse, List.reverse_reverse, ← List.map_append, List.take_append_drop]
                    have hp : PreS s H (sm_Pc G tc base ((st.take (sm_np x.2.1)).reverse) M) (((st.take (sm_np x.2.1)).reverse).map sm_v) := ⟨sm_blind _ _ _ _ _, hPc⟩
                    have hn9 : (((st.take (sm_np x.2.1)).reverse).map sm_v).length = sm_np x.2.1 := by rw [List.length_map, List.length_reverse]; exact hlen9
                    have hr9 : 2 * (F0 m pc lsA (st.map sm_v)).monitorRoom + (((st.drop (sm_np x.2.1)).map sm_v).map fun v => v.category).sum ≤ 8 := by show 2 * 0 + _ ≤ 8; rw [sm_cat_sum]; omega
                    rcases hkind with hkind | hkind
                    · exact hgo (va_runS (bytes := sm_by x.2.1) (maxL := sm_mx x.2.1) (ret := sm_rt x.2.1) (n := sm_np x.2.1) ⟨hx, hb, hml, hown, hts⟩ hM ⟨callB_of (sm_np x.2.1) hts (sm_good_in _ k2) rfl rfl rfl (hts _ k3) (hl12 hkind) k4 ⟨by show d' + 1 ≤ _; omega, by show 8 + (sm_mx x.2.1 + 11) + 43 * d' ≤ _; omega⟩, hts _ w1⟩ hp rfl hn9 hsz hstk hr9 hd hcells)
                    · exact hgo (va_runSN (bytes := sm_by x.2.1) (maxL := sm_mx x.2.1) (ret := sm_rt x.2.1) (n := sm_np x.2.1) ⟨hx, hb, hml, hown, hts⟩ hM ⟨va_cnB (sm_np x.2.1) hts (sm_good_in _ k2) rfl rfl rfl (hl13 hkind) (hts _ k3) k4 ⟨by show d' + 1 ≤ _; omega, by show 8 + (sm_mx x.2.1 + 11) + 43 * d' ≤ _; omega⟩, hts _ w1, trivial⟩ hp rfl hn9 hsz hstk hr9 hd hcells)
                  · cases hcall
                · cases hcall
              · cases hcall
            · cases h
        · split at h
          · rename_i pc' ls' st' M2 hstep
            have mono1 := sm_step_mono hstep
            have mono2 := sm_exec_mono _ _ _ _ _ _ _ _ _ h
            have hcont := IH _ _ _ _ _ _ _ _ h p e R s m args below meth c n0 u0 Q hC (Nat.le_trans hn0 mono1.1) (Nat.le_trans hu0 mono1.2) hcl hsl hE
            exact sm_step_ok hC hck hstep (Nat.le_trans (Nat.sub_le_sub_right mono2.1 _) hcl) (Nat.le_trans (Nat.sub_le_sub_right mono2.2 _) hsl) hcont
          · cases h
