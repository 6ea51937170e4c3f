/-! A frame, both sides: bulk. -/
section II_
variable {a : Nat} {ra : Nat → Nat} {R R' : Nat → Nat → Int32} {M : sm_M} {D : Nat} {P Pc P1 X Z : pP} {d k t i n m : Nat}
theorem nk_put {v : Nat} (hd : d < 6) (hk : k < s_ P 164 d) (h6 : ∀ e, e < 6 → s_ P 164 e ≤ 6) (hI : II P) (ho : ∀ e k', e < 6 → k' < s_ P 164 e → s_ P 181 (pid P e k') ≠ 0 → pid P e k' ≠ pid P d k → R 68 (10 * e + k') = nI (if s_ P 186 (pid P e k') = s_ P 126 0 + 1 then 1 else 0)) (hr : ∀ j, R' 68 j = if j = 10 * d + k then nI v else R 68 j) (hv : v = if s_ P 186 (pid P d k) = s_ P 126 0 + 1 then 1 else 0) : NK P R' := by
  intro e k' he hk' h181
  have b1 := h6 e he
  have b2 := h6 d hd
  rw [hr]
  by_cases c : pid P e k' = pid P d k
  · obtain ⟨rfl, rfl⟩ := hI e k' d k he hd hk' hk c
    rw [if_pos rfl, hv]
  · have n : ¬ 10 * e + k' = 10 * d + k := fun q => c (by rw [show e = d by omega, show k' = k by omega])
    rw [if_neg n]
    exact ho e k' he hk' h181 c
theorem r_227 : ∀ (n : Nat) (P : pP) (R : Nat → Nat → Int32) (M : sm_M) (Pc : pP) (x1 x2 : Int32) (z4 z5 z6 z7 z8 : Option sm_V), RM a ra R M → FI P R n → (s_ P 186 0 = s_ P 126 0 + 1 ∨ fw0 P 0 = none) → AEc P Pc → s_ Pc 127 0 = 36 → (s_ P 123 0 ≠ 0 → p_choose P = p_cb Pc (s_ P 128 0) 36) → sm_Run (D + 8) 191 227 [some (.inr (some a)), some (.inl x1), some (.inl x2), some (.inl (nI 1)), z4, z5, z6, z7, z8] [] M (FQ a ra (p_inner P n)) := by
  intro n
  induction n with
  | zero =>
    intro P R M Pc x1 x2 z4 z5 z6 z7 z8 h hF hN hA h127 hc
    refine bb_191_227 ⟨fun q => absurd q (by decide), fun _ => ⟨h.1, ?_⟩⟩
    rw [rS_87 h, hF.2.2.2.2.2.1]
    exact ⟨fun _ => r_398 (D := D + 7) h hF (Or.inl rfl), fun q => absurd (by decide) q⟩
  | succ m ihn =>
    intro P R M Pc0 x1 x2 z4 z5 z6 z7 z8 h hF hN hA0 h1270 hc0
    obtain ⟨f1, f2, f3, f4, f5, f6, f7, f8, f9, f10⟩ := id hF
    have hx := exo_ex f3
    obtain ⟨hX, hH⟩ := xr_xw.mp f1
    obtain ⟨iG, iT, iW, iU, iF, iN, iR, iQ, iD, iI⟩ := id f2
    have g5 := iG.2.2.2.2.1
    obtain ⟨sv, r69, sv60, svp⟩ : ∃ sv, R 69 0 = nI sv ∧ sv < 60 ∧ nxp (s_ P 128 0) = plc (sv + 1) % 36 := by
      rcases f5 with c | ⟨c1, c2⟩
      · refine ⟨_, c, by omega, ?_⟩
        unfold nxp plc
        split <;> omega
      · exact ⟨59, c1, by decide, by rw [c2]; decide⟩
    have l6 : ∀ e, e < 6 → s_ P 164 e ≤ 6 := fun e he => ex_164 hx he
    have inner : ∀ (j i : Nat) (Pc : pP) (pl q : Nat) (z5 z6 z7 z8 : Option sm_V), i + j = 61 → 1 ≤ i → AEc P Pc → s_ Pc 127 0 = 36 → (s_ P 123 0 ≠ 0 → p_choose P = p_cb Pc pl q) → nxp pl = plc (sv + i) % 36 → q + plc (sv + i) = plc (sv + 1) + 36 → sm_Run (D + 8) 191 243 [some (.inr (some a)), some (.inl x1), some (.inl x2), some (.inl (nI 0)), some (.inl (nI i)), z5, z6, z7, z8] [] M (FQ a ra (p_inner P (m + 1))) := by
      intro j
      induction j with
      | zero =>
        intro i Pc pl q z5 z6 z7 z8 hi h1 hA h127 hc hp hq
        have e : (60 < nI i) = (60 < i) := propext (by rw [li_60, nI_ltI (by decide) (by omega)])
        refine bb_191_243 ?_
        rw [e]
        refine ⟨fun _ => ?_, fun c => by omega⟩
        refine bb_191_227 ⟨fun _ => ?_, fun c => absurd rfl c⟩
        have q0 : q = 0 := by
          unfold plc at hq
          omega
        refine r_398 (D := D + 7) h hF ?_
        by_cases c : s_ P 123 0 = 0
        · exact Or.inr (Or.inl c)
        · right; right
          rw [hc c, q0]; rfl
      | succ j ih =>
        intro i Pc pl q z5 z6 z7 z8 hi h1 hA h127 hc hp hq
        have e60 : (60 < nI i) = (60 < i) := propext (by rw [li_60, nI_ltI (by decide) (by omega)])
        have ei : nI i + 1 = nI (i + 1) := by rw [li_1, nI_add]
        have eH : nI sv + nI i - (nI sv + nI i) / 60 * 60 = nI ((sv + i) % 60) := by rw [nI_add, li_60, nI_mod (by omega) (by decide) (by decide)]
        have hb : (sv + i) % 60 < 60 := Nat.mod_lt _ (by decide)
        have eM : nI ((sv + i) % 60) - nI ((sv + i) % 60) / 10 * 10 = nI ((sv + i) % 60 % 10) := by rw [li_10, nI_mod (by omega) (by decide) (by decide)]
        have eD : nI ((sv + i) % 60) / 10 = nI ((sv + i) % 60 / 10) := by rw [li_10, pk_div (by omega) (by decide) (by decide)]
        have eh : ∃ e kk, (sv + i) % 60 = 10 * e + kk ∧ e = (sv + i) % 60 / 10 ∧ kk = (sv + i) % 60 % 10 ∧ e < 6 ∧ kk < 10 := ⟨(sv + i) % 60 / 10, (sv + i) % 60 % 10, by omega, rfl, rfl, by omega, by omega⟩
        obtain ⟨e, kk, hE, he, hkk, e6, k10⟩ := eh
        have lE := l6 e e6
        have pr := hH.2.1 e e6
        have cl : (nI (10 * e + kk)).toNatClampNeg = 10 * e + kk := nI_clamp (by omega)
        have cE : (nI e).toNatClampNeg = e := nI_clamp (by omega)
        -- skipping
        have skip : ∀ z7 z8, (kk < 6 → p_pat P (nxp pl) = none ∨ ∃ j, p_pat P (nxp pl) = some j ∧ (s_ P 181 j = 0 ∨ s_ P 184 j = 0 ∨ s_ P 186 j = s_ P 126 0 + 1 ∨ fw0 P j = none)) → sm_Run (D + 8) 191 243 [some (.inr (some a)), some (.inl x1), some (.inl x2), some (.inl (nI 0)), some (.inl (nI (i + 1))), some (.inl (nI (10 * e + kk))), some (.inl (nI e)), z7, z8] [] M (FQ a ra (p_inner P (m + 1))) := by
          intro z7 z8 hs
          by_cases c : kk < 6
          · obtain ⟨q', rfl⟩ : ∃ q', q = q' + 1 := ⟨q - 1, by unfold plc at hq; omega⟩
            obtain ⟨Pc', a1, a2, a3⟩ := cb_skip (q := q') hA (hs c)
            refine ih (i + 1) Pc' (nxp pl) q' _ _ _ _ (by omega) (by omega) a1 (by rw [a2]; exact h127) (fun z => by rw [hc z, a3]) ?_ ?_
            · have e1 : nxp pl = 6 * e + kk := by rw [hp]; unfold plc; omega
              rw [e1]
              unfold nxp plc
              split <;> omega
            · unfold plc at hq ⊢; omega
          · refine ih (i + 1) Pc pl q _ _ _ _ (by omega) (by omega) hA h127 hc ?_ ?_
            · rw [hp]; unfold plc; omega
            · unfold plc at hq ⊢; omega
        have skip' : ∀ z7 z8, (kk < 6 → p_pat P (nxp pl) = none ∨ ∃ j, p_pat P (nxp pl) = some j ∧ (s_ P 181 j = 0 ∨ s_ P 184 j = 0 ∨ s_ P 186 j = s_ P 126 0 + 1 ∨ fw0 P j = none)) → sm_Run (D + 8) 191 323 [some (.inr (some a)), some (.inl x1), some (.inl x2), some (.inl (nI 0)), some (.inl (nI i)), some (.inl (nI (10 * e + kk))), some (.inl (nI e)), z7, z8] [] M (FQ a ra (p_inner P (m + 1))) := by
          intro z7 z8 hs
          refine bb_191_323 ?_
          rw [ei]
          exact skip _ _ hs
        have pat : kk < 6 → p_pat P (nxp pl) = if kk < s_ P 164 e then some (pid P e kk) else none := fun c => by
          have e1 : nxp pl = 6 * e + kk := by rw [hp]; unfold plc; omega
          unfold p_pat
          rw [e1, show (6 * e + kk) % 6 = kk by omega, show (6 * e + kk) / 6 = e by omega]
        have i61 : sm_in_ M (ra 61) (nI e) := of_eq_true (rN_61 h e6)
        have i67 : sm_in_ M (ra 67) (nI (10 * e + kk)) := of_eq_true (rN_67 h (by omega))
        have i63 : sm_in_ M (ra 63) (nI (10 * e + kk)) := of_eq_true (rN_63 h (by omega))
        have i68 : sm_in_ M (ra 68) (nI (10 * e + kk)) := of_eq_true (rN_68 h (by omega))
        have i62 : sm_in_ M (ra 62) (nI (10 * e + kk)) := of_eq_true (rN_62 h (by omega))
        rw [← hkk] at eM
        rw [← he] at eD
        rw [hE] at eH eM eD
        refine bb_191_243 ?_
        rw [e60]
        refine ⟨fun c => by omega, fun _ => ⟨fun c => absurd rfl c, fun _ => ⟨h.1, ?_⟩⟩⟩
        rw [rS_69 h, r69, eH, eM, eD]
        refine ⟨ra 61, rd_r61 h, of_eq_true (rA_61 h), i61, ?_⟩
        rw [cE, rR_61 h, pr.2.2.2.1, nI_leI (by omega) (by omega)]
        refine ⟨fun c => skip' _ _ (fun c6 => Or.inl (by rw [pat c6, if_neg (by omega)])), fun c => ⟨ra 67, rd_r67 h, of_eq_true (rW_67 h), i67, ?_⟩⟩
        have kl : kk < s_ P 164 e := by omega
        have k6 : kk < 6 := by omega
        obtain ⟨g1, g2, g3, g4, g5', g6⟩ := pr.2.2.2.2 kk kl
        have pat' : p_pat P (nxp pl) = some (pid P e kk) := by rw [pat k6, if_pos kl]
        have e67 : (nI (if s_ P 184 (pid P e kk) = 0 then 0 else 1) = 0) = (s_ P 184 (pid P e kk) = 0) := propext (by
          rw [li_0, nI_eq (by split <;> omega) (by decide)]
          constructor
          · intro z; refine Decidable.byContradiction (fun y => ?_); rw [if_neg y] at z; omega
          · intro z; rw [if_pos z])
        have e63 : (nI (if s_ P 181 (pid P e kk) = 0 then 3 else 2) = 2) = (s_ P 181 (pid P e kk) ≠ 0) := propext (by
          rw [li_2, nI_eq (by split <;> omega) (by decide)]
          constructor
          · intro z y; rw [if_pos y] at z; omega
          · intro z; rw [if_neg z])
        rw [cl, rR_67 h, g6, e67]
        refine ⟨fun c4 => skip' _ _ (fun _ => Or.inr ⟨_, pat', Or.inr (Or.inl c4)⟩), fun c4 => ⟨ra 63, rd_r63 h, of_eq_true (rA_63 h), i63, ?_⟩⟩
        rw [rR_63 h, g2, e63]
        refine ⟨fun c1 => skip' _ _ (fun _ => Or.inr ⟨_, pat', Or.inl (Decidable.not_not.mp c1)⟩), fun c1 => ⟨ra 68, rd_r68 h, of_eq_true (rW_68 h), i68, ?_⟩⟩
        have h181 : s_ P 181 (pid P e kk) ≠ 0 := Decidable.not_not.mp c1
        have g68 := f4 e kk e6 kl h181
        have e68 : (nI (if s_ P 186 (pid P e kk) = s_ P 126 0 + 1 then 1 else 0) = 0) = (s_ P 186 (pid P e kk) ≠ s_ P 126 0 + 1) := propext (by
          rw [li_0, nI_eq (by split <;> omega) (by decide)]
          constructor
          · intro z y; rw [if_pos y] at z; omega
          · intro z; rw [if_neg z])
        rw [rR_68 h, g68, e68]
        refine ⟨fun c8 => skip' _ _ (fun _ => Or.inr ⟨_, pat', Or.inr (Or.inr (Or.inl (Decidable.not_not.mp c8)))⟩), fun c8 => ⟨ra 62, rd_r62 h, of_eq_true (rA_62 h), i62, ?_⟩⟩
        have h186 : s_ P 186 (pid P e kk) ≠ s_ P 126 0 + 1 := Decidable.not_not.mp c8
        rw [rR_62 h, g1]
        refine ru_mono (r_waiting (D := D + 7) h hH f2 hx e6 kl) ?_
        rintro v M1 ⟨rfl, rfl⟩
        have wl : ∀ t, fw0 P (pid P e kk) = some t → t < 336 := fun t z => by have := (fw0_some z).1; have := ex_122 hx; omega
        refine bb_191_344 ?_
        rw [wI_m1 _ wl, ei]
        refine ⟨fun cn => skip _ _ (fun _ => Or.inr ⟨_, pat', Or.inr (Or.inr (Or.inr cn))⟩), fun cn => ⟨h.1, ?_⟩⟩
        obtain ⟨t, et⟩ : ∃ t, fw0 P (pid P e kk) = some t := Option.ne_none_iff_exists'.mp cn
        obtain ⟨q', rfl⟩ : ∃ q', q = q' + 1 := ⟨q - 1, by unfold plc at hq; omega⟩
        obtain ⟨P1, b1, b2, b3⟩ := cb_hit (q := q') hA pat' h181 c4 h186 et
        obtain ⟨w1, w2, w3, -⟩ := fw0_some et
        have n123 : s_ P 123 0 ≠ 0 := by rw [iN]; have := cnt_pos (f := s_ P 211) (s_ P 122 0) w1 w3; omega
        have ec : p_choose P = (P1, some t) := by rw [hc n123, b1]
        rw [et]
        show sm_Run (D + 7) 185 0 (sm_ent 185 [.inr (some a), .inl (nI (10 * e + kk)), .inl (nI t)]) [] M _
        refine ru_mono (st_pipe (D := D) h hF ec e6 kl et c4) ?_
        rintro v M2 ⟨rfl, R2, y1, yk, y2, y3, y4, y5, y6, y7, y8, y9, y10, y11, y12, y13, y14, y15, y16, y17⟩
        have i68' : sm_in_ M2 (ra 68) (nI (10 * e + kk)) := of_eq_true (rN_68 y1 (by omega))
        have nakv : (if s_ (p_serve P1 t) 186 (pid P e kk) = s_ P 126 0 + 1 ∧ s_ P 186 (pid P e kk) ≠ s_ P 126 0 + 1 ∨ hrd (sv5 (sv3 P1 t)) = 11 then 1 else 0) = (if s_ (p_serve P1 t) 186 (pid P e kk) = s_ P 126 0 + 1 then 1 else 0) := by
          rw [y15]
          by_cases z : hrd (sv5 (sv3 P1 t)) = 11
          · rw [if_pos z, if_pos (Or.inr z), if_pos rfl]
          · rw [if_neg z, if_neg h186, if_neg]
            rintro (⟨z1, z2⟩ | z1)
            · exact z2 z1
            · exact z z1
        rw [nakv]
        refine bb_191_370 ⟨ra 68, rd_r68 h, of_eq_true (rW_68 y1), i68', fit_b (by split <;> omega), y1.1, ?_⟩
        rw [cl]
        have r87 : R2 87 0 = nI (m + 1) := by rw [yk 87 0 (by decide)]; exact f6
        have e87 : ∀ v w, sm_I (sm_putI (sm_putI M2 (ra 68) (10 * e + kk) v) a 69 w) a 87 - 1 = nI m := fun v w => by
          rw [I_put_k (by decide), Ip_a y1 (by decide) (by decide), rS_87 y1, r87, li_1, pk_sub (by omega)]; rfl
        rw [e87, ei]
        have h5 := rm_sr (rm_sr (rm_wr y1 (f := 68) (j := 10 * e + kk) (v := nI (if s_ (p_serve P1 t) 186 (pid P e kk) = s_ P 126 0 + 1 then 1 else 0))) (f := 69) (v := nI (10 * e + kk))) (f := 87) (v := nI m)
        have go : ∀ (x4 : Int32) (z5 z6 z7 z8 : Option sm_V), sm_Run (D + 8) 191 227 [some (.inr (some a)), some (.inl x1), some (.inl x2), some (.inl (nI 1)), some (.inl x4), z5, z6, z7, z8] [] (sm_putI (sm_putI (sm_putI M2 (ra 68) (10 * e + kk) (nI (if s_ (p_serve P1 t) 186 (pid P e kk) = s_ P 126 0 + 1 then 1 else 0))) a 69 (nI (10 * e + kk))) a 87 (nI m)) (FQ a ra (p_inner P (m + 1))) := by
          intro x4 z5 z6 z7 z8
          rw [y5]
          have e126 : s_ (p_serve P1 t) 126 0 = s_ P 126 0 := y7 126 0 (Or.inl rfl)
          have fi : FI (p_serve P1 t) (sm_u2 (sm_u2 (sm_u2 R2 68 (10 * e + kk) (nI (if s_ (p_serve P1 t) 186 (pid P e kk) = s_ P 126 0 + 1 then 1 else 0))) 69 0 (nI (10 * e + kk))) 87 0 (nI m)) m := by
            obtain ⟨yX, yH⟩ := xr_xw.mp y2
            refine ⟨xr_xw.mpr ⟨xw_ho yX (exo_ex y4) fho_rf (fun f j hf => by rw [u2_r, if_neg (by omega), u2_r, if_neg (by omega), u2_r, if_neg (by omega)]), hrel_r yH (fun f j n1 n2 n3 n4 n5 n6 => by rw [u2_r, if_neg (by omega), u2_r, if_neg (by omega), u2_r, if_neg (by omega)])⟩, y3, y4, ?_, ?_, by simp only [u2_r, rowU_r, s_S, s_B, s_F, b_S, b_B, b_F, f_S, f_B, nfl_S, nfl_B, Nat.reduceEqDiff, false_and, and_false, true_and, and_true, and_self, if_true, if_false, reduceIte, ite_self, or_self, or_false, false_or, or_true, true_or, false_implies, implies_true, true_implies, Nat.reduceLeDiff, not_true_eq_false, not_false_eq_true, ne_eq], by omega, by omega, by rw [e126]; exact f9, fun i => by rw [e126]; exact y9 i⟩
            · refine nk_put (R := R2) (d := e) (k := kk) (v := if s_ (p_serve P1 t) 186 (pid P e kk) = s_ P 126 0 + 1 then 1 else 0) e6 (by rw [y10]; exact kl) (fun e' he' => by rw [y10]; exact l6 e' he') y3.2.2.2.2.2.2.2.2.2 (fun e' k' he' hk' q1 q2 => ?_) (fun j => ?_) (by rw [y11, e126])
              · rw [y10] at hk'
                rw [y11] at q1 ⊢
                rw [y11, y11] at q2
                rw [y14 e' k' he' hk'] at q1
                rw [e126]
                exact y12 e' k' he' hk' q1 q2
              · rw [u2_r, if_neg (by omega), u2_r, if_neg (by omega), u2_r]
                by_cases z : j = 10 * e + kk
                · rw [if_pos ⟨rfl, z⟩, if_pos z]
                · rw [if_neg (fun y => z y.2), if_neg z]
            · unfold RelS
              rw [(y8 0).2, b2]
              left
              have e1 : nxp pl = 6 * e + kk := by rw [hp]; unfold plc; omega
              simp only [u2_r, rowU_r, s_S, s_B, s_F, b_S, b_B, b_F, f_S, f_B, nfl_S, nfl_B, Nat.reduceEqDiff, false_and, and_false, true_and, and_true, and_self, if_true, if_false, reduceIte, ite_self, or_self, or_false, false_or, or_true, true_or, false_implies, implies_true, true_implies, Nat.reduceLeDiff, not_true_eq_false, not_false_eq_true, ne_eq]
              rw [e1, show (6 * e + kk) / 6 = e by omega, show (6 * e + kk) % 6 = kk by omega]
          have h127' : s_ (p_serve P1 t) 127 0 = 36 := by rw [(y8 0).1, b3]; exact h127
          have hN' : s_ (p_serve P1 t) 186 0 = s_ (p_serve P1 t) 126 0 + 1 ∨ fw0 (p_serve P1 t) 0 = none := by
            rw [e126, y16]
            rcases hN with z | z
            · exact Or.inl z
            · exact Or.inr (y17 z)
          have ae2 := ae_rf y3.2.2.2.2.1
          obtain ⟨r1, r2⟩ := ae_rdy (i := 0) ae2
          refine ihn (p_serve P1 t) _ _ (p_rdy (p_serve P1 t) 0).1 x1 x2 _ _ _ _ _ h5 fi hN' r1 (by rw [rdy_s (by decide)]; exact h127') (fun z => ?_)
          unfold p_choose p_ch1
          rw [if_neg z, h127']
          show p_ch2 (p_serve P1 t) = _
          unfold p_ch2
          have e2 : (p_rdy (p_serve P1 t) 0).2 = none := by
            rw [r2]
            split
            · rfl
            · rename_i y
              rcases hN' with z' | z'
              · exact absurd (Or.inr z') y
              · exact z'
          rw [e2]
          dsimp only
          rw [r1.1 128 0 (by decide) (by decide)]
        have e60' : (60 < nI (i + 1)) = (60 < i + 1) := propext (by rw [li_60, nI_ltI (by decide) (by omega)])
        refine bb_191_243 ⟨fun _ => go _ _ _ _ _, fun _ => ⟨fun _ => go _ _ _ _ _, fun z => absurd (show ¬ (1 : Int32) = 0 by decide) z⟩⟩
    refine bb_191_227 ⟨fun q => absurd q (by decide), fun _ => ⟨h.1, ?_⟩⟩
    rw [rS_87 h, f6]
    refine ⟨fun q => ?_, fun _ => ?_⟩
    · exfalso
      rw [li_0, nI_leI (by omega) (by decide)] at q
      omega
    · exact inner 60 1 Pc0 (s_ P 128 0) 36 _ _ _ _ (by omega) (by omega) hA0 h1270 hc0 svp (by omega)
end II_
