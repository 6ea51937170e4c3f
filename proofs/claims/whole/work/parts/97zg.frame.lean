/-! A frame, both sides: interrupts, and the whole. -/
section IK_
variable {a : Nat} {ra : Nat → Nat} {R R' : Nat → Nat → Int32} {M : sm_M} {D : Nat} {P Pc P1 X Z : pP} {d k t i n m : Nat}
def ch1c (Pc : pP) (q : Nat) : pP × Option Nat := match (p_ci Pc q).2 with
  | some t => ((p_ci Pc q).1, some t)
  | none => p_ch2 (p_ci Pc q).1
theorem ch1c_e {c c' : pP × Option Nat} (h : p_ci Pc n = c) (h' : p_ci X m = c') (e : c = c') : ch1c Pc n = ch1c X m := by
  unfold ch1c
  rw [h, h', e]
theorem ci_skip {q : Nat} (h : AEc P Pc) (hc : p_pat P (s_ Pc 127 0) = none ∨ ∃ j, p_pat P (s_ Pc 127 0) = some j ∧ (¬ due P j (s_ P 125 0) ∨ fw0 P j = none)) : ∃ Pc', AEc P Pc' ∧ s_ Pc' 127 0 = s_ Pc 127 0 + 1 ∧ p_ci Pc (q + 1) = p_ci Pc' q := by
  have e127 : s_ (pS Pc 127 0 (s_ Pc 127 0 + 1)) 127 0 = s_ Pc 127 0 + 1 := by rw [s_S, if_pos ⟨rfl, rfl⟩]
  have e : p_ci Pc (q + 1) = match p_pat Pc (s_ Pc 127 0) with
    | none => p_ci (pS Pc 127 0 (s_ Pc 127 0 + 1)) q
    | some i => if due Pc i (s_ Pc 125 0) then (match (p_fw (pS Pc 127 0 (s_ Pc 127 0 + 1)) i).2 with
        | some t => ((p_fw (pS Pc 127 0 (s_ Pc 127 0 + 1)) i).1, some t)
        | none => p_ci (p_fw (pS Pc 127 0 (s_ Pc 127 0 + 1)) i).1 q)
      else p_ci (pS Pc 127 0 (s_ Pc 127 0 + 1)) q := rfl
  rcases hc with c | ⟨j, c, c2⟩
  · refine ⟨_, ae_127 (v := s_ Pc 127 0 + 1) h, e127, ?_⟩
    rw [← ae_pat h] at c
    rw [e, c]
  · rw [← ae_pat h] at c
    by_cases z : due P j (s_ P 125 0)
    · have fn : fw0 P j = none := c2.elim (fun n => absurd z n) id
      refine ⟨(p_fw (pS Pc 127 0 (s_ Pc 127 0 + 1)) j).1, ae_fw (ae_127 h), by rw [fw_s (by decide)]; exact e127, ?_⟩
      have f2 := fw_2 (i := j) (ae_127 (v := s_ Pc 127 0 + 1) h)
      rw [fn] at f2
      rw [e, c]
      dsimp only
      rw [if_pos ((ae_due h).mpr (by rw [h.1 125 0 (by decide) (by decide)]; exact z)), f2]
    · refine ⟨_, ae_127 (v := s_ Pc 127 0 + 1) h, e127, ?_⟩
      rw [e, c]
      dsimp only
      rw [if_neg (fun y => z (by have := (ae_due h).mp y; rw [h.1 125 0 (by decide) (by decide)] at this; exact this))]
theorem ci_hit {q j : Nat} (h : AEc P Pc) (c : p_pat P (s_ Pc 127 0) = some j) (hd : due P j (s_ P 125 0)) (hw : fw0 P j = some t) : ∃ P1, p_ci Pc (q + 1) = (P1, some t) ∧ s_ P1 127 0 = s_ Pc 127 0 + 1 := by
  have e127 : s_ (pS Pc 127 0 (s_ Pc 127 0 + 1)) 127 0 = s_ Pc 127 0 + 1 := by rw [s_S, if_pos ⟨rfl, rfl⟩]
  rw [← ae_pat h] at c
  have f2 := fw_2 (i := j) (ae_127 (v := s_ Pc 127 0 + 1) h)
  rw [hw] at f2
  refine ⟨(p_fw (pS Pc 127 0 (s_ Pc 127 0 + 1)) j).1, ?_, by rw [fw_s (by decide)]; exact e127⟩
  show (match p_pat Pc (s_ Pc 127 0) with
    | none => p_ci (pS Pc 127 0 (s_ Pc 127 0 + 1)) q
    | some i => if due Pc i (s_ Pc 125 0) then (match (p_fw (pS Pc 127 0 (s_ Pc 127 0 + 1)) i).2 with
        | some t => ((p_fw (pS Pc 127 0 (s_ Pc 127 0 + 1)) i).1, some t)
        | none => p_ci (p_fw (pS Pc 127 0 (s_ Pc 127 0 + 1)) i).1 q)
      else p_ci (pS Pc 127 0 (s_ Pc 127 0 + 1)) q) = _
  rw [c]
  dsimp only
  rw [if_pos ((ae_due h).mpr (by rw [h.1 125 0 (by decide) (by decide)]; exact hd)), f2]
/-- interrupts -/
theorem r_intr : ∀ (j h' n : Nat) (P : pP) (R : Nat → Nat → Int32) (M : sm_M) (Pc : pP) (z2 z3 z4 z5 z6 z7 z8 : Option sm_V), h' + j = 60 → RM a ra R M → FI P R n → Z68 R → AEc P Pc → s_ Pc 127 0 = plc h' → (n ≠ 0 → s_ P 123 0 ≠ 0 → p_choose P = ch1c Pc (36 - plc h')) → s_ P 186 0 ≠ s_ P 126 0 + 1 → sm_Run (D + 8) 191 42 [some (.inr (some a)), some (.inl (nI h')), z2, z3, z4, z5, z6, z7, z8] [] M (FQ a ra (p_inner P n)) := by
  intro j
  induction j with
  | zero =>
    intro h' n P R M Pc z2 z3 z4 z5 z6 z7 z8 hj h hF hZ hA h127 hc h186
    obtain rfl : h' = 60 := by omega
    obtain ⟨f1, f2, f3, f4, f5, f6, f7, f8, f9, f10⟩ := id hF
    obtain ⟨hX, hH⟩ := xr_xw.mp f1
    refine bb_191_42 ⟨fun _ => ⟨h.1, ?_⟩, fun q => absurd (by decide) q⟩
    refine ru_mono (r_waitC (D := D + 7) h hH f2 (exo_ex f3)) ?_
    rintro v M1 ⟨rfl, rfl⟩
    refine bb_191_170 ?_
    refine r_ctlL (D := D) n P R M Pc _ _ _ _ _ _ _ h hF hZ hA h127 (fun n0 z => ?_) (by rw [if_neg h186]; rfl)
    rw [hc n0 z]
    rfl
  | succ j ih =>
    intro h' n P R M Pc z2 z3 z4 z5 z6 z7 z8 hj h hF hZ hA h127 hc h186
    obtain ⟨f1, f2, f3, f4, f5, f6, f7, f8, f9, f10⟩ := id hF
    have hx := exo_ex f3
    obtain ⟨hX, hH⟩ := xr_xw.mp f1
    obtain ⟨iG, iT, iW, iU, iF, iN, iR, iQ, iD, iI⟩ := id f2
    have g3 := iG.2.2.1
    have e60 : (60 ≤ nI h') = (60 ≤ h') := propext (by rw [li_60, nI_leI (by decide) (by omega)])
    have ei : nI h' + 1 = nI (h' + 1) := by rw [li_1, nI_add]
    have eM : nI h' - nI h' / 10 * 10 = nI (h' % 10) := by rw [li_10, nI_mod (by omega) (by decide) (by decide)]
    have eD : nI h' / 10 = nI (h' / 10) := by rw [li_10, pk_div (by omega) (by decide) (by decide)]
    obtain ⟨e, kk, hE, he, hkk, e6, k10⟩ : ∃ e kk, h' = 10 * e + kk ∧ e = h' / 10 ∧ kk = h' % 10 ∧ e < 6 ∧ kk < 10 := ⟨h' / 10, h' % 10, by omega, rfl, rfl, by omega, by omega⟩
    rw [← hkk] at eM
    rw [← he] at eD
    have lE := ex_164 hx e6
    have pr := hH.2.1 e e6
    have cE : (nI e).toNatClampNeg = e := nI_clamp (by omega)
    have cl : (nI h').toNatClampNeg = h' := nI_clamp (by omega)
    have skip : ∀ z2 z3 z4 z5 z6 z7 z8, (kk < 6 → p_pat P (s_ Pc 127 0) = none ∨ ∃ j, p_pat P (s_ Pc 127 0) = some j ∧ (¬ due P j (s_ P 125 0) ∨ fw0 P j = none ∨ n = 0)) → sm_Run (D + 8) 191 42 [some (.inr (some a)), some (.inl (nI (h' + 1))), z2, z3, z4, z5, z6, z7, z8] [] M (FQ a ra (p_inner P n)) := by
      intro z2 z3 z4 z5 z6 z7 z8 hs
      by_cases c : kk < 6
      · by_cases n0 : n = 0
        · refine ih (h' + 1) n P R M (pS Pc 127 0 (plc (h' + 1))) _ _ _ _ _ _ _ (by omega) h hF hZ (ae_127 hA) (by rw [s_S, if_pos ⟨rfl, rfl⟩]) (fun z => absurd n0 z) h186
        · have hs' : p_pat P (s_ Pc 127 0) = none ∨ ∃ j, p_pat P (s_ Pc 127 0) = some j ∧ (¬ due P j (s_ P 125 0) ∨ fw0 P j = none) := by
            rcases hs c with y | ⟨j, y1, y2⟩
            · exact Or.inl y
            · refine Or.inr ⟨j, y1, ?_⟩
              rcases y2 with y2 | y2 | y2
              · exact Or.inl y2
              · exact Or.inr y2
              · exact absurd y2 n0
          have eq : 36 - plc h' = (36 - plc (h' + 1)) + 1 := by unfold plc; omega
          obtain ⟨Pc', a1, a2, a3⟩ := ci_skip (q := 36 - plc (h' + 1)) hA hs'
          refine ih (h' + 1) n P R M Pc' _ _ _ _ _ _ _ (by omega) h hF hZ a1 (by rw [a2, h127]; unfold plc; omega) (fun n0 z => ?_) h186
          rw [hc n0 z, eq]
          exact ch1c_e rfl rfl a3
      · have eq : plc (h' + 1) = plc h' := by unfold plc; omega
        exact ih (h' + 1) n P R M Pc _ _ _ _ _ _ _ (by omega) h hF hZ hA (by rw [h127, eq]) (fun n0 z => by rw [hc n0 z, eq]) h186
    have pat : kk < 6 → p_pat P (s_ Pc 127 0) = if kk < s_ P 164 e then some (pid P e kk) else none := fun c => by
      have e1 : s_ Pc 127 0 = 6 * e + kk := by rw [h127]; unfold plc; omega
      unfold p_pat
      rw [e1, show (6 * e + kk) % 6 = kk by omega, show (6 * e + kk) / 6 = e by omega]
    have skip' : ∀ z2 z3 z4 z5 z6 z7 z8, (kk < 6 → p_pat P (s_ Pc 127 0) = none ∨ ∃ j, p_pat P (s_ Pc 127 0) = some j ∧ (¬ due P j (s_ P 125 0) ∨ fw0 P j = none ∨ n = 0)) → sm_Run (D + 8) 191 110 [some (.inr (some a)), some (.inl (nI h')), some (.inl z2), z3, z4, z5, z6, z7, z8] [] M (FQ a ra (p_inner P n)) := by
      intro z2 z3 z4 z5 z6 z7 z8 hs
      refine bb_191_110 ?_
      rw [ei]
      exact skip _ _ _ _ _ _ _ hs
    have i61 : sm_in_ M (ra 61) (nI e) := of_eq_true (rN_61 h e6)
    have i67 : sm_in_ M (ra 67) (nI h') := of_eq_true (rN_67 h (by omega))
    have i63 : sm_in_ M (ra 63) (nI h') := of_eq_true (rN_63 h (by omega))
    have i65 : sm_in_ M (ra 65) (nI h') := of_eq_true (rN_65 h (by omega))
    have i62 : sm_in_ M (ra 62) (nI h') := of_eq_true (rN_62 h (by omega))
    refine bb_191_42 ?_
    rw [e60]
    refine ⟨fun c => by omega, fun _ => ⟨h.1, ?_⟩⟩
    rw [eM, eD]
    refine ⟨ra 61, rd_r61 h, of_eq_true (rA_61 h), i61, ?_⟩
    rw [cE, rR_61 h, pr.2.2.2.1, nI_leI (by omega) (by omega)]
    refine ⟨fun c => skip' _ _ _ _ _ _ _ (fun c6 => Or.inl (by rw [pat c6, if_neg (by omega)])), fun c => ⟨ra 67, rd_r67 h, of_eq_true (rW_67 h), i67, ?_⟩⟩
    have kl : kk < s_ P 164 e := by omega
    have k6 : kk < 6 := by omega
    obtain ⟨g1, g2, g3', g4, g5', g6⟩ := pr.2.2.2.2 kk kl
    rw [← hE] at g1 g2 g3' g4 g5' g6
    have dd := iD e e6
    have prr := dd.2.2.2.2.2.2.1 kk kl
    have epp := dd.2.2.2.2.2.2.2.2.1 kk (by have := dd.2.2.2.2.2.1; omega)
    have pat' : p_pat P (s_ Pc 127 0) = some (pid P e kk) := by rw [pat k6, if_pos kl]
    have e67 : (nI (if s_ P 184 (pid P e kk) = 0 then 0 else 1) = 0) = (s_ P 184 (pid P e kk) = 0) := propext (by
      rw [li_0, nI_eq (by split <;> omega) (by decide)]
      constructor
      · intro z; refine Decidable.byContradiction (fun y => ?_); rw [if_neg y] at z; omega
      · intro z; rw [if_pos z])
    have e63 : (nI (if s_ P 181 (pid P e kk) = 0 then 3 else 2) = 3) = (s_ P 181 (pid P e kk) = 0) := propext (by
      rw [li_3, nI_eq (by split <;> omega) (by decide)]
      constructor
      · intro z; refine Decidable.byContradiction (fun y => ?_); rw [if_neg y] at z; omega
      · intro z; rw [if_pos z])
    rw [cl, rR_67 h, g6, e67]
    refine ⟨fun c4 => skip' _ _ _ _ _ _ _ (fun _ => Or.inr ⟨_, pat', Or.inl (fun y => y.2.1 c4)⟩), fun c4 => ⟨ra 63, rd_r63 h, of_eq_true (rA_63 h), i63, ?_⟩⟩
    rw [rR_63 h, g2, e63]
    refine ⟨fun c1 => skip' _ _ _ _ _ _ _ (fun _ => Or.inr ⟨_, pat', Or.inl (fun y => c1 y.1)⟩), fun c1 => ⟨ra 65, rd_r65 h, of_eq_true (rA_65 h), i65, ?_⟩⟩
    have h181 : s_ P 181 (pid P e kk) = 0 := Decidable.not_not.mp c1
    have iv0 : 0 < s_ P 183 (pid P e kk) := by
      rw [prr.2.2.2.2.2]
      have := prr.2.2.2.1
      rw [h181] at this
      by_cases z : s_ P 102 (6 * e + kk) = 0
      · rw [if_pos z] at this; omega
      · omega
    have ivb : s_ P 183 (pid P e kk) < 2 ^ 31 := ex_b hx 183 _
    have r56 : R 56 0 = nI (s_ P 125 0) := hH.1.2.1
    rw [rR_65 h, g4, rS_56 h, r56, nI_mod (by omega) ivb iv0]
    have ef : (nI (s_ P 125 0 % s_ P 183 (pid P e kk)) = 0) = (s_ P 125 0 % s_ P 183 (pid P e kk) = 0) := propext (by rw [li_0, nI_eq (by have := Nat.mod_le (s_ P 125 0) (s_ P 183 (pid P e kk)); omega) (by decide)])
    rw [ef]
    refine ⟨fun q => ?_, fun cm => skip' _ _ _ _ _ _ _ (fun _ => Or.inr ⟨_, pat', Or.inl (fun y => cm y.2.2.2)⟩), fun cm => ?_⟩
    · rw [li_0, nI_eq ivb (by decide)] at q; omega
    have dueP : due P (pid P e kk) (s_ P 125 0) := ⟨h181, c4, iv0, Decidable.not_not.mp cm⟩
    have e87 : (nI n ≤ 0) = (n ≤ 0) := propext (by rw [li_0, nI_leI (by omega) (by decide)])
    rw [rS_87 h, f6, e87]
    refine ⟨fun cn => skip' _ _ _ _ _ _ _ (fun _ => Or.inr ⟨_, pat', Or.inr (Or.inr (by omega))⟩), fun cn => ⟨ra 62, rd_r62 h, of_eq_true (rA_62 h), i62, ?_⟩⟩
    rw [rR_62 h, g1]
    refine ru_mono (r_waiting (D := D + 7) h hH f2 hx e6 kl) ?_
    rintro v M1 ⟨rfl, rfl⟩
    have wl : ∀ t, fw0 P (pid P e kk) = some t → t < 336 := fun t z => by have := (fw0_some z).1; have := ex_122 hx; omega
    refine bb_191_127 ?_
    rw [wI_m1 _ wl, ei]
    refine ⟨fun cw => skip _ _ _ _ _ _ _ (fun _ => Or.inr ⟨_, pat', Or.inr (Or.inl cw)⟩), fun cw => ⟨h.1, ?_⟩⟩
    obtain ⟨t, et⟩ : ∃ t, fw0 P (pid P e kk) = some t := Option.ne_none_iff_exists'.mp cw
    obtain ⟨m, rfl⟩ : ∃ m, n = m + 1 := ⟨n - 1, by omega⟩
    obtain ⟨w1, w2, w3, -⟩ := fw0_some et
    have n123 : s_ P 123 0 ≠ 0 := by rw [iN]; have := cnt_pos (f := s_ P 211) (s_ P 122 0) w1 w3; omega
    have eq : 36 - plc h' = (36 - plc (h' + 1)) + 1 := by unfold plc; omega
    obtain ⟨P1, b1, b2⟩ := ci_hit (q := 36 - plc (h' + 1)) hA pat' dueP et
    have ec : p_choose P = (P1, some t) := by
      rw [hc (by omega) n123, eq]
      unfold ch1c
      rw [b1]
    rw [et, hE]
    show sm_Run (D + 7) 185 0 (sm_ent 185 [.inr (some a), .inl (nI (10 * e + kk)), .inl (nI t)]) [] M _
    refine ru_mono (st_pipe (D := D) h hF ec e6 kl et c4) ?_
    rintro v M2 ⟨rfl, R2, y1, yk, y2, y3, y4, y5, y6, y7, y8, y9, y10, y11, y12, y13, y14, y15, y16, y17⟩
    rw [← hE]
    have r87 : R2 87 0 = nI (m + 1) := by rw [yk 87 0 (by decide)]; exact f6
    have e87' : sm_I M2 a 87 - 1 = nI m := by rw [rS_87 y1, r87, li_1, pk_sub (by omega)]; rfl
    refine bb_191_146 ⟨y1.1, ?_⟩
    rw [e87', ei, y5]
    have h5 := rm_sr y1 (f := 87) (v := nI m)
    have e126 : s_ (p_serve P1 t) 126 0 = s_ P 126 0 := y7 126 0 (Or.inl rfl)
    have z68 : ∀ j, sm_u2 R2 87 0 (nI m) 68 j = R 68 j := fun j => by rw [u2_r, if_neg (by omega)]; exact yk 68 j (by decide)
    have fi : FI (p_serve P1 t) (sm_u2 R2 87 0 (nI m)) m := by
      obtain ⟨yX, yH⟩ := xr_xw.mp y2
      refine ⟨xr_xw.mpr ⟨xw_ho yX (exo_ex y4) fho_rf (fun f j hf => by rw [u2_r, if_neg (by omega)]), hrel_r yH (fun f j n1 n2 n3 n4 n5 n6 => by rw [u2_r, if_neg (by omega)])⟩, y3, y4, ?_, ?_, by simp only [u2_r, rowU_r, s_S, s_B, s_F, b_S, b_B, b_F, f_S, f_B, nfl_S, nfl_B, Nat.reduceEqDiff, false_and, and_false, true_and, and_true, and_self, if_true, if_false, reduceIte, ite_self, or_self, or_false, false_or, or_true, true_or, false_implies, implies_true, true_implies, Nat.reduceLeDiff, not_true_eq_false, not_false_eq_true, ne_eq], by omega, by omega, by rw [e126]; exact f9, fun i => by rw [e126]; exact y9 i⟩
      · intro e' k' he' hk' q1
        rw [y10] at hk'
        rw [y11] at q1 ⊢
        rw [y14 e' k' he' hk'] at q1
        rw [e126, u2_r, if_neg (by omega)]
        refine y12 e' k' he' hk' q1 (fun q2 => ?_)
        rw [q2] at q1
        exact q1 h181
      · refine relS_cg f5 ?_ ?_
        · have := (ch_spec f2)
          have e1' : (p_choose P).1 = P1 := by rw [ec]
          rw [(y8 0).2]
          have := (ci_spec (36 - plc h') Pc hA (by rw [h127]; unfold plc; omega)).1
          rw [eq, b1] at this
          exact this.1 128 0 (by decide) (by decide)
        · rw [u2_r, if_neg (by omega)]; exact yk 69 0 (by decide)
    have p127 : s_ (p_serve P1 t) 127 0 = plc (h' + 1) := by rw [(y8 0).1, b2, h127]; unfold plc; omega
    refine ih (h' + 1) m (p_serve P1 t) _ _ (p_serve P1 t) _ _ _ _ _ _ _ (by omega) h5 fi (fun j hj => by rw [z68]; exact hZ j hj) (ae_rf y3.2.2.2.2.1) p127 (fun _ z => ?_) (by rw [y16, e126]; exact h186)
    unfold p_choose p_ch1 ch1c
    rw [if_neg z, p127]
    rfl
end IK_
