/-! Calls, both sides: packet. -/
section IR_
variable {a : Nat} {ra : Nat → Nat} {R R' : Nat → Nat → Int32} {M : sm_M} {D : Nat} {P P' Pc P1 X Z : pP} {d k t i n m : Nat} {x x1 x2 x3 x4 x5 : Int32}
/-- the model's own workplace -/
theorem co_R (h : CO P R) (hr : ∀ f i, ¬ (46 ≤ f ∧ f ≤ 49) → R' f i = R f i) : CO P R' := by
  obtain ⟨⟨f1, f2, f3, f4, f5⟩, f6⟩ := h
  obtain ⟨w1, w2, w3, w4, hH⟩ := f1
  refine ⟨⟨⟨w1, w2, wr_cg w3 w1.1 (fun f i hf => hr f i (by omega)), fun j hj hS => ?_, hrel_cg hH fh_rf (fun f i hf => hr f i (by omega))⟩, f2, f3, relS_cg f4 rfl (hr 69 0 (by omega)), f5⟩, f6⟩
  exact relK_cg (w4 j hj hS) (fun f hf => rfl) rfl (fun f i hf => hr f i (by omega))
theorem lay_s {p f i : Nat} (hf : f ≠ 229) : s_ (p_lay P p) f i = s_ P f i := by
  unfold p_lay
  split
  · rfl
  · rw [s_n hf, s_B]
theorem lay_b {p c i : Nat} (hc : c ≠ 24) : b_ (p_lay P p) c i = b_ P c i := by
  unfold p_lay
  split
  · rfl
  · rw [b_S, b_B, if_neg (fun q => hc q.1)]
theorem lay_f {p : Nat} : f_ (p_lay P p) = f_ P := by
  unfold p_lay
  split <;> rfl
theorem lay_24 {p : Nat} (h : LC P) (hr : p < s_ P 228 0 ∧ s_ P 228 0 ≤ p + 60) : b_ (p_lay P p) 24 0 = p_lev P (p % 60) := by
  unfold p_lay
  split
  · rename_i c
    have := (h (by omega)).2 (by omega)
    rw [this, c]; rfl
  · rw [b_S, b_B, if_pos ⟨rfl, rfl⟩]
theorem co_lay {p : Nat} (h : CO P R) (hr : p < s_ P 228 0 ∧ s_ P 228 0 ≤ p + 60) (hE : EXO (p_lay P p)) : CO (p_lay P p) R := by
  obtain ⟨⟨f1, f2, f3, f4, f5⟩, f6, f7, f8, f9, f10, f11⟩ := h
  obtain ⟨w1, w2, w3, w4, hH⟩ := f1
  have hx := exo_ex hE
  have so : ∀ d, SO d P (p_lay P p) := fun d => ⟨fun f i o => lay_s (by unfold own at o; omega), fun c i o => lay_b (by unfold ownB at o; omega)⟩
  have h6 : ∀ d, d < 6 → s_ P 86 d ≤ 6 := fun d hd => ex_86 w1.1.1 hd
  have fh : Fh P (p_lay P p) := ⟨fun f i hf => lay_s (by unfold hostF at hf; omega), fun c i hf => lay_b (by unfold hostB at hf; omega), fun d => lay_s (by decide)⟩
  have wx : WX (p_lay P p) := by
    obtain ⟨v1, v2, v3⟩ := w1
    refine ⟨wi_so v1 hx (fun d _ => so d), fun j hj hS => ?_, fun d hd => so_IK (so d) (v3 d hd)⟩
    rw [lay_s (by decide)] at hS
    unfold PKo
    rw [lay_s (by decide), lay_s (by decide), lay_s (by decide), lay_b (by decide)]
    exact v2 j hj hS
  have e8 : s_ (p_lay P p) 228 0 = s_ P 228 0 := lay_s (by decide)
  have el : ∀ j, p_lev (p_lay P p) j = p_lev P j := fun j => by unfold p_lev; rw [lay_s (by decide), lay_s (by decide), lay_b (by decide)]
  refine ⟨⟨⟨wx, fun d hd => by rw [lay_s (by decide)]; exact w2 d hd, ⟨fun d hd => ?_, ?_, ?_, w3.2.2.2⟩, fun j hj hS => ?_, hrel_cg hH fh (fun f i _ => rfl)⟩, ?_, hE, relS_cg f4 (lay_s (by decide)) rfl, fun i => by rw [lay_s (by decide), lay_s (by decide)]; exact f5 i⟩, ?_, dr_cg f7 (fun f j hf => lay_s (by omega)), ?_, ?_, i5_j5 f10 (j5_e (fun f i hf => lay_s (by omega))), rb_cg f11 (fun c j hc => lay_b (by omega))⟩
  · exact relX_cg (so d) (fun f i o n => rfl) w1.1.1 hd (wi_HD w1.1 hd) (w3.1 d hd)
  · exact rf_cg w3.2.1 (lay_s (by decide)) lay_f (fun f i hf => rfl)
  · rw [e8]; exact w3.2.2.1
  · rw [e8] at hS
    exact relK_cg (w4 j hj hS) (fun f hf => lay_s (by omega)) (lay_b (by decide)) (fun f i hf => rfl)
  · have g := f2.1
    refine inv_lift f2 h6 (fun f j hf => lay_s (by omega)) (by rw [lay_s (by decide)]; exact g.2.2.1) (by rw [lay_s (by decide)]; exact g.2.2.2.1) (by rw [lay_s (by decide)]; exact g.2.2.2.2.1) (by rw [lay_s (by decide)]; exact g.2.2.2.2.2.2.1) (lay_s (by decide)) (fun i => by rw [lay_s (by decide)]; exact g.2.2.2.2.2.2.2.2.1 i) (fun i => by rw [lay_s (by decide)]; exact f2.2.2.2.2.1.1 i) (fun i t h1 => by rw [lay_s (by decide)] at h1; exact f2.2.2.2.2.1.2 i t h1) (fun t => lay_b (by decide)) (sts_so (fun d _ => so d)) (fun d _ => zs_so (so d))
  · rw [e8, lay_s (by decide)]; exact f6
  · intro n0
    rw [e8, el]
    unfold p_lay at n0 ⊢
    split
    · rename_i c
      rw [if_pos c] at n0
      exact f8 n0
    · rename_i c
      rw [s_S, if_pos ⟨rfl, rfl⟩, b_S, b_B, if_pos ⟨rfl, rfl⟩]
      exact ⟨by omega, fun _ => rfl⟩
  · intro q h1 h2
    rw [e8] at h1 h2
    have := f9 q h1 h2
    unfold LVp at this ⊢
    rw [el, lay_s (by decide), lay_s (by decide)]
    exact this
theorem exo_packet (h : CO P R) (h126 : s_ P 126 0 ≤ 150200) : EXO (p_packet P x1 x2).2 := by
  obtain ⟨⟨f1, f2, f3, f4, f5⟩, f6, f7, f8, f9, f10, f11⟩ := h
  obtain ⟨n0, u0, g, M, hr, hg⟩ := f3
  have e : ∀ f, f = 122 ∨ f = 130 → s_ (p_packet P x1 x2).2 f 0 = s_ P f 0 := fun f hf => by
    unfold p_packet p_pkd
    split
    · rfl
    · split
      · split
        · rfl
        · split
          · rfl
          · split
            · exact lay_s (by omega)
            · split
              · rfl
              · split
                · rfl
                · split
                  · rfl
                  · exact lay_s (by omega)
      · rfl
  obtain ⟨v, M', -, k⟩ := ru_ex (c_packet (D := 0) (x1 := x1) (x2 := x2) hr (by omega) (fun p q1 q2 => (f1.1.2.1 (p % 60) (by omega) (by omega)).1))
  exact ⟨n0, u0, g, M', k, gO_cg hg (e 122 (by decide)) (e 130 (by decide))⟩
theorem lt_m60 (hx : i < 2 ^ 31) (hn : n < 2 ^ 31) : (nI i < nI n - 60) = (i + 60 < n) := propext (by
  by_cases c : 60 ≤ n
  · rw [li_60, pk_sub c, nI_ltI hx (by omega)]; omega
  · have key : ∀ n : Nat, n < 60 → nI n - 60 < 0 := by decide
    have a1 := Int32.lt_iff_toInt_lt.mp (key n (by omega))
    refine ⟨fun q => ?_, fun q => by omega⟩
    have a2 := Int32.lt_iff_toInt_lt.mp q
    rw [nI_toInt hx] at a2
    have b0 : (0 : Int32).toInt = 0 := rfl
    omega)
/-- packet -/
theorem r_packet (h : RM a ra R M) (hC : CO P R) (h126 : s_ P 126 0 ≤ 150200) : sm_Run (D + 2) 207 0 (sm_ent 207 [.inr (some a), .inl x1, .inl x2]) [] M (CQ a ra P (some (p_packet P x1 x2).1, (p_packet P x1 x2).2)) := by
  have hE := exo_packet (x1 := x1) (x2 := x2) hC h126
  obtain ⟨⟨f1, f2, f3, f4, f5⟩, f6, f7, f8, f9, f10, f11⟩ := id hC
  obtain ⟨w1, w2, w3, w4, hH⟩ := id f1
  have r32 : R 32 0 = nI (s_ P 228 0) := w3.2.2.1
  have b8 : s_ P 228 0 < 2 ^ 30 := by omega
  have same : ∀ w : Int32, p_packet P x1 x2 = (w, P) → CQ a ra P (some (p_packet P x1 x2).1, (p_packet P x1 x2).2) (some (.inl w)) M := fun w e => by
    rw [e]; exact cq_same h hC _ rfl
  refine bb_207_0 ⟨fun q => ?_, fun q => ⟨h.1, ?_⟩⟩
  · exact same (-1) (by unfold p_packet; rw [if_pos q])
  obtain ⟨p, hp, rfl⟩ := nI_of q
  have e0 : p_packet P (nI p) x2 = if p < s_ P 228 0 ∧ s_ P 228 0 ≤ p + 60 then p_pkd P p x2 else (-1, P) := by unfold p_packet; rw [if_neg q, nI_clamp hp]
  rw [rS_32 h, r32, lt_m60 hp (by omega), nI_leI (by omega) hp]
  refine ⟨fun c => same (-1) (by rw [e0, if_neg (by omega)]), fun c => ⟨fun c' => same (-1) (by rw [e0, if_neg (by omega)]), fun c' => ?_⟩⟩
  have hr : p < s_ P 228 0 ∧ s_ P 228 0 ≤ p + 60 := by omega
  rw [if_pos hr] at e0
  have hm : nI p - nI p / 60 * 60 = nI (p % 60) := pk_rem (by omega) (by decide) (by decide)
  have h60 : p % 60 < 60 := Nat.mod_lt _ (by decide)
  have cl : (nI (p % 60)).toNatClampNeg = p % 60 := nI_clamp (by omega)
  rw [hm, cl]
  obtain ⟨k1, k2, k3, k4, k5, k6, k7, k8⟩ := id (w4 (p % 60) h60 (by omega))
  have i43 : sm_in_ M (ra 43) (nI (p % 60)) := of_eq_true (rN_43 h h60)
  have i38 : sm_in_ M (ra 38) (nI (p % 60)) := of_eq_true (rN_38 h h60)
  have i37 : sm_in_ M (ra 37) (nI (p % 60)) := of_eq_true (rN_37 h h60)
  refine ⟨fun q2 => ⟨fun z0 => ⟨fun z1 => ⟨fun z3 => ?_, fun z3 => ⟨ra 43, rd_r43 h, of_eq_true (rA_43 h), i43, ?_⟩⟩, fun z1 => ⟨ra 38, rd_r38 h, of_eq_true (rA_38 h), i38, ?_⟩⟩, fun z0 => ⟨ra 37, rd_r37 h, of_eq_true (rA_37 h), i37, ?_⟩⟩, fun q2 => ?_⟩
  rotate_left
  · have z := Decidable.not_not.mp z3
    rw [rR_43 h, k7]
    exact same _ (by rw [e0]; unfold p_pkd; rw [if_neg z0, if_neg z1, if_neg (by rw [z]; decide), if_pos z])
  · have z := Decidable.not_not.mp z1
    rw [rR_38 h, k2]
    exact same _ (by rw [e0]; unfold p_pkd; rw [if_neg z0, if_pos z])
  · have z := Decidable.not_not.mp z0
    rw [rR_37 h, k1]
    exact same _ (by rw [e0]; unfold p_pkd; rw [if_pos z])
  · have z : ∀ n : Nat, n < 2 ^ 31 → ¬ x2 = nI n := fun n hn c => q2 (by rw [c, li_0]; exact nI_le (Nat.zero_le _) hn)
    refine same (-1) ?_
    rw [e0]
    unfold p_pkd
    rw [if_neg (show ¬ x2 = 0 from z 0 (by decide)), if_neg (show ¬ x2 = 1 from z 1 (by decide)), if_neg (show ¬ x2 = 2 from z 2 (by decide)), if_neg (show ¬ x2 = 3 from z 3 (by decide)), if_pos]
    intro c
    have a2 := Int32.le_iff_toInt_le.mp c
    have b4 : (4 : Int32).toInt = 4 := rfl
    have b0 : (0 : Int32).toInt = 0 := rfl
    exact q2 (Int32.le_iff_toInt_le.mpr (by omega))
  have kp := w1.2.1 (p % 60) h60 (by omega)
  refine ru_mono (r_make (D := D) h (w4 (p % 60) h60 (by omega)) h60 kp.1 kp.2.2.2 kp.2.1) ?_
  rintro v M1 ⟨rfl, R1, m1, ⟨m2, m3⟩, m4⟩
  have l24 := lay_24 f8 hr
  have c1 : CO P R1 := co_R hC m4
  rw [List.length_map] at m2 m3
  have q2' : ¬ x2 < 0 := fun c => by
    have a1 := Int32.lt_iff_toInt_lt.mp c
    have a2 := Int32.le_iff_toInt_le.mp q2
    omega
  obtain ⟨y, hy, rfl⟩ := nI_of q2'
  have done : ∀ w : Int32, p_packet P (nI p) (nI y) = (w, p_lay P p) → CQ a ra P (some (p_packet P (nI p) (nI y)).1, (p_packet P (nI p) (nI y)).2) (some (.inl w)) M1 := fun w e => by
    rw [e] at hE ⊢
    exact ⟨rfl, R1, m1, co_lay c1 hr hE, by show s_ (p_lay P p) 126 0 ≤ _; rw [lay_s (by decide)]; omega⟩
  have r46 : sm_I M1 a 46 = nI (p_lev P (p % 60)).length := by rw [rS_46 m1, m2]
  refine bb_207_74 ⟨fun z2 => ⟨m1.1, ?_⟩, fun z2 => ⟨m1.1, ?_⟩⟩
  rotate_left
  · have z := Decidable.not_not.mp z2
    rw [r46]
    refine done _ ?_
    rw [e0]
    unfold p_pkd
    rw [if_neg z0, if_neg z1, if_pos z, l24]
  have n4 : 4 ≤ y := by
    refine Decidable.byContradiction (fun c => ?_)
    have : y = 0 ∨ y = 1 ∨ y = 2 ∨ y = 3 := by omega
    rcases this with rfl | rfl | rfl | rfl
    · exact z0 rfl
    · exact z1 rfl
    · exact z2 rfl
    · exact z3 rfl
  have e4 : nI y - 4 = nI (y - 4) := by rw [li_4, pk_sub n4]
  have ll : (p_lev P (p % 60)).length ≤ 660 := by
    obtain ⟨g, M0, hrc⟩ := exo_ex f3
    obtain ⟨v0, M0', -, h0'⟩ := ru_ex (c_encode (D := 0) hrc (show p % 60 < 66 by omega) kp.1)
    have := (rc_f h0').2.1
    rw [b_B, if_pos ⟨rfl, rfl⟩] at this
    exact this
  rw [r46, e4, nI_ltI (by omega) (by omega)]
  have pk : ¬ (s_ P 145 (p % 60) = 2 ∧ y - 4 = s_ P 146 (p % 60)) → p_packet P (nI p) (nI y) = (if y - 4 < (p_lev P (p % 60)).length then nI ((p_lev P (p % 60)).getD (y - 4) 0) else -1, p_lay P p) := fun c => by
    rw [e0]
    unfold p_pkd
    rw [if_neg z0, if_neg z1, if_neg z2, if_neg z3, if_neg (by rw [li_4, nI_leI (by decide) hy]; omega), nI_clamp hy, if_neg c, l24]
  have pk2 : (s_ P 145 (p % 60) = 2 ∧ y - 4 = s_ P 146 (p % 60)) → p_packet P (nI p) (nI y) = (nI (s_ P 147 (p % 60)), P) := fun c => by
    rw [e0]
    unfold p_pkd
    rw [if_neg z0, if_neg z1, if_neg z2, if_neg z3, if_neg (by rw [li_4, nI_leI (by decide) hy]; omega), nI_clamp hy, if_pos c]
  have lvp := f9 p hr.1 hr.2
  have b145 := ex_b (exo_ex f3) 145 (p % 60)
  have b146 := ex_b (exo_ex f3) 146 (p % 60)
  refine ⟨fun c => ⟨ra 43, rd_r43 m1, of_eq_true (rA_43 m1), of_eq_true (rN_43 m1 h60), ?_⟩, fun c => ?_⟩
  · have lev : ¬ (s_ P 145 (p % 60) = 2 ∧ y - 4 = s_ P 146 (p % 60)) → ∃ b_9, sm_R M1 a 47 = some b_9 ∧ sm_iA M1 b_9 ∧ sm_in_ M1 b_9 (nI (y - 4)) ∧ CQ a ra P (some (p_packet P (nI p) (nI y)).1, (p_packet P (nI p) (nI y)).2) (some (.inl (sm_I M1 b_9 (nI (y - 4)).toNatClampNeg))) M1 := fun z => by
      refine ⟨ra 47, rd_r47 m1, of_eq_true (rA_47 m1), of_eq_true (rN_47 m1 (by omega)), ?_⟩
      rw [nI_clamp (by omega), rR_47 m1, m3 _ c]
      refine done _ ?_
      rw [pk z, if_pos c, getD_map c]
    rw [cl, rR_43 m1, m4 43 _ (by omega), k7, li_2, nI_eq b145 (by decide)]
    refine ⟨fun z => lev (fun w => z w.1), fun z => ⟨ra 44, rd_r44 m1, of_eq_true (rA_44 m1), of_eq_true (rN_44 m1 h60), ?_⟩⟩
    have z5 := Decidable.not_not.mp z
    obtain ⟨g1, g2⟩ := k8 z5
    rw [rR_44 m1, m4 44 _ (by omega), g1, nI_eq b146 (by omega)]
    refine ⟨fun z => lev (fun w => z w.2.symm), fun z => ⟨ra 45, rd_r45 m1, of_eq_true (rA_45 m1), of_eq_true (rN_45 m1 h60), ?_⟩⟩
    have z6 := Decidable.not_not.mp z
    rw [rR_45 m1, m4 45 _ (by omega), g2, pk2 ⟨z5, z6.symm⟩]
    exact ⟨rfl, R1, m1, c1, Nat.le_add_right _ _⟩
  · have z : ¬ (s_ P 145 (p % 60) = 2 ∧ y - 4 = s_ P 146 (p % 60)) := fun w => c (by rw [w.2]; exact lvp w.1)
    refine done _ ?_
    rw [pk z, if_neg c]
end IR_
