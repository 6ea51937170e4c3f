/-! The reference's controls: what was heard. -/
section HF
variable {a : Nat} {ra : Nat → Nat} {R R' : Nat → Nat → Int32} {M : sm_M} {D : Nat} {P P' : pP} {d t : Nat}
theorem r_313 {k1 x5 x6 x7 j many o tg : Nat} {x2 x3 x4 : Int32} {z8 z9 : Option sm_V} {Q : Option sm_V → sm_M → Prop} (h : RM a ra R M) (ht : t < 336) (hk : k1 < 20) (h82 : R 82 0 = nE k1) (h5 : x5 ≤ 1) (h6 : x6 ≤ 1) (h7 : x7 ≤ 100) (h50 : k1 ≠ 0 → R 50 0 = nI j ∧ j < 60 ∧ R 41 j = nI many) (hm : many ≤ 64) (h74 : R 74 t = nI o) (ho : o ≤ 100) (h78 : x5 ≠ 0 → R 78 t = nI tg) (htg : tg ≤ 1)
    (hN : k1 = 11 ∨ k1 = 15 → sm_Run (D + 1) 184 331 [some (.inr (some a)), some (.inl (nI t)), some (.inl x2), some (.inl x3), some (.inl x4), some (.inl (nI x5)), some (.inl (nI x6)), some (.inl (nI x7)), z8, z9] [] M Q)
    (hF : k1 ≠ 11 → k1 ≠ 15 → ¬ (x6 = 0 ∧ k1 = 3) → ¬ (x6 = 1 ∧ x5 = 1 ∧ (k1 = 4 ∨ k1 = 12)) → ¬ (x6 = 1 ∧ x5 = 0 ∧ k1 = 12 ∧ many = 0) → sm_Run D 182 0 (sm_ent 182 [.inr (some a), .inl (nI t)]) [] M (fun v M1 => sm_Run (D + 1) 184 462 [some (.inr (some a)), some (.inl (nI t)), some (.inl x2), some (.inl x3), some (.inl x4), some (.inl (nI x5)), some (.inl (nI x6)), some (.inl (nI x7)), some (.inl 0), z9] (v.toList ++ []) M1 Q))
    (hT : x6 = 1 → x5 = 1 → k1 = 4 ∨ k1 = 12 → sm_Run (D + 1) 184 416 [some (.inr (some a)), some (.inl (nI t)), some (.inl x2), some (.inl x3), some (.inl x4), some (.inl (nI x5)), some (.inl (nI x6)), some (.inl (nI x7)), z8, z9] [] M Q)
    (hS : x6 = 1 → x5 = 0 → k1 = 12 → many = 0 → sm_Run D 178 0 (sm_ent 178 [.inr (some a), .inl 2, .inl 0, .inl 0, .inl 0]) [] (sm_putI M (ra 76) t 0) (fun v M1 => sm_Run (D + 1) 184 489 [some (.inr (some a)), some (.inl (nI t)), some (.inl x2), some (.inl x3), some (.inl x4), some (.inl (nI x5)), some (.inl (nI x6)), some (.inl (nI x7)), some (.inl 1), z9] (v.toList ++ []) M1 Q))
    (hG1 : x6 = 0 → x5 = 1 → k1 = 3 → sm_Run (D + 1) 184 597 [some (.inr (some a)), some (.inl (nI t)), some (.inl x2), some (.inl x3), some (.inl x4), some (.inl (nI x5)), some (.inl (nI x6)), some (.inl (nI x7)), some (.inl 1), z9] [] (sm_putI (sm_putI (sm_putI M (ra 76) t 0) (ra 74) t (nI (o + x7))) (ra 78) t (nI (1 - tg))) Q)
    (hG0 : x6 = 0 → x5 = 0 → k1 = 3 → sm_Run (D + 1) 184 489 [some (.inr (some a)), some (.inl (nI t)), some (.inl x2), some (.inl x3), some (.inl x4), some (.inl (nI x5)), some (.inl (nI x6)), some (.inl (nI x7)), some (.inl 1), z9] [] (sm_putI M (ra 76) t 0) Q) :
    sm_Run (D + 1) 184 313 [some (.inr (some a)), some (.inl (nI t)), some (.inl x2), some (.inl x3), some (.inl x4), some (.inl (nI x5)), some (.inl (nI x6)), some (.inl (nI x7)), z8, z9] [] M Q := by
  have et : (nI t).toNatClampNeg = t := nI_clamp (by omega)
  have c : ∀ n, n < 30 → (nE k1 = nI n) = (k1 = n + 1) := fun n hn => propext (nE_I (by omega) (by omega))
  have e5 : (nI x5 = 0) = (x5 = 0) := propext (by rw [li_0, nI_eq (by omega) (by decide)])
  have e6 : (nI x6 = 0) = (x6 = 0) := propext (by rw [li_0, nI_eq (by omega) (by decide)])
  have c10 : (nE k1 = 10) = (k1 = 11) := c 10 (by decide)
  have c14 : (nE k1 = 14) = (k1 = 15) := c 14 (by decide)
  have c11 : (nE k1 = 11) = (k1 = 12) := c 11 (by decide)
  have c3 : (nE k1 = 3) = (k1 = 4) := c 3 (by decide)
  have c2 : (nE k1 = 2) = (k1 = 3) := c 2 (by decide)
  have i76 : sm_in_ M (ra 76) (nI t) := of_eq_true (rN_76 h (by omega))
  have i74 : sm_in_ M (ra 74) (nI t) := of_eq_true (rN_74 h (by omega))
  have i78 : sm_in_ M (ra 78) (nI t) := of_eq_true (rN_78 h (by omega))
  have e1 : ∀ v : Int32, sm_R (sm_putI M (ra 76) t v) a 74 = some (ra 74) := fun v => by rw [Rp_j]; exact rd_r74 h
  refine bb_184_313 ⟨h.1, ?_⟩
  rw [rS_82 h, h82, c10, c14, c11, c3, c2, e5, e6]
  refine ⟨fun q => hN (Or.inl q), fun q10 => ⟨fun q14 => ⟨fun q6 => ⟨fun q5 => ⟨fun q11 => ?_, fun q11 => ?_⟩, fun q5 => ⟨fun q3 => hT (by omega) (by omega) (Or.inl q3), fun q3 => ⟨fun q11 => hF q10 q14 (by omega) (by omega) (by omega), fun q11 => hT (by omega) (by omega) (Or.inr (Decidable.not_not.mp q11))⟩⟩⟩, fun q6 => ⟨fun q2 => hF q10 q14 (by omega) (by omega) (by omega), fun q2 => ?_⟩⟩, fun q14 => hN (Or.inr (Decidable.not_not.mp q14))⟩⟩
  · exact bb_184_449 ⟨h.1, hF q10 q14 (by omega) (by omega) (by omega)⟩
  · have q11 : k1 = 12 := Decidable.not_not.mp q11
    obtain ⟨f1, f2, f3⟩ := h50 (by omega)
    refine ⟨ra 41, rd_r41 h, of_eq_true (rA_41 h), by rw [rS_50 h, f1]; exact of_eq_true (rN_41 h f2), ?_⟩
    rw [rS_50 h, f1, nI_clamp (by omega), rR_41 h, f3, li_0, nI_eq (by omega) (by decide)]
    refine ⟨fun q0 => bb_184_449 ⟨h.1, hF q10 q14 (by omega) (by omega) (by omega)⟩, fun q0 => ⟨ra 76, rd_r76 h, of_eq_true (rW_76 h), i76, fun q => absurd q5 q, fun _ => ⟨fun q => absurd q q6, fun _ => ?_⟩⟩⟩
    rw [et]
    exact hS (by omega) q5 q11 (by omega)
  · have q2 : k1 = 3 := Decidable.not_not.mp q2
    have q6 : x6 = 0 := Decidable.not_not.mp q6
    refine ⟨ra 76, rd_r76 h, of_eq_true (rW_76 h), i76, fun q5 => ⟨fun _ => ?_, fun q => absurd q6 q⟩, fun q5 => ⟨fun _ => ?_, fun q => absurd q6 q⟩⟩
    · rw [et]
      have r78 := h78 q5
      refine ⟨ra 74, e1 _, of_eq_true (rA_74 h), i74, of_eq_true (rW_74 h), ra 78, by rw [Rp_j, Rp_j]; exact rd_r78 h, of_eq_true (rA_78 h), i78, of_eq_true (rW_78 h), ?_⟩
      have v74 : sm_I (sm_putI M (ra 76) t 0) (ra 74) t + nI x7 = nI (o + x7) := by
        rw [Ip_r h (by decide) (by decide) (by decide) (by decide) (by decide), rR_74 h, h74, nI_add]
      rw [v74]
      have v78 : 1 - sm_I (sm_putI (sm_putI M (ra 76) t 0) (ra 74) t (nI (o + x7))) (ra 78) t = nI (1 - tg) := by
        rw [Ip_r h (by decide) (by decide) (by decide) (by decide) (by decide), Ip_r h (by decide) (by decide) (by decide) (by decide) (by decide), rR_78 h, r78, li_1, pk_sub (by omega)]
      rw [v78]
      exact hG1 q6 (by omega) q2
    · rw [et]
      exact hG0 q6 (Decidable.not_not.mp q5) q2
end HF
