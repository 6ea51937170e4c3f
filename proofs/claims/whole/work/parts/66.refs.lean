/-! The reference: its rows and numbers. By program: fields 0 .. 87, kinds, lengths. -/
def rK (k : Nat) : Nat := [0, 302, 305, 0, 308, 311, 314, 317, 320, 323, 326, 329, 332, 335, 602, 338, 341, 344, 347, 350, 353, 356, 605, 359, 362, 365, 368, 608, 371, 374, 377, 380, 0, 0, 383, 386, 389, 392, 395, 398, 401, 404, 407, 410, 413, 416, 0, 419, 0, 422, 0, 0, 425, 0, 0, 428, 0, 431, 434, 437, 440, 443, 446, 449, 452, 455, 458, 611, 614, 0, 0, 461, 464, 467, 470, 473, 476, 479, 482, 617, 485, 488, 0, 491, 0, 494, 497, 0].getD k 0
def rL (k : Nat) : Nat := [0, 20, 200, 0, 6, 6, 6, 6, 6, 6, 36, 36, 36, 36, 36, 36, 36, 9216, 384, 6, 6, 6, 6, 6, 6, 6, 6, 6, 6, 600, 6, 6, 0, 0, 50, 50, 50, 60, 60, 60, 60, 60, 6000, 60, 60, 60, 0, 800, 0, 700, 0, 0, 100, 0, 0, 18, 0, 6, 6, 6, 6, 6, 60, 60, 60, 60, 60, 60, 60, 0, 0, 400, 400, 400, 400, 400, 400, 400, 400, 400, 3200, 40000, 0, 100, 0, 6, 360, 0].getD k 0
section RF
/-- the object a, its rows ra, what they hold -/
def RM (a : Nat) (ra : Nat → Nat) (R : Nat → Nat → Int32) (M : sm_M) : Prop := sm_K M a = 39 ∧ (∀ k, k < 88 → rK k ≠ 0 → sm_R M a k = some (ra k) ∧ sm_K M (ra k) = rK k ∧ sm_L M (ra k) = rL k) ∧ (∀ k j, k < 88 → rK k ≠ 0 → sm_I M (ra k) j = R k j) ∧ ∀ k, k < 88 → rK k = 0 → sm_I M a k = R k 0
variable {a : Nat} {ra : Nat → Nat} {R : Nat → Nat → Int32} {M : sm_M}
theorem rK_inj : ∀ k, k < 88 → ∀ k', k' < 88 → rK k ≠ 0 → rK k = rK k' → k = k' := by decide +kernel
theorem rK_39 : ∀ k, k < 88 → rK k ≠ 39 := by decide +kernel
theorem rm_a (h : RM a ra R M) {k : Nat} (hk : k < 88) (h0 : rK k ≠ 0) : ra k ≠ a := by
  intro e
  have h1 := (h.2.1 k hk h0).2.1
  rw [e, h.1] at h1
  exact rK_39 k hk h1.symm
theorem rm_ne (h : RM a ra R M) {k k' : Nat} (hk : k < 88) (h0 : rK k ≠ 0) (hk' : k' < 88) (h0' : rK k' ≠ 0) (hn : k ≠ k') : ra k ≠ ra k' := by
  intro e
  have h1 := (h.2.1 k hk h0).2.1
  rw [e, (h.2.1 k' hk' h0').2.1] at h1
  exact hn (rK_inj k hk k' hk' h0 h1.symm)
/-- a place of a row is written -/
theorem rm_w (h : RM a ra R M) {f j : Nat} {v : Int32} (hf : f < 88) (h0 : rK f ≠ 0) : RM a ra (sm_u2 R f j v) (sm_putI M (ra f) j v) := by
  refine ⟨h.1, h.2.1, fun k i hk hk0 => ?_, fun k hk hk0 => ?_⟩
  · show sm_I (sm_putI M (ra f) j v) (ra k) i = if k = f ∧ i = j then v else R k i
    by_cases hkf : k = f
    · subst hkf
      by_cases hij : i = j
      · subst hij; rw [I_put_s, if_pos ⟨rfl, rfl⟩]
      · rw [I_put_k hij, if_neg (fun q => hij q.2)]; exact h.2.2.1 k i hk hk0
    · rw [I_put_a (rm_ne h hk hk0 hf h0 hkf), if_neg (fun q => hkf q.1)]; exact h.2.2.1 k i hk hk0
  · show sm_I (sm_putI M (ra f) j v) a k = if k = f ∧ 0 = j then v else R k 0
    rw [I_put_a (rm_a h hf h0).symm, if_neg (by rintro ⟨rfl, -⟩; exact h0 hk0)]
    exact h.2.2.2 k hk hk0
/-- a number is written -/
theorem rm_s (h : RM a ra R M) {f : Nat} {v : Int32} (hf : f < 88) (h0 : rK f = 0) : RM a ra (sm_u2 R f 0 v) (sm_putI M a f v) := by
  refine ⟨h.1, h.2.1, fun k i hk hk0 => ?_, fun k hk hk0 => ?_⟩
  · show sm_I (sm_putI M a f v) (ra k) i = if k = f ∧ i = 0 then v else R k i
    rw [I_put_a (rm_a h hk hk0), if_neg (by rintro ⟨rfl, -⟩; exact hk0 h0)]
    exact h.2.2.1 k i hk hk0
  · show sm_I (sm_putI M a f v) a k = if k = f ∧ 0 = 0 then v else R k 0
    by_cases hkf : k = f
    · subst hkf; rw [I_put_s, if_pos ⟨rfl, rfl⟩]
    · rw [I_put_k hkf, if_neg (fun q => hkf q.1)]; exact h.2.2.2 k hk hk0
theorem rm_in (h : RM a ra R M) {f j : Nat} (hf : f < 88) (h0 : rK f ≠ 0) (hj : j < rL f) (hl : rL f < 2 ^ 31) : sm_in_ M (ra f) (nI j) := by
  unfold sm_in_
  rw [nI_toInt (by omega), (h.2.1 f hf h0).2.2]
  omega
theorem rS_0 (h : RM a ra R M) : sm_I M a 0 = R 0 0 := h.2.2.2 0 (by decide) (by decide)
theorem rd_r1 (h : RM a ra R M) : sm_R M a 1 = some (ra 1) := (h.2.1 1 (by decide) (by decide)).1
theorem rR_1 (h : RM a ra R M) {j : Nat} : sm_I M (ra 1) j = R 1 j := h.2.2.1 1 j (by decide) (by decide)
theorem rN_1 (h : RM a ra R M) {j : Nat} (hj : j < 20) : sm_in_ M (ra 1) (nI j) = True := eq_true (rm_in h (by decide) (by decide) hj (by decide))
theorem rA_1 (h : RM a ra R M) : sm_iA M (ra 1) = True := eq_true (by unfold sm_iA; rw [(h.2.1 1 (by decide) (by decide)).2.1]; exact Or.inr (by decide))
theorem rW_1 (h : RM a ra R M) : sm_wA 1 M (ra 1) = True := eq_true (by unfold sm_wA; rw [(h.2.1 1 (by decide) (by decide)).2.1]; decide)
theorem rd_r2 (h : RM a ra R M) : sm_R M a 2 = some (ra 2) := (h.2.1 2 (by decide) (by decide)).1
theorem rR_2 (h : RM a ra R M) {j : Nat} : sm_I M (ra 2) j = R 2 j := h.2.2.1 2 j (by decide) (by decide)
theorem rN_2 (h : RM a ra R M) {j : Nat} (hj : j < 200) : sm_in_ M (ra 2) (nI j) = True := eq_true (rm_in h (by decide) (by decide) hj (by decide))
theorem rA_2 (h : RM a ra R M) : sm_iA M (ra 2) = True := eq_true (by unfold sm_iA; rw [(h.2.1 2 (by decide) (by decide)).2.1]; exact Or.inr (by decide))
theorem rW_2 (h : RM a ra R M) : sm_wA 1 M (ra 2) = True := eq_true (by unfold sm_wA; rw [(h.2.1 2 (by decide) (by decide)).2.1]; decide)
theorem rS_3 (h : RM a ra R M) : sm_I M a 3 = R 3 0 := h.2.2.2 3 (by decide) (by decide)
theorem rd_r4 (h : RM a ra R M) : sm_R M a 4 = some (ra 4) := (h.2.1 4 (by decide) (by decide)).1
theorem rR_4 (h : RM a ra R M) {j : Nat} : sm_I M (ra 4) j = R 4 j := h.2.2.1 4 j (by decide) (by decide)
theorem rN_4 (h : RM a ra R M) {j : Nat} (hj : j < 6) : sm_in_ M (ra 4) (nI j) = True := eq_true (rm_in h (by decide) (by decide) hj (by decide))
theorem rA_4 (h : RM a ra R M) : sm_iA M (ra 4) = True := eq_true (by unfold sm_iA; rw [(h.2.1 4 (by decide) (by decide)).2.1]; exact Or.inr (by decide))
theorem rW_4 (h : RM a ra R M) : sm_wA 1 M (ra 4) = True := eq_true (by unfold sm_wA; rw [(h.2.1 4 (by decide) (by decide)).2.1]; decide)
theorem rd_r5 (h : RM a ra R M) : sm_R M a 5 = some (ra 5) := (h.2.1 5 (by decide) (by decide)).1
theorem rR_5 (h : RM a ra R M) {j : Nat} : sm_I M (ra 5) j = R 5 j := h.2.2.1 5 j (by decide) (by decide)
theorem rN_5 (h : RM a ra R M) {j : Nat} (hj : j < 6) : sm_in_ M (ra 5) (nI j) = True := eq_true (rm_in h (by decide) (by decide) hj (by decide))
theorem rA_5 (h : RM a ra R M) : sm_iA M (ra 5) = True := eq_true (by unfold sm_iA; rw [(h.2.1 5 (by decide) (by decide)).2.1]; exact Or.inr (by decide))
theorem rW_5 (h : RM a ra R M) : sm_wA 1 M (ra 5) = True := eq_true (by unfold sm_wA; rw [(h.2.1 5 (by decide) (by decide)).2.1]; decide)
theorem rd_r6 (h : RM a ra R M) : sm_R M a 6 = some (ra 6) := (h.2.1 6 (by decide) (by decide)).1
theorem rR_6 (h : RM a ra R M) {j : Nat} : sm_I M (ra 6) j = R 6 j := h.2.2.1 6 j (by decide) (by decide)
theorem rN_6 (h : RM a ra R M) {j : Nat} (hj : j < 6) : sm_in_ M (ra 6) (nI j) = True := eq_true (rm_in h (by decide) (by decide) hj (by decide))
theorem rA_6 (h : RM a ra R M) : sm_iA M (ra 6) = True := eq_true (by unfold sm_iA; rw [(h.2.1 6 (by decide) (by decide)).2.1]; exact Or.inr (by decide))
theorem rW_6 (h : RM a ra R M) : sm_wA 1 M (ra 6) = True := eq_true (by unfold sm_wA; rw [(h.2.1 6 (by decide) (by decide)).2.1]; decide)
theorem rd_r7 (h : RM a ra R M) : sm_R M a 7 = some (ra 7) := (h.2.1 7 (by decide) (by decide)).1
theorem rR_7 (h : RM a ra R M) {j : Nat} : sm_I M (ra 7) j = R 7 j := h.2.2.1 7 j (by decide) (by decide)
theorem rN_7 (h : RM a ra R M) {j : Nat} (hj : j < 6) : sm_in_ M (ra 7) (nI j) = True := eq_true (rm_in h (by decide) (by decide) hj (by decide))
theorem rA_7 (h : RM a ra R M) : sm_iA M (ra 7) = True := eq_true (by unfold sm_iA; rw [(h.2.1 7 (by decide) (by decide)).2.1]; exact Or.inr (by decide))
theorem rW_7 (h : RM a ra R M) : sm_wA 1 M (ra 7) = True := eq_true (by unfold sm_wA; rw [(h.2.1 7 (by decide) (by decide)).2.1]; decide)
theorem rd_r8 (h : RM a ra R M) : sm_R M a 8 = some (ra 8) := (h.2.1 8 (by decide) (by decide)).1
theorem rR_8 (h : RM a ra R M) {j : Nat} : sm_I M (ra 8) j = R 8 j := h.2.2.1 8 j (by decide) (by decide)
theorem rN_8 (h : RM a ra R M) {j : Nat} (hj : j < 6) : sm_in_ M (ra 8) (nI j) = True := eq_true (rm_in h (by decide) (by decide) hj (by decide))
theorem rA_8 (h : RM a ra R M) : sm_iA M (ra 8) = True := eq_true (by unfold sm_iA; rw [(h.2.1 8 (by decide) (by decide)).2.1]; exact Or.inr (by decide))
theorem rW_8 (h : RM a ra R M) : sm_wA 1 M (ra 8) = True := eq_true (by unfold sm_wA; rw [(h.2.1 8 (by decide) (by decide)).2.1]; decide)
theorem rd_r9 (h : RM a ra R M) : sm_R M a 9 = some (ra 9) := (h.2.1 9 (by decide) (by decide)).1
theorem rR_9 (h : RM a ra R M) {j : Nat} : sm_I M (ra 9) j = R 9 j := h.2.2.1 9 j (by decide) (by decide)
theorem rN_9 (h : RM a ra R M) {j : Nat} (hj : j < 6) : sm_in_ M (ra 9) (nI j) = True := eq_true (rm_in h (by decide) (by decide) hj (by decide))
theorem rA_9 (h : RM a ra R M) : sm_iA M (ra 9) = True := eq_true (by unfold sm_iA; rw [(h.2.1 9 (by decide) (by decide)).2.1]; exact Or.inr (by decide))
theorem rW_9 (h : RM a ra R M) : sm_wA 1 M (ra 9) = True := eq_true (by unfold sm_wA; rw [(h.2.1 9 (by decide) (by decide)).2.1]; decide)
theorem rd_r10 (h : RM a ra R M) : sm_R M a 10 = some (ra 10) := (h.2.1 10 (by decide) (by decide)).1
theorem rR_10 (h : RM a ra R M) {j : Nat} : sm_I M (ra 10) j = R 10 j := h.2.2.1 10 j (by decide) (by decide)
theorem rN_10 (h : RM a ra R M) {j : Nat} (hj : j < 36) : sm_in_ M (ra 10) (nI j) = True := eq_true (rm_in h (by decide) (by decide) hj (by decide))
theorem rA_10 (h : RM a ra R M) : sm_iA M (ra 10) = True := eq_true (by unfold sm_iA; rw [(h.2.1 10 (by decide) (by decide)).2.1]; exact Or.inr (by decide))
theorem rW_10 (h : RM a ra R M) : sm_wA 1 M (ra 10) = True := eq_true (by unfold sm_wA; rw [(h.2.1 10 (by decide) (by decide)).2.1]; decide)
theorem rd_r11 (h : RM a ra R M) : sm_R M a 11 = some (ra 11) := (h.2.1 11 (by decide) (by decide)).1
theorem rR_11 (h : RM a ra R M) {j : Nat} : sm_I M (ra 11) j = R 11 j := h.2.2.1 11 j (by decide) (by decide)
theorem rN_11 (h : RM a ra R M) {j : Nat} (hj : j < 36) : sm_in_ M (ra 11) (nI j) = True := eq_true (rm_in h (by decide) (by decide) hj (by decide))
theorem rA_11 (h : RM a ra R M) : sm_iA M (ra 11) = True := eq_true (by unfold sm_iA; rw [(h.2.1 11 (by decide) (by decide)).2.1]; exact Or.inr (by decide))
theorem rW_11 (h : RM a ra R M) : sm_wA 1 M (ra 11) = True := eq_true (by unfold sm_wA; rw [(h.2.1 11 (by decide) (by decide)).2.1]; decide)
theorem rd_r12 (h : RM a ra R M) : sm_R M a 12 = some (ra 12) := (h.2.1 12 (by decide) (by decide)).1
theorem rR_12 (h : RM a ra R M) {j : Nat} : sm_I M (ra 12) j = R 12 j := h.2.2.1 12 j (by decide) (by decide)
theorem rN_12 (h : RM a ra R M) {j : Nat} (hj : j < 36) : sm_in_ M (ra 12) (nI j) = True := eq_true (rm_in h (by decide) (by decide) hj (by decide))
theorem rA_12 (h : RM a ra R M) : sm_iA M (ra 12) = True := eq_true (by unfold sm_iA; rw [(h.2.1 12 (by decide) (by decide)).2.1]; exact Or.inr (by decide))
theorem rW_12 (h : RM a ra R M) : sm_wA 1 M (ra 12) = True := eq_true (by unfold sm_wA; rw [(h.2.1 12 (by decide) (by decide)).2.1]; decide)
theorem rd_r13 (h : RM a ra R M) : sm_R M a 13 = some (ra 13) := (h.2.1 13 (by decide) (by decide)).1
theorem rR_13 (h : RM a ra R M) {j : Nat} : sm_I M (ra 13) j = R 13 j := h.2.2.1 13 j (by decide) (by decide)
theorem rN_13 (h : RM a ra R M) {j : Nat} (hj : j < 36) : sm_in_ M (ra 13) (nI j) = True := eq_true (rm_in h (by decide) (by decide) hj (by decide))
theorem rA_13 (h : RM a ra R M) : sm_iA M (ra 13) = True := eq_true (by unfold sm_iA; rw [(h.2.1 13 (by decide) (by decide)).2.1]; exact Or.inr (by decide))
theorem rW_13 (h : RM a ra R M) : sm_wA 1 M (ra 13) = True := eq_true (by unfold sm_wA; rw [(h.2.1 13 (by decide) (by decide)).2.1]; decide)
theorem rd_r14 (h : RM a ra R M) : sm_R M a 14 = some (ra 14) := (h.2.1 14 (by decide) (by decide)).1
theorem rR_14 (h : RM a ra R M) {j : Nat} : sm_I M (ra 14) j = R 14 j := h.2.2.1 14 j (by decide) (by decide)
theorem rN_14 (h : RM a ra R M) {j : Nat} (hj : j < 36) : sm_in_ M (ra 14) (nI j) = True := eq_true (rm_in h (by decide) (by decide) hj (by decide))
theorem rW_14 (h : RM a ra R M) : sm_wZ 1 M (ra 14) = True := eq_true (by unfold sm_wZ; rw [(h.2.1 14 (by decide) (by decide)).2.1]; decide)
theorem rd_r15 (h : RM a ra R M) : sm_R M a 15 = some (ra 15) := (h.2.1 15 (by decide) (by decide)).1
theorem rR_15 (h : RM a ra R M) {j : Nat} : sm_I M (ra 15) j = R 15 j := h.2.2.1 15 j (by decide) (by decide)
theorem rN_15 (h : RM a ra R M) {j : Nat} (hj : j < 36) : sm_in_ M (ra 15) (nI j) = True := eq_true (rm_in h (by decide) (by decide) hj (by decide))
theorem rA_15 (h : RM a ra R M) : sm_iA M (ra 15) = True := eq_true (by unfold sm_iA; rw [(h.2.1 15 (by decide) (by decide)).2.1]; exact Or.inr (by decide))
theorem rW_15 (h : RM a ra R M) : sm_wA 1 M (ra 15) = True := eq_true (by unfold sm_wA; rw [(h.2.1 15 (by decide) (by decide)).2.1]; decide)
theorem rd_r16 (h : RM a ra R M) : sm_R M a 16 = some (ra 16) := (h.2.1 16 (by decide) (by decide)).1
theorem rR_16 (h : RM a ra R M) {j : Nat} : sm_I M (ra 16) j = R 16 j := h.2.2.1 16 j (by decide) (by decide)
theorem rN_16 (h : RM a ra R M) {j : Nat} (hj : j < 36) : sm_in_ M (ra 16) (nI j) = True := eq_true (rm_in h (by decide) (by decide) hj (by decide))
theorem rA_16 (h : RM a ra R M) : sm_iA M (ra 16) = True := eq_true (by unfold sm_iA; rw [(h.2.1 16 (by decide) (by decide)).2.1]; exact Or.inr (by decide))
theorem rW_16 (h : RM a ra R M) : sm_wA 1 M (ra 16) = True := eq_true (by unfold sm_wA; rw [(h.2.1 16 (by decide) (by decide)).2.1]; decide)
theorem rd_r17 (h : RM a ra R M) : sm_R M a 17 = some (ra 17) := (h.2.1 17 (by decide) (by decide)).1
theorem rR_17 (h : RM a ra R M) {j : Nat} : sm_I M (ra 17) j = R 17 j := h.2.2.1 17 j (by decide) (by decide)
theorem rN_17 (h : RM a ra R M) {j : Nat} (hj : j < 9216) : sm_in_ M (ra 17) (nI j) = True := eq_true (rm_in h (by decide) (by decide) hj (by decide))
theorem rA_17 (h : RM a ra R M) : sm_iA M (ra 17) = True := eq_true (by unfold sm_iA; rw [(h.2.1 17 (by decide) (by decide)).2.1]; exact Or.inr (by decide))
theorem rW_17 (h : RM a ra R M) : sm_wA 1 M (ra 17) = True := eq_true (by unfold sm_wA; rw [(h.2.1 17 (by decide) (by decide)).2.1]; decide)
theorem rd_r18 (h : RM a ra R M) : sm_R M a 18 = some (ra 18) := (h.2.1 18 (by decide) (by decide)).1
theorem rR_18 (h : RM a ra R M) {j : Nat} : sm_I M (ra 18) j = R 18 j := h.2.2.1 18 j (by decide) (by decide)
theorem rN_18 (h : RM a ra R M) {j : Nat} (hj : j < 384) : sm_in_ M (ra 18) (nI j) = True := eq_true (rm_in h (by decide) (by decide) hj (by decide))
theorem rA_18 (h : RM a ra R M) : sm_iA M (ra 18) = True := eq_true (by unfold sm_iA; rw [(h.2.1 18 (by decide) (by decide)).2.1]; exact Or.inr (by decide))
theorem rW_18 (h : RM a ra R M) : sm_wA 1 M (ra 18) = True := eq_true (by unfold sm_wA; rw [(h.2.1 18 (by decide) (by decide)).2.1]; decide)
theorem rd_r19 (h : RM a ra R M) : sm_R M a 19 = some (ra 19) := (h.2.1 19 (by decide) (by decide)).1
theorem rR_19 (h : RM a ra R M) {j : Nat} : sm_I M (ra 19) j = R 19 j := h.2.2.1 19 j (by decide) (by decide)
theorem rN_19 (h : RM a ra R M) {j : Nat} (hj : j < 6) : sm_in_ M (ra 19) (nI j) = True := eq_true (rm_in h (by decide) (by decide) hj (by decide))
theorem rA_19 (h : RM a ra R M) : sm_iA M (ra 19) = True := eq_true (by unfold sm_iA; rw [(h.2.1 19 (by decide) (by decide)).2.1]; exact Or.inr (by decide))
theorem rW_19 (h : RM a ra R M) : sm_wA 1 M (ra 19) = True := eq_true (by unfold sm_wA; rw [(h.2.1 19 (by decide) (by decide)).2.1]; decide)
theorem rd_r20 (h : RM a ra R M) : sm_R M a 20 = some (ra 20) := (h.2.1 20 (by decide) (by decide)).1
theorem rR_20 (h : RM a ra R M) {j : Nat} : sm_I M (ra 20) j = R 20 j := h.2.2.1 20 j (by decide) (by decide)
theorem rN_20 (h : RM a ra R M) {j : Nat} (hj : j < 6) : sm_in_ M (ra 20) (nI j) = True := eq_true (rm_in h (by decide) (by decide) hj (by decide))
theorem rA_20 (h : RM a ra R M) : sm_iA M (ra 20) = True := eq_true (by unfold sm_iA; rw [(h.2.1 20 (by decide) (by decide)).2.1]; exact Or.inr (by decide))
theorem rW_20 (h : RM a ra R M) : sm_wA 1 M (ra 20) = True := eq_true (by unfold sm_wA; rw [(h.2.1 20 (by decide) (by decide)).2.1]; decide)
theorem rd_r21 (h : RM a ra R M) : sm_R M a 21 = some (ra 21) := (h.2.1 21 (by decide) (by decide)).1
theorem rR_21 (h : RM a ra R M) {j : Nat} : sm_I M (ra 21) j = R 21 j := h.2.2.1 21 j (by decide) (by decide)
theorem rN_21 (h : RM a ra R M) {j : Nat} (hj : j < 6) : sm_in_ M (ra 21) (nI j) = True := eq_true (rm_in h (by decide) (by decide) hj (by decide))
theorem rA_21 (h : RM a ra R M) : sm_iA M (ra 21) = True := eq_true (by unfold sm_iA; rw [(h.2.1 21 (by decide) (by decide)).2.1]; exact Or.inr (by decide))
theorem rW_21 (h : RM a ra R M) : sm_wA 1 M (ra 21) = True := eq_true (by unfold sm_wA; rw [(h.2.1 21 (by decide) (by decide)).2.1]; decide)
theorem rd_r22 (h : RM a ra R M) : sm_R M a 22 = some (ra 22) := (h.2.1 22 (by decide) (by decide)).1
theorem rR_22 (h : RM a ra R M) {j : Nat} : sm_I M (ra 22) j = R 22 j := h.2.2.1 22 j (by decide) (by decide)
theorem rN_22 (h : RM a ra R M) {j : Nat} (hj : j < 6) : sm_in_ M (ra 22) (nI j) = True := eq_true (rm_in h (by decide) (by decide) hj (by decide))
theorem rW_22 (h : RM a ra R M) : sm_wZ 1 M (ra 22) = True := eq_true (by unfold sm_wZ; rw [(h.2.1 22 (by decide) (by decide)).2.1]; decide)
theorem rd_r23 (h : RM a ra R M) : sm_R M a 23 = some (ra 23) := (h.2.1 23 (by decide) (by decide)).1
theorem rR_23 (h : RM a ra R M) {j : Nat} : sm_I M (ra 23) j = R 23 j := h.2.2.1 23 j (by decide) (by decide)
theorem rN_23 (h : RM a ra R M) {j : Nat} (hj : j < 6) : sm_in_ M (ra 23) (nI j) = True := eq_true (rm_in h (by decide) (by decide) hj (by decide))
theorem rA_23 (h : RM a ra R M) : sm_iA M (ra 23) = True := eq_true (by unfold sm_iA; rw [(h.2.1 23 (by decide) (by decide)).2.1]; exact Or.inr (by decide))
theorem rW_23 (h : RM a ra R M) : sm_wA 1 M (ra 23) = True := eq_true (by unfold sm_wA; rw [(h.2.1 23 (by decide) (by decide)).2.1]; decide)
theorem rd_r24 (h : RM a ra R M) : sm_R M a 24 = some (ra 24) := (h.2.1 24 (by decide) (by decide)).1
theorem rR_24 (h : RM a ra R M) {j : Nat} : sm_I M (ra 24) j = R 24 j := h.2.2.1 24 j (by decide) (by decide)
theorem rN_24 (h : RM a ra R M) {j : Nat} (hj : j < 6) : sm_in_ M (ra 24) (nI j) = True := eq_true (rm_in h (by decide) (by decide) hj (by decide))
theorem rA_24 (h : RM a ra R M) : sm_iA M (ra 24) = True := eq_true (by unfold sm_iA; rw [(h.2.1 24 (by decide) (by decide)).2.1]; exact Or.inr (by decide))
theorem rW_24 (h : RM a ra R M) : sm_wA 1 M (ra 24) = True := eq_true (by unfold sm_wA; rw [(h.2.1 24 (by decide) (by decide)).2.1]; decide)
theorem rd_r25 (h : RM a ra R M) : sm_R M a 25 = some (ra 25) := (h.2.1 25 (by decide) (by decide)).1
theorem rR_25 (h : RM a ra R M) {j : Nat} : sm_I M (ra 25) j = R 25 j := h.2.2.1 25 j (by decide) (by decide)
theorem rN_25 (h : RM a ra R M) {j : Nat} (hj : j < 6) : sm_in_ M (ra 25) (nI j) = True := eq_true (rm_in h (by decide) (by decide) hj (by decide))
theorem rA_25 (h : RM a ra R M) : sm_iA M (ra 25) = True := eq_true (by unfold sm_iA; rw [(h.2.1 25 (by decide) (by decide)).2.1]; exact Or.inr (by decide))
theorem rW_25 (h : RM a ra R M) : sm_wA 1 M (ra 25) = True := eq_true (by unfold sm_wA; rw [(h.2.1 25 (by decide) (by decide)).2.1]; decide)
theorem rd_r26 (h : RM a ra R M) : sm_R M a 26 = some (ra 26) := (h.2.1 26 (by decide) (by decide)).1
theorem rR_26 (h : RM a ra R M) {j : Nat} : sm_I M (ra 26) j = R 26 j := h.2.2.1 26 j (by decide) (by decide)
theorem rN_26 (h : RM a ra R M) {j : Nat} (hj : j < 6) : sm_in_ M (ra 26) (nI j) = True := eq_true (rm_in h (by decide) (by decide) hj (by decide))
theorem rA_26 (h : RM a ra R M) : sm_iA M (ra 26) = True := eq_true (by unfold sm_iA; rw [(h.2.1 26 (by decide) (by decide)).2.1]; exact Or.inr (by decide))
theorem rW_26 (h : RM a ra R M) : sm_wA 1 M (ra 26) = True := eq_true (by unfold sm_wA; rw [(h.2.1 26 (by decide) (by decide)).2.1]; decide)
theorem rd_r27 (h : RM a ra R M) : sm_R M a 27 = some (ra 27) := (h.2.1 27 (by decide) (by decide)).1
theorem rR_27 (h : RM a ra R M) {j : Nat} : sm_I M (ra 27) j = R 27 j := h.2.2.1 27 j (by decide) (by decide)
theorem rN_27 (h : RM a ra R M) {j : Nat} (hj : j < 6) : sm_in_ M (ra 27) (nI j) = True := eq_true (rm_in h (by decide) (by decide) hj (by decide))
theorem rW_27 (h : RM a ra R M) : sm_wZ 1 M (ra 27) = True := eq_true (by unfold sm_wZ; rw [(h.2.1 27 (by decide) (by decide)).2.1]; decide)
theorem rd_r28 (h : RM a ra R M) : sm_R M a 28 = some (ra 28) := (h.2.1 28 (by decide) (by decide)).1
theorem rR_28 (h : RM a ra R M) {j : Nat} : sm_I M (ra 28) j = R 28 j := h.2.2.1 28 j (by decide) (by decide)
theorem rN_28 (h : RM a ra R M) {j : Nat} (hj : j < 6) : sm_in_ M (ra 28) (nI j) = True := eq_true (rm_in h (by decide) (by decide) hj (by decide))
theorem rA_28 (h : RM a ra R M) : sm_iA M (ra 28) = True := eq_true (by unfold sm_iA; rw [(h.2.1 28 (by decide) (by decide)).2.1]; exact Or.inr (by decide))
theorem rW_28 (h : RM a ra R M) : sm_wA 1 M (ra 28) = True := eq_true (by unfold sm_wA; rw [(h.2.1 28 (by decide) (by decide)).2.1]; decide)
theorem rd_r29 (h : RM a ra R M) : sm_R M a 29 = some (ra 29) := (h.2.1 29 (by decide) (by decide)).1
theorem rR_29 (h : RM a ra R M) {j : Nat} : sm_I M (ra 29) j = R 29 j := h.2.2.1 29 j (by decide) (by decide)
theorem rN_29 (h : RM a ra R M) {j : Nat} (hj : j < 600) : sm_in_ M (ra 29) (nI j) = True := eq_true (rm_in h (by decide) (by decide) hj (by decide))
theorem rA_29 (h : RM a ra R M) : sm_iA M (ra 29) = True := eq_true (by unfold sm_iA; rw [(h.2.1 29 (by decide) (by decide)).2.1]; exact Or.inr (by decide))
theorem rW_29 (h : RM a ra R M) : sm_wA 1 M (ra 29) = True := eq_true (by unfold sm_wA; rw [(h.2.1 29 (by decide) (by decide)).2.1]; decide)
theorem rd_r30 (h : RM a ra R M) : sm_R M a 30 = some (ra 30) := (h.2.1 30 (by decide) (by decide)).1
theorem rR_30 (h : RM a ra R M) {j : Nat} : sm_I M (ra 30) j = R 30 j := h.2.2.1 30 j (by decide) (by decide)
theorem rN_30 (h : RM a ra R M) {j : Nat} (hj : j < 6) : sm_in_ M (ra 30) (nI j) = True := eq_true (rm_in h (by decide) (by decide) hj (by decide))
theorem rA_30 (h : RM a ra R M) : sm_iA M (ra 30) = True := eq_true (by unfold sm_iA; rw [(h.2.1 30 (by decide) (by decide)).2.1]; exact Or.inr (by decide))
theorem rW_30 (h : RM a ra R M) : sm_wA 1 M (ra 30) = True := eq_true (by unfold sm_wA; rw [(h.2.1 30 (by decide) (by decide)).2.1]; decide)
theorem rd_r31 (h : RM a ra R M) : sm_R M a 31 = some (ra 31) := (h.2.1 31 (by decide) (by decide)).1
theorem rR_31 (h : RM a ra R M) {j : Nat} : sm_I M (ra 31) j = R 31 j := h.2.2.1 31 j (by decide) (by decide)
theorem rN_31 (h : RM a ra R M) {j : Nat} (hj : j < 6) : sm_in_ M (ra 31) (nI j) = True := eq_true (rm_in h (by decide) (by decide) hj (by decide))
theorem rA_31 (h : RM a ra R M) : sm_iA M (ra 31) = True := eq_true (by unfold sm_iA; rw [(h.2.1 31 (by decide) (by decide)).2.1]; exact Or.inr (by decide))
theorem rW_31 (h : RM a ra R M) : sm_wA 1 M (ra 31) = True := eq_true (by unfold sm_wA; rw [(h.2.1 31 (by decide) (by decide)).2.1]; decide)
theorem rS_32 (h : RM a ra R M) : sm_I M a 32 = R 32 0 := h.2.2.2 32 (by decide) (by decide)
theorem rS_33 (h : RM a ra R M) : sm_I M a 33 = R 33 0 := h.2.2.2 33 (by decide) (by decide)
theorem rd_r34 (h : RM a ra R M) : sm_R M a 34 = some (ra 34) := (h.2.1 34 (by decide) (by decide)).1
theorem rR_34 (h : RM a ra R M) {j : Nat} : sm_I M (ra 34) j = R 34 j := h.2.2.1 34 j (by decide) (by decide)
theorem rN_34 (h : RM a ra R M) {j : Nat} (hj : j < 50) : sm_in_ M (ra 34) (nI j) = True := eq_true (rm_in h (by decide) (by decide) hj (by decide))
theorem rA_34 (h : RM a ra R M) : sm_iA M (ra 34) = True := eq_true (by unfold sm_iA; rw [(h.2.1 34 (by decide) (by decide)).2.1]; exact Or.inr (by decide))
theorem rW_34 (h : RM a ra R M) : sm_wA 1 M (ra 34) = True := eq_true (by unfold sm_wA; rw [(h.2.1 34 (by decide) (by decide)).2.1]; decide)
theorem rd_r35 (h : RM a ra R M) : sm_R M a 35 = some (ra 35) := (h.2.1 35 (by decide) (by decide)).1
theorem rR_35 (h : RM a ra R M) {j : Nat} : sm_I M (ra 35) j = R 35 j := h.2.2.1 35 j (by decide) (by decide)
theorem rN_35 (h : RM a ra R M) {j : Nat} (hj : j < 50) : sm_in_ M (ra 35) (nI j) = True := eq_true (rm_in h (by decide) (by decide) hj (by decide))
theorem rA_35 (h : RM a ra R M) : sm_iA M (ra 35) = True := eq_true (by unfold sm_iA; rw [(h.2.1 35 (by decide) (by decide)).2.1]; exact Or.inr (by decide))
theorem rW_35 (h : RM a ra R M) : sm_wA 1 M (ra 35) = True := eq_true (by unfold sm_wA; rw [(h.2.1 35 (by decide) (by decide)).2.1]; decide)
theorem rd_r36 (h : RM a ra R M) : sm_R M a 36 = some (ra 36) := (h.2.1 36 (by decide) (by decide)).1
theorem rR_36 (h : RM a ra R M) {j : Nat} : sm_I M (ra 36) j = R 36 j := h.2.2.1 36 j (by decide) (by decide)
theorem rN_36 (h : RM a ra R M) {j : Nat} (hj : j < 50) : sm_in_ M (ra 36) (nI j) = True := eq_true (rm_in h (by decide) (by decide) hj (by decide))
theorem rA_36 (h : RM a ra R M) : sm_iA M (ra 36) = True := eq_true (by unfold sm_iA; rw [(h.2.1 36 (by decide) (by decide)).2.1]; exact Or.inr (by decide))
theorem rW_36 (h : RM a ra R M) : sm_wA 1 M (ra 36) = True := eq_true (by unfold sm_wA; rw [(h.2.1 36 (by decide) (by decide)).2.1]; decide)
theorem rd_r37 (h : RM a ra R M) : sm_R M a 37 = some (ra 37) := (h.2.1 37 (by decide) (by decide)).1
theorem rR_37 (h : RM a ra R M) {j : Nat} : sm_I M (ra 37) j = R 37 j := h.2.2.1 37 j (by decide) (by decide)
theorem rN_37 (h : RM a ra R M) {j : Nat} (hj : j < 60) : sm_in_ M (ra 37) (nI j) = True := eq_true (rm_in h (by decide) (by decide) hj (by decide))
theorem rA_37 (h : RM a ra R M) : sm_iA M (ra 37) = True := eq_true (by unfold sm_iA; rw [(h.2.1 37 (by decide) (by decide)).2.1]; exact Or.inr (by decide))
theorem rW_37 (h : RM a ra R M) : sm_wA 1 M (ra 37) = True := eq_true (by unfold sm_wA; rw [(h.2.1 37 (by decide) (by decide)).2.1]; decide)
theorem rd_r38 (h : RM a ra R M) : sm_R M a 38 = some (ra 38) := (h.2.1 38 (by decide) (by decide)).1
theorem rR_38 (h : RM a ra R M) {j : Nat} : sm_I M (ra 38) j = R 38 j := h.2.2.1 38 j (by decide) (by decide)
theorem rN_38 (h : RM a ra R M) {j : Nat} (hj : j < 60) : sm_in_ M (ra 38) (nI j) = True := eq_true (rm_in h (by decide) (by decide) hj (by decide))
theorem rA_38 (h : RM a ra R M) : sm_iA M (ra 38) = True := eq_true (by unfold sm_iA; rw [(h.2.1 38 (by decide) (by decide)).2.1]; exact Or.inr (by decide))
theorem rW_38 (h : RM a ra R M) : sm_wA 1 M (ra 38) = True := eq_true (by unfold sm_wA; rw [(h.2.1 38 (by decide) (by decide)).2.1]; decide)
theorem rd_r39 (h : RM a ra R M) : sm_R M a 39 = some (ra 39) := (h.2.1 39 (by decide) (by decide)).1
theorem rR_39 (h : RM a ra R M) {j : Nat} : sm_I M (ra 39) j = R 39 j := h.2.2.1 39 j (by decide) (by decide)
theorem rN_39 (h : RM a ra R M) {j : Nat} (hj : j < 60) : sm_in_ M (ra 39) (nI j) = True := eq_true (rm_in h (by decide) (by decide) hj (by decide))
theorem rA_39 (h : RM a ra R M) : sm_iA M (ra 39) = True := eq_true (by unfold sm_iA; rw [(h.2.1 39 (by decide) (by decide)).2.1]; exact Or.inr (by decide))
theorem rW_39 (h : RM a ra R M) : sm_wA 1 M (ra 39) = True := eq_true (by unfold sm_wA; rw [(h.2.1 39 (by decide) (by decide)).2.1]; decide)
theorem rd_r40 (h : RM a ra R M) : sm_R M a 40 = some (ra 40) := (h.2.1 40 (by decide) (by decide)).1
theorem rR_40 (h : RM a ra R M) {j : Nat} : sm_I M (ra 40) j = R 40 j := h.2.2.1 40 j (by decide) (by decide)
theorem rN_40 (h : RM a ra R M) {j : Nat} (hj : j < 60) : sm_in_ M (ra 40) (nI j) = True := eq_true (rm_in h (by decide) (by decide) hj (by decide))
theorem rA_40 (h : RM a ra R M) : sm_iA M (ra 40) = True := eq_true (by unfold sm_iA; rw [(h.2.1 40 (by decide) (by decide)).2.1]; exact Or.inr (by decide))
theorem rW_40 (h : RM a ra R M) : sm_wA 1 M (ra 40) = True := eq_true (by unfold sm_wA; rw [(h.2.1 40 (by decide) (by decide)).2.1]; decide)
theorem rd_r41 (h : RM a ra R M) : sm_R M a 41 = some (ra 41) := (h.2.1 41 (by decide) (by decide)).1
theorem rR_41 (h : RM a ra R M) {j : Nat} : sm_I M (ra 41) j = R 41 j := h.2.2.1 41 j (by decide) (by decide)
theorem rN_41 (h : RM a ra R M) {j : Nat} (hj : j < 60) : sm_in_ M (ra 41) (nI j) = True := eq_true (rm_in h (by decide) (by decide) hj (by decide))
theorem rA_41 (h : RM a ra R M) : sm_iA M (ra 41) = True := eq_true (by unfold sm_iA; rw [(h.2.1 41 (by decide) (by decide)).2.1]; exact Or.inr (by decide))
theorem rW_41 (h : RM a ra R M) : sm_wA 1 M (ra 41) = True := eq_true (by unfold sm_wA; rw [(h.2.1 41 (by decide) (by decide)).2.1]; decide)
theorem rd_r42 (h : RM a ra R M) : sm_R M a 42 = some (ra 42) := (h.2.1 42 (by decide) (by decide)).1
theorem rR_42 (h : RM a ra R M) {j : Nat} : sm_I M (ra 42) j = R 42 j := h.2.2.1 42 j (by decide) (by decide)
theorem rN_42 (h : RM a ra R M) {j : Nat} (hj : j < 6000) : sm_in_ M (ra 42) (nI j) = True := eq_true (rm_in h (by decide) (by decide) hj (by decide))
theorem rA_42 (h : RM a ra R M) : sm_iA M (ra 42) = True := eq_true (by unfold sm_iA; rw [(h.2.1 42 (by decide) (by decide)).2.1]; exact Or.inr (by decide))
theorem rW_42 (h : RM a ra R M) : sm_wA 1 M (ra 42) = True := eq_true (by unfold sm_wA; rw [(h.2.1 42 (by decide) (by decide)).2.1]; decide)
theorem rd_r43 (h : RM a ra R M) : sm_R M a 43 = some (ra 43) := (h.2.1 43 (by decide) (by decide)).1
theorem rR_43 (h : RM a ra R M) {j : Nat} : sm_I M (ra 43) j = R 43 j := h.2.2.1 43 j (by decide) (by decide)
theorem rN_43 (h : RM a ra R M) {j : Nat} (hj : j < 60) : sm_in_ M (ra 43) (nI j) = True := eq_true (rm_in h (by decide) (by decide) hj (by decide))
theorem rA_43 (h : RM a ra R M) : sm_iA M (ra 43) = True := eq_true (by unfold sm_iA; rw [(h.2.1 43 (by decide) (by decide)).2.1]; exact Or.inr (by decide))
theorem rW_43 (h : RM a ra R M) : sm_wA 1 M (ra 43) = True := eq_true (by unfold sm_wA; rw [(h.2.1 43 (by decide) (by decide)).2.1]; decide)
theorem rd_r44 (h : RM a ra R M) : sm_R M a 44 = some (ra 44) := (h.2.1 44 (by decide) (by decide)).1
theorem rR_44 (h : RM a ra R M) {j : Nat} : sm_I M (ra 44) j = R 44 j := h.2.2.1 44 j (by decide) (by decide)
theorem rN_44 (h : RM a ra R M) {j : Nat} (hj : j < 60) : sm_in_ M (ra 44) (nI j) = True := eq_true (rm_in h (by decide) (by decide) hj (by decide))
theorem rA_44 (h : RM a ra R M) : sm_iA M (ra 44) = True := eq_true (by unfold sm_iA; rw [(h.2.1 44 (by decide) (by decide)).2.1]; exact Or.inr (by decide))
theorem rW_44 (h : RM a ra R M) : sm_wA 1 M (ra 44) = True := eq_true (by unfold sm_wA; rw [(h.2.1 44 (by decide) (by decide)).2.1]; decide)
theorem rd_r45 (h : RM a ra R M) : sm_R M a 45 = some (ra 45) := (h.2.1 45 (by decide) (by decide)).1
theorem rR_45 (h : RM a ra R M) {j : Nat} : sm_I M (ra 45) j = R 45 j := h.2.2.1 45 j (by decide) (by decide)
theorem rN_45 (h : RM a ra R M) {j : Nat} (hj : j < 60) : sm_in_ M (ra 45) (nI j) = True := eq_true (rm_in h (by decide) (by decide) hj (by decide))
theorem rA_45 (h : RM a ra R M) : sm_iA M (ra 45) = True := eq_true (by unfold sm_iA; rw [(h.2.1 45 (by decide) (by decide)).2.1]; exact Or.inr (by decide))
theorem rW_45 (h : RM a ra R M) : sm_wA 1 M (ra 45) = True := eq_true (by unfold sm_wA; rw [(h.2.1 45 (by decide) (by decide)).2.1]; decide)
theorem rS_46 (h : RM a ra R M) : sm_I M a 46 = R 46 0 := h.2.2.2 46 (by decide) (by decide)
theorem rd_r47 (h : RM a ra R M) : sm_R M a 47 = some (ra 47) := (h.2.1 47 (by decide) (by decide)).1
theorem rR_47 (h : RM a ra R M) {j : Nat} : sm_I M (ra 47) j = R 47 j := h.2.2.1 47 j (by decide) (by decide)
theorem rN_47 (h : RM a ra R M) {j : Nat} (hj : j < 800) : sm_in_ M (ra 47) (nI j) = True := eq_true (rm_in h (by decide) (by decide) hj (by decide))
theorem rA_47 (h : RM a ra R M) : sm_iA M (ra 47) = True := eq_true (by unfold sm_iA; rw [(h.2.1 47 (by decide) (by decide)).2.1]; exact Or.inr (by decide))
theorem rW_47 (h : RM a ra R M) : sm_wA 1 M (ra 47) = True := eq_true (by unfold sm_wA; rw [(h.2.1 47 (by decide) (by decide)).2.1]; decide)
theorem rS_48 (h : RM a ra R M) : sm_I M a 48 = R 48 0 := h.2.2.2 48 (by decide) (by decide)
theorem rd_r49 (h : RM a ra R M) : sm_R M a 49 = some (ra 49) := (h.2.1 49 (by decide) (by decide)).1
theorem rR_49 (h : RM a ra R M) {j : Nat} : sm_I M (ra 49) j = R 49 j := h.2.2.1 49 j (by decide) (by decide)
theorem rN_49 (h : RM a ra R M) {j : Nat} (hj : j < 700) : sm_in_ M (ra 49) (nI j) = True := eq_true (rm_in h (by decide) (by decide) hj (by decide))
theorem rA_49 (h : RM a ra R M) : sm_iA M (ra 49) = True := eq_true (by unfold sm_iA; rw [(h.2.1 49 (by decide) (by decide)).2.1]; exact Or.inr (by decide))
theorem rW_49 (h : RM a ra R M) : sm_wA 1 M (ra 49) = True := eq_true (by unfold sm_wA; rw [(h.2.1 49 (by decide) (by decide)).2.1]; decide)
theorem rS_50 (h : RM a ra R M) : sm_I M a 50 = R 50 0 := h.2.2.2 50 (by decide) (by decide)
theorem rS_51 (h : RM a ra R M) : sm_I M a 51 = R 51 0 := h.2.2.2 51 (by decide) (by decide)
theorem rd_r52 (h : RM a ra R M) : sm_R M a 52 = some (ra 52) := (h.2.1 52 (by decide) (by decide)).1
theorem rR_52 (h : RM a ra R M) {j : Nat} : sm_I M (ra 52) j = R 52 j := h.2.2.1 52 j (by decide) (by decide)
theorem rN_52 (h : RM a ra R M) {j : Nat} (hj : j < 100) : sm_in_ M (ra 52) (nI j) = True := eq_true (rm_in h (by decide) (by decide) hj (by decide))
theorem rA_52 (h : RM a ra R M) : sm_iA M (ra 52) = True := eq_true (by unfold sm_iA; rw [(h.2.1 52 (by decide) (by decide)).2.1]; exact Or.inr (by decide))
theorem rW_52 (h : RM a ra R M) : sm_wA 1 M (ra 52) = True := eq_true (by unfold sm_wA; rw [(h.2.1 52 (by decide) (by decide)).2.1]; decide)
theorem rS_53 (h : RM a ra R M) : sm_I M a 53 = R 53 0 := h.2.2.2 53 (by decide) (by decide)
theorem rS_54 (h : RM a ra R M) : sm_I M a 54 = R 54 0 := h.2.2.2 54 (by decide) (by decide)
theorem rd_r55 (h : RM a ra R M) : sm_R M a 55 = some (ra 55) := (h.2.1 55 (by decide) (by decide)).1
theorem rR_55 (h : RM a ra R M) {j : Nat} : sm_I M (ra 55) j = R 55 j := h.2.2.1 55 j (by decide) (by decide)
theorem rN_55 (h : RM a ra R M) {j : Nat} (hj : j < 18) : sm_in_ M (ra 55) (nI j) = True := eq_true (rm_in h (by decide) (by decide) hj (by decide))
theorem rA_55 (h : RM a ra R M) : sm_iA M (ra 55) = True := eq_true (by unfold sm_iA; rw [(h.2.1 55 (by decide) (by decide)).2.1]; exact Or.inr (by decide))
theorem rW_55 (h : RM a ra R M) : sm_wA 1 M (ra 55) = True := eq_true (by unfold sm_wA; rw [(h.2.1 55 (by decide) (by decide)).2.1]; decide)
theorem rS_56 (h : RM a ra R M) : sm_I M a 56 = R 56 0 := h.2.2.2 56 (by decide) (by decide)
theorem rd_r57 (h : RM a ra R M) : sm_R M a 57 = some (ra 57) := (h.2.1 57 (by decide) (by decide)).1
theorem rR_57 (h : RM a ra R M) {j : Nat} : sm_I M (ra 57) j = R 57 j := h.2.2.1 57 j (by decide) (by decide)
theorem rN_57 (h : RM a ra R M) {j : Nat} (hj : j < 6) : sm_in_ M (ra 57) (nI j) = True := eq_true (rm_in h (by decide) (by decide) hj (by decide))
theorem rA_57 (h : RM a ra R M) : sm_iA M (ra 57) = True := eq_true (by unfold sm_iA; rw [(h.2.1 57 (by decide) (by decide)).2.1]; exact Or.inr (by decide))
theorem rW_57 (h : RM a ra R M) : sm_wA 1 M (ra 57) = True := eq_true (by unfold sm_wA; rw [(h.2.1 57 (by decide) (by decide)).2.1]; decide)
theorem rd_r58 (h : RM a ra R M) : sm_R M a 58 = some (ra 58) := (h.2.1 58 (by decide) (by decide)).1
theorem rR_58 (h : RM a ra R M) {j : Nat} : sm_I M (ra 58) j = R 58 j := h.2.2.1 58 j (by decide) (by decide)
theorem rN_58 (h : RM a ra R M) {j : Nat} (hj : j < 6) : sm_in_ M (ra 58) (nI j) = True := eq_true (rm_in h (by decide) (by decide) hj (by decide))
theorem rA_58 (h : RM a ra R M) : sm_iA M (ra 58) = True := eq_true (by unfold sm_iA; rw [(h.2.1 58 (by decide) (by decide)).2.1]; exact Or.inr (by decide))
theorem rW_58 (h : RM a ra R M) : sm_wA 1 M (ra 58) = True := eq_true (by unfold sm_wA; rw [(h.2.1 58 (by decide) (by decide)).2.1]; decide)
theorem rd_r59 (h : RM a ra R M) : sm_R M a 59 = some (ra 59) := (h.2.1 59 (by decide) (by decide)).1
theorem rR_59 (h : RM a ra R M) {j : Nat} : sm_I M (ra 59) j = R 59 j := h.2.2.1 59 j (by decide) (by decide)
theorem rN_59 (h : RM a ra R M) {j : Nat} (hj : j < 6) : sm_in_ M (ra 59) (nI j) = True := eq_true (rm_in h (by decide) (by decide) hj (by decide))
theorem rA_59 (h : RM a ra R M) : sm_iA M (ra 59) = True := eq_true (by unfold sm_iA; rw [(h.2.1 59 (by decide) (by decide)).2.1]; exact Or.inr (by decide))
theorem rW_59 (h : RM a ra R M) : sm_wA 1 M (ra 59) = True := eq_true (by unfold sm_wA; rw [(h.2.1 59 (by decide) (by decide)).2.1]; decide)
theorem rd_r60 (h : RM a ra R M) : sm_R M a 60 = some (ra 60) := (h.2.1 60 (by decide) (by decide)).1
theorem rR_60 (h : RM a ra R M) {j : Nat} : sm_I M (ra 60) j = R 60 j := h.2.2.1 60 j (by decide) (by decide)
theorem rN_60 (h : RM a ra R M) {j : Nat} (hj : j < 6) : sm_in_ M (ra 60) (nI j) = True := eq_true (rm_in h (by decide) (by decide) hj (by decide))
theorem rA_60 (h : RM a ra R M) : sm_iA M (ra 60) = True := eq_true (by unfold sm_iA; rw [(h.2.1 60 (by decide) (by decide)).2.1]; exact Or.inr (by decide))
theorem rW_60 (h : RM a ra R M) : sm_wA 1 M (ra 60) = True := eq_true (by unfold sm_wA; rw [(h.2.1 60 (by decide) (by decide)).2.1]; decide)
theorem rd_r61 (h : RM a ra R M) : sm_R M a 61 = some (ra 61) := (h.2.1 61 (by decide) (by decide)).1
theorem rR_61 (h : RM a ra R M) {j : Nat} : sm_I M (ra 61) j = R 61 j := h.2.2.1 61 j (by decide) (by decide)
theorem rN_61 (h : RM a ra R M) {j : Nat} (hj : j < 6) : sm_in_ M (ra 61) (nI j) = True := eq_true (rm_in h (by decide) (by decide) hj (by decide))
theorem rA_61 (h : RM a ra R M) : sm_iA M (ra 61) = True := eq_true (by unfold sm_iA; rw [(h.2.1 61 (by decide) (by decide)).2.1]; exact Or.inr (by decide))
theorem rW_61 (h : RM a ra R M) : sm_wA 1 M (ra 61) = True := eq_true (by unfold sm_wA; rw [(h.2.1 61 (by decide) (by decide)).2.1]; decide)
theorem rd_r62 (h : RM a ra R M) : sm_R M a 62 = some (ra 62) := (h.2.1 62 (by decide) (by decide)).1
theorem rR_62 (h : RM a ra R M) {j : Nat} : sm_I M (ra 62) j = R 62 j := h.2.2.1 62 j (by decide) (by decide)
theorem rN_62 (h : RM a ra R M) {j : Nat} (hj : j < 60) : sm_in_ M (ra 62) (nI j) = True := eq_true (rm_in h (by decide) (by decide) hj (by decide))
theorem rA_62 (h : RM a ra R M) : sm_iA M (ra 62) = True := eq_true (by unfold sm_iA; rw [(h.2.1 62 (by decide) (by decide)).2.1]; exact Or.inr (by decide))
theorem rW_62 (h : RM a ra R M) : sm_wA 1 M (ra 62) = True := eq_true (by unfold sm_wA; rw [(h.2.1 62 (by decide) (by decide)).2.1]; decide)
theorem rd_r63 (h : RM a ra R M) : sm_R M a 63 = some (ra 63) := (h.2.1 63 (by decide) (by decide)).1
theorem rR_63 (h : RM a ra R M) {j : Nat} : sm_I M (ra 63) j = R 63 j := h.2.2.1 63 j (by decide) (by decide)
theorem rN_63 (h : RM a ra R M) {j : Nat} (hj : j < 60) : sm_in_ M (ra 63) (nI j) = True := eq_true (rm_in h (by decide) (by decide) hj (by decide))
theorem rA_63 (h : RM a ra R M) : sm_iA M (ra 63) = True := eq_true (by unfold sm_iA; rw [(h.2.1 63 (by decide) (by decide)).2.1]; exact Or.inr (by decide))
theorem rW_63 (h : RM a ra R M) : sm_wA 1 M (ra 63) = True := eq_true (by unfold sm_wA; rw [(h.2.1 63 (by decide) (by decide)).2.1]; decide)
theorem rd_r64 (h : RM a ra R M) : sm_R M a 64 = some (ra 64) := (h.2.1 64 (by decide) (by decide)).1
theorem rR_64 (h : RM a ra R M) {j : Nat} : sm_I M (ra 64) j = R 64 j := h.2.2.1 64 j (by decide) (by decide)
theorem rN_64 (h : RM a ra R M) {j : Nat} (hj : j < 60) : sm_in_ M (ra 64) (nI j) = True := eq_true (rm_in h (by decide) (by decide) hj (by decide))
theorem rA_64 (h : RM a ra R M) : sm_iA M (ra 64) = True := eq_true (by unfold sm_iA; rw [(h.2.1 64 (by decide) (by decide)).2.1]; exact Or.inr (by decide))
theorem rW_64 (h : RM a ra R M) : sm_wA 1 M (ra 64) = True := eq_true (by unfold sm_wA; rw [(h.2.1 64 (by decide) (by decide)).2.1]; decide)
theorem rd_r65 (h : RM a ra R M) : sm_R M a 65 = some (ra 65) := (h.2.1 65 (by decide) (by decide)).1
theorem rR_65 (h : RM a ra R M) {j : Nat} : sm_I M (ra 65) j = R 65 j := h.2.2.1 65 j (by decide) (by decide)
theorem rN_65 (h : RM a ra R M) {j : Nat} (hj : j < 60) : sm_in_ M (ra 65) (nI j) = True := eq_true (rm_in h (by decide) (by decide) hj (by decide))
theorem rA_65 (h : RM a ra R M) : sm_iA M (ra 65) = True := eq_true (by unfold sm_iA; rw [(h.2.1 65 (by decide) (by decide)).2.1]; exact Or.inr (by decide))
theorem rW_65 (h : RM a ra R M) : sm_wA 1 M (ra 65) = True := eq_true (by unfold sm_wA; rw [(h.2.1 65 (by decide) (by decide)).2.1]; decide)
theorem rd_r66 (h : RM a ra R M) : sm_R M a 66 = some (ra 66) := (h.2.1 66 (by decide) (by decide)).1
theorem rR_66 (h : RM a ra R M) {j : Nat} : sm_I M (ra 66) j = R 66 j := h.2.2.1 66 j (by decide) (by decide)
theorem rN_66 (h : RM a ra R M) {j : Nat} (hj : j < 60) : sm_in_ M (ra 66) (nI j) = True := eq_true (rm_in h (by decide) (by decide) hj (by decide))
theorem rA_66 (h : RM a ra R M) : sm_iA M (ra 66) = True := eq_true (by unfold sm_iA; rw [(h.2.1 66 (by decide) (by decide)).2.1]; exact Or.inr (by decide))
theorem rW_66 (h : RM a ra R M) : sm_wA 1 M (ra 66) = True := eq_true (by unfold sm_wA; rw [(h.2.1 66 (by decide) (by decide)).2.1]; decide)
theorem rd_r67 (h : RM a ra R M) : sm_R M a 67 = some (ra 67) := (h.2.1 67 (by decide) (by decide)).1
theorem rR_67 (h : RM a ra R M) {j : Nat} : sm_I M (ra 67) j = R 67 j := h.2.2.1 67 j (by decide) (by decide)
theorem rN_67 (h : RM a ra R M) {j : Nat} (hj : j < 60) : sm_in_ M (ra 67) (nI j) = True := eq_true (rm_in h (by decide) (by decide) hj (by decide))
theorem rW_67 (h : RM a ra R M) : sm_wZ 1 M (ra 67) = True := eq_true (by unfold sm_wZ; rw [(h.2.1 67 (by decide) (by decide)).2.1]; decide)
theorem rd_r68 (h : RM a ra R M) : sm_R M a 68 = some (ra 68) := (h.2.1 68 (by decide) (by decide)).1
theorem rR_68 (h : RM a ra R M) {j : Nat} : sm_I M (ra 68) j = R 68 j := h.2.2.1 68 j (by decide) (by decide)
theorem rN_68 (h : RM a ra R M) {j : Nat} (hj : j < 60) : sm_in_ M (ra 68) (nI j) = True := eq_true (rm_in h (by decide) (by decide) hj (by decide))
theorem rW_68 (h : RM a ra R M) : sm_wZ 1 M (ra 68) = True := eq_true (by unfold sm_wZ; rw [(h.2.1 68 (by decide) (by decide)).2.1]; decide)
theorem rS_69 (h : RM a ra R M) : sm_I M a 69 = R 69 0 := h.2.2.2 69 (by decide) (by decide)
theorem rS_70 (h : RM a ra R M) : sm_I M a 70 = R 70 0 := h.2.2.2 70 (by decide) (by decide)
theorem rd_r71 (h : RM a ra R M) : sm_R M a 71 = some (ra 71) := (h.2.1 71 (by decide) (by decide)).1
theorem rR_71 (h : RM a ra R M) {j : Nat} : sm_I M (ra 71) j = R 71 j := h.2.2.1 71 j (by decide) (by decide)
theorem rN_71 (h : RM a ra R M) {j : Nat} (hj : j < 400) : sm_in_ M (ra 71) (nI j) = True := eq_true (rm_in h (by decide) (by decide) hj (by decide))
theorem rA_71 (h : RM a ra R M) : sm_iA M (ra 71) = True := eq_true (by unfold sm_iA; rw [(h.2.1 71 (by decide) (by decide)).2.1]; exact Or.inr (by decide))
theorem rW_71 (h : RM a ra R M) : sm_wA 1 M (ra 71) = True := eq_true (by unfold sm_wA; rw [(h.2.1 71 (by decide) (by decide)).2.1]; decide)
theorem rd_r72 (h : RM a ra R M) : sm_R M a 72 = some (ra 72) := (h.2.1 72 (by decide) (by decide)).1
theorem rR_72 (h : RM a ra R M) {j : Nat} : sm_I M (ra 72) j = R 72 j := h.2.2.1 72 j (by decide) (by decide)
theorem rN_72 (h : RM a ra R M) {j : Nat} (hj : j < 400) : sm_in_ M (ra 72) (nI j) = True := eq_true (rm_in h (by decide) (by decide) hj (by decide))
theorem rA_72 (h : RM a ra R M) : sm_iA M (ra 72) = True := eq_true (by unfold sm_iA; rw [(h.2.1 72 (by decide) (by decide)).2.1]; exact Or.inr (by decide))
theorem rW_72 (h : RM a ra R M) : sm_wA 1 M (ra 72) = True := eq_true (by unfold sm_wA; rw [(h.2.1 72 (by decide) (by decide)).2.1]; decide)
theorem rd_r73 (h : RM a ra R M) : sm_R M a 73 = some (ra 73) := (h.2.1 73 (by decide) (by decide)).1
theorem rR_73 (h : RM a ra R M) {j : Nat} : sm_I M (ra 73) j = R 73 j := h.2.2.1 73 j (by decide) (by decide)
theorem rN_73 (h : RM a ra R M) {j : Nat} (hj : j < 400) : sm_in_ M (ra 73) (nI j) = True := eq_true (rm_in h (by decide) (by decide) hj (by decide))
theorem rA_73 (h : RM a ra R M) : sm_iA M (ra 73) = True := eq_true (by unfold sm_iA; rw [(h.2.1 73 (by decide) (by decide)).2.1]; exact Or.inr (by decide))
theorem rW_73 (h : RM a ra R M) : sm_wA 1 M (ra 73) = True := eq_true (by unfold sm_wA; rw [(h.2.1 73 (by decide) (by decide)).2.1]; decide)
theorem rd_r74 (h : RM a ra R M) : sm_R M a 74 = some (ra 74) := (h.2.1 74 (by decide) (by decide)).1
theorem rR_74 (h : RM a ra R M) {j : Nat} : sm_I M (ra 74) j = R 74 j := h.2.2.1 74 j (by decide) (by decide)
theorem rN_74 (h : RM a ra R M) {j : Nat} (hj : j < 400) : sm_in_ M (ra 74) (nI j) = True := eq_true (rm_in h (by decide) (by decide) hj (by decide))
theorem rA_74 (h : RM a ra R M) : sm_iA M (ra 74) = True := eq_true (by unfold sm_iA; rw [(h.2.1 74 (by decide) (by decide)).2.1]; exact Or.inr (by decide))
theorem rW_74 (h : RM a ra R M) : sm_wA 1 M (ra 74) = True := eq_true (by unfold sm_wA; rw [(h.2.1 74 (by decide) (by decide)).2.1]; decide)
theorem rd_r75 (h : RM a ra R M) : sm_R M a 75 = some (ra 75) := (h.2.1 75 (by decide) (by decide)).1
theorem rR_75 (h : RM a ra R M) {j : Nat} : sm_I M (ra 75) j = R 75 j := h.2.2.1 75 j (by decide) (by decide)
theorem rN_75 (h : RM a ra R M) {j : Nat} (hj : j < 400) : sm_in_ M (ra 75) (nI j) = True := eq_true (rm_in h (by decide) (by decide) hj (by decide))
theorem rA_75 (h : RM a ra R M) : sm_iA M (ra 75) = True := eq_true (by unfold sm_iA; rw [(h.2.1 75 (by decide) (by decide)).2.1]; exact Or.inr (by decide))
theorem rW_75 (h : RM a ra R M) : sm_wA 1 M (ra 75) = True := eq_true (by unfold sm_wA; rw [(h.2.1 75 (by decide) (by decide)).2.1]; decide)
theorem rd_r76 (h : RM a ra R M) : sm_R M a 76 = some (ra 76) := (h.2.1 76 (by decide) (by decide)).1
theorem rR_76 (h : RM a ra R M) {j : Nat} : sm_I M (ra 76) j = R 76 j := h.2.2.1 76 j (by decide) (by decide)
theorem rN_76 (h : RM a ra R M) {j : Nat} (hj : j < 400) : sm_in_ M (ra 76) (nI j) = True := eq_true (rm_in h (by decide) (by decide) hj (by decide))
theorem rA_76 (h : RM a ra R M) : sm_iA M (ra 76) = True := eq_true (by unfold sm_iA; rw [(h.2.1 76 (by decide) (by decide)).2.1]; exact Or.inr (by decide))
theorem rW_76 (h : RM a ra R M) : sm_wA 1 M (ra 76) = True := eq_true (by unfold sm_wA; rw [(h.2.1 76 (by decide) (by decide)).2.1]; decide)
theorem rd_r77 (h : RM a ra R M) : sm_R M a 77 = some (ra 77) := (h.2.1 77 (by decide) (by decide)).1
theorem rR_77 (h : RM a ra R M) {j : Nat} : sm_I M (ra 77) j = R 77 j := h.2.2.1 77 j (by decide) (by decide)
theorem rN_77 (h : RM a ra R M) {j : Nat} (hj : j < 400) : sm_in_ M (ra 77) (nI j) = True := eq_true (rm_in h (by decide) (by decide) hj (by decide))
theorem rA_77 (h : RM a ra R M) : sm_iA M (ra 77) = True := eq_true (by unfold sm_iA; rw [(h.2.1 77 (by decide) (by decide)).2.1]; exact Or.inr (by decide))
theorem rW_77 (h : RM a ra R M) : sm_wA 1 M (ra 77) = True := eq_true (by unfold sm_wA; rw [(h.2.1 77 (by decide) (by decide)).2.1]; decide)
theorem rd_r78 (h : RM a ra R M) : sm_R M a 78 = some (ra 78) := (h.2.1 78 (by decide) (by decide)).1
theorem rR_78 (h : RM a ra R M) {j : Nat} : sm_I M (ra 78) j = R 78 j := h.2.2.1 78 j (by decide) (by decide)
theorem rN_78 (h : RM a ra R M) {j : Nat} (hj : j < 400) : sm_in_ M (ra 78) (nI j) = True := eq_true (rm_in h (by decide) (by decide) hj (by decide))
theorem rA_78 (h : RM a ra R M) : sm_iA M (ra 78) = True := eq_true (by unfold sm_iA; rw [(h.2.1 78 (by decide) (by decide)).2.1]; exact Or.inr (by decide))
theorem rW_78 (h : RM a ra R M) : sm_wA 1 M (ra 78) = True := eq_true (by unfold sm_wA; rw [(h.2.1 78 (by decide) (by decide)).2.1]; decide)
theorem rd_r79 (h : RM a ra R M) : sm_R M a 79 = some (ra 79) := (h.2.1 79 (by decide) (by decide)).1
theorem rR_79 (h : RM a ra R M) {j : Nat} : sm_I M (ra 79) j = R 79 j := h.2.2.1 79 j (by decide) (by decide)
theorem rN_79 (h : RM a ra R M) {j : Nat} (hj : j < 400) : sm_in_ M (ra 79) (nI j) = True := eq_true (rm_in h (by decide) (by decide) hj (by decide))
theorem rW_79 (h : RM a ra R M) : sm_wZ 1 M (ra 79) = True := eq_true (by unfold sm_wZ; rw [(h.2.1 79 (by decide) (by decide)).2.1]; decide)
theorem rd_r80 (h : RM a ra R M) : sm_R M a 80 = some (ra 80) := (h.2.1 80 (by decide) (by decide)).1
theorem rR_80 (h : RM a ra R M) {j : Nat} : sm_I M (ra 80) j = R 80 j := h.2.2.1 80 j (by decide) (by decide)
theorem rN_80 (h : RM a ra R M) {j : Nat} (hj : j < 3200) : sm_in_ M (ra 80) (nI j) = True := eq_true (rm_in h (by decide) (by decide) hj (by decide))
theorem rA_80 (h : RM a ra R M) : sm_iA M (ra 80) = True := eq_true (by unfold sm_iA; rw [(h.2.1 80 (by decide) (by decide)).2.1]; exact Or.inr (by decide))
theorem rW_80 (h : RM a ra R M) : sm_wA 1 M (ra 80) = True := eq_true (by unfold sm_wA; rw [(h.2.1 80 (by decide) (by decide)).2.1]; decide)
theorem rd_r81 (h : RM a ra R M) : sm_R M a 81 = some (ra 81) := (h.2.1 81 (by decide) (by decide)).1
theorem rR_81 (h : RM a ra R M) {j : Nat} : sm_I M (ra 81) j = R 81 j := h.2.2.1 81 j (by decide) (by decide)
theorem rN_81 (h : RM a ra R M) {j : Nat} (hj : j < 40000) : sm_in_ M (ra 81) (nI j) = True := eq_true (rm_in h (by decide) (by decide) hj (by decide))
theorem rA_81 (h : RM a ra R M) : sm_iA M (ra 81) = True := eq_true (by unfold sm_iA; rw [(h.2.1 81 (by decide) (by decide)).2.1]; exact Or.inr (by decide))
theorem rW_81 (h : RM a ra R M) : sm_wA 1 M (ra 81) = True := eq_true (by unfold sm_wA; rw [(h.2.1 81 (by decide) (by decide)).2.1]; decide)
theorem rS_82 (h : RM a ra R M) : sm_I M a 82 = R 82 0 := h.2.2.2 82 (by decide) (by decide)
theorem rd_r83 (h : RM a ra R M) : sm_R M a 83 = some (ra 83) := (h.2.1 83 (by decide) (by decide)).1
theorem rR_83 (h : RM a ra R M) {j : Nat} : sm_I M (ra 83) j = R 83 j := h.2.2.1 83 j (by decide) (by decide)
theorem rN_83 (h : RM a ra R M) {j : Nat} (hj : j < 100) : sm_in_ M (ra 83) (nI j) = True := eq_true (rm_in h (by decide) (by decide) hj (by decide))
theorem rA_83 (h : RM a ra R M) : sm_iA M (ra 83) = True := eq_true (by unfold sm_iA; rw [(h.2.1 83 (by decide) (by decide)).2.1]; exact Or.inr (by decide))
theorem rW_83 (h : RM a ra R M) : sm_wA 1 M (ra 83) = True := eq_true (by unfold sm_wA; rw [(h.2.1 83 (by decide) (by decide)).2.1]; decide)
theorem rS_84 (h : RM a ra R M) : sm_I M a 84 = R 84 0 := h.2.2.2 84 (by decide) (by decide)
theorem rd_r85 (h : RM a ra R M) : sm_R M a 85 = some (ra 85) := (h.2.1 85 (by decide) (by decide)).1
theorem rR_85 (h : RM a ra R M) {j : Nat} : sm_I M (ra 85) j = R 85 j := h.2.2.1 85 j (by decide) (by decide)
theorem rN_85 (h : RM a ra R M) {j : Nat} (hj : j < 6) : sm_in_ M (ra 85) (nI j) = True := eq_true (rm_in h (by decide) (by decide) hj (by decide))
theorem rA_85 (h : RM a ra R M) : sm_iA M (ra 85) = True := eq_true (by unfold sm_iA; rw [(h.2.1 85 (by decide) (by decide)).2.1]; exact Or.inr (by decide))
theorem rW_85 (h : RM a ra R M) : sm_wA 1 M (ra 85) = True := eq_true (by unfold sm_wA; rw [(h.2.1 85 (by decide) (by decide)).2.1]; decide)
theorem rd_r86 (h : RM a ra R M) : sm_R M a 86 = some (ra 86) := (h.2.1 86 (by decide) (by decide)).1
theorem rR_86 (h : RM a ra R M) {j : Nat} : sm_I M (ra 86) j = R 86 j := h.2.2.1 86 j (by decide) (by decide)
theorem rN_86 (h : RM a ra R M) {j : Nat} (hj : j < 360) : sm_in_ M (ra 86) (nI j) = True := eq_true (rm_in h (by decide) (by decide) hj (by decide))
theorem rA_86 (h : RM a ra R M) : sm_iA M (ra 86) = True := eq_true (by unfold sm_iA; rw [(h.2.1 86 (by decide) (by decide)).2.1]; exact Or.inr (by decide))
theorem rW_86 (h : RM a ra R M) : sm_wA 1 M (ra 86) = True := eq_true (by unfold sm_wA; rw [(h.2.1 86 (by decide) (by decide)).2.1]; decide)
theorem rS_87 (h : RM a ra R M) : sm_I M a 87 = R 87 0 := h.2.2.2 87 (by decide) (by decide)
theorem rk_39 (h : RM a ra R M) : sm_K M a = 39 := h.1
theorem rm_wr (h : RM a ra R M) {f j : Nat} {v : Int32} (hf : f < 88 := by decide) (h0 : rK f ≠ 0 := by decide) : RM a ra (sm_u2 R f j v) (sm_putI M (ra f) j v) := rm_w h hf h0
theorem rm_sr (h : RM a ra R M) {f : Nat} {v : Int32} (hf : f < 88 := by decide) (h0 : rK f = 0 := by decide) : RM a ra (sm_u2 R f 0 v) (sm_putI M a f v) := rm_s h hf h0
theorem u2_r {f j f' j' : Nat} {v : Int32} : sm_u2 R f j v f' j' = if f' = f ∧ j' = j then v else R f' j' := rfl
end RF
