/-! The host: what the reference's rows say of the pure state. -/
section HA
variable {a : Nat} {ra : Nat → Nat} {R R' : Nat → Nat → Int32} {M : sm_M} {D : Nat} {P Q : pP} {d : Nat}
theorem ex_pk {j : Nat} {l : List Nat} (hx : EX P) (hj : j < 66) (hl : l.length ≤ 64) : EX (pB P 7 j l) := by
  obtain ⟨g, M, h⟩ := hx
  have l7 := lq_p h hj
  have n3 : g.1 7 j ≠ g.1 27 j := rf_ne h.1.1 l7.1 l7.2 (fun q => absurd q.1 (by decide))
  refine ⟨g, sm_rowI (sm_putI M (g.1 7 j) 4 (nI l.length)) (g.1 27 j) (fun k => nI (l.getD k 0)), ?_⟩
  refine rc_pk h hj (ch_tr (ch_tp l7.1 (Or.inl ⟨rfl, rfl, rfl⟩)) (ch_mo ch_row (fun b k q => ⟨27, j, Or.inr ⟨rfl, rfl⟩, l7.2, q⟩))) ?_ hl (fun k hk => ?_)
  · rw [I_row_ne n3, I_put_s]
  · rw [I_row]
theorem ex_prD {k : Nat} {l : List Nat} (hx : EX P) (hk : k < 16) (hl : l.length ≤ 64) : EX (prD P k l) := ex_pk (ex_rst hx (by decide) (by omega)) (by have := nk_60 (P := P); omega) hl
theorem pB_self {c i : Nat} {l : List Nat} (h : b_ P c i = l) : pB P c i l = P := by
  subst h
  have e : sm_u2 P.2.1 c i (b_ P c i) = P.2.1 := by
    funext c' i'
    show (if c' = c ∧ i' = i then b_ P c i else P.2.1 c' i') = P.2.1 c' i'
    split
    · rename_i q; rw [q.1, q.2]; rfl
    · rfl
  show (P.1, sm_u2 P.2.1 c i (b_ P c i), P.2.2) = P
  rw [e]
theorem prD_ack : prD P 2 [] = p_rst P (nk P) 0 2 := pB_self (by unfold p_rst; simp only [s_S, s_B, s_F, b_S, b_B, b_F, f_S, f_B, Nat.reduceEqDiff, false_and, and_false, true_and, and_true, and_self, if_true, if_false, reduceIte, ite_self])
/-- setup bytes -/
def su (P : pP) (t : Nat) : List Nat := [s_ P 205 t / 256, s_ P 205 t % 256, s_ P 206 t % 256, s_ P 206 t / 256 % 256, s_ P 207 t % 256, s_ P 207 t / 256 % 256, (b_ P 36 t).length % 256, (b_ P 36 t).length / 256 % 256]
def RelQ (P : pP) (R : Nat → Nat → Int32) (h i : Nat) : Prop := R 62 h = nI (s_ P 180 i) ∧ R 63 h = nI (if s_ P 181 i = 0 then 3 else 2) ∧ R 64 h = nI (s_ P 182 i) ∧ R 65 h = nI (s_ P 183 i) ∧ R 66 h = nI (s_ P 185 i) ∧ R 67 h = nI (if s_ P 184 i = 0 then 0 else 1)
def RelP (P : pP) (R : Nat → Nat → Int32) (d : Nat) : Prop := R 57 d = nI (s_ P 160 d) ∧ R 58 d = nI (s_ P 162 d) ∧ R 59 d = nI (if s_ P 161 d = 0 then 0 else d + 1) ∧ R 61 d = nI (s_ P 164 d) ∧ ∀ k, k < s_ P 164 d → RelQ P R (10 * d + k) (pid P d k)
def RelC (P : pP) (R : Nat → Nat → Int32) (t : Nat) : Prop := R 79 t = nI (if s_ P 208 t = 0 then 0 else 1) ∧ (∀ i, i < 8 → R 80 (8 * t + i) = nI ((su P t).getD i 0)) ∧ (s_ P 211 t = 0 → R 77 t = nI (s_ P 209 t) ∧ (s_ P 209 t ≠ 0 → R 78 t = nI (s_ P 185 0)) ∧ (s_ P 208 t ≠ 0 → R 60 (s_ P 200 t) = nI (s_ P 208 t - 1)) ∧ (s_ P 208 t = 5 → R 85 (s_ P 200 t) = nI (b_ P 36 t).length) ∧ (s_ P 208 t = 6 → s_ P 165 (s_ P 200 t) ≠ 0 ∧ R 85 (s_ P 200 t) = nI (b_ P 36 (s_ P 165 (s_ P 200 t) - 1)).length ∧ ∀ i, i < (b_ P 36 (s_ P 165 (s_ P 200 t) - 1)).length → R 86 (60 * s_ P 200 t + i) = nI ((b_ P 36 (s_ P 165 (s_ P 200 t) - 1)).getD i 0)))
def RelT (P : pP) (R : Nat → Nat → Int32) (t : Nat) : Prop := R 71 t = nI (s_ P 200 t) ∧ R 72 t = nI (s_ P 180 (s_ P 213 t)) ∧ R 73 t = nI (s_ P 211 t) ∧ R 74 t = nI (s_ P 210 t) ∧ R 75 t = nI (b_ P 36 t).length ∧ R 76 t = nI (s_ P 212 t) ∧ (∀ i, i < (b_ P 36 t).length → (s_ P 203 t = 0 ∨ i < s_ P 210 t) → R 81 (100 * t + i) = nI ((b_ P 36 t).getD i 0)) ∧ (s_ P 213 t = 0 → RelC P R t)
def RelS (P : pP) (R : Nat → Nat → Int32) : Prop := R 69 0 = nI (10 * (s_ P 128 0 / 6) + s_ P 128 0 % 6) ∨ (R 69 0 = nI 59 ∧ s_ P 128 0 = 35)
def HREL (P : pP) (R : Nat → Nat → Int32) : Prop := (R 0 0 = nI (s_ P 0 0) ∧ R 56 0 = nI (s_ P 125 0) ∧ R 70 0 = nI (s_ P 122 0) ∧ True) ∧ (∀ d, d < 6 → RelP P R d) ∧ (∀ t, t < s_ P 122 0 → RelT P R t) ∧ (R 3 0 = nI (b_ P 1 0).length ∧ (∀ i, i < (b_ P 1 0).length → R 2 i = nI ((b_ P 1 0).getD i 0)) ∧ ∀ i, i < 20 → R 1 i = nI ((b_ P 20 0).getD i 0))
theorem fh_s (h : Fh P Q) {f i : Nat} (hf : f < 20 ∨ (120 ≤ f ∧ f < 140) ∨ (160 ≤ f ∧ f < 220)) : s_ Q f i = s_ P f i := h.1 f i (by unfold hostF; omega)
theorem fh_36 (h : Fh P Q) {t : Nat} : b_ Q 36 t = b_ P 36 t := h.2.1 36 t (Or.inl rfl)
theorem hrel_cg (h : HREL P R) (k : Fh P Q) (hr : ∀ f i, (f < 4 ∨ 55 ≤ f) ∧ f ≠ 82 ∧ f ≠ 83 ∧ f ≠ 84 ∧ f ≠ 87 ∧ f ≠ 68 → R' f i = R f i) : HREL Q R' := by
  obtain ⟨⟨h1, h2, h3, h4⟩, h5, h6, h7, h8, h9⟩ := h
  refine ⟨⟨?_, ?_, ?_, ?_⟩, fun d hd => ?_, fun t ht => ?_, ?_, ?_, ?_⟩
  · rw [fh_s k (by decide), hr _ _ (by decide)]; exact h1
  · rw [fh_s k (by decide), hr _ _ (by decide)]; exact h2
  · rw [fh_s k (by decide), hr _ _ (by decide)]; exact h3
  · trivial
  · have := h5 d hd
    unfold RelP RelQ pid at *
    simp (disch := decide) only [fh_s k, hr]
    exact this
  · rw [fh_s k (by decide)] at ht
    have := h6 t ht
    unfold RelT RelC su at *
    simp (disch := decide) only [fh_s k, hr, fh_36 k]
    exact this
  · rw [hr _ _ (by decide), k.2.1 1 0 (Or.inr (Or.inr ⟨rfl, rfl⟩))]; exact h7
  · rw [k.2.1 1 0 (Or.inr (Or.inr ⟨rfl, rfl⟩))]; intro i hi; rw [hr _ _ (by decide)]; exact h8 i hi
  · intro i hi; rw [hr _ _ (by decide), k.2.1 20 0 (Or.inr (Or.inl rfl))]; exact h9 i hi
theorem fh_prT {k n : Nat} : Fh P (prT P k n) := by
  unfold prT
  exact fh_S (fh_rst fh_rf) (by unfold hostF; omega) (by decide)
theorem fh_prD {k : Nat} {l : List Nat} : Fh P (prD P k l) := by
  unfold prD
  exact fh_B (fh_rst fh_rf) (by unfold hostB; omega)
theorem fh_sv5 (hx : EX P) : Fh P (sv5 P).1 := by
  have h6 : ∀ d, d < 6 → s_ P 86 d ≤ 6 := fun d hd => ex_86 hx hd
  unfold sv5
  split
  · refine fh_tr (fh_hasAns fh_rf) (fh_carry fh_rf (fun d hd => ?_))
    rw [(fh_hasAns (P := P) fh_rf).2.2 d]; exact h6 d hd
  · exact fh_hasAns fh_rf
/-- both sides, with the host -/
def XR (P : pP) (R : Nat → Nat → Int32) : Prop := WX P ∧ W0 P ∧ WR P R ∧ RK P R ∧ HREL P R
/-- after an exchange -/
theorem xr_hr {P0 : pP} (hr : HR P R R') (hH : HREL P0 R) (hF : Fh P0 P) (hx : EX P) : XR (sv5 P).1 R' := by
  obtain ⟨g1, g2, g3, g4, g5, g6, g7⟩ := hr
  exact ⟨g1, g2, g3, g4, hrel_cg hH (fh_tr hF (fh_sv5 hx)) (fun f i hf => g7 f i hf.1 hf.2.1)⟩
end HA
