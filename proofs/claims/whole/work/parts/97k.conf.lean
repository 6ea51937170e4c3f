/-! FINDING's fifth: what the host has of the configuration is what the device tells. -/
section HR_
variable {P P' Q A Y : pP} {d t : Nat} {r : Option Nat}
theorem rows_cg : ∀ n, (∀ f k, 100 ≤ f → f ≤ 102 → k < n → s_ P' f (6 * d + k) = s_ P f (6 * d + k)) → p_rows P' d n = p_rows P d n
  | 0, _ => rfl
  | n + 1, h => by
    show p_rows P' d n ++ p_row P' (6 * d + n) = p_rows P d n ++ p_row P (6 * d + n)
    rw [rows_cg n (fun f k h1 h2 h3 => h f k h1 h2 (by omega))]
    unfold p_row
    rw [h 100 n (by decide) (by decide) (by omega), h 101 n (by decide) (by decide) (by omega), h 102 n (by decide) (by decide) (by omega)]
theorem conf_cg (h86 : s_ P' 86 d = s_ P 86 d) (h : ∀ f k, 100 ≤ f → f ≤ 102 → k < s_ P 86 d → s_ P' f (6 * d + k) = s_ P f (6 * d + k)) : p_conf P' d = p_conf P d := by
  unfold p_conf
  rw [h86, rows_cg _ h]
theorem conf_st (hs : STs P P') (hd : d < 6) (h6 : s_ P 86 d ≤ 6) : p_conf P' d = p_conf P d := conf_cg ((hs d hd).1 86 (by decide)) (fun f k h1 h2 h3 => (hs d hd).2 f k h1 h2 (by omega))
theorem conf_len : (p_conf P d).length = 18 + 7 * s_ P 86 d := by unfold p_conf; rw [List.length_append, rows_len]; rfl
/-- the bytes so far are the device's -/
def PFX (P : pP) (t : Nat) : Prop := s_ P 210 t ≤ (p_conf P (s_ P 200 t)).length ∧ (b_ P 36 t).take (s_ P 210 t) = (p_conf P (s_ P 200 t)).take (s_ P 210 t)
/-- the two toggles -/
def KD (P : pP) (t : Nat) : Prop := s_ P 209 t = 1 → s_ P 60 (s_ P 200 t) = 2 → b_ P 29 (s_ P 200 t) = p_conf P (s_ P 200 t) ∧ ((s_ P 61 (s_ P 200 t) = s_ P 185 0 ∧ s_ P 64 (s_ P 200 t) = s_ P 210 t) ∨ (s_ P 61 (s_ P 200 t) ≠ s_ P 185 0 ∧ s_ P 210 t = s_ P 64 (s_ P 200 t) + nfl P (s_ P 200 t)))
theorem pfx_cg (h : PFX P t) (h210 : s_ Y 210 t = s_ P 210 t) (h36 : b_ Y 36 t = b_ P 36 t) (h200 : s_ Y 200 t = s_ P 200 t) (hc : p_conf Y (s_ P 200 t) = p_conf P (s_ P 200 t)) : PFX Y t := by
  unfold PFX
  rw [h210, h36, h200, hc]
  exact h
theorem kd_cg (h : KD P t) (h209 : s_ Y 209 t = 1 → s_ P 209 t = 1) (h185 : s_ Y 185 0 = s_ P 185 0) (h210 : s_ Y 210 t = s_ P 210 t) (h200 : s_ Y 200 t = s_ P 200 t) (hz : ZSa (s_ P 200 t) P Y) (h80 : s_ Y 80 (s_ P 200 t) = s_ P 80 (s_ P 200 t)) (hc : p_conf Y (s_ P 200 t) = p_conf P (s_ P 200 t)) : KD Y t := by
  unfold KD
  rw [h185, h210, h200, hc, hz.1 60 (by decide), hz.1 61 (by decide), hz.1 64 (by decide), hz.2, nfl_cg (hz.1 63 (by decide)) (hz.1 64 (by decide)) h80]
  exact fun q => h (h209 q)
theorem kpl_tk {l b : List Nat} {v n : Nat} (h1 : v + n ≤ l.length) (h2 : n ≤ b.length) : (kpl l b v n).take (v + n) = l.take v ++ b.take n := by
  unfold kpl
  rw [List.take_append_of_le_length]
  · rw [List.take_of_length_le]
    rw [List.length_append, List.length_take, List.length_take]; omega
  · rw [List.length_append, List.length_take, List.length_take]; omega
/-- bytes that come at the right place -/
theorem pfx_tk {c b l : List Nat} {o m n : Nat} (hp : b.take o = c.take o) (hl : l = (c.drop o).take m) (ho : o ≤ c.length) (h1 : o + n ≤ b.length) (h2 : n ≤ l.length) : o + n ≤ c.length ∧ (kpl b l o n).take (o + n) = c.take (o + n) := by
  have hl' : l.length ≤ c.length - o := by rw [hl, List.length_take, List.length_drop]; omega
  have hm : n ≤ m := by rw [hl, List.length_take] at h2; omega
  refine ⟨by omega, ?_⟩
  rw [kpl_tk h1 h2, hp, hl, List.take_take, Nat.min_eq_left hm, List.take_add]
theorem hb_keep {k1 f i : Nat} (h : asks Q t ∨ s_ Q 209 t = 2) (hf : f ≠ 211 ∧ f ≠ 212) : s_ (p_hearB Q t k1) f i = s_ Q f i := by
  unfold p_hearB
  split
  · rename_i c
    unfold p_goOn
    simp only [s_S, s_B, s_F, b_S, b_B, b_F, f_S, f_B, Nat.reduceEqDiff, false_and, and_false, true_and, and_true, and_self, if_true, if_false, reduceIte, ite_self]
    have c2 : s_ Q 209 t = 2 := h.elim (fun q => absurd q c.1) id
    rw [if_neg (by omega), if_pos c2, s_n hf.1, s_n hf.2]
  · split
    · split
      · rw [s_n hf.1, s_n hf.2]
      · rw [s_n hf.2]
    · unfold p_err
      split
      · rw [s_n hf.2]
      · rw [s_n hf.1, s_n hf.2]
theorem hb_keepB {k1 c i : Nat} (h : asks Q t ∨ s_ Q 209 t = 2) : b_ (p_hearB Q t k1) c i = b_ Q c i := by
  unfold p_hearB
  split
  · rename_i q
    unfold p_goOn
    simp only [s_S, s_B, s_F, b_S, b_B, b_F, f_S, f_B, Nat.reduceEqDiff, false_and, and_false, true_and, and_true, and_self, if_true, if_false, reduceIte, ite_self]
    have c2 : s_ Q 209 t = 2 := h.elim (fun c => absurd c q.1) id
    rw [if_neg (by omega), if_pos c2]; rfl
  · split
    · split <;> rfl
    · unfold p_err
      split <;> rfl
theorem zBeg_conf {l : List Nat} (hw : lwh l = 32774) (h2 : l16 l 2 = 512) : s_ (p_zBeg P d l) 61 d = 1 ∧ s_ (p_zBeg P d l) 64 d = 0 ∧ b_ (p_zBeg P d l) 29 d = p_conf P d := by
  have ec : p_conf (p_zB1 P d l) d = p_conf P d := conf_cg (zB1_f (by decide)) (fun f k h1 h2 _ => by unfold p_zB1; rw [s_n (by omega), s_n (by omega), s_n (by omega), s_n (by omega), s_n (by omega), s_n (by omega)])
  have et : p_tell (p_zB1 P d l) d (lwh l) (l16 l 2) (l16 l 4) = some (p_conf P d) := by
    rw [hw, h2]
    unfold p_tell
    rw [if_neg (by decide), if_neg (by decide), if_pos rfl, if_neg (by decide), if_pos rfl, ec]
  unfold p_zBeg
  rw [if_neg (by omega), et]
  dsimp only
  unfold p_zB1
  simp only [s_S, s_B, s_F, b_S, b_B, b_F, f_S, f_B, Nat.reduceEqDiff, false_and, and_false, true_and, and_true, and_self, if_true, if_false, reduceIte, ite_self]
theorem tgo_dkn {x : Nat} (h : x ≤ 1) : tgo (dkn x) = x := by
  unfold dkn tgo
  rcases Nat.lt_or_ge x 1 with q | q
  · obtain rfl : x = 0 := by omega
    rfl
  · obtain rfl : x = 1 := by omega
    rfl
/-- step 5 is served -/
theorem yv_kd (hW : WX P) (hT : XT P t) (hS : s_ P 228 0 + 4 < 2 ^ 31) (h126 : s_ P 126 0 + 1 < 2 ^ 31) (h1 : s_ P 211 t = 0) (ed : s_ P 200 t = d) (hd : d < 6) (h213 : s_ P 213 t = 0) (h180 : s_ P 180 0 = 0) (h83 : s_ P 83 d ≠ 0) (eN : tNum P t = d + 1) (h203 : s_ P 203 t ≠ 0) (hw5 : lwh (su P t) = 32774) (hv5 : l16 (su P t) 2 = 512) (hlen : 1 ≤ (b_ P 36 t).length) (h00 : s_ P 209 t = 0 → s_ P 210 t = 0) (hp : PFX P t) (hk : KD P t) : PFX (Yv P t) t ∧ (s_ (Yv P t) 211 t = 0 → KD (Yv P t) t) := by
  obtain ⟨w7, s7, -, f7, -⟩ := yv7 hW hT hS h126 h1
  obtain ⟨wy, -, yh, fy⟩ := yv hW hT hS h126 h1
  obtain ⟨-, w2, -, w3, -, w5, x5⟩ := exch hW hT hS
  obtain ⟨hI, hw, hB, ht, hn, hsa⟩ := id hT
  have h6 : ∀ d, d < 6 → s_ P 86 d ≤ 6 := fun d hd => ex_86 hW.1.1 hd
  have k5 := fh_sx5 (t := t) h6
  have st := yh.2.2.1
  have cY : p_conf (Yv P t) (s_ P 200 t) = p_conf P (s_ P 200 t) := by rw [ed]; exact conf_st st hd (h6 d hd)
  have e200 : s_ (Yv P t) 200 t = s_ P 200 t := yh.1 200 t (by decide) (by omega) (by omega)
  have e80 : s_ (Yv P t) 80 (s_ P 200 t) = s_ P 80 (s_ P 200 t) := by rw [ed]; exact (st d hd).1 80 (by decide)
  have n128 : tNum P t % 128 = d + 1 := by omega
  have n0 : tNum P t / 128 = 0 := by omega
  -- the host's part of Y
  have eY : ∀ f i, hoF f → s_ (Yv P t) f i = s_ (sv7 P t).1 f i := fun f i hf => fh_s fy hf
  have eY36 : b_ (Yv P t) 36 t = b_ (sv7 P t).1 36 t := fh_36 fy
  obtain ⟨i1, i2, i3, i4, i5⟩ := id hI
  -- what stays
  have same : (∀ f, f = 209 ∨ f = 210 → s_ (sv7 P t).1 f t = s_ P f t) → s_ (sv7 P t).1 185 0 = s_ P 185 0 → b_ (sv7 P t).1 36 t = b_ P 36 t → (s_ P 209 t = 1 → s_ (Yv P t) 211 t = 0 → ZSa d P (Yv P t) ∨ s_ (Yv P t) 60 d ≠ 2) → PFX (Yv P t) t ∧ (s_ (Yv P t) 211 t = 0 → KD (Yv P t) t) := by
    intro a1 a2 a3 a4
    have g210 : s_ (Yv P t) 210 t = s_ P 210 t := by rw [eY 210 t (by decide)]; exact a1 210 (Or.inr rfl)
    have g209 : s_ (Yv P t) 209 t = s_ P 209 t := by rw [eY 209 t (by decide)]; exact a1 209 (Or.inl rfl)
    refine ⟨pfx_cg hp g210 (by rw [eY36]; exact a3) e200 cY, fun q => ?_⟩
    by_cases c1 : s_ P 209 t = 1
    · rcases a4 c1 q with z | z
      · exact kd_cg hk (fun c => by rw [g209] at c; exact c) (by rw [eY 185 0 (by decide)]; exact a2) g210 e200 (by rw [ed]; exact z) e80 cY
      · intro _ c
        rw [e200, ed] at c
        exact absurd c z
    · intro c
      rw [g209] at c
      exact absurd c c1
  -- the answer
  have q6 : ∀ f i, f ≠ 186 → hoF f → s_ (sv6 (sv5 (sv3 P t)).1 t (sv5 (sv3 P t)).2) f i = s_ P f i := fun f i h1 h2 => by rw [sx6_s h1, fh_s k5 h2]
  have q36 : b_ (sv6 (sv5 (sv3 P t)).1 t (sv5 (sv3 P t)).2) 36 t = b_ P 36 t := by rw [sx6_b]; exact fh_36 k5
  have q7 : ∀ j, b_ (sv6 (sv5 (sv3 P t)).1 t (sv5 (sv3 P t)).2) 7 j = b_ (sv5 (sv3 P t)).1 7 j := fun j => sx6_b
  have q141 : ∀ j, s_ (sv6 (sv5 (sv3 P t)).1 t (sv5 (sv3 P t)).2) 141 j = s_ (sv5 (sv3 P t)).1 141 j := fun j => sx6_s (by decide)
  have e7 : sv7 P t = p_hearA (sv6 (sv5 (sv3 P t)).1 t (sv5 (sv3 P t)).2) t (sv5 (sv3 P t)).2 := rfl
  have eYv : Yv P t = sv8 (sv7 P t) := rfl
  -- d is not meant: nobody answers
  have nob : s_ P 84 d ≠ d + 1 → (sv5 (sv3 P t)).2 = none := by
    intro q
    cases e : (sv5 (sv3 P t)).2 with
    | none => rfl
    | some j =>
      obtain ⟨d', -, a1, a2, a3⟩ := who_r hW hT hS e
      rw [n128] at a3
      have := own_ad hW a1 a2 a3
      subst this
      exact absurd a3 q
  by_cases s0 : s_ P 209 t = 0
  · -- the request
    have na : ¬ asks (sv6 (sv5 (sv3 P t)).1 t (sv5 (sv3 P t)).2) t := by unfold asks; rw [q6 209 t (by decide) (by decide)]; omega
    have c9 : s_ (sv6 (sv5 (sv3 P t)).1 t (sv5 (sv3 P t)).2) 209 t = 0 := by rw [q6 209 t (by decide) (by decide)]; exact s0
    by_cases ck : ∃ j, (sv5 (sv3 P t)).2 = some j ∧ s_ (sv5 (sv3 P t)).1 141 j = 2
    · obtain ⟨j, ej, ek⟩ := ck
      have eA : sv7 P t = (pS (pS (pS (sv6 (sv5 (sv3 P t)).1 t (sv5 (sv3 P t)).2) 212 t 0) 185 0 1) 209 t 1, false) := by
        rw [e7, hA_ack ej (by rw [q141]; exact ek) na]
        unfold p_goOn
        rw [if_pos (show s_ (pS (sv6 (sv5 (sv3 P t)).1 t (sv5 (sv3 P t)).2) 212 t 0) 209 t = 0 by rw [s_n (by decide)]; exact c9), if_neg (show ¬ (b_ (pS (sv6 (sv5 (sv3 P t)).1 t (sv5 (sv3 P t)).2) 212 t 0) 36 t).length ≤ 0 by rw [b_S, q36]; omega), s_n (by decide), q6 213 t (by decide) (by decide), h213]
      have eYv' : Yv P t = (sv7 P t).1 := by rw [eYv, eA]; rfl
      have g210 : s_ (Yv P t) 210 t = s_ P 210 t := by rw [eY 210 t (by decide), eA]; simp only [s_S, s_B, s_F, b_S, b_B, b_F, f_S, f_B, Nat.reduceEqDiff, false_and, and_false, true_and, and_true, and_self, if_true, if_false, reduceIte, ite_self]; exact q6 210 t (by decide) (by decide)
      refine ⟨pfx_cg hp g210 (by rw [eY36, eA]; simp only [s_S, s_B, s_F, b_S, b_B, b_F, f_S, f_B, Nat.reduceEqDiff, false_and, and_false, true_and, and_true, and_self, if_true, if_false, reduceIte, ite_self]; exact q36) e200 cY, fun _ _ c60 => ?_⟩
      rw [e200, ed] at c60 ⊢
      have a84 : s_ P 84 d = d + 1 := Decidable.byContradiction (fun q => by rw [nob q] at ej; cases ej)
      rcases xset hW hT hS hd h83 (by rw [a84, n128]) n0 s0 with c | ⟨Q0, z0, z1, z2⟩
      · rw [c] at ej; cases ej
      · have zy : ZSa d (p_zBeg Q0 d (su P t)) (Yv P t) := by rw [eYv']; exact zs_tr z2 (zs_so (fho_so f7 d))
        obtain ⟨b1, b2, b3⟩ := zBeg_conf (P := Q0) (d := d) hw5 hv5
        have cq : p_conf Q0 d = p_conf P d := conf_cg (z1 86 d (by decide) (fun _ => rfl) (fun c => absurd c (by decide))) (fun f k f1 f2 f3 => z1 f _ (by omega) (fun c => by omega) (fun _ => by have := h6 d hd; omega))
        rw [ed] at cY
        refine ⟨by rw [zy.2, b3, cY, cq], Or.inl ⟨?_, ?_⟩⟩
        · rw [zy.1 61 (by decide), b1, eY 185 0 (by decide), eA]; simp only [s_S, s_B, s_F, b_S, b_B, b_F, f_S, f_B, Nat.reduceEqDiff, false_and, and_false, true_and, and_true, and_self, if_true, if_false, reduceIte, ite_self]
        · rw [zy.1 64 (by decide), b2, g210, h00 s0]
    · have eA : sv7 P t = (p_err (sv6 (sv5 (sv3 P t)).1 t (sv5 (sv3 P t)).2) t, false) := by
        rw [e7]
        exact hA_err (fun j ej => ⟨fun c => na c.1, fun c => ck ⟨j, ej, by rw [← q141]; exact c.2⟩, fun c => c.1 c9⟩)
      have he : ∀ f i, f ≠ 211 → f ≠ 212 → s_ (sv7 P t).1 f i = s_ (sv6 (sv5 (sv3 P t)).1 t (sv5 (sv3 P t)).2) f i := fun f i f1 f2 => by
        rw [eA]; dsimp only; unfold p_err; split
        · rw [s_n f2]
        · rw [s_n f1, s_n f2]
      have hb : b_ (sv7 P t).1 36 t = b_ P 36 t := by rw [eA]; dsimp only; unfold p_err; split <;> exact q36
      refine same (fun f hf => ?_) (by rw [he 185 0 (by decide) (by decide)]; exact q6 185 0 (by decide) (by decide)) hb (fun c => by omega)
      rw [he f t (by omega) (by omega)]
      exact q6 f t (by omega) (by omega)
  · -- kept, where no bytes are taken
    have kept : (∀ j, (sv5 (sv3 P t)).2 = some j → ¬ (asks (sv6 (sv5 (sv3 P t)).1 t (sv5 (sv3 P t)).2) t ∧ isDat (s_ (sv6 (sv5 (sv3 P t)).1 t (sv5 (sv3 P t)).2) 141 j))) → (asks (sv6 (sv5 (sv3 P t)).1 t (sv5 (sv3 P t)).2) t ∨ s_ (sv6 (sv5 (sv3 P t)).1 t (sv5 (sv3 P t)).2) 209 t = 2) → ∃ k1, sv7 P t = (p_hearB (sv6 (sv5 (sv3 P t)).1 t (sv5 (sv3 P t)).2) t k1, false) := by
      intro nd _
      rw [e7]
      unfold p_hearA
      split
      · exact ⟨0, rfl⟩
      · rename_i j ej
        exact ⟨_, if_neg (nd j ej)⟩
    have kept2 : ∀ k1, (asks (sv6 (sv5 (sv3 P t)).1 t (sv5 (sv3 P t)).2) t ∨ s_ (sv6 (sv5 (sv3 P t)).1 t (sv5 (sv3 P t)).2) 209 t = 2) → sv7 P t = (p_hearB (sv6 (sv5 (sv3 P t)).1 t (sv5 (sv3 P t)).2) t k1, false) → (s_ P 209 t = 1 → s_ (Yv P t) 211 t = 0 → ZSa d P (Yv P t) ∨ s_ (Yv P t) 60 d ≠ 2) → PFX (Yv P t) t ∧ (s_ (Yv P t) 211 t = 0 → KD (Yv P t) t) := by
      intro k1 ho eA hz
      refine same (fun f hf => ?_) ?_ ?_ hz
      · rw [eA]; dsimp only; rw [hb_keep ho (by omega)]; exact q6 f t (by omega) (by omega)
      · rw [eA]; dsimp only; rw [hb_keep ho (by decide)]; exact q6 185 0 (by decide) (by decide)
      · rw [eA]; dsimp only; rw [hb_keepB ho]; exact q36
    by_cases s2 : s_ P 209 t = 2
    · -- the status
      have ho : asks (sv6 (sv5 (sv3 P t)).1 t (sv5 (sv3 P t)).2) t ∨ s_ (sv6 (sv5 (sv3 P t)).1 t (sv5 (sv3 P t)).2) 209 t = 2 := Or.inr (by rw [q6 209 t (by decide) (by decide)]; exact s2)
      have na : ¬ asks (sv6 (sv5 (sv3 P t)).1 t (sv5 (sv3 P t)).2) t := by
        unfold asks
        rw [q6 209 t (by decide) (by decide), q6 203 t (by decide) (by decide), q36]
        omega
      obtain ⟨k1, eA⟩ := kept (fun j _ c => na c.1) ho
      exact kept2 k1 ho eA (fun c => by omega)
    · -- bytes
      have s1 : s_ P 209 t = 1 := by omega
      have ca : asks P t := by unfold asks; omega
      have caQ : asks (sv6 (sv5 (sv3 P t)).1 t (sv5 (sv3 P t)).2) t := by
        unfold asks
        rw [q6 209 t (by decide) (by decide), q6 203 t (by decide) (by decide), q36]
        exact ca
      have ho : asks (sv6 (sv5 (sv3 P t)).1 t (sv5 (sv3 P t)).2) t ∨ s_ (sv6 (sv5 (sv3 P t)).1 t (sv5 (sv3 P t)).2) 209 t = 2 := Or.inl caQ
      have Y0 : ∀ k1, sv7 P t = (p_hearB (sv6 (sv5 (sv3 P t)).1 t (sv5 (sv3 P t)).2) t k1, false) → Yv P t = (sv7 P t).1 := fun k1 e => by rw [eYv, e]; rfl
      by_cases a84 : s_ P 84 d = d + 1
      · rcases xin hW hT hS hd h83 (by rw [a84, n128]) n0 ca s0 with ⟨c1, c2, c3⟩ | ⟨zk, k, l, zi, zr⟩
        · obtain ⟨k1, eA⟩ := kept (fun j ej => by rw [c1] at ej; cases ej) ho
          exact kept2 k1 ho eA (fun _ _ => Or.inl (by rw [Y0 k1 eA]; exact zs_tr c2 (zs_so (fho_so f7 d))))
        · rcases zi with ⟨z1, z2, z3, z4⟩ | ⟨z1, z2, z3, z4, z5, z6, z7, z8⟩ | ⟨z1, z2, z3, z4, z5, z6⟩ | ⟨z1, z2, z3, z4, z5, z6⟩
          · obtain ⟨k1, eA⟩ := kept (fun j ej c => by have := (zr j ej).1; rw [q141] at c; have := c.2; unfold isDat at this; omega) ho
            refine kept2 k1 ho eA (fun _ _ => Or.inr ?_)
            rw [Y0 k1 eA, f7.1 60 d (by omega), z2]; decide
          · -- data from the device
            obtain ⟨kb, kd⟩ := hk s1 (by rw [ed]; exact z1)
            rw [ed] at kb kd
            have idz := (wi_ID hW.1 hd h83).2.1
            have b61 := idz.1
            have bz := idz.2.2.2.2.2.1 z1
            have bz2 := bz.2 z2
            have nl : nfl P d ≤ (b_ P 29 d).length - s_ P 64 d := by unfold nfl; omega
            have b185 : s_ P 185 0 ≤ 1 := by rw [h213] at i2; exact i2
            have ll : l.length = nfl P d := by rw [z8, List.length_take, List.length_drop]; omega
            have d61 : s_ (sv7 P t).1 61 d = s_ P 61 d := by rw [f7.1 61 d (by omega)]; exact zk.1 61 (by decide)
            have d64 : s_ (sv7 P t).1 64 d = s_ P 64 d := by rw [f7.1 64 d (by omega)]; exact zk.1 64 (by decide)
            have d63 : s_ (sv7 P t).1 63 d = s_ P 63 d := by rw [f7.1 63 d (by omega)]; exact zk.1 63 (by decide)
            have d29 : b_ (sv7 P t).1 29 d = b_ P 29 d := by rw [f7.2.1 29 d (by unfold hostB; omega)]; exact zk.2
            have d60 : s_ (sv7 P t).1 60 d = 2 := by rw [f7.1 60 d (by omega)]; exact z3
            have d68 : s_ (sv7 P t).1 68 d = nfl P d := by rw [f7.1 68 d (by omega)]; exact z4
            have d83 : s_ (sv7 P t).1 83 d ≠ 0 := by rw [f7.1 83 d (by omega), zk.1 83 (by decide)]; exact h83
            have d89 : s_ (sv7 P t).1 89 d = 3 := by rw [f7.1 89 d (by omega)]; exact z5
            have d90 : s_ (sv7 P t).1 90 d = 0 := by rw [f7.1 90 d (by omega)]; exact z6
            have d80 : s_ (sv7 P t).1 80 d = s_ P 80 d := by rw [f7.1 80 d (by omega)]; exact (sts_sv5 hW hT hS d hd).1 80 (by decide)
            cases er : (sv5 (sv3 P t)).2 with
            | none =>
              obtain ⟨k1, eA⟩ := kept (fun j ej => by rw [er] at ej; cases ej) ho
              have hyv := Y0 k1 eA
              have g210 : s_ (Yv P t) 210 t = s_ P 210 t := by rw [hyv, eA]; dsimp only; rw [hb_keep ho (by decide)]; exact q6 210 t (by decide) (by decide)
              have g185 : s_ (Yv P t) 185 0 = s_ P 185 0 := by rw [hyv, eA]; dsimp only; rw [hb_keep ho (by decide)]; exact q6 185 0 (by decide) (by decide)
              refine ⟨pfx_cg hp g210 (by rw [hyv, eA]; dsimp only; rw [hb_keepB ho]; exact q36) e200 cY, fun _ _ _ => ?_⟩
              rw [e200, cY, ed, g185, g210, hyv, d61, d64, d29, nfl_cg d63 d64 d80]
              exact ⟨kb, kd⟩
            | some j =>
              obtain ⟨zj1, zj2⟩ := zr j er
              have hdat : isDat (s_ (sv6 (sv5 (sv3 P t)).1 t (sv5 (sv3 P t)).2) 141 j) := by
                rw [q141, zj1, z7]
                exact dkn_d _
              have eA0 : sv7 P t = p_takeD (sv6 (sv5 (sv3 P t)).1 t (sv5 (sv3 P t)).2) t j := by rw [e7]; exact hA_dat er hdat caQ
              have etg : tgo (s_ (sv6 (sv5 (sv3 P t)).1 t (sv5 (sv3 P t)).2) 141 j) = s_ P 61 d := by rw [q141, zj1, z7, tgo_dkn b61]
              have e9 : ¬ s_ (sv6 (sv5 (sv3 P t)).1 t (sv5 (sv3 P t)).2) 209 t = 2 := by rw [q6 209 t (by decide) (by decide)]; exact s2
              have e13 : s_ (sv6 (sv5 (sv3 P t)).1 t (sv5 (sv3 P t)).2) 213 t = 0 := by rw [q6 213 t (by decide) (by decide)]; exact h213
              have e185 : s_ (sv6 (sv5 (sv3 P t)).1 t (sv5 (sv3 P t)).2) 185 0 = s_ P 185 0 := q6 185 0 (by decide) (by decide)
              have e210 : s_ (sv6 (sv5 (sv3 P t)).1 t (sv5 (sv3 P t)).2) 210 t = s_ P 210 t := q6 210 t (by decide) (by decide)
              -- the ACK at the device
              have ack : (sv7 P t).2 = true → ZSa d (sv7 P t).1 (Yv P t) ∨ (s_ (Yv P t) 61 d = 1 - s_ P 61 d ∧ s_ (Yv P t) 64 d = s_ P 64 d + nfl P d ∧ b_ (Yv P t) 29 d = b_ P 29 d) := by
                intro hb
                have e8 : Yv P t = (p_carry (p_rst (sv7 P t).1 (nk (sv7 P t).1) 0 2)).1 := by rw [eYv]; unfold sv8; rw [if_pos hb]
                rw [e8]
                rcases xack (P := (sv7 P t).1) (d := d) (fun d hd => ex_86 w7.1.1 hd) hd d83 (fun _ => d90) with c | c | c
                · exact Or.inl c
                · right
                  have za := c.2
                  unfold p_zAck at za
                  rw [if_pos d60] at za
                  refine ⟨?_, ?_, ?_⟩
                  · rw [za.1 61 (by decide)]; simp only [s_S, s_B, s_F, b_S, b_B, b_F, f_S, f_B, Nat.reduceEqDiff, false_and, and_false, true_and, and_true, and_self, if_true, if_false, reduceIte, ite_self]; rw [d61]
                  · rw [za.1 64 (by decide)]; simp only [s_S, s_B, s_F, b_S, b_B, b_F, f_S, f_B, Nat.reduceEqDiff, false_and, and_false, true_and, and_true, and_self, if_true, if_false, reduceIte, ite_self]; rw [d64, d68]
                  · rw [za.2]; simp only [s_S, s_B, s_F, b_S, b_B, b_F, f_S, f_B, Nat.reduceEqDiff, false_and, and_false, true_and, and_true, and_self, if_true, if_false, reduceIte, ite_self]; exact d29
                · omega
              by_cases m1 : s_ P 61 d = s_ P 185 0
              · -- in step
                have h64 : s_ P 64 d = s_ P 210 t := by
                  rcases kd with c | c
                  · exact c.2
                  · exact absurd m1 c.1
                have etk : tkf (sv6 (sv5 (sv3 P t)).1 t (sv5 (sv3 P t)).2) t j = min (nfl P d) ((b_ P 36 t).length - s_ P 210 t) := by unfold tkf; rw [q7, zj2, ll, q36, e210]
                have e0 : sv7 P t = if tkf (sv6 (sv5 (sv3 P t)).1 t (sv5 (sv3 P t)).2) t j < nfl P d then (pS (p_tk1 (sv6 (sv5 (sv3 P t)).1 t (sv5 (sv3 P t)).2) t j) 211 t 3, true) else if s_ P 210 t + tkf (sv6 (sv5 (sv3 P t)).1 t (sv5 (sv3 P t)).2) t j = (b_ P 36 t).length ∨ nfl P d < s_ P 202 t then (p_endD (p_tk1 (sv6 (sv5 (sv3 P t)).1 t (sv5 (sv3 P t)).2) t j) t, true) else (p_tk1 (sv6 (sv5 (sv3 P t)).1 t (sv5 (sv3 P t)).2) t j, true) := by
                  rw [eA0]
                  unfold p_takeD
                  rw [if_neg e9, e13, e185, etg, if_neg (fun c => c m1), q7, zj2, ll, e210, q36, q6 202 t (by decide) (by decide)]
                have tk1 : p_tk1 (sv6 (sv5 (sv3 P t)).1 t (sv5 (sv3 P t)).2) t j = pS (pB (pS (pS (sv6 (sv5 (sv3 P t)).1 t (sv5 (sv3 P t)).2) 212 t 0) 185 0 (1 - s_ P 185 0)) 36 t (kpl (b_ P 36 t) l (s_ P 210 t) (tkf (sv6 (sv5 (sv3 P t)).1 t (sv5 (sv3 P t)).2) t j))) 210 t (s_ P 210 t + tkf (sv6 (sv5 (sv3 P t)).1 t (sv5 (sv3 P t)).2) t j) := by unfold p_tk1; rw [e13, e185, q36, q7, zj2, e210]
                have px := pfx_tk (c := p_conf P d) (b := b_ P 36 t) (l := l) (o := s_ P 210 t) (m := nfl P d) (n := tkf (sv6 (sv5 (sv3 P t)).1 t (sv5 (sv3 P t)).2) t j) (by have := hp.2; rw [ed] at this; exact this) (by rw [z8, kb, h64]) (by have := hp.1; rw [ed] at this; exact this) (by rw [etk]; omega) (by rw [etk]; omega)
                have pfin : s_ (sv7 P t).1 210 t = s_ P 210 t + tkf (sv6 (sv5 (sv3 P t)).1 t (sv5 (sv3 P t)).2) t j → b_ (sv7 P t).1 36 t = kpl (b_ P 36 t) l (s_ P 210 t) (tkf (sv6 (sv5 (sv3 P t)).1 t (sv5 (sv3 P t)).2) t j) → PFX (Yv P t) t := by
                  intro g1 g2
                  unfold PFX
                  rw [e200, cY, ed, eY 210 t (by decide), eY36, g1, g2]
                  exact px
                generalize tkf (sv6 (sv5 (sv3 P t)).1 t (sv5 (sv3 P t)).2) t j = m at *
                by_cases m2 : m < nfl P d
                · rw [if_pos m2, tk1] at e0
                  refine ⟨pfin (by rw [e0]; simp only [s_S, s_B, s_F, b_S, b_B, b_F, f_S, f_B, Nat.reduceEqDiff, false_and, and_false, true_and, and_true, and_self, if_true, if_false, reduceIte, ite_self]) (by rw [e0]; simp only [s_S, s_B, s_F, b_S, b_B, b_F, f_S, f_B, Nat.reduceEqDiff, false_and, and_false, true_and, and_true, and_self, if_true, if_false, reduceIte, ite_self]), fun q => ?_⟩
                  rw [eY 211 t (by decide), e0] at q
                  exfalso; revert q; simp only [s_S, s_B, s_F, b_S, b_B, b_F, f_S, f_B, Nat.reduceEqDiff, false_and, and_false, true_and, and_true, and_self, if_true, if_false, reduceIte, ite_self] <;> (intro q; omega)
                · rw [if_neg m2] at e0
                  by_cases m3 : s_ P 210 t + m = (b_ P 36 t).length ∨ nfl P d < s_ P 202 t
                  · rw [if_pos m3] at e0
                    have eE : p_endD (p_tk1 (sv6 (sv5 (sv3 P t)).1 t (sv5 (sv3 P t)).2) t j) t = pS (p_tk1 (sv6 (sv5 (sv3 P t)).1 t (sv5 (sv3 P t)).2) t j) 209 t 2 := by
                      unfold p_endD
                      rw [if_pos]
                      rw [tk1]; simp only [s_S, s_B, s_F, b_S, b_B, b_F, f_S, f_B, Nat.reduceEqDiff, false_and, and_false, true_and, and_true, and_self, if_true, if_false, reduceIte, ite_self]; rw [e13, q6 180 0 (by decide) (by decide)]; exact h180
                    rw [eE, tk1] at e0
                    refine ⟨pfin (by rw [e0]; simp only [s_S, s_B, s_F, b_S, b_B, b_F, f_S, f_B, Nat.reduceEqDiff, false_and, and_false, true_and, and_true, and_self, if_true, if_false, reduceIte, ite_self]) (by rw [e0]; simp only [s_S, s_B, s_F, b_S, b_B, b_F, f_S, f_B, Nat.reduceEqDiff, false_and, and_false, true_and, and_true, and_self, if_true, if_false, reduceIte, ite_self]), fun _ q => ?_⟩
                    rw [eY 209 t (by decide), e0] at q
                    exfalso; revert q; simp only [s_S, s_B, s_F, b_S, b_B, b_F, f_S, f_B, Nat.reduceEqDiff, false_and, and_false, true_and, and_true, and_self, if_true, if_false, reduceIte, ite_self] <;> (intro q; omega)
                  · rw [if_neg m3, tk1] at e0
                    have em : m = nfl P d := by omega
                    have g185 : s_ (Yv P t) 185 0 = 1 - s_ P 185 0 := by rw [eY 185 0 (by decide), e0]; simp only [s_S, s_B, s_F, b_S, b_B, b_F, f_S, f_B, Nat.reduceEqDiff, false_and, and_false, true_and, and_true, and_self, if_true, if_false, reduceIte, ite_self]
                    have g210 : s_ (Yv P t) 210 t = s_ P 210 t + m := by rw [eY 210 t (by decide), e0]; simp only [s_S, s_B, s_F, b_S, b_B, b_F, f_S, f_B, Nat.reduceEqDiff, false_and, and_false, true_and, and_true, and_self, if_true, if_false, reduceIte, ite_self]
                    refine ⟨pfin (by rw [e0]; simp only [s_S, s_B, s_F, b_S, b_B, b_F, f_S, f_B, Nat.reduceEqDiff, false_and, and_false, true_and, and_true, and_self, if_true, if_false, reduceIte, ite_self]) (by rw [e0]; simp only [s_S, s_B, s_F, b_S, b_B, b_F, f_S, f_B, Nat.reduceEqDiff, false_and, and_false, true_and, and_true, and_self, if_true, if_false, reduceIte, ite_self]), fun _ _ _ => ?_⟩
                    rw [e200, cY, ed, g185, g210]
                    rcases ack (by rw [e0]) with z | ⟨a1, a2, a3⟩
                    · have en : nfl (Yv P t) d = nfl P d := nfl_cg (by rw [z.1 63 (by decide), d63]) (by rw [z.1 64 (by decide), d64]) (by rw [ed] at e80; exact e80)
                      rw [z.2, d29, z.1 61 (by decide), d61, z.1 64 (by decide), d64, en]
                      exact ⟨kb, Or.inr ⟨by omega, by omega⟩⟩
                    · rw [a1, a2, a3]
                      exact ⟨kb, Or.inl ⟨by omega, by omega⟩⟩
              · -- the host is ahead
                have h210 : s_ P 210 t = s_ P 64 d + nfl P d := by
                  rcases kd with c | c
                  · exact absurd c.1 m1
                  · exact c.2
                have e0 : sv7 P t = (pS (sv6 (sv5 (sv3 P t)).1 t (sv5 (sv3 P t)).2) 212 t 0, true) := by
                  rw [eA0]
                  unfold p_takeD
                  rw [if_neg e9, e13, e185, etg, if_pos m1]
                have g185 : s_ (Yv P t) 185 0 = s_ P 185 0 := by rw [eY 185 0 (by decide), e0]; simp only [s_S, s_B, s_F, b_S, b_B, b_F, f_S, f_B, Nat.reduceEqDiff, false_and, and_false, true_and, and_true, and_self, if_true, if_false, reduceIte, ite_self]; exact e185
                have g210 : s_ (Yv P t) 210 t = s_ P 210 t := by rw [eY 210 t (by decide), e0]; simp only [s_S, s_B, s_F, b_S, b_B, b_F, f_S, f_B, Nat.reduceEqDiff, false_and, and_false, true_and, and_true, and_self, if_true, if_false, reduceIte, ite_self]; exact e210
                refine ⟨pfx_cg hp g210 (by rw [eY36, e0]; simp only [s_S, s_B, s_F, b_S, b_B, b_F, f_S, f_B, Nat.reduceEqDiff, false_and, and_false, true_and, and_true, and_self, if_true, if_false, reduceIte, ite_self]; exact q36) e200 cY, fun _ _ _ => ?_⟩
                rw [e200, cY, ed, g185, g210]
                rcases ack (by rw [e0]) with z | ⟨a1, a2, a3⟩
                · have en : nfl (Yv P t) d = nfl P d := nfl_cg (by rw [z.1 63 (by decide), d63]) (by rw [z.1 64 (by decide), d64]) (by rw [ed] at e80; exact e80)
                  rw [z.2, d29, z.1 61 (by decide), d61, z.1 64 (by decide), d64, en]
                  exact ⟨kb, Or.inr ⟨m1, h210⟩⟩
                · rw [a1, a2, a3]
                  exact ⟨kb, Or.inl ⟨by omega, by omega⟩⟩
          · -- an empty status
            have d60 : s_ (sv7 P t).1 60 d = 5 := by rw [f7.1 60 d (by omega)]; exact z2
            have d83 : s_ (sv7 P t).1 83 d ≠ 0 := by rw [f7.1 83 d (by omega), zk.1 83 (by decide)]; exact h83
            have d90 : s_ (sv7 P t).1 90 d = 0 := by rw [f7.1 90 d (by omega)]; exact z4
            have d89 : s_ (sv7 P t).1 89 d = 3 := by rw [f7.1 89 d (by omega)]; exact z3
            have y60 : s_ (Yv P t) 60 d ≠ 2 := by
              rw [eYv]; unfold sv8
              split
              · rcases xack (P := (sv7 P t).1) (d := d) (fun d hd => ex_86 w7.1.1 hd) hd d83 (fun _ => d90) with c | c | c
                · rw [c.1 60 (by decide), d60]; decide
                · have za := c.2
                  rw [za.1 60 (by decide)]
                  unfold p_zAck
                  rw [if_neg (by omega), if_pos d60]
                  split
                  · simp only [s_S, s_B, s_F, b_S, b_B, b_F, f_S, f_B, Nat.reduceEqDiff, false_and, and_false, true_and, and_true, and_self, if_true, if_false, reduceIte, ite_self] <;> decide
                  · simp only [s_S, s_B, s_F, b_S, b_B, b_F, f_S, f_B, Nat.reduceEqDiff, false_and, and_false, true_and, and_true, and_self, if_true, if_false, reduceIte, ite_self] <;> decide
                · omega
              · rw [d60]; decide
            cases er : (sv5 (sv3 P t)).2 with
            | none =>
              obtain ⟨k1, eA⟩ := kept (fun j ej => by rw [er] at ej; cases ej) ho
              exact kept2 k1 ho eA (fun _ _ => Or.inr y60)
            | some j =>
              obtain ⟨zj1, zj2⟩ := zr j er
              have hdat : isDat (s_ (sv6 (sv5 (sv3 P t)).1 t (sv5 (sv3 P t)).2) 141 j) := by rw [q141, zj1, z5]; exact Or.inr rfl
              have eA0 : sv7 P t = p_takeD (sv6 (sv5 (sv3 P t)).1 t (sv5 (sv3 P t)).2) t j := by rw [e7]; exact hA_dat er hdat caQ
              have e9 : ¬ s_ (sv6 (sv5 (sv3 P t)).1 t (sv5 (sv3 P t)).2) 209 t = 2 := by rw [q6 209 t (by decide) (by decide)]; exact s2
              have e13 : s_ (sv6 (sv5 (sv3 P t)).1 t (sv5 (sv3 P t)).2) 213 t = 0 := by rw [q6 213 t (by decide) (by decide)]; exact h213
              have etk : tkf (sv6 (sv5 (sv3 P t)).1 t (sv5 (sv3 P t)).2) t j = 0 := by unfold tkf; rw [q7, zj2, z6]; exact Nat.zero_min _
              have ekp : kpl (b_ P 36 t) [] (s_ P 210 t) 0 = b_ P 36 t := by unfold kpl; rw [List.take_nil, List.append_nil, Nat.add_zero, List.take_append_drop]
              have tk1 : s_ (p_tk1 (sv6 (sv5 (sv3 P t)).1 t (sv5 (sv3 P t)).2) t j) 210 t = s_ P 210 t ∧ b_ (p_tk1 (sv6 (sv5 (sv3 P t)).1 t (sv5 (sv3 P t)).2) t j) 36 t = b_ P 36 t := by
                unfold p_tk1
                rw [etk, q36, q7, zj2, z6, q6 210 t (by decide) (by decide), ekp]
                simp only [s_S, s_B, s_F, b_S, b_B, b_F, f_S, f_B, Nat.reduceEqDiff, false_and, and_false, true_and, and_true, and_self, if_true, if_false, reduceIte, ite_self]
                exact Nat.add_zero _
              have hh : s_ (sv7 P t).1 210 t = s_ P 210 t ∧ b_ (sv7 P t).1 36 t = b_ P 36 t := by
                rw [eA0]
                unfold p_takeD
                rw [if_neg e9]
                split
                · dsimp only; rw [s_n (by decide), b_S]; exact ⟨q6 210 t (by decide) (by decide), q36⟩
                · split
                  · dsimp only; rw [s_n (by decide), b_S]; exact tk1
                  · split
                    · dsimp only
                      unfold p_endD
                      split
                      · rw [s_n (by decide), b_S]; exact tk1
                      · rw [s_n (by decide), b_S]; exact tk1
                    · exact tk1
              refine ⟨pfx_cg hp (by rw [eY 210 t (by decide)]; exact hh.1) (by rw [eY36]; exact hh.2) e200 cY, fun _ _ c => ?_⟩
              rw [e200, ed] at c
              exact absurd c y60
          · obtain ⟨k1, eA⟩ := kept (fun j ej c => by have := (zr j ej).1; rw [q141] at c; have := c.2; unfold isDat at this; omega) ho
            refine kept2 k1 ho eA (fun _ _ => Or.inr ?_)
            rw [Y0 k1 eA, f7.1 60 d (by omega), z4]; exact z2
      · have e0 := nob a84
        obtain ⟨k1, eA⟩ := kept (fun j ej => by rw [e0] at ej; cases ej) ho
        exact kept2 k1 ho eA (fun _ _ => Or.inl (yv_quiet hW hT hS h126 h1 hd (Or.inr (by rw [n128]; exact a84))))
end HR_
