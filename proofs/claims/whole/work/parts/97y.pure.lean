/-! A frame: what is pure of it. -/
section ID_
variable {P P' Q X : pP} {d k t : Nat}
theorem mkP_186 {a bk sz iv i : Nat} : s_ (p_mkP P d a bk sz iv) 186 i = if i = s_ P 130 0 then 0 else s_ P 186 i := by
  unfold p_mkP p_mkPf
  rw [s_n (by decide), s_n (by decide), s_n (by decide), s_n (by decide), s_S]
  by_cases c : i = s_ P 130 0
  · rw [if_pos ⟨rfl, c⟩, if_pos c]
  · rw [if_neg (fun q => c q.2), if_neg c, s_n (by decide), s_n (by decide), s_n (by decide), s_n (by decide), s_n (by decide), s_n (by decide)]
theorem mkP_v {a bk sz iv : Nat} : s_ (p_mkP P d a bk sz iv) 130 0 = s_ P 130 0 + 1 ∧ s_ (p_mkP P d a bk sz iv) 164 d = s_ P 164 d + 1 ∧ s_ (p_mkP P d a bk sz iv) 166 (10 * d + s_ P 164 d) = s_ P 130 0 := by unfold p_mkP; simp only [s_S, s_B, s_F, b_S, b_B, b_F, f_S, f_B, Nat.reduceEqDiff, false_and, and_false, true_and, and_true, and_self, if_true, if_false, reduceIte, ite_self]
/-- pipes behind a step: the old ones, or new ones that brought no NAK yet -/
def NP (P P' : pP) : Prop := s_ P 130 0 ≤ s_ P' 130 0 ∧ (∀ i, i < s_ P 130 0 → s_ P' 186 i = s_ P 186 i ∧ s_ P' 181 i = s_ P 181 i) ∧ (∀ i, s_ P' 186 i = s_ P 186 i ∨ s_ P' 186 i = 0) ∧ ∀ e k, e < 6 → k < s_ P' 164 e → k < 6 → (k < s_ P 164 e ∧ pid P' e k = pid P e k) ∨ (s_ P 130 0 ≤ pid P' e k ∧ s_ P' 186 (pid P' e k) = 0)
theorem np_cg (h : ∀ f j, f = 130 ∨ f = 164 ∨ f = 166 ∨ f = 181 ∨ f = 186 → s_ P' f j = s_ P f j) : NP P P' := by
  refine ⟨by rw [h 130 0 (by decide)]; exact Nat.le_refl _, fun i _ => ⟨h 186 i (by decide), h 181 i (by decide)⟩, fun i => Or.inl (h 186 i (by decide)), fun e k he hk _ => Or.inl ⟨by rw [h 164 e (by decide)] at hk; exact hk, h 166 _ (by decide)⟩⟩
theorem np_tr {P'' : pP} (h : NP P P') (g : NP P' P'') : NP P P'' := by
  obtain ⟨h1, h2, h3, h4⟩ := h
  obtain ⟨g1, g2, g3, g4⟩ := g
  refine ⟨by omega, fun i hi => ⟨by rw [(g2 i (by omega)).1, (h2 i hi).1], by rw [(g2 i (by omega)).2, (h2 i hi).2]⟩, fun i => ?_, fun e k he hk k6 => ?_⟩
  · rcases g3 i with c | c
    · rw [c]; exact h3 i
    · exact Or.inr c
  · rcases g4 e k he hk k6 with ⟨c1, c2⟩ | ⟨c1, c2⟩
    · rcases h4 e k he c1 k6 with ⟨c3, c4⟩ | ⟨c3, c4⟩
      · exact Or.inl ⟨c3, c2.trans c4⟩
      · rw [c2]
        refine Or.inr ⟨c3, ?_⟩
        rcases g3 (pid P' e k) with c | c
        · rw [c]; exact c4
        · exact c
    · exact Or.inr ⟨by omega, c2⟩
theorem np_mkP {a bk sz iv : Nat} (h6 : s_ P 164 d < 6) : NP P (p_mkP P d a bk sz iv) := by
  obtain ⟨v1, v2, v3⟩ := mkP_v (P := P) (d := d) (a := a) (bk := bk) (sz := sz) (iv := iv)
  refine ⟨by omega, fun i hi => ⟨by rw [mkP_186, if_neg (by omega)], mkP_n (by omega) (by omega) (by omega) (by omega)⟩, fun i => ?_, fun e k he hk k6 => ?_⟩
  · rw [mkP_186]
    split
    · exact Or.inr rfl
    · exact Or.inl rfl
  · by_cases c : e = d ∧ k = s_ P 164 d
    · obtain ⟨rfl, rfl⟩ := c
      right
      unfold pid
      rw [v3, mkP_186, if_pos rfl]
      exact ⟨Nat.le_refl _, rfl⟩
    · left
      refine ⟨?_, mkP_n (by omega) (by omega) (by omega) (by omega)⟩
      by_cases q : e = d
      · subst q; rw [v2] at hk; omega
      · rw [mkP_n (by omega) (by omega) (by omega) (by omega)] at hk; exact hk
theorem np_opL {c : Nat} : ∀ (n i : Nat) (P : pP), NP P (p_opL P d c i n)
  | 0, _, P => np_cg (fun _ _ _ => rfl)
  | n + 1, i, P => by
    unfold p_opL
    split
    · exact np_cg (fun _ _ _ => rfl)
    · rename_i q
      split
      · exact np_tr (np_mkP (by omega)) (np_opL n _ _)
      · exact np_opL n _ _
theorem np_S {f i v : Nat} (h : f ≠ 130 ∧ f ≠ 164 ∧ f ≠ 166 ∧ f ≠ 181 ∧ f ≠ 186) : NP P (pS P f i v) := np_cg (fun f' j hf => s_n (by omega))
theorem np_fnd {s tot : Nat} : NP P (p_fnd P d s tot) := np_cg (fun f j hf => fnd_o (by omega) (by omega) (by omega))
theorem np_reAll {n : Nat} : NP P (p_reAll P d n) := np_cg (fun f j hf => reAll_s5 f j (by rintro ⟨c, -⟩; omega))
theorem fho_opL {c : Nat} : ∀ (n i : Nat) (P : pP), FHo P (p_opL P d c i n)
  | 0, _, P => fho_rf
  | n + 1, i, P => by
    unfold p_opL
    split
    · exact fho_rf
    · split
      · refine fho_tr ?_ (fho_opL n _ _)
        unfold p_mkP p_mkPf
        exact fho_S (fho_S (fho_S (fho_S (fho_S (fho_S (fho_S (fho_S (fho_S (fho_S (fho_S fho_rf (by decide)) (by decide)) (by decide)) (by decide)) (by decide)) (by decide)) (by decide)) (by decide)) (by decide)) (by decide)) (by decide)
      · exact fho_opL n _ _
theorem opL_o {c f j : Nat} (hf : f < 120 ∨ (124 ≤ f ∧ f < 130)) : ∀ (n i : Nat) (P : pP), s_ (p_opL P d c i n) f j = s_ P f j
  | 0, _, P => rfl
  | n + 1, i, P => by
    unfold p_opL
    split
    · rfl
    · split
      · rw [opL_o hf n]; exact mkP_n (by omega) (by omega) (by omega) (by omega)
      · exact opL_o hf n _ _
theorem fho_reAll {n : Nat} : FHo P (p_reAll P d n) := by
  induction n with
  | zero => exact fho_rf
  | succ n ih =>
    show FHo P (p_reop (p_reAll P d n) (pid P d n))
    unfold p_reop
    exact fho_S (fho_S ih (by decide)) (by decide)
/-- the end of a transfer: what it changes -/
theorem fin_all : FHo X (p_fin X t) ∧ NP X (p_fin X t) ∧ ∀ f j, f < 20 ∨ (124 ≤ f ∧ f < 130) → s_ (p_fin X t) f j = s_ X f j := by
  have cl : ∀ d, FHo X (p_clear X d t) ∧ NP X (p_clear X d t) ∧ ∀ f j, f < 20 ∨ (124 ≤ f ∧ f < 130) → s_ (p_clear X d t) f j = s_ X f j := by
    intro d
    refine ⟨?_, ?_, fun f j hf => clear_s (by omega)⟩
    · unfold p_clear
      split
      · exact fho_reAll
      · split
        · split
          · exact fho_rf
          · unfold p_reop; exact fho_S (fho_S fho_rf (by decide)) (by decide)
        · exact fho_rf
    · exact np_cg (fun f j hf => clear_s (by omega))
  have fd : ∀ (Z : pP) d s tot, FHo X Z → NP X Z → (∀ f j, f < 20 ∨ (124 ≤ f ∧ f < 130) → s_ Z f j = s_ X f j) → FHo X (p_fnd Z d s tot) ∧ NP X (p_fnd Z d s tot) ∧ ∀ f j, f < 20 ∨ (124 ≤ f ∧ f < 130) → s_ (p_fnd Z d s tot) f j = s_ X f j := fun Z d s tot z1 z2 z3 => ⟨fho_tr z1 fho_fnd, np_tr z2 np_fnd, fun f j hf => by rw [fnd_o (by omega) (by omega) (by omega)]; exact z3 f j hf⟩
  have r0 : FHo X X ∧ NP X X ∧ ∀ f j, f < 20 ∨ (124 ≤ f ∧ f < 130) → s_ X f j = s_ X f j := ⟨fho_rf, np_cg (fun _ _ _ => rfl), fun _ _ _ => rfl⟩
  have s1 : ∀ f d v, f = 160 ∨ f = 161 ∨ f = 162 ∨ f = 165 → FHo X (pS X f d v) ∧ NP X (pS X f d v) ∧ ∀ f' j, f' < 20 ∨ (124 ≤ f' ∧ f' < 130) → s_ (pS X f d v) f' j = s_ X f' j := fun f d v hf => ⟨fho_S fho_rf (by omega), np_S (by omega), fun f' j h => s_n (by omega)⟩
  unfold p_fin
  split
  · exact ⟨fho_S fho_rf (by decide), np_S (by decide), fun f j hf => s_n (by omega)⟩
  · split
    · unfold p_gof
      split
      · exact s1 160 _ _ (by decide)
      · split
        · split
          · obtain ⟨a1, a2, a3⟩ := s1 162 (s_ X 200 t) ((b_ X 36 t).getD 7 0) (by decide)
            exact fd _ _ _ _ a1 a2 a3
          · exact s1 160 _ _ (by decide)
        · split
          · obtain ⟨a1, a2, a3⟩ := s1 161 (s_ X 200 t) 1 (by decide)
            exact fd _ _ _ _ a1 a2 a3
          · split
            · split
              · exact s1 160 _ _ (by decide)
              · exact fd _ _ _ _ r0.1 r0.2.1 r0.2.2
            · split
              · obtain ⟨a1, a2, a3⟩ := s1 165 (s_ X 200 t) (t + 1) (by decide)
                exact fd _ _ _ _ a1 a2 a3
              · split
                · obtain ⟨a1, a2, a3⟩ := s1 160 (s_ X 200 t) 2 (by decide)
                  unfold p_open
                  split
                  · exact ⟨a1, a2, a3⟩
                  · exact ⟨fho_tr a1 (fho_opL _ _ _), np_tr a2 (np_opL _ _ _), fun f j hf => by rw [opL_o (by omega)]; exact a3 f j hf⟩
                · exact fd _ _ _ _ r0.1 r0.2.1 r0.2.2
    · split
      · exact cl _
      · exact r0
/-- the class's memory, as far as it is named -/
def EXO (P : pP) : Prop := ∃ n0 u0 g M, RC g P M ∧ gO n0 u0 g P
theorem exo_ex (h : EXO P) : EX P := by obtain ⟨n0, u0, g, M, h, -⟩ := h; exact ⟨g, M, h⟩
theorem exo_serve (h : EXO P) (ht : t < s_ P 122 0) (hS : SVok P t) : EXO (p_serve P t) := by
  obtain ⟨n0, u0, g, M, h, hg⟩ := h
  obtain ⟨v, M', -, g', -, k1, k2⟩ := ru_ex (c_serve (D := 0) h hg ht hS)
  exact ⟨n0, u0, g', M', k2, k1⟩
theorem gO_cg {n0 u0 : Nat} {g : pG} (h : gO n0 u0 g P) (h1 : s_ P' 122 0 = s_ P 122 0) (h2 : s_ P' 130 0 = s_ P 130 0) : gO n0 u0 g P' := by
  unfold gO at *
  rw [h1, h2]; exact h
theorem exo_choose (h : EXO P) (h7 : s_ P 127 0 ≤ 36) (h8 : s_ P 128 0 < 36) (hs : s_ P 126 0 + 1 < 2 ^ 31) : EXO (p_choose P).1 := by
  obtain ⟨n0, u0, g, M, h, hg⟩ := h
  obtain ⟨v, M', -, k⟩ := ru_ex (c_choose (D := 0) h h7 h8 hs)
  exact ⟨n0, u0, g, M', k, gO_cg hg (choose_s (by decide)) (choose_s (by decide))⟩
/-- a transaction as a whole: the wire's side, and the numbers that stay -/
theorem serve_all (hI : INV P) (hW : WX P) (hE : EXO P) (hT : XT P t) (hS : s_ P 228 0 + 4 < 2 ^ 31) (h126 : s_ P 126 0 + 1 < 2 ^ 31) (ht : wtg P t) (hc : s_ P 213 t = 0 → ∀ t', t' < t → ¬ wtc P t') (h186 : ∀ i, s_ P 186 i ≤ s_ P 126 0 + 1) : SVok P t ∧ INV (p_serve P t) ∧ EXO (p_serve P t) ∧ WX (p_serve P t) ∧ FHo (Yv P t) (p_serve P t) ∧ (∀ f j, f < 20 ∨ (124 ≤ f ∧ f < 130) → s_ (p_serve P t) f j = s_ P f j) ∧ s_ (p_serve P t) 228 0 ≤ s_ P 228 0 + 4 ∧ s_ P 228 0 ≤ s_ (p_serve P t) 228 0 ∧ (∀ i, s_ (p_serve P t) 186 i ≤ s_ P 126 0 + 1) ∧ NP (Yv P t) (p_serve P t) := by
  obtain ⟨iS, sv⟩ := inv_serve hI hW hT hS h126 ht hc
  have e1 := exo_serve hE ht.1 sv
  obtain ⟨wy, cy, yh, fy⟩ := yv hW hT hS h126 ht.2
  obtain ⟨w7, s7, -, f7, -⟩ := yv7 hW hT hS h126 ht.2
  obtain ⟨-, w2, -, w3, -, w5, -⟩ := exch hW hT hS
  have h6 : ∀ d, d < 6 → s_ P 86 d ≤ 6 := fun d hd => ex_86 hW.1.1 hd
  have s9 : p_serve P t = if s_ (Yv P t) 211 t = 0 then Yv P t else p_fin (pS (Yv P t) 123 0 (s_ (Yv P t) 123 0 - 1)) t := rfl
  have all : FHo (Yv P t) (p_serve P t) ∧ NP (Yv P t) (p_serve P t) ∧ ∀ f j, f < 20 ∨ (124 ≤ f ∧ f < 130) → s_ (p_serve P t) f j = s_ (Yv P t) f j := by
    rw [s9]
    split
    · exact ⟨fho_rf, np_cg (fun _ _ _ => rfl), fun _ _ _ => rfl⟩
    · obtain ⟨a1, a2, a3⟩ := fin_all (X := pS (Yv P t) 123 0 (s_ (Yv P t) 123 0 - 1)) (t := t)
      exact ⟨fho_tr (fho_S fho_rf (by decide)) a1, np_tr (np_S (by decide)) a2, fun f j hf => by rw [a3 f j hf]; exact s_n (by omega)⟩
  obtain ⟨a1, a2, a3⟩ := all
  have b3 := sv3_228 (t := t) h6
  have b5 := sv5_228 (P := sv3 P t) (fun d hd => ex_86 w3.1.1 hd)
  have u7 : s_ (sv7 P t).1 228 0 = s_ (sv5 (sv3 P t)).1 228 0 := f7.1 228 0 (by omega)
  have u8 : s_ (Yv P t) 228 0 ≤ s_ (sv7 P t).1 228 0 + 1 ∧ s_ (sv7 P t).1 228 0 ≤ s_ (Yv P t) 228 0 := by
    unfold Yv sv8
    split
    · have ep : p_rst (sv7 P t).1 (nk (sv7 P t).1) 0 2 = prD (sv7 P t).1 2 [] := prD_ack.symm
      rw [ep, carry_228' _ (fun d hd => by rw [prD_s (by omega)]; exact ex_86 w7.1.1 hd), prD_s (by omega)]
      omega
    · omega
  have l3 : s_ P 228 0 ≤ s_ (sv3 P t) 228 0 := by
    have k1 : Fh P (sv1 P t) := by rw [sv1_pr]; exact fh_prT
    have e1 : s_ (sv2 P t) 228 0 = s_ P 228 0 + 1 := by
      unfold sv2
      rw [carry_228' _ (fun d hd => by rw [k1.2.2 d]; exact h6 d hd), sv1_pr, prT_s (by omega)]
    unfold sv3
    split
    · omega
    · have k2 := (fh_sv3 (t := t) h6).1
      rw [svB_pr k2, carry_228' _ (fun d hd => by rw [fh_prD.2.2 d, k2.2.2 d]; exact h6 d hd), prD_s (by omega)]
      omega
  have l5 : s_ (sv3 P t) 228 0 ≤ s_ (sv5 (sv3 P t)).1 228 0 := by
    cases e : ansD (sv3 P t) with
    | none => rw [sv5_none e]; exact Nat.le_refl _
    | some d =>
      rw [sv5_some e, carry_228' _ (fun d' hd => by rw [br_s (by omega)]; exact ex_86 w3.1.1 hd), br_s (by omega)]
      omega
  have u9 : s_ (p_serve P t) 228 0 = s_ (Yv P t) 228 0 := a1.1 228 0 (by omega)
  refine ⟨sv, iS, e1, wx_ho wy (exo_ex e1) a1, a1, fun f j hf => ?_, by omega, by omega, fun i => ?_, a2⟩
  · rw [a3 f j hf]
    exact yh.1 f j (by omega) (by omega) (by omega)
  · have y6 : s_ (Yv P t) 186 i ≤ s_ P 126 0 + 1 := by
      by_cases c : i = s_ P 213 t
      · rw [c]; exact yh.2.2.2.2.2 (h186 _)
      · rw [yh.1 186 i (by decide) (by omega) (by omega)]; exact h186 i
    rcases a2.2.2.1 i with c | c
    · rw [c]; exact y6
    · rw [c]; exact Nat.zero_le _
end ID_
