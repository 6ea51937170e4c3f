/-! Host.serve, beginFrame, endFrame -/
section SV
variable {g : pG} {P : pP} {M M' : sm_M} {D : Nat}
/-- what carrying needs -/
def CK (P : pP) : Prop := s_ P 228 0 + 1 < 2 ^ 31 ∧ PKo P (nk P) ∧ HearOk (pS (p_carry1 P).1 228 0 (s_ P 228 0 + 1)) (nk P) (s_ P 140 (nk P)) (p_carry1 P).2
theorem c_carry' (h : RC g P M) (hc : CK P) : sm_Run (D + 5) 143 0 (sm_ent 143 [.inr (some (g.1 11 0))]) [] M (fun v M' => v = some (.inr ((p_carry P).2.map (fun j => g.1 7 j))) ∧ RC g (p_carry P).1 M') := c_carry h hc.1 hc.2.1 hc.2.2 carry1_228
theorem rc_86 (h : RC g P M) : ∀ d, d < 6 → s_ P 86 d ≤ 6 := fun _ hd => (rc_E h hd).1
theorem nk_lt : nk P < 60 := Nat.mod_lt _ (by decide)
theorem TI_fh {Q : pP} {t : Nat} (h : TI P t) (k : Fh P Q) : TI Q t := by
  have hF : ∀ {f i}, 160 ≤ f → f < 220 → s_ Q f i = s_ P f i := fun h1 h2 => k.1 _ _ (Or.inr ⟨h1, h2⟩)
  unfold TI at *
  rw [hF (f := 210) (by decide) (by decide), hF (f := 213) (by decide) (by decide), hF (f := 185) (by decide) (by decide), hF (f := 212) (by decide) (by decide), hF (f := 209) (by decide) (by decide), hF (f := 202) (by decide) (by decide), k.2.1 36 t (Or.inl rfl)]
  exact h
theorem asks_fh {Q : pP} {t : Nat} (k : Fh P Q) : asks Q t ↔ asks P t := by
  have hF : ∀ {f i}, 160 ≤ f → f < 220 → s_ Q f i = s_ P f i := fun h1 h2 => k.1 _ _ (Or.inr ⟨h1, h2⟩)
  unfold asks
  rw [hF (f := 209) (by decide) (by decide), hF (f := 203) (by decide) (by decide), k.2.1 36 t (Or.inl rfl)]
def sv1 (P : pP) (t : Nat) : pP := pS (p_rst P (nk P) 0 (tKind P t)) 142 (nk P) (tNum (p_rst P (nk P) 0 (tKind P t)) t)
def sv2 (P : pP) (t : Nat) : pP := (p_carry (sv1 P t)).1
def svB (Q : pP) (t : Nat) : pP := pB (p_rst Q (nk Q) 0 (tDat Q t)) 7 (nk Q) (fillB (p_rst Q (nk Q) 0 (tDat Q t)) t)
def sv3 (P : pP) (t : Nat) : pP := if asks P t then sv2 P t else (p_carry (svB (sv2 P t) t)).1
def sv5 (Q : pP) : pP × Option Nat := if (p_hasAns Q).2 = true then p_carry (p_hasAns Q).1 else ((p_hasAns Q).1, none)
def sv6 (Q : pP) (t : Nat) (o : Option Nat) : pP := match o with
  | none => Q
  | some j => if s_ Q 141 j = 10 ∧ s_ Q 209 t ≠ 0 then pS Q 186 (s_ Q 213 t) (s_ Q 126 0 + 1) else Q
def sv8 (r : pP × Bool) : pP := if r.2 = true then (p_carry (p_rst r.1 (nk r.1) 0 2)).1 else r.1
def sv9 (Q : pP) (t : Nat) : pP := if s_ Q 211 t = 0 then Q else p_fin (pS Q 123 0 (s_ Q 123 0 - 1)) t
def sv7 (P : pP) (t : Nat) : pP × Bool := p_hearA (sv6 (sv5 (sv3 P t)).1 t (sv5 (sv3 P t)).2) t (sv5 (sv3 P t)).2
def p_serve (P : pP) (t : Nat) : pP := sv9 (sv8 (sv7 P t)) t
def SVok (P : pP) (t : Nat) : Prop := TI P t ∧ s_ P 205 t < 65536 ∧ s_ P 126 0 + 1 < 2 ^ 31 ∧ CK (sv1 P t) ∧ (¬ asks P t → CK (svB (sv2 P t) t)) ∧ ((p_hasAns (sv3 P t)).2 = true → CK (p_hasAns (sv3 P t)).1) ∧ (∀ j, (sv5 (sv3 P t)).2 = some j → j < 60 ∧ s_ (sv5 (sv3 P t)).1 141 j < 16) ∧ ((sv7 P t).2 = true → CK (p_rst (sv7 P t).1 (nk (sv7 P t).1) 0 2)) ∧ s_ P 200 t < 6 ∧ (s_ (sv8 (sv7 P t)) 211 t ≠ 0 → 1 ≤ s_ P 123 0 ∧ (s_ P 213 t = 0 → 0 < s_ P 208 t → GF (pS (sv8 (sv7 P t)) 123 0 (s_ (sv8 (sv7 P t)) 123 0 - 1)) t))
theorem fh_sv1 {t : Nat} : Fh P (sv1 P t) := by
  unfold sv1
  exact fh_S (fh_rst fh_rf) (by unfold hostF; omega) (by decide)
theorem err_s {t f i : Nat} (hf : f ≠ 211 ∧ f ≠ 212) : s_ (p_err P t) f i = s_ P f i := by
  unfold p_err
  split
  · rw [s_S, if_neg (by omega)]
  · rw [s_S, if_neg (by omega), s_S, if_neg (by omega)]
theorem endD_s {t f i : Nat} (hf : f ≠ 211 ∧ f ≠ 209) : s_ (p_endD P t) f i = s_ P f i := by
  unfold p_endD
  split <;> (rw [s_S, if_neg (by omega)])
theorem goOn_s {t f i : Nat} (hf : f ≠ 185 ∧ f ≠ 209 ∧ f ≠ 210 ∧ f ≠ 211) : s_ (p_goOn P t) f i = s_ P f i := by
  unfold p_goOn
  repeat' split
  · rw [s_S, if_neg (by omega), s_S, if_neg (by omega)]
  · rw [s_S, if_neg (by omega), s_S, if_neg (by omega)]
  · rw [s_S, if_neg (by omega)]
  · rw [endD_s (by omega), s_S, if_neg (by omega), s_S, if_neg (by omega)]
  · rw [s_S, if_neg (by omega), s_S, if_neg (by omega)]
theorem tk1_s {t j f i : Nat} (hf : f ≠ 185 ∧ f ≠ 210 ∧ f ≠ 212) : s_ (p_tk1 P t j) f i = s_ P f i := by
  unfold p_tk1
  rw [s_S, if_neg (by omega), s_B, s_S, if_neg (by omega), s_S, if_neg (by omega)]
theorem takeD_s {t j f i : Nat} (hf : f ≠ 185 ∧ f ≠ 209 ∧ f ≠ 210 ∧ f ≠ 211 ∧ f ≠ 212) : s_ (p_takeD P t j).1 f i = s_ P f i := by
  unfold p_takeD
  repeat' split
  · show s_ (pS _ _ _ _) f i = _
    rw [s_S, if_neg (by omega), s_S, if_neg (by omega)]
  · exact err_s (by omega)
  · show s_ (pS _ _ _ _) f i = _
    rw [s_S, if_neg (by omega)]
  · show s_ (pS _ _ _ _) f i = _
    rw [s_S, if_neg (by omega), tk1_s (by omega)]
  · show s_ (p_endD _ _) f i = _
    rw [endD_s (by omega), tk1_s (by omega)]
  · exact tk1_s (by omega)
theorem hearA_s {t f i : Nat} {o : Option Nat} (hf : f ≠ 185 ∧ f ≠ 209 ∧ f ≠ 210 ∧ f ≠ 211 ∧ f ≠ 212) : s_ (p_hearA P t o).1 f i = s_ P f i := by
  have hB : ∀ k, s_ (p_hearB P t k) f i = s_ P f i := by
    intro k
    unfold p_hearB
    repeat' split
    · rw [goOn_s (by omega), s_S, if_neg (by omega)]
    · rw [s_S, if_neg (by omega), s_S, if_neg (by omega)]
    · rw [s_S, if_neg (by omega)]
    · exact err_s (by omega)
  unfold p_hearA
  split
  · exact hB 0
  · split
    · exact takeD_s hf
    · exact hB _
theorem sv6_s {t f i : Nat} {o : Option Nat} (hf : f ≠ 186) : s_ (sv6 P t o) f i = s_ P f i := by
  unfold sv6
  split
  · rfl
  · split
    · rw [s_S, if_neg (fun q => hf q.1)]
    · rfl
theorem sv6_b {t c i : Nat} {o : Option Nat} : b_ (sv6 P t o) c i = b_ P c i := by
  unfold sv6
  split
  · rfl
  · split <;> rfl
theorem c_serve {n0 u0 t : Nat} (h : RC g P M) (hg : gO n0 u0 g P) (ht : t < s_ P 122 0) (hS : SVok P t) : sm_Run (D + 6) 101 0 (sm_ent 101 [.inr (some (g.1 6 0)), .inr (some (g.1 11 0)), .inr (some (g.1 10 t))]) [] M (fun r M' => r = none ∧ ∃ g', gx g g' ∧ gO n0 u0 g' (p_serve P t) ∧ RC g' (p_serve P t) M') := by
  obtain ⟨k1, k2, k3, k4, k5, k6, k7, k8, k9, k10⟩ := hS
  obtain ⟨l10, l36, l9⟩ := lq_10 h ht
  have l6 := rc_st h (c := 6) (i := 0) (by decide)
  have l11 := rc_st h (c := 11) (i := 0) (by decide)
  have n60 : ∀ {Q : pP}, nk Q < 66 := fun {Q} => by have := nk_lt (P := Q); omega
  have l7 : ∀ {Q : pP}, g.2.1 7 (nk Q) = true := fun {Q} => (lq_p h n60).1
  have tF : ∀ {Q : pP}, Fh P Q → t < s_ Q 122 0 := fun k => by rw [k.1 122 0 (Or.inl (by decide))]; exact ht
  have hin := c_asksIn (D := D + 5) h ht
  -- from the answer on
  have t119 : ∀ (M : sm_M) (x3 : Int32) (r4 : Option Nat), RC g (sv8 (sv7 P t)) M → t < s_ (sv8 (sv7 P t)) 122 0 → s_ (sv8 (sv7 P t)) 123 0 = s_ P 123 0 → s_ (sv8 (sv7 P t)) 200 t = s_ P 200 t → s_ (sv8 (sv7 P t)) 213 t = s_ P 213 t → s_ (sv8 (sv7 P t)) 208 t = s_ P 208 t → s_ (sv8 (sv7 P t)) 122 0 = s_ P 122 0 → s_ (sv8 (sv7 P t)) 130 0 = s_ P 130 0 → sm_Run (D + 6) 101 119 [some (.inr (some (g.1 6 0))), some (.inr (some (g.1 11 0))), some (.inr (some (g.1 10 t))), some (.inl x3), some (.inr r4)] [] M (fun r M' => r = none ∧ ∃ g', gx g g' ∧ gO n0 u0 g' (p_serve P t) ∧ RC g' (p_serve P t) M') := by
    intro M x3 r4 h8 ht8 e123 e200 e213 e208 e122 e130
    have x11 := rI_211 h8 l10
    unfold p_serve sv9
    refine bb_101_119 ⟨_, rfl, rc_K h8 l10, fun q => ?_, fun q => ⟨rc_K h8 l6, ?_⟩⟩
    · rw [x11, li_0, nI_eq (rc_B h8 _ _) (by decide)] at q
      rw [if_pos q]
      exact ⟨rfl, g, gx_rf, gO_eq hg e122 e130, h8⟩
    · rw [x11, li_0, nI_eq (rc_B h8 _ _) (by decide)] at q
      obtain ⟨w1, w2⟩ := k10 q
      rw [if_neg q, rI_123 h8, li_1, pk_sub (by omega)]
      have b3 := rc_B h8 123 0
      have h9 : RC g (pS (sv8 (sv7 P t)) 123 0 (s_ (sv8 (sv7 P t)) 123 0 - 1)) (sm_putI M (g.1 6 0) 3 (nI (s_ (sv8 (sv7 P t)) 123 0 - 1))) := rc_w' h8 l6 (by omega)
      have nf : ∀ {f i}, f ≠ 123 → s_ (pS (sv8 (sv7 P t)) 123 0 (s_ (sv8 (sv7 P t)) 123 0 - 1)) f i = s_ (sv8 (sv7 P t)) f i := fun hf => by rw [s_S, if_neg (fun q => hf q.1)]
      refine ru_mono (c_fin (D := D) h9 (gO_eq hg ((nf (by decide)).trans e122) ((nf (by decide)).trans e130)) (by rw [nf (by decide)]; exact ht8) (by rw [nf (by decide), e200]; exact k9) (fun z1 z2 => ?_)) ?_
      · rw [nf (by decide), e213] at z1
        rw [nf (by decide), e208] at z2
        exact w2 z1 z2
      · rintro r M9 ⟨rfl, hh⟩
        exact bb_101_141 ⟨rfl, hh⟩
  have t104 : ∀ (M : sm_M) (x3 : Int32) (r4 : Option Nat), RC g (sv7 P t).1 M → t < s_ (sv7 P t).1 122 0 → (∀ f, hostF f → f ≠ 185 → f ≠ 186 → f ≠ 209 → f ≠ 210 → f ≠ 211 → f ≠ 212 → ∀ i, s_ (sv7 P t).1 f i = s_ P f i) → sm_Run (D + 6) 101 104 [some (.inr (some (g.1 6 0))), some (.inr (some (g.1 11 0))), some (.inr (some (g.1 10 t))), some (.inl x3), some (.inr r4)] [.inl (bI (sv7 P t).2)] M (fun r M' => r = none ∧ ∃ g', gx g g' ∧ gO n0 u0 g' (p_serve P t) ∧ RC g' (p_serve P t) M') := by
    intro M x3 r4 h7 ht7 hf7
    have fin : ∀ (M : sm_M), RC g (sv8 (sv7 P t)) M → sm_Run (D + 6) 101 119 [some (.inr (some (g.1 6 0))), some (.inr (some (g.1 11 0))), some (.inr (some (g.1 10 t))), some (.inl x3), some (.inr r4)] [] M (fun r M' => r = none ∧ ∃ g', gx g g' ∧ gO n0 u0 g' (p_serve P t) ∧ RC g' (p_serve P t) M') := by
      intro M h8
      have F8 : Fh (sv7 P t).1 (sv8 (sv7 P t)) := by
        unfold sv8
        split
        · exact fh_carry (fh_rst fh_rf) (fun d hd => by rw [(fh_rst (P := (sv7 P t).1) fh_rf).2.2 d]; exact rc_86 h7 d hd)
        · exact fh_rf
      have ff : ∀ f, hostF f → f ≠ 185 → f ≠ 186 → f ≠ 209 → f ≠ 210 → f ≠ 211 → f ≠ 212 → ∀ i, s_ (sv8 (sv7 P t)) f i = s_ P f i := fun f a1 a2 a3 a4 a5 a6 a7 i => (F8.1 f i a1).trans (hf7 f a1 a2 a3 a4 a5 a6 a7 i)
      have hh : ∀ {f}, (120 ≤ f ∧ f < 140) ∨ (160 ≤ f ∧ f < 220) → hostF f := fun q => q.elim (fun a => Or.inl (Or.inl a)) Or.inr
      exact t119 M x3 r4 h8 (by rw [F8.1 122 0 (hh (by decide))]; exact ht7) (ff 123 (hh (by decide)) (by decide) (by decide) (by decide) (by decide) (by decide) (by decide) 0) (ff 200 (hh (by decide)) (by decide) (by decide) (by decide) (by decide) (by decide) (by decide) t) (ff 213 (hh (by decide)) (by decide) (by decide) (by decide) (by decide) (by decide) (by decide) t) (ff 208 (hh (by decide)) (by decide) (by decide) (by decide) (by decide) (by decide) (by decide) t) (ff 122 (hh (by decide)) (by decide) (by decide) (by decide) (by decide) (by decide) (by decide) 0) (ff 130 (hh (by decide)) (by decide) (by decide) (by decide) (by decide) (by decide) (by decide) 0)
    cases hb : (sv7 P t).2 with
    | false =>
      refine bb_101_104 ⟨fun _ => fin M ?_, fun q => absurd rfl q⟩
      unfold sv8
      rw [hb, if_neg (by decide)]
      exact h7
    | true =>
      refine bb_101_104 ⟨fun q => absurd q (by decide), fun _ => ⟨_, rfl, rc_K h7 l11, ru_mono (c_blank (D := D + 4) (s := 0) (k := 2) h7 (by decide) (by decide)) ?_⟩⟩
      rintro v M1 ⟨rfl, h1⟩
      refine bb_101_113 ⟨_, rfl, rc_K h1 l11, ru_mono (c_carry' (D := D) h1 (k8 hb)) ?_⟩
      rintro v M2 ⟨rfl, h2⟩
      refine bb_101_118 (fin M2 ?_)
      unfold sv8
      rw [hb, if_pos rfl]
      exact h2
  have tA : ∀ (Q : pP) (M : sm_M) (x3 : Int32) (o : Option Nat), RC g Q M → Q = sv6 (sv5 (sv3 P t)).1 t (sv5 (sv3 P t)).2 → o = (sv5 (sv3 P t)).2 → Fh P (sv5 (sv3 P t)).1 → sm_Run (D + 5) 132 0 (sm_ent 132 [.inr (some (g.1 10 t)), .inr (o.map (fun j => g.1 7 j))]) [] M (fun v M1 => sm_Run (D + 6) 101 104 [some (.inr (some (g.1 6 0))), some (.inr (some (g.1 11 0))), some (.inr (some (g.1 10 t))), some (.inl x3), some (.inr (o.map (fun j => g.1 7 j)))] (v.toList ++ []) M1 (fun r M' => r = none ∧ ∃ g', gx g g' ∧ gO n0 u0 g' (p_serve P t) ∧ RC g' (p_serve P t) M')) := by
    intro Q M x3 o hQ eQ eo hF
    subst eQ
    subst eo
    have hTI := TI_fh k1 hF
    have hTI6 : TI (sv6 (sv5 (sv3 P t)).1 t (sv5 (sv3 P t)).2) t := by
      unfold TI at *
      rw [sv6_s (by decide), sv6_b, sv6_s (by decide), sv6_s (by decide), sv6_s (by decide), sv6_s (by decide), sv6_s (by decide)]
      exact hTI
    have ht6 : t < s_ (sv6 (sv5 (sv3 P t)).1 t (sv5 (sv3 P t)).2) 122 0 := by rw [sv6_s (by decide)]; exact tF hF
    refine ru_mono (c_hearA (D := D + 2) hQ ht6 hTI6 (fun j hj => ?_)) ?_
    · obtain ⟨z1, z2⟩ := k7 j hj
      rw [sv6_s (by decide)]
      exact ⟨by omega, z2⟩
    · rintro v M1 ⟨rfl, h7⟩
      exact t104 M1 x3 _ h7 (by unfold sv7; rw [hearA_s (by decide)]; exact ht6) (fun f a1 a2 a3 a4 a5 a6 a7 i => by
        unfold sv7
        rw [hearA_s ⟨a2, a4, a5, a6, a7⟩, sv6_s a3]
        exact hF.1 f i a1)
  -- the answer
  have t52 : ∀ (M : sm_M) (x3 : Int32), RC g (sv3 P t) M → Fh P (sv3 P t) → sm_Run (D + 5) 145 0 (sm_ent 145 [.inr (some (g.1 11 0))]) [] M (fun v M1 => sm_Run (D + 6) 101 52 [some (.inr (some (g.1 6 0))), some (.inr (some (g.1 11 0))), some (.inr (some (g.1 10 t))), some (.inl x3), none] (v.toList ++ []) M1 (fun r M' => r = none ∧ ∃ g', gx g g' ∧ gO n0 u0 g' (p_serve P t) ∧ RC g' (p_serve P t) M')) := by
    intro M x3 h3 hF3
    refine ru_mono (c_hasAns (D := D + 3) h3) ?_
    rintro v M1 ⟨rfl, h4⟩
    have hF4 : Fh P (p_hasAns (sv3 P t)).1 := fh_tr hF3 (fh_hasAns fh_rf)
    cases hb : (p_hasAns (sv3 P t)).2 with
    | false =>
      have e5 : sv5 (sv3 P t) = ((p_hasAns (sv3 P t)).1, none) := by unfold sv5; rw [hb, if_neg (by decide)]
      refine bb_101_52 ⟨fun _ => ⟨_, rfl, rc_K h4 l10, ?_⟩, fun q => absurd rfl q⟩
      exact tA _ M1 x3 none h4 (by rw [e5]; rfl) (by rw [e5]) (by rw [e5]; exact hF4)
    | true =>
      have e5 : sv5 (sv3 P t) = p_carry (p_hasAns (sv3 P t)).1 := by unfold sv5; rw [hb, if_pos rfl]
      refine bb_101_52 ⟨fun q => absurd q (by decide), fun _ => ⟨_, rfl, rc_K h4 l11, ru_mono (c_carry' (D := D) h4 (k6 hb)) ?_⟩⟩
      rintro v M2 ⟨rfl, h5⟩
      have hF5 : Fh P (sv5 (sv3 P t)).1 := by rw [e5]; exact fh_tr hF4 (fh_carry fh_rf (rc_86 h4))
      rw [← e5] at h5
      rw [← e5]
      cases ho : (sv5 (sv3 P t)).2 with
      | none =>
        refine bb_101_59 ⟨fun _ => ⟨_, rfl, rc_K h5 l10, ?_⟩, fun b hb => by cases hb⟩
        exact tA _ M2 x3 none h5 (by rw [ho]; rfl) ho.symm hF5
      | some j =>
        obtain ⟨z1, z2⟩ := k7 j ho
        have hj : j < 66 := by omega
        have l7j := (lq_p h hj).1
        have ht5 := tF hF5
        have e213 : s_ (sv5 (sv3 P t)).1 213 t = s_ P 213 t := hF5.1 213 t (Or.inr (by decide))
        refine bb_101_59 ⟨(fun hb => by cases hb), fun b hb => ?_⟩
        obtain rfl : g.1 7 j = b := Option.some.inj hb
        refine ⟨rc_K h5 l7j, fun q => ⟨_, rfl, rc_K h5 l10, ?_⟩, fun q => ⟨_, rfl, rc_K h5 l10, fun q1 => ?_, fun q1 => ⟨rc_K h5 l6, _, rd_10_1 h5 ht5, ?_, ?_⟩⟩⟩
        · rw [rI_141 h5 hj, li_10, nI_eq (by omega) (by decide)] at q
          exact tA _ M2 x3 (some j) h5 (by rw [ho]; show _ = if _ ∧ _ then _ else _; rw [if_neg (fun c => q c.1)]) ho.symm hF5
        · rw [rI_209 h5 l10, li_0, nI_eq (rc_B h5 _ _) (by decide)] at q1
          exact tA _ M2 x3 (some j) h5 (by rw [ho]; show _ = if _ ∧ _ then _ else _; rw [if_neg (fun c => c.2 q1)]) ho.symm hF5
        · rw [e213]; exact rc_K h5 l9
        · rw [rI_141 h5 hj, li_10, Decidable.not_not, nI_eq (by omega) (by decide)] at q
          rw [rI_209 h5 l10, li_0, nI_eq (rc_B h5 _ _) (by decide)] at q1
          have e126 : s_ (sv5 (sv3 P t)).1 126 0 = s_ P 126 0 := hF5.1 126 0 (Or.inl (by decide))
          have l9' : g.2.1 9 (s_ (sv5 (sv3 P t)).1 213 t) = true := by rw [e213]; exact l9
          rw [rI_126 h5]
          refine tA _ _ x3 (some j) (rc_w' (f := 186) (n := s_ (sv5 (sv3 P t)).1 126 0 + 1) h5 l9' (by omega) rfl (nE_s _).symm) ?_ ho.symm hF5
          rw [ho]
          show _ = if _ ∧ _ then _ else _
          rw [if_pos ⟨q, q1⟩]
  -- the token and the data
  refine bb_101_0 ⟨_, rfl, rc_K h l10, ru_mono hin ?_⟩
  rintro v M1 ⟨rfl, hM⟩
  subst hM
  refine bb_101_4 ⟨_, rfl, rc_K h l10, ru_mono (c_tokenKind (D := D + 4) h ht) ?_⟩
  rintro v M1 ⟨rfl, hM⟩
  subst hM
  have kb : tKind P t < 2 ^ 31 := by unfold tKind; repeat' split
                                     all_goals decide
  refine bb_101_11 ⟨_, rfl, rc_K h l11, ru_mono (c_blank (D := D + 4) (s := 0) h (by decide) kb) ?_⟩
  rintro v M1 ⟨rfl, h1⟩
  have ht1 : t < s_ (p_rst P (nk P) 0 (tKind P t)) 122 0 := tF (fh_rst fh_rf)
  refine bb_101_14 ⟨_, rfl, rc_K h1 l10, ru_mono (c_tokenNumber h1 ht1) ?_⟩
  rintro v M2 ⟨rfl, hM⟩
  subst hM
  have hnum : tNum (p_rst P (nk P) 0 (tKind P t)) t < 2 ^ 31 := by
    have := k4.2.1.2.1
    have e : s_ (sv1 P t) 142 (nk (sv1 P t)) = tNum (p_rst P (nk P) 0 (tKind P t)) t := by
      have en : nk (sv1 P t) = nk P := by
        unfold nk sv1 p_rst
        simp only [s_S, s_B, Nat.reduceEqDiff, false_and, if_false]
      rw [en]; unfold sv1; rw [s_Ss]
    rw [e] at this
    omega
  have h2 : RC g (sv1 P t) (sm_putI M1 (g.1 7 (nk P)) 2 (nI (tNum (p_rst P (nk P) 0 (tKind P t)) t))) := rc_w' h1 l7 hnum
  refine bb_101_18 ⟨_, rfl, rc_K h1 l7, _, rfl, rc_K h1 l11, ru_mono (c_carry' (D := D) h2 k4) ?_⟩
  rintro v M3 ⟨rfl, h3⟩
  have hF2 : Fh P (sv2 P t) := fh_tr fh_sv1 (fh_carry fh_rf (rc_86 h2))
  refine bb_101_25 ⟨fun q => ⟨_, rfl, rc_K h3 l11, ?_⟩, fun q => ⟨_, rfl, rc_K h3 l10, ?_⟩⟩
  · have q' := q
    rw [bI_t, Decidable.not_not] at q'
    have e3 : sv3 P t = sv2 P t := by unfold sv3; rw [if_pos q']
    exact t52 M3 _ (by rw [e3]; exact h3) (by rw [e3]; exact hF2)
  · have q' := q
    rw [Decidable.not_not, bI_t] at q'
    have e3 : sv3 P t = (p_carry (svB (sv2 P t) t)).1 := by unfold sv3; rw [if_neg q']
    have ht2 := tF hF2
    refine ru_mono (c_dataToSend (D := D + 4) h3 ht2) ?_
    rintro v M4 ⟨rfl, hM⟩
    subst hM
    have db : tDat (sv2 P t) t < 2 ^ 31 := by unfold tDat; repeat' split
                                              · decide
                                              · decide
                                              · exact dkn_lt _
    refine bb_101_37 ⟨_, rfl, rc_K h3 l11, ru_mono (c_blank (D := D + 4) (s := 0) h3 (by decide) db) ?_⟩
    rintro v M4 ⟨rfl, h4⟩
    have hFr : Fh P (p_rst (sv2 P t) (nk (sv2 P t)) 0 (tDat (sv2 P t) t)) := fh_tr hF2 (fh_rst fh_rf)
    refine bb_101_40 ⟨_, rfl, rc_K h4 l10, ru_mono (c_fill (D := D + 3) h4 n60 (tF hFr) (TI_fh k1 hFr) ?_ ?_) ?_⟩
    · show b_ (p_rst (sv2 P t) (nk (sv2 P t)) 0 _) 7 (nk (sv2 P t)) = []
      unfold p_rst; rw [b_S, b_Bs]
    · have := hFr.1 205 t (Or.inr (by decide))
      show s_ (p_rst (sv2 P t) (nk (sv2 P t)) 0 (tDat (sv2 P t) t)) 205 t < 65536
      rw [this]; exact k2
    rintro v M5 ⟨rfl, h5⟩
    refine bb_101_43 ⟨_, rfl, rc_K h5 l11, ru_mono (c_carry' (D := D) h5 (k5 q')) ?_⟩
    rintro v M6 ⟨rfl, h6⟩
    have hFB : Fh P (svB (sv2 P t) t) := by
      unfold svB
      exact fh_B hFr (by unfold hostB; omega)
    refine bb_101_47 ⟨_, rfl, rc_K h6 l11, ?_⟩
    have hF3 : Fh P (sv3 P t) := by rw [e3]; exact fh_tr hFB (fh_carry fh_rf (rc_86 h5))
    exact t52 M6 _ (by rw [e3]; exact h6) hF3
/-- Host.beginFrame, endFrame -/
def bf1 (P : pP) : pP := pS (p_rst P (nk P) 0 5) 142 (nk P) (s_ (p_rst P (nk P) 0 5) 125 0)
def p_bfr (P : pP) : pP := pS (p_carry (bf1 P)).1 127 0 0
theorem c_bfr (h : RC g P M) (hc : CK (bf1 P)) : sm_Run (D + 6) 93 0 (sm_ent 93 [.inr (some (g.1 6 0)), .inr (some (g.1 11 0))]) [] M (fun r M' => r = none ∧ RC g (p_bfr P) M') := by
  have l6 := rc_st h (c := 6) (i := 0) (by decide)
  have l11 := rc_st h (c := 11) (i := 0) (by decide)
  have n60 : nk P < 66 := by have := nk_lt (P := P); omega
  have l7 := (lq_p h n60).1
  refine bb_93_0 ⟨_, rfl, rc_K h l11, ru_mono (c_blank (D := D + 4) (s := 0) (k := 5) h (by decide) (by decide)) ?_⟩
  rintro v M1 ⟨rfl, h1⟩
  refine bb_93_6 ⟨rc_K h1 l6, _, rfl, rc_K h1 l7, _, rfl, rc_K h1 l11, ?_⟩
  rw [rI_125 h1]
  have h2 : RC g (bf1 P) (sm_putI M1 (g.1 7 (nk P)) 2 (nI (s_ (p_rst P (nk P) 0 5) 125 0))) := rc_w' h1 l7 (rc_B h1 _ _)
  refine ru_mono (c_carry' (D := D) h2 hc) ?_
  rintro v M3 ⟨rfl, h3⟩
  exact bb_93_17 ⟨rc_K h3 l6, rfl, rc_w' h3 l6 (show 0 < 2 ^ 31 by decide)⟩
def p_efr (P : pP) : pP := pS (pS P 125 0 ((s_ P 125 0 + 1) % 2048)) 126 0 (s_ P 126 0 + 1)
theorem c_efr (h : RC g P M) (h5 : s_ P 125 0 + 1 < 2 ^ 31) (h6 : s_ P 126 0 + 1 < 2 ^ 31) : sm_Run D 94 0 (sm_ent 94 [.inr (some (g.1 6 0))]) [] M (fun r M' => r = none ∧ RC g (p_efr P) M') := by
  have l6 := rc_st h (c := 6) (i := 0) (by decide)
  refine bb_94_0 ⟨rc_K h l6, rfl, ?_⟩
  rw [rI_125 h, nI_1, show (2048 : Int32) = nI 2048 from rfl, pk_rem h5 (by decide) (by decide)]
  have h1 : RC g (pS P 125 0 ((s_ P 125 0 + 1) % 2048)) (sm_putI M (g.1 6 0) 5 (nI ((s_ P 125 0 + 1) % 2048))) := rc_w' h l6 (Nat.lt_of_le_of_lt (Nat.mod_le _ _) h5)
  have x6 := rI_126 h1
  have y6 : s_ (pS P 125 0 ((s_ P 125 0 + 1) % 2048)) 126 0 = s_ P 126 0 := by simp only [s_S, Nat.reduceEqDiff, and_true, if_false]
  rw [y6] at x6
  rw [x6, nI_1]
  exact rc_w' h1 l6 h6
end SV
