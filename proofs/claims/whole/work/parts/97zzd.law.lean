/-! The law: every call, both sides, one memory. -/
section JL_
variable {a b L bus n0 u0 n : Nat} {ra : Nat → Nat} {R : Nat → Nat → Int32} {M M' : sm_M} {g : pG} {P P' : pP} {I0 : Nat → Int32} {x x1 x2 x3 x4 x5 : Int32}
/-- what holds between two calls -/
def LI (b L : Nat) (I0 : Nat → Int32) (bus a n0 u0 n : Nat) (M : sm_M) : Prop := sm_Wf M ∧ (sm_K M b = 1 ∧ sm_L M b = L ∧ sm_I M b = I0) ∧ ∃ g P ra R, g.1 0 0 = bus ∧ RC g P M ∧ gO n0 u0 g P ∧ RM a ra R M ∧ CO P R ∧ s_ P 126 0 ≤ 200 * n
abbrev CC (g : pG) (n0 u0 : Nat) (w : Option Int32) (P' : pP) : Option sm_V → sm_M → Prop := fun v M' => v = w.map Sum.inl ∧ ∃ g', gx g g' ∧ gO n0 u0 g' P' ∧ RC g' P' M'
theorem lw_call {me me' : Nat} {ls ls' : List (Option sm_V)} {w : Option Int32} (hw : sm_Wf M) (hb : sm_K M b = 1 ∧ sm_L M b = L ∧ sm_I M b = I0) (hl : g.2.1 0 0 = true) (hrm : RM a ra R M) (h126 : s_ P 126 0 ≤ 200 * n) (hm : me < 150) (hm1 : 151 ≤ me') (hm2 : me' < 208) (hc : sm_Run 11 me 0 ls [] M (CC g n0 u0 w P')) (hr : ∀ M1, RM a ra R M1 → sm_Run 11 me' 0 ls' [] M1 (CQ a ra P (w, P'))) :
    sm_Run 11 me 0 ls [] M (fun v M1 => v = w.map Sum.inl ∧ sm_K M1 b = 1 ∧ sm_L M1 b = L ∧ sm_I M1 b = I0 ∧ sm_K M1 a = 39 ∧ sm_Run 11 me' 0 ls' [] M1 (fun v' M2 => v' = w.map Sum.inl ∧ LI b L I0 (g.1 0 0) a n0 u0 (n + 1) M2)) := by
  obtain ⟨hb1, hb2, hb3⟩ := hb
  have scr : ∀ {k : Nat} {M1 M2 : sm_M}, sm_K M1 b = 1 → sm_L M1 b = L → sm_I M1 b = I0 → sm_Fr k M1 M2 → sm_K M2 b = 1 ∧ sm_L M2 b = L ∧ sm_I M2 b = I0 := fun {k M1 M2} k1 k2 k3 f => by
    obtain ⟨e1, e2, e3⟩ := f.2.2.1 b (by rw [k1]; decide)
    exact ⟨e1.trans k1, e2.trans k2, (e3 (Or.inl k1)).1.trans k3⟩
  refine ru_mono (ru_fr hc (by omega) hw) ?_
  rintro v M1 ⟨⟨rfl, g', x1, x2, x3⟩, w1, f1⟩
  have m0 : sm_mg me = 0 := by unfold sm_mg; rw [if_pos hm]
  rw [m0] at f1
  obtain ⟨s1, s2, s3⟩ := scr hb1 hb2 hb3 f1
  have rm1 := rm_fr hrm f1
  refine ⟨rfl, s1, s2, s3, rm1.1, ?_⟩
  refine ru_mono (ru_na (ru_fr (hr M1 rm1) hm2 w1) hm1 hm2) ?_
  rintro v M2 ⟨⟨⟨rfl, R', y1, y2, y3⟩, w2, f2⟩, hN, hU⟩
  have m1 : sm_mg me' = 1 := by unfold sm_mg; rw [if_neg (by omega), if_pos hm2]
  rw [m1] at f2
  obtain ⟨t1, t2, t3⟩ := scr s1 s2 s3 f2
  exact ⟨rfl, w2, ⟨t1, t2, t3⟩, g', P', ra, R', (x1 0 0 hl).2, rc_fr0 x3 f2 hN hU, x2, y1, y2, by dsimp only at y3; omega⟩
theorem cc_s {d me : Nat} {ls : List (Option sm_V)} {w : Option Int32} (hg : gO n0 u0 g P) (e : s_ P' 122 0 = s_ P 122 0 ∧ s_ P' 130 0 = s_ P 130 0) (hc : sm_Run d me 0 ls [] M (fun v M' => v = w.map Sum.inl ∧ RC g P' M')) : sm_Run d me 0 ls [] M (CC g n0 u0 w P') := by
  refine ru_mono hc ?_
  rintro v M1 ⟨rfl, h⟩
  exact ⟨rfl, g, gx_rf, gO_cg hg e.1 e.2, h⟩
theorem cc_m {d me : Nat} {ls : List (Option sm_V)} {y : Int32} (h : RC g P M) (hg : gO n0 u0 g P) (hc : sm_Run d me 0 ls [] M (fun v M' => v = some (.inl y) ∧ M = M')) : sm_Run d me 0 ls [] M (CC g n0 u0 (some y) P) := by
  refine ru_mono hc ?_
  rintro v M1 ⟨rfl, rfl⟩
  exact ⟨rfl, g, gx_rf, hg, h⟩
theorem cq_m {d me : Nat} {ls : List (Option sm_V)} {y : Int32} (h : RM a ra R M) (hC : CO P R) (hc : sm_Run d me 0 ls [] M (fun v M' => v = some (.inl y) ∧ M = M')) : sm_Run d me 0 ls [] M (CQ a ra P (some y, P)) := by
  refine ru_mono hc ?_
  rintro v M1 ⟨rfl, rfl⟩
  exact cq_same h hC _ rfl
theorem kb_feed : s_ (p_feed P x1 x2 x3 x4 x5) 122 0 = s_ P 122 0 ∧ s_ (p_feed P x1 x2 x3 x4 x5) 130 0 = s_ P 130 0 := by
  unfold p_feed
  repeat' split
  all_goals exact ⟨rfl, rfl⟩
theorem kb_end : s_ (p_end P x).2 122 0 = s_ P 122 0 ∧ s_ (p_end P x).2 130 0 = s_ P 130 0 := by
  unfold p_end
  repeat' split
  all_goals exact ⟨rfl, rfl⟩
theorem kb_device : s_ (p_device P x1 x2 x3 x4).2 122 0 = s_ P 122 0 ∧ s_ (p_device P x1 x2 x3 x4).2 130 0 = s_ P 130 0 := by
  unfold p_device p_become
  repeat' split
  all_goals first | exact ⟨rfl, rfl⟩ | (dsimp only; rw [s_B, s_n (by decide), s_n (by decide), s_n (by decide), s_n (by decide), s_B, s_n (by decide), s_n (by decide), s_n (by decide), s_n (by decide)]; exact ⟨rfl, rfl⟩)
theorem kb_detach : s_ (p_detach P x1).2 122 0 = s_ P 122 0 ∧ s_ (p_detach P x1).2 130 0 = s_ P 130 0 := by
  unfold p_detach
  repeat' split
  all_goals first | exact ⟨rfl, rfl⟩ | skip
  dsimp only
  unfold p_forget
  rw [fg_s ⟨by decide, by decide⟩, prst_s (by decide), fg_s ⟨by decide, by decide⟩, prst_s (by decide)]
  unfold p_leave
  rw [s_n (by decide), s_n (by decide), s_n (by decide), s_n (by decide)]
  exact ⟨rfl, rfl⟩
theorem kb_put : s_ (p_put P x1 x2 x3).2 122 0 = s_ P 122 0 ∧ s_ (p_put P x1 x2 x3).2 130 0 = s_ P 130 0 := by
  unfold p_put
  repeat' split
  all_goals exact ⟨rfl, rfl⟩
theorem kb_take : s_ (p_take P x1 x2).2 122 0 = s_ P 122 0 ∧ s_ (p_take P x1 x2).2 130 0 = s_ P 130 0 := by
  unfold p_take
  repeat' split
  all_goals exact ⟨rfl, rfl⟩
theorem kb_fault : s_ (p_fault P x1 x2 x3).2 122 0 = s_ P 122 0 ∧ s_ (p_fault P x1 x2 x3).2 130 0 = s_ P 130 0 := by
  unfold p_fault p_plan
  repeat' split
  all_goals first | exact ⟨rfl, rfl⟩ | (dsimp only; rw [s_n (by decide), s_n (by decide)]; exact ⟨rfl, rfl⟩)
theorem kb_packet : s_ (p_packet P x1 x2).2 122 0 = s_ P 122 0 ∧ s_ (p_packet P x1 x2).2 130 0 = s_ P 130 0 := by
  have l : ∀ p, s_ (p_lay P p) 122 0 = s_ P 122 0 ∧ s_ (p_lay P p) 130 0 = s_ P 130 0 := fun p => ⟨lay_s (by decide), lay_s (by decide)⟩
  unfold p_packet p_pkd
  repeat' split
  all_goals first | exact ⟨rfl, rfl⟩ | exact l _
theorem iA_of (h : sm_K M b = 1) : sm_iA M b := by unfold sm_iA; rw [h]; exact Or.inl rfl
theorem in_of {y : Int32} {j : Nat} (e : y = nI j) (hj : j < L) (hL : L ≤ 3073) (hl : sm_L M b = L) : sm_in_ M b y := by
  unfold sm_in_
  rw [e, nI_toInt (by omega), hl]
  omega
theorem sc_6 {y : Nat} (hL : L ≤ 3073) (hy : y < 4000) : (¬ (nI L - 6 < nI y)) = (y + 6 ≤ L) := propext (by
  by_cases c : 6 ≤ L
  · rw [li_6, pk_sub c, nI_ltI (by omega) (by omega)]; omega
  · have key : ∀ n : Nat, n < 6 → nI n - 6 < 0 := by decide
    have a1 := Int32.lt_iff_toInt_lt.mp (key L (by omega))
    refine ⟨fun q => absurd (Int32.lt_iff_toInt_lt.mpr ?_) q, fun q => by omega⟩
    rw [nI_toInt (by omega)]
    have b0 : (0 : Int32).toInt = 0 := rfl
    omega)
/-- room and slots at the end -/
theorem li_end (h : LI b L I0 bus a n0 u0 n M) : sm_N M ≤ n0 + 3000 ∧ sm_U M ≤ u0 + 70000 := by
  obtain ⟨-, -, g, P, ra, R, -, rc, go, -, co, -⟩ := h
  have hI := co.1.2.1
  obtain ⟨iG, iT, iW, iU, iF, iN, ⟨r, r1, r2, r3⟩, iQ, iD, iI⟩ := hI
  have f : ((List.range 36).filter (fun e => g.2.1 5 e)).length ≤ 36 := by
    have := List.length_filter_le (fun e => g.2.1 5 e) (List.range 36)
    rw [List.length_range] at this; exact this
  obtain ⟨-, -, -, g4, g5⟩ := go
  rw [rc_N rc, rc_U rc]
  omega

theorem lw_loop (hL : L ≤ 3073) : ∀ (m n : Nat) (M : sm_M), n + m = 513 → LI b L I0 bus a n0 u0 n M → sm_Run 12 209 28 [some (.inr (some b)), some (.inr (some bus)), some (.inr (some a)), some (.inl (nI (1 + 6 * n)))] [] M (fun v M' => v = some (.inl 1) ∧ sm_N M' ≤ n0 + 3000 ∧ sm_U M' ≤ u0 + 70000) := by
  intro m
  induction m with
  | zero =>
    intro n M hn h
    have hb := h.2.1
    refine bb_209_28 ⟨b, rfl, by rw [hb.1]; decide, fun _ => ⟨rfl, li_end h⟩, fun q => ?_⟩
    rw [hb.2.1, oN, sc_6 hL (by omega)] at q
    omega
  | succ m ih =>
    intro n M hn h
    obtain ⟨hw, hb, g, P, ra, R, rfl, rc, go, rm, co, h126⟩ := id h
    refine bb_209_28 ⟨b, rfl, by rw [hb.1]; decide, fun _ => ⟨rfl, li_end h⟩, fun q => ?_⟩
    rw [hb.2.1, oN, sc_6 hL (by omega)] at q
    have hl : g.2.1 0 0 = true := rc_st rc (c := 0) (i := 0) (by decide)
    have k3 : sm_K M (g.1 0 0) = 3 := rc_K rc hl
    have e1 : nI (1 + 6 * n) + 1 = nI (1 + 6 * n + 1) := by rw [li_1, nI_add]
    have e2 : nI (1 + 6 * n) + 2 = nI (1 + 6 * n + 2) := by rw [li_2, nI_add]
    have e3 : nI (1 + 6 * n) + 3 = nI (1 + 6 * n + 3) := by rw [li_3, nI_add]
    have e4 : nI (1 + 6 * n) + 4 = nI (1 + 6 * n + 4) := by rw [li_4, nI_add]
    have e5 : nI (1 + 6 * n) + 5 = nI (1 + 6 * n + 5) := by rw [li_5, nI_add]
    have e6 : nI (1 + 6 * n) + 6 = nI (1 + 6 * (n + 1)) := by rw [li_6, nI_add]; rfl
    have in0 : ∀ {M1 : sm_M} {k : Nat}, k < 6 → sm_L M1 b = L → sm_in_ M1 b (nI (1 + 6 * n + k)) := fun {M1 k} hk hl => in_of rfl (by omega) hL hl
    have cl : ∀ {k : Nat}, k < 6 → (nI (1 + 6 * n + k)).toNatClampNeg = 1 + 6 * n + k := fun hk => nI_clamp (by omega)
    have c1 := cl (k := 1) (by decide)
    have c2 := cl (k := 2) (by decide)
    have c3 := cl (k := 3) (by decide)
    have c4 := cl (k := 4) (by decide)
    have c5 := cl (k := 5) (by decide)
    obtain ⟨⟨f1, f2, f3, f4, f5⟩, f6, -⟩ := id co
    have hx := exo_ex f3
    have next : ∀ M2, LI b L I0 (g.1 0 0) a n0 u0 (n + 1) M2 → sm_Run 12 209 28 [some (.inr (some b)), some (.inr (some (g.1 0 0))), some (.inr (some a)), some (.inl (nI (1 + 6 * (n + 1))))] [] M2 (fun v M' => v = some (.inl 1) ∧ sm_N M' ≤ n0 + 3000 ∧ sm_U M' ≤ u0 + 70000) := fun M2 l => ih (n + 1) M2 (by omega) l
    rw [e1, e2, e3, e4, e5, e6, c1, c2, c3, c4, c5, hb.2.2]
    refine ⟨iA_of hb.1, in0 (k := 0) (by decide) hb.2.1, fun _ => ?_, fun _ => ?_, fun _ => ?_, fun _ => ?_, fun _ => ?_, fun _ => ?_, fun _ => ?_, fun _ => ?_, fun _ => ?_, fun _ => ?_, fun _ => ?_, fun _ => ?_, fun _ => ?_, fun _ => ?_, fun _ => ?_, fun _ => ?_, fun _ => ?_, fun _ => ?_, fun _ _ _ _ _ _ _ _ _ _ _ _ _ _ _ _ _ _ => next M ⟨hw, hb, g, P, ra, R, rfl, rc, go, rm, co, by omega⟩⟩
    · -- feed
      refine ⟨in0 (by decide) hb.2.1, in0 (by decide) hb.2.1, in0 (by decide) hb.2.1, in0 (by decide) hb.2.1, in0 (by decide) hb.2.1, _, rfl, k3, ru_mono (lw_call hw hb hl rm h126 (by decide) (by decide) (by decide) (cc_s (w := none) go kb_feed (c_feed (D := 10) (a := I0 (1 + 6 * n + 1)) (b := I0 (1 + 6 * n + 2)) (c := I0 (1 + 6 * n + 3)) (d := I0 (1 + 6 * n + 4)) (e := I0 (1 + 6 * n + 5)) rc)) (fun M1 h1 => r_feed (D := 9) (x1 := I0 (1 + 6 * n + 1)) (x2 := I0 (1 + 6 * n + 2)) (x3 := I0 (1 + 6 * n + 3)) (x4 := I0 (1 + 6 * n + 4)) (x5 := I0 (1 + 6 * n + 5)) h1 co)) ?_⟩
      rintro v M1 ⟨rfl, s1, s2, s3, s4, hr⟩
      refine bb_209_157 ⟨b, rfl, iA_of s1, ?_, ?_, ?_, ?_, ?_, a, rfl, s4, ?_⟩
      · rw [e1]; exact in0 (by decide) s2
      · rw [e2]; exact in0 (by decide) s2
      · rw [e3]; exact in0 (by decide) s2
      · rw [e4]; exact in0 (by decide) s2
      · rw [e5]; exact in0 (by decide) s2
      rw [e1, e2, e3, e4, e5, c1, c2, c3, c4, c5, s3]
      refine ru_mono hr ?_
      rintro v M2 ⟨rfl, li⟩
      refine bb_209_186 ?_
      rw [e6]; exact next M2 li
    · -- end
      refine ⟨in0 (by decide) hb.2.1, _, rfl, k3, ru_mono (lw_call hw hb hl rm h126 (by decide) (by decide) (by decide) (cc_s go kb_end (c_end (D := 9) (x := I0 (1 + 6 * n + 1)) rc)) (fun M1 h1 => r_end (D := 10) (x := I0 (1 + 6 * n + 1)) h1 co)) ?_⟩
      rintro v M1 ⟨rfl, s1, s2, s3, s4, hr⟩
      obtain ⟨w, hw'⟩ : ∃ w, (p_end P (I0 (1 + 6 * n + 1))).1 = some w := by
        unfold p_end
        repeat' split
        all_goals exact ⟨_, rfl⟩
      rw [hw'] at hr ⊢
      refine bb_209_198 ⟨b, rfl, iA_of s1, ?_, a, rfl, s4, ?_⟩
      · rw [e1]; exact in0 (by decide) s2
      rw [e1, c1, s3]
      refine ru_mono hr ?_
      rintro v M2 ⟨rfl, li⟩
      refine bb_209_207 ⟨fun _ => ?_, fun c => absurd rfl c⟩
      rw [e6]; exact next M2 li
    · -- device
      refine ⟨in0 (by decide) hb.2.1, in0 (by decide) hb.2.1, in0 (by decide) hb.2.1, in0 (by decide) hb.2.1, _, rfl, k3, ru_mono (lw_call hw hb hl rm h126 (by decide) (by decide) (by decide) (cc_s go kb_device (c_device (D := 10) (x1 := I0 (1 + 6 * n + 1)) (x2 := I0 (1 + 6 * n + 2)) (x3 := I0 (1 + 6 * n + 3)) (x4 := I0 (1 + 6 * n + 4)) rc)) (fun M1 h1 => r_device (D := 10) (x1 := I0 (1 + 6 * n + 1)) (x2 := I0 (1 + 6 * n + 2)) (x3 := I0 (1 + 6 * n + 3)) (x4 := I0 (1 + 6 * n + 4)) h1 co)) ?_⟩
      rintro v M1 ⟨rfl, s1, s2, s3, s4, hr⟩
      obtain ⟨w, hw'⟩ : ∃ w, (p_device P (I0 (1 + 6 * n + 1)) (I0 (1 + 6 * n + 2)) (I0 (1 + 6 * n + 3)) (I0 (1 + 6 * n + 4))).1 = some w := by
        unfold p_device
        repeat' split
        all_goals exact ⟨_, rfl⟩
      rw [hw'] at hr ⊢
      refine bb_209_236 ⟨b, rfl, iA_of s1, ?_, ?_, ?_, ?_, a, rfl, s4, ?_⟩
      · rw [e1]; exact in0 (by decide) s2
      · rw [e2]; exact in0 (by decide) s2
      · rw [e3]; exact in0 (by decide) s2
      · rw [e4]; exact in0 (by decide) s2
      rw [e1, e2, e3, e4, c1, c2, c3, c4, s3]
      refine ru_mono hr ?_
      rintro v M2 ⟨rfl, li⟩
      refine bb_209_260 ⟨fun _ => ?_, fun c => absurd rfl c⟩
      rw [e6]; exact next M2 li
    · -- endpoint
      refine ⟨in0 (by decide) hb.2.1, in0 (by decide) hb.2.1, in0 (by decide) hb.2.1, in0 (by decide) hb.2.1, _, rfl, k3, ru_mono (lw_call hw hb hl rm h126 (by decide) (by decide) (by decide) (c_endpoint (D := 7) (x1 := I0 (1 + 6 * n + 1)) (x2 := I0 (1 + 6 * n + 2)) (x3 := I0 (1 + 6 * n + 3)) (x4 := I0 (1 + 6 * n + 4)) rc go) (fun M1 h1 => r_endpoint (D := 9) (x1 := I0 (1 + 6 * n + 1)) (x2 := I0 (1 + 6 * n + 2)) (x3 := I0 (1 + 6 * n + 3)) (x4 := I0 (1 + 6 * n + 4)) h1 co)) ?_⟩
      rintro v M1 ⟨rfl, s1, s2, s3, s4, hr⟩
      obtain ⟨w, hw'⟩ : ∃ w, (p_endpoint P (I0 (1 + 6 * n + 1)) (I0 (1 + 6 * n + 2)) (I0 (1 + 6 * n + 3)) (I0 (1 + 6 * n + 4))).1 = some w := by
        unfold p_endpoint p_addE
        repeat' split
        all_goals exact ⟨_, rfl⟩
      rw [hw'] at hr ⊢
      refine bb_209_289 ⟨b, rfl, iA_of s1, ?_, ?_, ?_, ?_, a, rfl, s4, ?_⟩
      · rw [e1]; exact in0 (by decide) s2
      · rw [e2]; exact in0 (by decide) s2
      · rw [e3]; exact in0 (by decide) s2
      · rw [e4]; exact in0 (by decide) s2
      rw [e1, e2, e3, e4, c1, c2, c3, c4, s3]
      refine ru_mono hr ?_
      rintro v M2 ⟨rfl, li⟩
      refine bb_209_313 ⟨fun _ => ?_, fun c => absurd rfl c⟩
      rw [e6]; exact next M2 li
    · -- attach
      refine ⟨in0 (by decide) hb.2.1, _, rfl, k3, ru_mono (lw_call hw hb hl rm h126 (by decide) (by decide) (by decide) (c_attach (D := 6) (x1 := I0 (1 + 6 * n + 1)) rc go (hw_of f2 hx)) (fun M1 h1 => r_attach (D := 8) (x1 := I0 (1 + 6 * n + 1)) h1 co)) ?_⟩
      rintro v M1 ⟨rfl, s1, s2, s3, s4, hr⟩
      obtain ⟨w, hw'⟩ : ∃ w, (p_attach P (I0 (1 + 6 * n + 1))).1 = some w := by
        unfold p_attach
        repeat' split
        all_goals exact ⟨_, rfl⟩
      rw [hw'] at hr ⊢
      refine bb_209_327 ⟨b, rfl, iA_of s1, ?_, a, rfl, s4, ?_⟩
      · rw [e1]; exact in0 (by decide) s2
      rw [e1, c1, s3]
      refine ru_mono hr ?_
      rintro v M2 ⟨rfl, li⟩
      refine bb_209_336 ⟨fun _ => ?_, fun c => absurd rfl c⟩
      rw [e6]; exact next M2 li
    · -- detach
      refine ⟨in0 (by decide) hb.2.1, _, rfl, k3, ru_mono (lw_call hw hb hl rm h126 (by decide) (by decide) (by decide) (cc_s go kb_detach (c_detach (D := 9) (x1 := I0 (1 + 6 * n + 1)) rc (hW_of f2))) (fun M1 h1 => r_detach (D := 10) (x1 := I0 (1 + 6 * n + 1)) h1 co)) ?_⟩
      rintro v M1 ⟨rfl, s1, s2, s3, s4, hr⟩
      obtain ⟨w, hw'⟩ : ∃ w, (p_detach P (I0 (1 + 6 * n + 1))).1 = some w := by
        unfold p_detach
        repeat' split
        all_goals exact ⟨_, rfl⟩
      rw [hw'] at hr ⊢
      refine bb_209_350 ⟨b, rfl, iA_of s1, ?_, a, rfl, s4, ?_⟩
      · rw [e1]; exact in0 (by decide) s2
      rw [e1, c1, s3]
      refine ru_mono hr ?_
      rintro v M2 ⟨rfl, li⟩
      refine bb_209_359 ⟨fun _ => ?_, fun c => absurd rfl c⟩
      rw [e6]; exact next M2 li
    · -- send
      refine ⟨in0 (by decide) hb.2.1, in0 (by decide) hb.2.1, in0 (by decide) hb.2.1, _, rfl, k3, ru_mono (lw_call hw hb hl rm h126 (by decide) (by decide) (by decide) (c_send (D := 7) (x1 := I0 (1 + 6 * n + 1)) (x2 := I0 (1 + 6 * n + 2)) (x3 := I0 (1 + 6 * n + 3)) rc go (hw_of f2 hx)) (fun M1 h1 => r_send (D := 9) (x1 := I0 (1 + 6 * n + 1)) (x2 := I0 (1 + 6 * n + 2)) (x3 := I0 (1 + 6 * n + 3)) h1 co)) ?_⟩
      rintro v M1 ⟨rfl, s1, s2, s3, s4, hr⟩
      obtain ⟨w, hw'⟩ : ∃ w, (p_send P (I0 (1 + 6 * n + 1)) (I0 (1 + 6 * n + 2)) (I0 (1 + 6 * n + 3))).1 = some w := by
        unfold p_send lastT
        repeat' split
        all_goals exact ⟨_, rfl⟩
      rw [hw'] at hr ⊢
      refine bb_209_383 ⟨b, rfl, iA_of s1, ?_, ?_, ?_, a, rfl, s4, ?_⟩
      · rw [e1]; exact in0 (by decide) s2
      · rw [e2]; exact in0 (by decide) s2
      · rw [e3]; exact in0 (by decide) s2
      rw [e1, e2, e3, c1, c2, c3, s3]
      refine ru_mono hr ?_
      rintro v M2 ⟨rfl, li⟩
      refine bb_209_402 ⟨fun _ => ?_, fun c => absurd rfl c⟩
      rw [e6]; exact next M2 li
    · -- recv
      refine ⟨in0 (by decide) hb.2.1, in0 (by decide) hb.2.1, in0 (by decide) hb.2.1, _, rfl, k3, ru_mono (lw_call hw hb hl rm h126 (by decide) (by decide) (by decide) (c_recv (D := 8) (x1 := I0 (1 + 6 * n + 1)) (x2 := I0 (1 + 6 * n + 2)) (x3 := I0 (1 + 6 * n + 3)) rc go (hw_of f2 hx)) (fun M1 h1 => r_recv (D := 9) (x1 := I0 (1 + 6 * n + 1)) (x2 := I0 (1 + 6 * n + 2)) (x3 := I0 (1 + 6 * n + 3)) h1 co)) ?_⟩
      rintro v M1 ⟨rfl, s1, s2, s3, s4, hr⟩
      obtain ⟨w, hw'⟩ : ∃ w, (p_recv P (I0 (1 + 6 * n + 1)) (I0 (1 + 6 * n + 2)) (I0 (1 + 6 * n + 3))).1 = some w := by
        unfold p_recv lastT
        repeat' split
        all_goals exact ⟨_, rfl⟩
      rw [hw'] at hr ⊢
      refine bb_209_426 ⟨b, rfl, iA_of s1, ?_, ?_, ?_, a, rfl, s4, ?_⟩
      · rw [e1]; exact in0 (by decide) s2
      · rw [e2]; exact in0 (by decide) s2
      · rw [e3]; exact in0 (by decide) s2
      rw [e1, e2, e3, c1, c2, c3, s3]
      refine ru_mono hr ?_
      rintro v M2 ⟨rfl, li⟩
      refine bb_209_445 ⟨fun _ => ?_, fun c => absurd rfl c⟩
      rw [e6]; exact next M2 li
    · -- control
      refine ⟨in0 (by decide) hb.2.1, in0 (by decide) hb.2.1, in0 (by decide) hb.2.1, in0 (by decide) hb.2.1, in0 (by decide) hb.2.1, _, rfl, k3, ru_mono (lw_call hw hb hl rm h126 (by decide) (by decide) (by decide) (c_control (D := 7) (x1 := I0 (1 + 6 * n + 1)) (x2 := I0 (1 + 6 * n + 2)) (x3 := I0 (1 + 6 * n + 3)) (x4 := I0 (1 + 6 * n + 4)) (x5 := I0 (1 + 6 * n + 5)) rc go (hw_of f2 hx)) (fun M1 h1 => r_control (D := 9) (x1 := I0 (1 + 6 * n + 1)) (x2 := I0 (1 + 6 * n + 2)) (x3 := I0 (1 + 6 * n + 3)) (x4 := I0 (1 + 6 * n + 4)) (x5 := I0 (1 + 6 * n + 5)) h1 co)) ?_⟩
      rintro v M1 ⟨rfl, s1, s2, s3, s4, hr⟩
      obtain ⟨w, hw'⟩ : ∃ w, (p_control P (I0 (1 + 6 * n + 1)) (I0 (1 + 6 * n + 2)) (I0 (1 + 6 * n + 3)) (I0 (1 + 6 * n + 4)) (I0 (1 + 6 * n + 5))).1 = some w := by
        unfold p_control lastT
        repeat' split
        all_goals exact ⟨_, rfl⟩
      rw [hw'] at hr ⊢
      refine bb_209_479 ⟨b, rfl, iA_of s1, ?_, ?_, ?_, ?_, ?_, a, rfl, s4, ?_⟩
      · rw [e1]; exact in0 (by decide) s2
      · rw [e2]; exact in0 (by decide) s2
      · rw [e3]; exact in0 (by decide) s2
      · rw [e4]; exact in0 (by decide) s2
      · rw [e5]; exact in0 (by decide) s2
      rw [e1, e2, e3, e4, e5, c1, c2, c3, c4, c5, s3]
      refine ru_mono hr ?_
      rintro v M2 ⟨rfl, li⟩
      refine bb_209_508 ⟨fun _ => ?_, fun c => absurd rfl c⟩
      rw [e6]; exact next M2 li
    · -- frames
      refine ⟨in0 (by decide) hb.2.1, _, rfl, k3, ru_mono (lw_call hw hb hl rm h126 (by decide) (by decide) (by decide) (c_frames (D := 4) (x := I0 (1 + 6 * n + 1)) rc go (fun i hi _ => frs_fm f2 f1.1 f3 f6 (by omega) f5 hi) (fun i hi => (frs_ok f2 f1.1 f3 f6 (by omega) f5 i (by omega)).2.2.2.2.2.2.1) (fun i hi => (frs_ok f2 f1.1 f3 f6 (by omega) f5 i hi).2.2.2.2.2.1)) (fun M1 h1 => r_frames (D := 2) (x := I0 (1 + 6 * n + 1)) h1 co (by omega))) ?_⟩
      rintro v M1 ⟨rfl, s1, s2, s3, s4, hr⟩
      obtain ⟨w, hw'⟩ : ∃ w, (p_frames P (I0 (1 + 6 * n + 1))).1 = some w := by
        unfold p_frames
        repeat' split
        all_goals exact ⟨_, rfl⟩
      rw [hw'] at hr ⊢
      refine bb_209_522 ⟨b, rfl, iA_of s1, ?_, a, rfl, s4, ?_⟩
      · rw [e1]; exact in0 (by decide) s2
      rw [e1, c1, s3]
      refine ru_mono hr ?_
      rintro v M2 ⟨rfl, li⟩
      refine bb_209_531 ⟨fun _ => ?_, fun c => absurd rfl c⟩
      rw [e6]; exact next M2 li
    · -- put
      refine ⟨in0 (by decide) hb.2.1, in0 (by decide) hb.2.1, in0 (by decide) hb.2.1, _, rfl, k3, ru_mono (lw_call hw hb hl rm h126 (by decide) (by decide) (by decide) (cc_s go kb_put (c_put (D := 8) (x1 := I0 (1 + 6 * n + 1)) (x2 := I0 (1 + 6 * n + 2)) (x3 := I0 (1 + 6 * n + 3)) rc)) (fun M1 h1 => r_put (D := 9) (x1 := I0 (1 + 6 * n + 1)) (x2 := I0 (1 + 6 * n + 2)) (x3 := I0 (1 + 6 * n + 3)) h1 co)) ?_⟩
      rintro v M1 ⟨rfl, s1, s2, s3, s4, hr⟩
      obtain ⟨w, hw'⟩ : ∃ w, (p_put P (I0 (1 + 6 * n + 1)) (I0 (1 + 6 * n + 2)) (I0 (1 + 6 * n + 3))).1 = some w := by
        unfold p_put
        repeat' split
        all_goals exact ⟨_, rfl⟩
      rw [hw'] at hr ⊢
      refine bb_209_555 ⟨b, rfl, iA_of s1, ?_, ?_, ?_, a, rfl, s4, ?_⟩
      · rw [e1]; exact in0 (by decide) s2
      · rw [e2]; exact in0 (by decide) s2
      · rw [e3]; exact in0 (by decide) s2
      rw [e1, e2, e3, c1, c2, c3, s3]
      refine ru_mono hr ?_
      rintro v M2 ⟨rfl, li⟩
      refine bb_209_574 ⟨fun _ => ?_, fun c => absurd rfl c⟩
      rw [e6]; exact next M2 li
    · -- take
      refine ⟨in0 (by decide) hb.2.1, in0 (by decide) hb.2.1, _, rfl, k3, ru_mono (lw_call hw hb hl rm h126 (by decide) (by decide) (by decide) (cc_s go kb_take (c_take (D := 8) (x1 := I0 (1 + 6 * n + 1)) (x2 := I0 (1 + 6 * n + 2)) rc)) (fun M1 h1 => r_take (D := 9) (x1 := I0 (1 + 6 * n + 1)) (x2 := I0 (1 + 6 * n + 2)) h1 co)) ?_⟩
      rintro v M1 ⟨rfl, s1, s2, s3, s4, hr⟩
      obtain ⟨w, hw'⟩ : ∃ w, (p_take P (I0 (1 + 6 * n + 1)) (I0 (1 + 6 * n + 2))).1 = some w := by
        unfold p_take
        repeat' split
        all_goals exact ⟨_, rfl⟩
      rw [hw'] at hr ⊢
      refine bb_209_593 ⟨b, rfl, iA_of s1, ?_, ?_, a, rfl, s4, ?_⟩
      · rw [e1]; exact in0 (by decide) s2
      · rw [e2]; exact in0 (by decide) s2
      rw [e1, e2, c1, c2, s3]
      refine ru_mono hr ?_
      rintro v M2 ⟨rfl, li⟩
      refine bb_209_607 ⟨fun _ => ?_, fun c => absurd rfl c⟩
      rw [e6]; exact next M2 li
    · -- fault
      refine ⟨in0 (by decide) hb.2.1, in0 (by decide) hb.2.1, in0 (by decide) hb.2.1, _, rfl, k3, ru_mono (lw_call hw hb hl rm h126 (by decide) (by decide) (by decide) (cc_s go kb_fault (c_fault (D := 9) (x1 := I0 (1 + 6 * n + 1)) (x2 := I0 (1 + 6 * n + 2)) (x3 := I0 (1 + 6 * n + 3)) rc)) (fun M1 h1 => r_fault (D := 10) (x1 := I0 (1 + 6 * n + 1)) (x2 := I0 (1 + 6 * n + 2)) (x3 := I0 (1 + 6 * n + 3)) h1 co (by omega))) ?_⟩
      rintro v M1 ⟨rfl, s1, s2, s3, s4, hr⟩
      obtain ⟨w, hw'⟩ : ∃ w, (p_fault P (I0 (1 + 6 * n + 1)) (I0 (1 + 6 * n + 2)) (I0 (1 + 6 * n + 3))).1 = some w := by
        unfold p_fault
        repeat' split
        all_goals exact ⟨_, rfl⟩
      rw [hw'] at hr ⊢
      refine bb_209_631 ⟨b, rfl, iA_of s1, ?_, ?_, ?_, a, rfl, s4, ?_⟩
      · rw [e1]; exact in0 (by decide) s2
      · rw [e2]; exact in0 (by decide) s2
      · rw [e3]; exact in0 (by decide) s2
      rw [e1, e2, e3, c1, c2, c3, s3]
      refine ru_mono hr ?_
      rintro v M2 ⟨rfl, li⟩
      refine bb_209_650 ⟨fun _ => ?_, fun c => absurd rfl c⟩
      rw [e6]; exact next M2 li
    · -- look
      refine ⟨in0 (by decide) hb.2.1, _, rfl, k3, ru_mono (lw_call hw hb hl rm h126 (by decide) (by decide) (by decide) (cc_m rc go (c_look (D := 11) (x := I0 (1 + 6 * n + 1)) rc)) (fun M1 h1 => cq_m h1 co (r_look (D := 10) (x := I0 (1 + 6 * n + 1)) h1 co))) ?_⟩
      rintro v M1 ⟨rfl, s1, s2, s3, s4, hr⟩
      refine bb_209_664 ⟨b, rfl, iA_of s1, ?_, a, rfl, s4, ?_⟩
      · rw [e1]; exact in0 (by decide) s2
      rw [e1, c1, s3]
      refine ru_mono hr ?_
      rintro v M2 ⟨rfl, li⟩
      refine bb_209_673 ⟨fun _ => ?_, fun c => absurd rfl c⟩
      rw [e6]; exact next M2 li
    · -- transfer
      refine ⟨in0 (by decide) hb.2.1, in0 (by decide) hb.2.1, _, rfl, k3, ru_mono (lw_call hw hb hl rm h126 (by decide) (by decide) (by decide) (cc_m rc go (c_transfer (D := 10) (x1 := I0 (1 + 6 * n + 1)) (x2 := I0 (1 + 6 * n + 2)) rc (fun t ht => (f2.2.1 t ht).2.1))) (fun M1 h1 => cq_m h1 co (r_transfer (D := 10) (x1 := I0 (1 + 6 * n + 1)) (x2 := I0 (1 + 6 * n + 2)) h1 co))) ?_⟩
      rintro v M1 ⟨rfl, s1, s2, s3, s4, hr⟩
      refine bb_209_692 ⟨b, rfl, iA_of s1, ?_, ?_, a, rfl, s4, ?_⟩
      · rw [e1]; exact in0 (by decide) s2
      · rw [e2]; exact in0 (by decide) s2
      rw [e1, e2, c1, c2, s3]
      refine ru_mono hr ?_
      rintro v M2 ⟨rfl, li⟩
      refine bb_209_706 ⟨fun _ => ?_, fun c => absurd rfl c⟩
      rw [e6]; exact next M2 li
    · -- state
      refine ⟨in0 (by decide) hb.2.1, in0 (by decide) hb.2.1, _, rfl, k3, ru_mono (lw_call hw hb hl rm h126 (by decide) (by decide) (by decide) (cc_m rc go (c_state (D := 10) (x1 := I0 (1 + 6 * n + 1)) (x2 := I0 (1 + 6 * n + 2)) rc)) (fun M1 h1 => cq_m h1 co (r_state (D := 10) (x1 := I0 (1 + 6 * n + 1)) (x2 := I0 (1 + 6 * n + 2)) h1 co))) ?_⟩
      rintro v M1 ⟨rfl, s1, s2, s3, s4, hr⟩
      refine bb_209_725 ⟨b, rfl, iA_of s1, ?_, ?_, a, rfl, s4, ?_⟩
      · rw [e1]; exact in0 (by decide) s2
      · rw [e2]; exact in0 (by decide) s2
      rw [e1, e2, c1, c2, s3]
      refine ru_mono hr ?_
      rintro v M2 ⟨rfl, li⟩
      refine bb_209_739 ⟨fun _ => ?_, fun c => absurd rfl c⟩
      rw [e6]; exact next M2 li
    · -- point
      refine ⟨in0 (by decide) hb.2.1, in0 (by decide) hb.2.1, in0 (by decide) hb.2.1, _, rfl, k3, ru_mono (lw_call hw hb hl rm h126 (by decide) (by decide) (by decide) (cc_m rc go (c_point (D := 10) (x1 := I0 (1 + 6 * n + 1)) (x2 := I0 (1 + 6 * n + 2)) (x3 := I0 (1 + 6 * n + 3)) rc)) (fun M1 h1 => cq_m h1 co (r_point (D := 9) (x1 := I0 (1 + 6 * n + 1)) (x2 := I0 (1 + 6 * n + 2)) (x3 := I0 (1 + 6 * n + 3)) h1 co))) ?_⟩
      rintro v M1 ⟨rfl, s1, s2, s3, s4, hr⟩
      refine bb_209_763 ⟨b, rfl, iA_of s1, ?_, ?_, ?_, a, rfl, s4, ?_⟩
      · rw [e1]; exact in0 (by decide) s2
      · rw [e2]; exact in0 (by decide) s2
      · rw [e3]; exact in0 (by decide) s2
      rw [e1, e2, e3, c1, c2, c3, s3]
      refine ru_mono hr ?_
      rintro v M2 ⟨rfl, li⟩
      refine bb_209_782 ⟨fun _ => ?_, fun c => absurd rfl c⟩
      rw [e6]; exact next M2 li
    · -- packet
      refine ⟨in0 (by decide) hb.2.1, in0 (by decide) hb.2.1, _, rfl, k3, ru_mono (lw_call hw hb hl rm h126 (by decide) (by decide) (by decide) (cc_s (w := some (p_packet P (I0 (1 + 6 * n + 1)) (I0 (1 + 6 * n + 2))).1) go kb_packet (c_packet (D := 5) (x1 := I0 (1 + 6 * n + 1)) (x2 := I0 (1 + 6 * n + 2)) rc (by omega) (fun p q1 q2 => (f1.1.2.1 (p % 60) (by omega) (by omega)).1))) (fun M1 h1 => r_packet (D := 9) (x1 := I0 (1 + 6 * n + 1)) (x2 := I0 (1 + 6 * n + 2)) h1 co (by omega))) ?_⟩
      rintro v M1 ⟨rfl, s1, s2, s3, s4, hr⟩
      refine bb_209_801 ⟨b, rfl, iA_of s1, ?_, ?_, a, rfl, s4, ?_⟩
      · rw [e1]; exact in0 (by decide) s2
      · rw [e2]; exact in0 (by decide) s2
      rw [e1, e2, c1, c2, s3]
      refine ru_mono hr ?_
      rintro v M2 ⟨rfl, li⟩
      refine bb_209_815 ⟨fun _ => ?_, fun c => absurd rfl c⟩
      rw [e6]; exact next M2 li
end JL_
