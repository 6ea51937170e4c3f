/-! Calls, both sides: send, receive. -/
section IY_
variable {a : Nat} {ra : Nat → Nat} {R R' : Nat → Nat → Int32} {M : sm_M} {D : Nat} {P P' Pc P1 X Z : pP} {d k t i n m e : Nat} {x x1 x2 x3 x4 x5 : Int32}
/-- only the host's part changes -/
theorem co_ho (hC : CO P R) (hE : EXO X) (hB : RB X) (hI : INV X) (hD : DR X) (ho : FHo P X) (hs : ∀ f j, f = 126 ∨ f = 128 ∨ f = 186 → s_ X f j = s_ P f j) (hr : ∀ f i, (4 ≤ f ∧ f ≤ 55 ∧ ¬ (50 ≤ f ∧ f ≤ 54)) ∨ f = 69 → R' f i = R f i) (hH : HREL X R') : CO X R' := by
  obtain ⟨⟨f1, f2, f3, f4, f5⟩, f6, f7, f8, f9, f10, f11⟩ := hC
  obtain ⟨hX, -⟩ := xr_xw.mp f1
  refine ⟨⟨xr_xw.mpr ⟨xw_ho hX (exo_ex hE) ho (fun f i hf => hr f i (Or.inl hf)), hH⟩, hI, hE, relS_cg f4 (hs 128 0 (by decide)) (hr 69 0 (by decide)), fun i => by rw [hs 186 i (by decide), hs 126 0 (by decide)]; exact f5 i⟩, ?_, hD, lc_lk f8 (lk_ho ho), lv_lk f9 (lk_ho ho), i5_j5 f10 (j5_ho ho), hB⟩
  rw [ho.1 228 0 (by decide), hs 126 0 (by decide)]; exact f6
section MK
variable {p o l th w v ix st : Nat}
theorem mk_o {f j : Nat} (n1 : f ≠ 122) (n2 : f ≠ 123) (n3 : ¬ (200 ≤ f ∧ f ≤ 213 ∧ j = s_ P 122 0)) : s_ (p_mk P p o l th n w v ix st) f j = s_ P f j := by
  unfold p_mk p_mkF
  rw [s_n n2, s_n n1, s_B, s_S, if_neg (by omega), s_S, if_neg (by omega), s_S, if_neg (by omega), s_S, if_neg (by omega), s_S, if_neg (by omega), s_S, if_neg (by omega), s_S, if_neg (by omega), s_S, if_neg (by omega), s_S, if_neg (by omega), s_S, if_neg (by omega), s_S, if_neg (by omega), s_S, if_neg (by omega)]
theorem mk_v : s_ (p_mk P p o l th n w v ix st) 200 (s_ P 122 0) = o ∧ s_ (p_mk P p o l th n w v ix st) 202 (s_ P 122 0) = l ∧ s_ (p_mk P p o l th n w v ix st) 203 (s_ P 122 0) = th ∧ s_ (p_mk P p o l th n w v ix st) 205 (s_ P 122 0) = w ∧ s_ (p_mk P p o l th n w v ix st) 206 (s_ P 122 0) = v ∧ s_ (p_mk P p o l th n w v ix st) 207 (s_ P 122 0) = ix ∧ s_ (p_mk P p o l th n w v ix st) 208 (s_ P 122 0) = 0 ∧ s_ (p_mk P p o l th n w v ix st) 209 (s_ P 122 0) = st ∧ s_ (p_mk P p o l th n w v ix st) 210 (s_ P 122 0) = 0 ∧ s_ (p_mk P p o l th n w v ix st) 211 (s_ P 122 0) = 0 ∧ s_ (p_mk P p o l th n w v ix st) 212 (s_ P 122 0) = 0 ∧ s_ (p_mk P p o l th n w v ix st) 213 (s_ P 122 0) = p ∧ s_ (p_mk P p o l th n w v ix st) 122 0 = s_ P 122 0 + 1 ∧ s_ (p_mk P p o l th n w v ix st) 123 0 = s_ P 123 0 + 1 := by
  unfold p_mk p_mkF; simp only [s_S, s_B, s_F, b_S, b_B, b_F, f_S, f_B, Nat.reduceEqDiff, false_and, and_false, true_and, and_true, and_self, if_true, if_false, reduceIte, ite_self]
theorem fho_mk : FHo P (p_mk P p o l th n w v ix st) := by
  unfold p_mk p_mkF
  exact fho_S (fho_S (fho_B (fho_S (fho_S (fho_S (fho_S (fho_S (fho_S (fho_S (fho_S (fho_S (fho_S (fho_S (fho_S fho_rf (by decide)) (by decide)) (by decide)) (by decide)) (by decide)) (by decide)) (by decide)) (by decide)) (by decide)) (by decide)) (by decide)) (by decide)) (Or.inl rfl)) (by decide)) (by decide)
end MK
/-- room for one more transfer -/
theorem ir_new (hI : INV P) (hT : s_ P 122 0 < 300) : ∃ r : Nat → Nat, (∀ d, r d ≤ 5) ∧ (∀ t, wtc P t → s_ P 208 t ≠ 0 → 6 ≤ s_ P 208 t + r (s_ P 200 t)) ∧ s_ P 122 0 + 1 + (r 0 + r 1 + r 2 + r 3 + r 4 + r 5) ≤ 330 := by
  obtain ⟨r, r1, r2, r3⟩ := hI.2.2.2.2.2.2.1
  refine ⟨r, r1, r2, ?_⟩
  have := r1 0; have := r1 1; have := r1 2; have := r1 3; have := r1 4; have := r1 5
  omega
/-- a transfer on a pipe -/
theorem inv_pipe {th : Nat} {dl : List Nat} (hI : INV P) (hx : EX P) (hd : d < 6) (hk : k < s_ P 164 d) (hT : s_ P 122 0 < 300) (hth : th = if s_ P 180 (pid P d k) < 128 then 0 else 1) (hdl : B8 dl) : INV (pB (p_mk P (pid P d k) d (s_ P 182 (pid P d k)) th n 0 0 0 1) 36 (s_ P 122 0) dl) := by
  obtain ⟨v1, v2, v3, v4, v5, v6, v7, v8, v9, v10, v11, v12, v13, v14⟩ := mk_v (P := P) (p := pid P d k) (o := d) (l := s_ P 182 (pid P d k)) (th := th) (n := n) (w := 0) (v := 0) (ix := 0) (st := 1)
  have dd := hI.2.2.2.2.2.2.2.2.1 d hd
  obtain ⟨p1, p2, p3, p4, p5, p6⟩ := dd.2.2.2.2.2.2.1 k hk
  have eps := dd.2.2.2.2.2.2.2.2.1 k (by have := dd.2.2.2.2.2.1; omega)
  have n83 : s_ P 83 d ≠ 0 := fun c => by have := (dd.1 c).2.1; omega
  have o : ∀ f j, f ≠ 122 → f ≠ 123 → ¬ (200 ≤ f ∧ f ≤ 213 ∧ j = s_ P 122 0) → s_ (pB (p_mk P (pid P d k) d (s_ P 182 (pid P d k)) th n 0 0 0 1) 36 (s_ P 122 0) dl) f j = s_ P f j := fun f j n1 n2 n3 => by rw [s_B]; exact mk_o n1 n2 n3
  obtain ⟨r, r1, r2, r3⟩ := ir_new hI hT
  refine inv_new hI o (fun c j hc => by rw [b_B, if_neg hc, b_mk, if_neg hc]) v13 v14 v10 ?_ (by rw [s_B, v11]; decide) (fun c => absurd c (by rw [s_B, v12]; exact p1)) (fun _ => ?_) (fun c => absurd c (by rw [s_B, v12]; exact p1)) (by rw [s_B, v1]; exact n83) ⟨r, r1, r2, fun c => absurd c (by rw [s_B, v12]; exact p1), r3⟩ (fun d => ?_)
  · unfold TT
    simp only [s_B, v1, v2, v4, v5, v6, v7, v8, v9, v10, v11, v12, b_Bs]
    refine ⟨hd, Nat.zero_le _, by decide, by decide, by rw [p5]; exact eps.2.2.1, hdl, by decide, by decide, by decide, ?_, by decide, by decide⟩
    rw [mk_o (by decide) (by decide) (by omega)]; exact p2
  · unfold WP
    simp only [s_B, v1, v2, v3, v7, v8, v12]
    refine ⟨trivial, trivial, k, ?_, ?_, ?_, ?_⟩
    · rw [mk_o (by decide) (by decide) (by omega)]; exact hk
    · unfold pid; rw [mk_o (by decide) (by decide) (by omega)]
    · rw [mk_o (by decide) (by decide) (by omega)]; exact hth
    · rw [mk_o (by decide) (by decide) (by omega)]
  · by_cases c : d < 6
    · exact Or.inl (ex_165 hx c)
    · exact Or.inr (hI.1.2.2.2.2.2.2.2.2.2 d (by omega))
theorem nt_r {T d ad n f j : Nat} (hf : ¬ (f = 70 ∧ j = 0)) (hf2 : ¬ (71 ≤ f ∧ f ≤ 79 ∧ j = T)) : ntR R T d ad n f j = R f j := by
  unfold ntR
  rw [u2_r, if_neg (by omega), u2_r, if_neg (by omega), u2_r, if_neg (by omega), u2_r, if_neg (by omega), u2_r, if_neg (by omega), u2_r, if_neg (by omega), u2_r, if_neg (by omega), u2_r, if_neg (by omega), u2_r, if_neg (by omega), u2_r, if_neg (by omega)]
theorem nt_v {T d ad n : Nat} : ntR R T d ad n 70 0 = nI (T + 1) ∧ ntR R T d ad n 71 T = nI d ∧ ntR R T d ad n 72 T = nI ad ∧ ntR R T d ad n 73 T = nI 0 ∧ ntR R T d ad n 74 T = nI 0 ∧ ntR R T d ad n 75 T = nI n ∧ ntR R T d ad n 76 T = nI 0 ∧ ntR R T d ad n 77 T = nI 0 ∧ ntR R T d ad n 78 T = nI 0 ∧ ntR R T d ad n 79 T = nI 0 := by
  unfold ntR
  refine ⟨?_, ?_, ?_, ?_, ?_, ?_, ?_, ?_, ?_, ?_⟩ <;> simp [u2_r]
/-- a transfer on a pipe, both sides -/
theorem hrel_pnew {th : Nat} {dl : List Nat} (hH : HREL P R) (hI : INV P) (hx : EX P) (hd : d < 6) (hk : k < s_ P 164 d) (hs : ∀ f j, s_ X f j = s_ (p_mk P (pid P d k) d (s_ P 182 (pid P d k)) th n 0 0 0 1) f j) (hb : ∀ j, b_ X 36 j = if j = s_ P 122 0 then dl else b_ P 36 j) (hl : dl.length = n) (hn : n ≤ 100) (hr : ∀ f j, f = 0 ∨ 55 ≤ f → ¬ (f = 81 ∧ 100 * s_ P 122 0 ≤ j ∧ j < 100 * s_ P 122 0 + 100) → R' f j = ntR R (s_ P 122 0) d (s_ P 180 (pid P d k)) n f j) (h81 : th = 0 → ∀ i, i < n → R' 81 (100 * s_ P 122 0 + i) = nI (dl.getD i 0)) (htp : R' 3 0 = nI (b_ X 1 0).length ∧ (∀ i, i < (b_ X 1 0).length → R' 2 i = nI ((b_ X 1 0).getD i 0)) ∧ ∀ i, i < 20 → R' 1 i = nI ((b_ X 20 0).getD i 0)) : HREL X R' := by
  obtain ⟨v1, v2, v3, v4, v5, v6, v7, v8, v9, v10, v11, v12, v13, v14⟩ := mk_v (P := P) (p := pid P d k) (o := d) (l := s_ P 182 (pid P d k)) (th := th) (n := n) (w := 0) (v := 0) (ix := 0) (st := 1)
  obtain ⟨n1, n2, n3, n4, n5, n6, n7, -⟩ := nt_v (R := R) (T := s_ P 122 0) (d := d) (ad := s_ P 180 (pid P d k)) (n := n)
  have dd := hI.2.2.2.2.2.2.2.2.1 d hd
  obtain ⟨p1, p2, p3, p4, p5, p6⟩ := dd.2.2.2.2.2.2.1 k hk
  refine hrel_new (d := d) hH (fun t ht => ex_36 hx ht) rfl (fun f j _ n1 n2 n3 => by rw [hs]; exact mk_o n1 n2 n3) (fun j hj => by rw [hb, if_neg hj]) (by rw [hs]; exact v13) (fun f j hf n1 n2 n3 n4 n5 n6 => ?_) (Or.inl ?_) ?_ ?_ (fun d => ?_) htp
  · rw [hr f j hf n4, nt_r (by omega) n2]
  · rw [hr 60 d (by omega) (by omega), nt_r (by omega) (by omega)]
  · rw [hr 70 0 (by omega) (by omega)]; exact n1
  · unfold RelT
    simp only [hs, v1, v3, v9, v10, v11, v12]
    rw [hr 71 _ (by omega) (by omega), hr 72 _ (by omega) (by omega), hr 73 _ (by omega) (by omega), hr 74 _ (by omega) (by omega), hr 75 _ (by omega) (by omega), hr 76 _ (by omega) (by omega), hb, if_pos rfl, hl, mk_o (by decide) (by decide) (by omega)]
    refine ⟨n2, n3, n4, n5, n6, n7, fun i hi c => ?_, fun c => absurd c p1⟩
    rcases c with c | c
    · exact h81 c i hi
    · omega
  · by_cases c : d < 6
    · exact ex_165 hx c
    · rw [hI.1.2.2.2.2.2.2.2.2.2 d (by omega)]; exact Nat.zero_le _
theorem hw_of (hI : INV P) (hx : EX P) : s_ P 123 0 + 1 < 2 ^ 31 := by
  have := ex_122 hx
  have := hI.2.2.2.2.2.1
  have := cnt_le (f := s_ P 211) (s_ P 122 0)
  omega
/-- receive -/
theorem r_recv (h : RM a ra R M) (hC : CO P R) : sm_Run (D + 2) 197 0 (sm_ent 197 [.inr (some a), .inl x1, .inl x2, .inl x3]) [] M (CQ a ra P (p_recv P x1 x2 x3)) := by
  obtain ⟨⟨f1, f2, f3, f4, f5⟩, f6⟩ := id hC
  obtain ⟨w1, w2, w3, w4, hH⟩ := id f1
  have hx := exo_ex f3
  have hE : EXO (p_recv P x1 x2 x3).2 := by
    obtain ⟨n0, u0, g, M, hr, hg⟩ := f3
    obtain ⟨v, M', -, g', -, k1, k2⟩ := ru_ex (c_recv (D := 0) (x1 := x1) (x2 := x2) (x3 := x3) hr hg (hw_of f2 hx))
    exact ⟨n0, u0, g', M', k2, k1⟩
  have b122 := ex_122 hx
  have r70 : R 70 0 = nI (s_ P 122 0) := hH.1.2.2.1
  have no : p_recv P x1 x2 x3 = (some (-1), P) → CQ a ra P (p_recv P x1 x2 x3) (some (.inl (-1))) M := fun c => by
    rw [c]; exact cq_same h hC _ rfl
  have noA : x3 < 1 ∨ ¬ (128 : Int32) ≤ x2 → CQ a ra P (p_recv P x1 x2 x3) (some (.inl (-1))) M := fun c => no (by unfold p_recv; rw [if_pos c])
  have noB : (devN x1).bind (fun d => p_mfp P d x2 x3.toNatClampNeg) = none → CQ a ra P (p_recv P x1 x2 x3) (some (.inl (-1))) M := fun c => no (by
    unfold p_recv
    split
    · rfl
    · rw [c])
  refine bb_197_0 ⟨h.1, ?_⟩
  refine ru_mono (r_ppx (D := D) h hx hH) ?_
  rintro v M1 ⟨rfl, rfl⟩
  unfold ppX
  by_cases q : x1 < 0 ∨ (5 : Int32) < x1
  · have c : (devN x1).bind (fun d => p_mfp P d x2 x3.toNatClampNeg) = none := by rw [devN_no q]; rfl
    rw [devN_no q]
    exact bb_197_6 ⟨fun _ => noB c, fun _ => ⟨fun _ => noB c, fun _ => ⟨fun _ => noB c, fun c => absurd rfl c⟩⟩⟩
  obtain ⟨d, hd, rfl, e⟩ := devN_ge (fun c => q (Or.inl c)) (fun c => q (Or.inr c))
  obtain ⟨p1, p2, p3, p4, p5⟩ := hH.2.1 d hd
  have p6 := ex_164 hx hd
  rw [e] at noB ⊢
  dsimp only
  have eb : ((some d).bind fun d => p_mfp P d x2 x3.toNatClampNeg) = p_mfp P d x2 x3.toNatClampNeg := rfl
  rw [eb] at noB
  refine bb_197_6 ⟨fun c => noA (Or.inl c), fun c1 => ?_⟩
  obtain ⟨n, hn, rfl⟩ := nI_of (nlt_nn li_1 (by decide) c1)
  have n1 : 1 ≤ n := by rw [li_1, nI_ltI hn (by decide)] at c1; omega
  rw [nI_clamp hn] at noB
  rw [li_100, nI_ltI (by decide) hn, ptP_m1 hd (fun k ek => by have := (pfind_lt ek).1; omega)]
  refine ⟨fun c => noB (by unfold p_mfp; rw [if_pos (Or.inl c)]), fun c100 => ?_⟩
  cases ep : p_pfind P d x2 with
  | none => exact ⟨fun _ => noB (by unfold p_mfp; split; rfl; rw [ep]), fun c => absurd rfl c⟩
  | some k =>
    obtain ⟨hk, ex2⟩ := pfind_lt ep
    obtain ⟨g1, g2, g3, g4, g5, g6⟩ := p5 k hk
    refine ⟨fun c => (by cases c), fun _ => ⟨fun c => noA (Or.inr (Int32.not_le.mpr c)), fun c2 => ⟨h.1, ?_⟩⟩⟩
    rw [rS_70 h, r70, li_300, nI_ltI (by omega) (by decide)]
    refine ⟨fun cT => ⟨ra 67, rd_r67 h, of_eq_true (rW_67 h), of_eq_true (rN_67 h (show 10 * d + k < 60 by omega)), ?_⟩, fun c => noB (by unfold p_mfp; rw [if_pos (Or.inr (by omega))])⟩
    have e67 : (nI (if s_ P 184 (pid P d k) = 0 then 0 else 1) = 0) = (s_ P 184 (pid P d k) = 0) := propext (by
      rw [li_0, nI_eq (by split <;> omega) (by decide)]
      constructor
      · intro z; refine Decidable.byContradiction (fun y => ?_); rw [if_neg y] at z; omega
      · intro z; rw [if_pos z])
    rw [show ptP d (some k) = nI (10 * d + k) from rfl, nI_clamp (by omega), rR_67 h, g6, e67]
    have ef : p_mfp P d x2 n = if s_ P 184 (pid P d k) = 0 then none else some (p_mk P (pid P d k) d (s_ P 182 (pid P d k)) (if x2 < 128 then 0 else 1) n 0 0 0 1) := by
      unfold p_mfp
      rw [if_neg (by omega), ep]
    refine ⟨fun c => noB (by rw [ef, if_pos c]), fun c84 => ?_⟩
    rw [if_neg c84, if_neg c2] at ef
    have pe : p_recv P (nI d) x2 (nI n) = (lastT P, p_mk P (pid P d k) d (s_ P 182 (pid P d k)) 1 n 0 0 0 1) := by
      unfold p_recv
      rw [if_neg, e, eb, nI_clamp hn, ef]
      rintro (c | c)
      · exact c1 c
      · exact c2 (Int32.not_le.mp c)
    rw [pe] at hE ⊢
    have b180 := ex_b hx 180 (pid P d k)
    have a128 : ¬ s_ P 180 (pid P d k) < 128 := fun c => c2 (by rw [← ex2, li_128, nI_ltI b180 (by decide)]; exact c)
    rw [← ex2]
    refine ru_mono (r_newT (D := D + 1) (d := d) (ad := s_ P 180 (pid P d k)) (n := n) h r70 (by omega)) ?_
    rintro v M2 ⟨rfl, k1⟩
    have dd := f2.2.2.2.2.2.2.2.2.1 d hd
    obtain ⟨u1, u2, u3, u4, u5, u6⟩ := dd.2.2.2.2.2.2.1 k hk
    have hth : (1 : Nat) = if s_ P 180 (pid P d k) < 128 then 0 else 1 := by rw [if_neg a128]
    have iv := inv_pipe (n := n) (dl := List.replicate n 0) f2 hx hd hk cT hth (fun y hy => by rw [(List.mem_replicate.mp hy).2]; decide)
    have eX : pB (p_mk P (pid P d k) d (s_ P 182 (pid P d k)) 1 n 0 0 0 1) 36 (s_ P 122 0) (List.replicate n 0) = p_mk P (pid P d k) d (s_ P 182 (pid P d k)) 1 n 0 0 0 1 := by
      have := pBe (P := p_mk P (pid P d k) d (s_ P 182 (pid P d k)) 1 n 0 0 0 1) (c := 36) (i := s_ P 122 0)
      rw [b_mk, if_pos ⟨rfl, rfl⟩] at this
      exact this
    rw [eX] at iv
    have bb : ∀ c j, c ≠ 36 → b_ (p_mk P (pid P d k) d (s_ P 182 (pid P d k)) 1 n 0 0 0 1) c j = b_ P c j := fun c j hc => by rw [b_mk, if_neg (fun q => hc q.1)]
    refine bb_197_61 ⟨rfl, _, k1, co_ho hC hE (rb_cg f6.2.2.2.2.2 (fun c j hc => bb c j (by omega))) iv (dr_mk f6.2.1 u2 (fun c => absurd c u1) (fun _ => ⟨?_, hth⟩)) fho_mk (fun f j hf => mk_o (by omega) (by omega) (by omega)) (fun f i hf => nt_r (by omega) (by omega)) (hrel_pnew (dl := List.replicate n 0) (n := n) (th := 1) hH f2 hx hd hk (fun f j => rfl) (fun j => ?_) (List.length_replicate ..) (by omega) (fun f j _ _ => rfl) (fun c => by cases c) ⟨?_, ?_, ?_⟩), ?_⟩
    · rw [u3]; have := dd.2.2.2.2.2.2.2.2.1 k (by have := dd.2.2.2.2.2.1; omega); omega
    · rw [b_mk]; simp
    · rw [bb 1 0 (by decide), nt_r (by omega) (by omega)]; exact hH.2.2.2.1
    · rw [bb 1 0 (by decide)]; intro i hi; rw [nt_r (by omega) (by omega)]; exact hH.2.2.2.2.1 i hi
    · intro i hi; rw [bb 20 0 (by decide), nt_r (by omega) (by omega)]; exact hH.2.2.2.2.2 i hi
    · show s_ (p_mk P (pid P d k) d (s_ P 182 (pid P d k)) 1 n 0 0 0 1) 126 0 ≤ _
      rw [mk_o (by decide) (by decide) (by omega)]; exact Nat.le_add_right _ _
end IY_
