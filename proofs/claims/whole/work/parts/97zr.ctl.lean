/-! Calls, both sides: control. -/
section JA_
variable {a : Nat} {ra : Nat → Nat} {R R' : Nat → Nat → Int32} {M : sm_M} {D : Nat} {P P' Pc P1 X Z : pP} {d k t i n m e w v ix : Nat} {x x1 x2 x3 x4 x5 : Int32}
/-- a control transfer that a caller makes -/
theorem inv_ctl {dl : List Nat} (hI : INV P) (hx : EX P) (hd : d < 6) (h160 : s_ P 160 d ≠ 0) (h1 : s_ P 160 d ≠ 1) (h161 : s_ P 161 d ≠ 0) (hT : s_ P 122 0 < 300) (hw : w < 65536) (hv : v < 65536) (hix : ix < 65536) (h5 : w ≠ 5) (hdl : B8 dl) : INV (pB (p_addC P d w v ix n) 36 (s_ P 122 0) dl) := by
  unfold p_addC
  obtain ⟨v1, v2, v3, v4, v5, v6, v7, v8, v9, v10, v11, v12, v13, v14⟩ := mk_v (P := P) (p := 0) (o := d) (l := s_ P 162 d) (th := if w < 32768 then 0 else 1) (n := n) (w := w) (v := v) (ix := ix) (st := 0)
  have dd := hI.2.2.2.2.2.2.2.2.1 d hd
  have n83 : s_ P 83 d ≠ 0 := fun c => h160 (dd.1 c).1
  have o : ∀ f j, f ≠ 122 → f ≠ 123 → ¬ (200 ≤ f ∧ f ≤ 213 ∧ j = s_ P 122 0) → s_ (pB (p_mk P 0 d (s_ P 162 d) (if w < 32768 then 0 else 1) n w v ix 0) 36 (s_ P 122 0) dl) f j = s_ P f j := fun f j n1 n2 n3 => by rw [s_B]; exact mk_o n1 n2 n3
  obtain ⟨r, r1, r2, r3⟩ := ir_new hI hT
  refine inv_new hI o (fun c j hc => by rw [b_B, if_neg hc, b_mk, if_neg hc]) v13 v14 v10 ?_ (by rw [s_B, v11]; decide) (fun _ => ?_) (fun c => absurd (by rw [s_B]; exact v12) c) (fun _ => ⟨by rw [s_B, v8], fun t' ht' e' => ⟨?_, by rw [s_B, v7]⟩⟩) (by rw [s_B, v1]; exact n83) ⟨r, r1, r2, fun _ c => absurd (by rw [s_B]; exact v7) c, r3⟩ (fun d => ?_)
  · unfold TT
    simp only [s_B, v1, v2, v4, v5, v6, v7, v8, v9, v10, v11, v12, b_Bs]
    refine ⟨hd, Nat.zero_le _, by decide, by decide, dd.2.1, hdl, hw, hv, hix, ?_, by decide, by decide⟩
    rw [mk_o (by decide) (by decide) (by omega)]; exact hI.1.2.2.2.2.2.2.2.1
  · unfold WC
    simp only [s_B, v1, v2, v3, v4, v7, v8, v9]
    rw [mk_o (f := 162) (by decide) (by decide) (by omega), mk_o (f := 161) (by decide) (by decide) (by omega), mk_o (f := 160) (by decide) (by decide) (by omega)]
    refine ⟨trivial, rfl, ⟨fun c => by omega, fun c => absurd c h161⟩, ⟨fun c => absurd rfl c, fun c => absurd c h1⟩, fun _ => by decide, fun _ => trivial, fun _ => h5, fun c => absurd rfl c, fun c => by omega, fun c => by omega, fun c => by omega, fun c => by omega⟩
  · rw [s_B, v1] at e'
    have wc := (hI.2.2.1 t' ⟨ht'.1, ht'.2.1⟩).2.1 ht'.2.2
    refine Decidable.byContradiction (fun c => h1 ?_)
    rw [← e']
    exact wc.2.2.2.1.mp c
  · by_cases c : d < 6
    · exact Or.inl (ex_165 hx c)
    · exact Or.inr (hI.1.2.2.2.2.2.2.2.2.2 d (by omega))
abbrev ctR (R : Nat → Nat → Int32) (T d w v ix n : Nat) : Nat → Nat → Int32 := ncR (ntR R T d 0 n) T (ncL (w / 256) (w % 256) v ix n)
theorem ct_r {T f j : Nat} (hf : ¬ (f = 70 ∧ j = 0)) (hf2 : ¬ (71 ≤ f ∧ f ≤ 79 ∧ j = T)) (hf3 : ¬ (f = 80 ∧ 8 * T ≤ j ∧ j < 8 * T + 8)) : ctR R T d w v ix n f j = R f j := by
  unfold ctR ncR
  rw [rowU_r, if_neg hf3, nt_r hf hf2]
theorem hrel_cnew {dl : List Nat} (hH : HREL P R) (hI : INV P) (hx : EX P) (hd : d < 6) (hs : ∀ f j, s_ X f j = s_ (p_addC P d w v ix n) f j) (hb : ∀ j, b_ X 36 j = if j = s_ P 122 0 then dl else b_ P 36 j) (hl : dl.length = n) (hn : n ≤ 100) (hr : ∀ f j, f = 0 ∨ 55 ≤ f → ¬ (f = 81 ∧ 100 * s_ P 122 0 ≤ j ∧ j < 100 * s_ P 122 0 + 100) → R' f j = ctR R (s_ P 122 0) d w v ix n f j) (h81 : w < 32768 → ∀ i, i < n → R' 81 (100 * s_ P 122 0 + i) = nI (dl.getD i 0)) (htp : R' 3 0 = nI (b_ X 1 0).length ∧ (∀ i, i < (b_ X 1 0).length → R' 2 i = nI ((b_ X 1 0).getD i 0)) ∧ ∀ i, i < 20 → R' 1 i = nI ((b_ X 20 0).getD i 0)) : HREL X R' := by
  unfold p_addC at hs
  obtain ⟨v1, v2, v3, v4, v5, v6, v7, v8, v9, v10, v11, v12, v13, v14⟩ := mk_v (P := P) (p := 0) (o := d) (l := s_ P 162 d) (th := if w < 32768 then 0 else 1) (n := n) (w := w) (v := v) (ix := ix) (st := 0)
  obtain ⟨n1, n2, n3, n4, n5, n6, n7, n8, n9, n10⟩ := nt_v (R := R) (T := s_ P 122 0) (d := d) (ad := 0) (n := n)
  have ec : ∀ f j, f ≠ 80 → ctR R (s_ P 122 0) d w v ix n f j = ntR R (s_ P 122 0) d 0 n f j := fun f j hf => by unfold ctR ncR; rw [rowU_r, if_neg (fun q => hf q.1)]
  refine hrel_new (d := d) hH (fun t ht => ex_36 hx ht) rfl (fun f j _ n1 n2 n3 => by rw [hs]; exact mk_o n1 n2 n3) (fun j hj => by rw [hb, if_neg hj]) (by rw [hs]; exact v13) (fun f j hf n1 n2 n3 n4 n5 n6 => ?_) (Or.inl ?_) ?_ ?_ (fun d => ?_) htp
  · rw [hr f j hf n4, ct_r (by omega) n2 n3]
  · rw [hr 60 d (by omega) (by omega), ct_r (by omega) (by omega) (by omega)]
  · rw [hr 70 0 (by omega) (by omega), ec 70 0 (by decide)]; exact n1
  · unfold RelT RelC su
    simp only [hs, v1, v3, v4, v5, v6, v7, v8, v9, v10, v11, v12]
    rw [hr 71 _ (by omega) (by omega), hr 72 _ (by omega) (by omega), hr 73 _ (by omega) (by omega), hr 74 _ (by omega) (by omega), hr 75 _ (by omega) (by omega), hr 76 _ (by omega) (by omega), hr 79 _ (by omega) (by omega), hr 77 _ (by omega) (by omega), hb, if_pos rfl, hl, mk_o (f := 180) (by decide) (by decide) (by omega), hI.1.2.2.2.2.2.1]
    rw [ec _ _ (by decide), ec _ _ (by decide), ec _ _ (by decide), ec _ _ (by decide), ec _ _ (by decide), ec _ _ (by decide), ec _ _ (by decide), ec _ _ (by decide)]
    refine ⟨n2, n3, n4, n5, n6, n7, fun i hi c => ?_, fun _ => ⟨n10, fun i hi => ?_, fun _ => ⟨n8, fun c => absurd rfl c, fun c => absurd rfl c, fun c => by omega, fun c => by omega⟩⟩⟩
    · rcases c with c | c
      · refine h81 ?_ i hi
        refine Decidable.byContradiction (fun z => ?_)
        rw [if_neg z] at c; omega
      · omega
    · rw [hr 80 _ (by omega) (by omega)]
      unfold ctR ncR
      rw [rowU_r, if_pos (by omega), show 8 * s_ P 122 0 + i - 8 * s_ P 122 0 = i by omega]
      rfl
  · by_cases c : d < 6
    · exact ex_165 hx c
    · rw [hI.1.2.2.2.2.2.2.2.2.2 d (by omega)]; exact Nat.zero_le _
/-- control -/
theorem r_control (h : RM a ra R M) (hC : CO P R) : sm_Run (D + 2) 198 0 (sm_ent 198 [.inr (some a), .inl x1, .inl x2, .inl x3, .inl x4, .inl x5]) [] M (CQ a ra P (p_control P x1 x2 x3 x4 x5)) := by
  obtain ⟨⟨f1, f2, f3, f4, f5⟩, f6⟩ := id hC
  obtain ⟨w1, w2, w3, w4, hH⟩ := id f1
  have hx := exo_ex f3
  have hE : EXO (p_control P x1 x2 x3 x4 x5).2 := by
    obtain ⟨n0, u0, g, M, hr, hg⟩ := f3
    obtain ⟨v, M', -, g', -, k1, k2⟩ := ru_ex (c_control (D := 0) (x1 := x1) (x2 := x2) (x3 := x3) (x4 := x4) (x5 := x5) hr hg (hw_of f2 hx))
    exact ⟨n0, u0, g', M', k2, k1⟩
  have b122 := ex_122 hx
  have l1 := exo_len1 f3
  have hB := f6.2.2.2.2.2
  obtain ⟨q1, q2, q3⟩ := hH.2.2.2
  have r70 : R 70 0 = nI (s_ P 122 0) := hH.1.2.2.1
  have hw := n16_lt x2
  have hv := n16_lt x3
  have hi := n16_lt x4
  have no : p_control P x1 x2 x3 x4 x5 = (some (-1), P) → CQ a ra P (p_control P x1 x2 x3 x4 x5) (some (.inl (-1))) M := fun c => by
    rw [c]; exact cq_same h hC _ rfl
  have noA : (n16 x2 < 32768 ∧ ¬ x5 ≤ nI (b_ P 1 0).length) → CQ a ra P (p_control P x1 x2 x3 x4 x5) (some (.inl (-1))) M := fun c => no (by unfold p_control; rw [if_pos c])
  have noB : (devN x1).bind (fun d => p_mct P d (n16 x2) (n16 x3) (n16 x4) x5) = none → CQ a ra P (p_control P x1 x2 x3 x4 x5) (some (.inl (-1))) M := fun c => no (by
    unfold p_control
    split
    · rfl
    · rw [c])
  refine bb_198_0 ⟨fun c => noB (by rw [devN_no (Or.inl c)]; rfl), fun c1 => ⟨fun c => noB (by rw [devN_no (Or.inr c)]; rfl), fun c5 => ?_⟩⟩
  obtain ⟨d, hd, rfl, e⟩ := devN_ge c1 c5
  have eb : ((some d).bind fun d => p_mct P d (n16 x2) (n16 x3) (n16 x4) x5) = p_mct P d (n16 x2) (n16 x3) (n16 x4) x5 := rfl
  rw [e, eb] at noB
  obtain ⟨p1, p2, p3, p4, p5⟩ := hH.2.1 d hd
  rw [n16_and, rS_70 h, r70, rS_3 h, q1]
  rw [show (5 : Int32) = nI 5 from rfl, nI_eq (by omega) (by decide), show (300 : Int32) = nI 300 from rfl, nI_leI (by decide) (by omega), show (32768 : Int32) = nI 32768 from rfl, nI_leI (by decide) (by omega)]
  refine ⟨fun c => noB (by unfold p_mct; rw [if_pos (Or.inr (Or.inr (Or.inr (Or.inr c))))]), fun cw => ⟨fun c => noB (by unfold p_mct; rw [if_pos (Or.inl c)]), fun c0 => ⟨fun c => noB (by unfold p_mct; rw [if_pos (Or.inr (Or.inl c))]), fun c100 => ⟨h.1, fun c => noB (by unfold p_mct; rw [if_pos (Or.inr (Or.inr (Or.inl c)))]), fun cT => ?_⟩⟩⟩⟩
  obtain ⟨n, hn, rfl⟩ := nI_of c0
  have n100 : n ≤ 100 := by rw [li_100, nI_ltI (by decide) hn] at c100; omega
  have b160 := ex_b hx 160 d
  have e59 : (0 < nI (if s_ P 161 d = 0 then 0 else d + 1)) = (s_ P 161 d ≠ 0) := propext (by
    rw [li_0, nI_ltI (by decide) (by split <;> omega)]
    split
    · rename_i z; exact ⟨fun c => by omega, fun c => absurd z c⟩
    · rename_i z; exact ⟨fun _ => z, fun _ => by omega⟩)
  have cld : (nI d).toNatClampNeg = d := nI_clamp (by omega)
  have go : ¬ (n16 x2 < 32768 ∧ ¬ nI n ≤ nI (b_ P 1 0).length) → sm_Run (D + 2) 198 63 [some (.inr (some a)), some (.inl (nI d)), some (.inl x2), some (.inl x3), some (.inl x4), some (.inl (nI n)), some (.inl (nI (n16 x2))), none, none] [] M (CQ a ra P (p_control P (nI d) x2 x3 x4 (nI n))) := by
    intro hA
    have ef : p_mct P d (n16 x2) (n16 x3) (n16 x4) (nI n) = if ¬ tkC P d then none else some (p_addC P d (n16 x2) (n16 x3) (n16 x4) n) := by
      unfold p_mct
      by_cases z : tkC P d
      · rw [if_neg (by
          rintro (c | c | c | c | c)
          · exact c0 c
          · exact c100 c
          · exact cT c
          · exact c z
          · exact cw c), if_neg (fun c => c z), nI_clamp hn]
      · rw [if_pos (Or.inr (Or.inr (Or.inr (Or.inl z)))), if_pos z]
    have run : tkC P d → sm_Run (D + 2) 198 94 [some (.inr (some a)), some (.inl (nI d)), some (.inl x2), some (.inl x3), some (.inl x4), some (.inl (nI n)), some (.inl (nI (n16 x2))), none, none] [] M (CQ a ra P (p_control P (nI d) x2 x3 x4 (nI n))) := by
      intro tk
      rw [if_neg (fun c => c tk)] at ef
      have dd := f2.2.2.2.2.2.2.2.2.1 d hd
      have h161 : s_ P 161 d ≠ 0 := by
        rcases tk with c | c
        · exact dd.2.2.2.1 c
        · exact c.2
      have h160 : s_ P 160 d ≠ 0 := by rcases tk with c | c <;> omega
      have h1601 : s_ P 160 d ≠ 1 := by rcases tk with c | c <;> omega
      generalize hXm : p_addC P d (n16 x2) (n16 x3) (n16 x4) n = Xm at ef
      have hXm' : p_mk P 0 d (s_ P 162 d) (if n16 x2 < 32768 then 0 else 1) n (n16 x2) (n16 x3) (n16 x4) 0 = Xm := hXm
      have b36 : (b_ Xm 36 (s_ P 122 0)).length = n := by rw [← hXm']; exact pf_len
      have bm : ∀ c j, c ≠ 36 → b_ Xm c j = b_ P c j := fun c j hc => by rw [← hXm', b_mk, if_neg (fun q => hc q.1)]
      have pe : p_control P (nI d) x2 x3 x4 (nI n) = (lastT P, if n16 x2 < 32768 then pB (pB Xm 36 (s_ P 122 0) ((b_ P 1 0).take n)) 1 0 ((b_ P 1 0).drop n) else Xm) := by
        unfold p_control
        rw [if_neg hA, e, eb, ef]
        dsimp only
        unfold p_load
        rw [b36, bm 1 0 (by decide)]
      rw [pe] at hE ⊢
      have s8 : nI (n16 x2) >>> (8 &&& 31) = nI (n16 x2 / 256) := nI_s8 (by omega)
      have a255 : nI (n16 x2) &&& 255 = nI (n16 x2 % 256) := nI_a255 (by omega)
      refine bb_198_94 ⟨h.1, ?_⟩
      rw [s8, a255, n16_and, n16_and]
      refine ru_mono (r_newC (D := D) h r70 (by omega) hv hi (by omega)) ?_
      rintro v M2 ⟨rfl, k1⟩
      have k1 : RM a ra (ctR R (s_ P 122 0) d (n16 x2) (n16 x3) (n16 x4) n) M2 := k1
      have drm : DR Xm := by rw [← hXm]; exact dr_addC f6.2.1
      have s86 : ∀ d, d < 6 → s_ Xm 86 d ≤ 6 := fun d hd => by rw [← hXm', mk_o (by decide) (by decide) (by omega)]; exact ex_86 hx hd
      have som : ∀ f j, f = 126 ∨ f = 128 ∨ f = 186 → s_ Xm f j = s_ P f j := fun f j hf => by rw [← hXm']; exact mk_o (by omega) (by omega) (by omega)
      refine bb_198_123 ?_
      rw [show (32768 : Int32) = nI 32768 from rfl, nI_leI (by decide) (by omega)]
      refine ⟨fun cI => ?_, fun cI => ?_⟩
      · rw [if_neg (by omega)] at hE ⊢
        have iv := inv_ctl (w := n16 x2) (v := n16 x3) (ix := n16 x4) (n := n) (dl := List.replicate n 0) f2 hx hd h160 h1601 h161 (by omega) hw hv hi cw (fun y hy => by rw [(List.mem_replicate.mp hy).2]; decide)
        have eX : pB (p_addC P d (n16 x2) (n16 x3) (n16 x4) n) 36 (s_ P 122 0) (List.replicate n 0) = Xm := by
          have := pBe (P := Xm) (c := 36) (i := s_ P 122 0)
          have e2 : b_ Xm 36 (s_ P 122 0) = List.replicate n 0 := by rw [← hXm', b_mk, if_pos (⟨rfl, rfl⟩ : (36 : Nat) = 36 ∧ s_ P 122 0 = s_ P 122 0)]
          rw [e2] at this
          rw [hXm]
          exact this
        rw [eX] at iv
        refine ⟨rfl, _, k1, co_ho hC hE (rb_cg hB (fun c j hc => bm c j (by omega))) iv drm (by rw [← hXm']; exact fho_mk) som (fun f i hf => ct_r (by omega) (by omega) (by omega)) (hrel_cnew (dl := List.replicate n 0) (n := n) (w := n16 x2) (v := n16 x3) (ix := n16 x4) hH f2 hx hd (fun f j => by rw [hXm]) (fun j => ?_) (List.length_replicate ..) n100 (fun f j _ _ => rfl) (fun c => absurd c (by omega)) ⟨?_, ?_, ?_⟩), ?_⟩
        · rw [← hXm', b_mk]; simp
        · rw [bm 1 0 (by decide), ct_r (by omega) (by omega) (by omega)]; exact q1
        · rw [bm 1 0 (by decide)]; intro i hi; rw [ct_r (by omega) (by omega) (by omega)]; exact q2 i hi
        · intro i hi; rw [bm 20 0 (by decide), ct_r (by omega) (by omega) (by omega)]; exact q3 i hi
        · show s_ Xm 126 0 ≤ _
          rw [som 126 0 (by decide)]; exact Nat.le_add_right _ _
      · have cO : n16 x2 < 32768 := by omega
        rw [if_pos cO] at hE ⊢
        have nL : n ≤ (b_ P 1 0).length := by
          refine Decidable.byContradiction (fun z => hA ⟨cO, fun q => z ?_⟩)
          rw [nI_leI hn (by omega)] at q; exact q
        have iv := inv_ctl (w := n16 x2) (v := n16 x3) (ix := n16 x4) (n := n) (dl := (b_ P 1 0).take n) f2 hx hd h160 h1601 h161 (by omega) hw hv hi cw (b8_take hB.1)
        rw [hXm] at iv
        have iv2 := inv_b (l := (b_ P 1 0).drop n) iv s86
        have fin : ∀ (M : sm_M), RM a ra (rowU (ctR R (s_ P 122 0) d (n16 x2) (n16 x3) (n16 x4) n) 81 (100 * s_ P 122 0) n (fun j => R 2 j)) M → ∀ z6 : Int32, sm_Run (D + 1) 154 0 (sm_ent 154 [.inr (some a), .inl (nI n)]) [] M (fun v M1 => sm_Run (D + 2) 198 175 [some (.inr (some a)), some (.inl (nI d)), some (.inl x2), some (.inl x3), some (.inl x4), some (.inl (nI n)), some (.inl (nI (n16 x2))), some (.inl (nI (s_ P 122 0))), some (.inl z6)] (v.toList ++ []) M1 (CQ a ra P (lastT P, pB (pB Xm 36 (s_ P 122 0) ((b_ P 1 0).take n)) 1 0 ((b_ P 1 0).drop n)))) := by
          intro M m1 z6
          refine ru_mono (r_drop (D := D) (L := (b_ P 1 0).length) m1 (by rw [rowU_r, if_neg (by omega), ct_r (by omega) (by omega) (by omega)]; exact q1) l1 (by omega)) ?_
          rintro v M3 ⟨rfl, R3, s1, s2, s3, s4⟩
          have o : ∀ f j, ¬ (f = 2 ∨ f = 3 ∨ (f = 81 ∧ 100 * s_ P 122 0 ≤ j ∧ j < 100 * s_ P 122 0 + 100)) → R3 f j = ctR R (s_ P 122 0) d (n16 x2) (n16 x3) (n16 x4) n f j := fun f j hf => by rw [s4 f j (by omega) (by omega), rowU_r, if_neg (by omega)]
          have bx : ∀ c j, c ≠ 36 → c ≠ 1 → b_ (pB (pB Xm 36 (s_ P 122 0) ((b_ P 1 0).take n)) 1 0 ((b_ P 1 0).drop n)) c j = b_ P c j := fun c j n1 n2 => by rw [b_B, if_neg (by omega), b_B, if_neg (by omega)]; exact bm c j n1
          refine bb_198_175 ⟨rfl, R3, s1, co_ho hC hE ⟨by rw [b_Bs]; exact b8_drop hB.1, by rw [bx 20 0 (by decide) (by decide)]; exact hB.2⟩ iv2 (dr_cg drm (fun f j _ => rfl)) (fho_B (fho_B (by rw [← hXm']; exact fho_mk) (Or.inl rfl)) (Or.inr (Or.inr ⟨rfl, rfl⟩))) (fun f j hf => by rw [s_B, s_B]; exact som f j hf) (fun f i hf => by rw [o f i (by omega), ct_r (by omega) (by omega) (by omega)]) (hrel_cnew (dl := (b_ P 1 0).take n) (n := n) (w := n16 x2) (v := n16 x3) (ix := n16 x4) hH f2 hx hd (fun f j => by rw [s_B, s_B, hXm]) (fun j => ?_) (by rw [List.length_take]; omega) n100 (fun f j hf h81 => o f j (by omega)) (fun _ i hi => ?_) ⟨?_, fun i hi => ?_, fun i hi => ?_⟩), ?_⟩
          · rw [b_B, if_neg (by omega), b_B]
            by_cases z : j = s_ P 122 0
            · rw [if_pos ⟨rfl, z⟩, if_pos z]
            · rw [if_neg (fun q => z q.2), if_neg z, ← hXm', b_mk, if_neg (fun q => z q.2)]
          · rw [s4 81 _ (by decide) (by decide), rowU_r, if_pos (by omega), getD_takeN hi, show 100 * s_ P 122 0 + i - 100 * s_ P 122 0 = i by omega]
            exact q2 i (by omega)
          · rw [b_Bs, List.length_drop]; exact s2
          · rw [b_Bs] at hi ⊢
            rw [List.length_drop] at hi
            rw [s3 i hi, rowU_r, if_neg (by omega), ct_r (by omega) (by omega) (by omega), getD_dropN]
            exact q2 _ (by omega)
          · rw [bx 20 0 (by decide) (by decide), o 1 i (by omega), ct_r (by omega) (by omega) (by omega)]; exact q3 i hi
          · show s_ (pB (pB Xm 36 (s_ P 122 0) ((b_ P 1 0).take n)) 1 0 ((b_ P 1 0).drop n)) 126 0 ≤ _
            rw [s_B, s_B, som 126 0 (by decide)]; exact Nat.le_add_right _ _
        have lp : ∀ (m i : Nat) (M : sm_M), i + m = n → RM a ra (rowU (ctR R (s_ P 122 0) d (n16 x2) (n16 x3) (n16 x4) n) 81 (100 * s_ P 122 0) i (fun j => R 2 j)) M → sm_Run (D + 2) 198 136 [some (.inr (some a)), some (.inl (nI d)), some (.inl x2), some (.inl x3), some (.inl x4), some (.inl (nI n)), some (.inl (nI (n16 x2))), some (.inl (nI (s_ P 122 0))), some (.inl (nI i))] [] M (CQ a ra P (lastT P, pB (pB Xm 36 (s_ P 122 0) ((b_ P 1 0).take n)) 1 0 ((b_ P 1 0).drop n))) := by
          intro m
          induction m with
          | zero =>
            intro i M hi m1
            obtain rfl : i = n := by omega
            exact bb_198_136 ⟨fun _ => ⟨m1.1, fin M m1 _⟩, fun q => absurd (nI_le (Nat.le_refl _) hn) q⟩
          | succ m ih =>
            intro i M hi m1
            have r2 : sm_I M (ra 2) i = R 2 i := by rw [rR_2 m1, rowU_r, if_neg (by omega), ct_r (by omega) (by omega) (by omega)]
            refine bb_198_136 ⟨fun q => ?_, fun _ => ⟨m1.1, ra 2, rd_r2 m1, of_eq_true (rA_2 m1), of_eq_true (rN_2 m1 (by omega)), ra 81, rd_r81 m1, of_eq_true (rW_81 m1), ?_, ?_⟩⟩
            · rw [nI_leI hn (by omega)] at q; omega
            · rw [li_100, pk_mul, nI_add]; exact of_eq_true (rN_81 m1 (by omega))
            · rw [li_100, pk_mul, nI_add, nI_clamp (by omega), nI_clamp (by omega), r2, nI_1]
              have := rm_wr m1 (f := 81) (j := 100 * s_ P 122 0 + i) (v := R 2 i)
              rw [rowU_s (v := fun j => R 2 j)] at this
              exact ih (i + 1) _ (by omega) this
        exact lp n 0 M2 (by omega) (by rw [rowU_0]; exact k1)
    refine bb_198_63 ⟨h.1, ra 57, rd_r57 h, of_eq_true (rA_57 h), of_eq_true (rN_57 h hd), ?_⟩
    rw [cld, rR_57 h, p1, li_2, nI_eq b160 (by decide)]
    refine ⟨fun c => run (Or.inl c), fun c => ⟨ra 57, rd_r57 h, of_eq_true (rA_57 h), of_eq_true (rN_57 h hd), ?_⟩⟩
    rw [rR_57 h, p1, li_3, nI_eq b160 (by decide)]
    refine ⟨fun c3 => noB (by rw [ef, if_pos (fun z => by rcases z with z | z; exact c z; exact c3 z.1)]), fun c3 => ⟨ra 59, rd_r59 h, of_eq_true (rA_59 h), of_eq_true (rN_59 h hd), ?_⟩⟩
    rw [rR_59 h, p3, e59]
    refine ⟨fun z => run (Or.inr ⟨Decidable.not_not.mp c3, z⟩), fun z => noB (by rw [ef, if_pos (fun y => by rcases y with y | y; exact c y; exact z y.2)])⟩
  refine ⟨fun c => go (fun z => by omega), fun c => ⟨fun c' => go (fun z => z.2 c'), fun c' => noA ⟨by omega, c'⟩⟩⟩
end JA_
