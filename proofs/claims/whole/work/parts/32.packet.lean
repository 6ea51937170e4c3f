/-! Helpers, packets, a device's answer, its endpoints -/
section PK
variable {g : pG} {P : pP} {M : sm_M} {D : Nat}
theorem nx1 {t : Nat} (h : t ≤ 1) : (1 : Int32) - nI t = nI (1 - t) := by rw [show (1 : Int32) = nI 1 from rfl, pk_sub h]
theorem pBB {c i : Nat} {l l' : List Nat} : pB (pB P c i l) c i l' = pB P c i l' := by
  unfold pB
  congr 2
  funext a b
  show (if a = c ∧ b = i then l' else if a = c ∧ b = i then l else P.2.1 a b) = if a = c ∧ b = i then l' else P.2.1 a b
  split
  · rfl
  · rfl
theorem pBe {c i : Nat} : pB P c i (b_ P c i) = P := by
  obtain ⟨S, B, F⟩ := P
  unfold pB b_
  congr 2
  funext a b
  show (if a = c ∧ b = i then B c i else B a b) = B a b
  split
  · rename_i h; rw [h.1, h.2]
  · rfl
theorem pSS {f i v w : Nat} : pS (pS P f i v) f i w = pS P f i w := by
  unfold pS
  congr 1
  funext a b
  show (if a = f ∧ b = i then w else if a = f ∧ b = i then v else P.1 a b) = if a = f ∧ b = i then w else P.1 a b
  split
  · rfl
  · rfl
theorem pSe {f i : Nat} : pS P f i (s_ P f i) = P := by
  obtain ⟨S, B, F⟩ := P
  unfold pS s_
  congr 1
  funext a b
  show (if a = f ∧ b = i then S f i else S a b) = S a b
  split
  · rename_i h; rw [h.1, h.2]
  · rfl
def dkn (t : Nat) : Nat := if t = 0 then 3 else 11
def tgo (k : Nat) : Nat := if k = 3 then 0 else 1
theorem c_dataKind {t : Nat} (ht : t < 2 ^ 31) : sm_Run D 27 0 (sm_ent 27 [.inl (nI t)]) [] M (fun v M' => v = some (.inl (nI (dkn t))) ∧ M = M') := by
  refine bb_27_0 ⟨fun q => ⟨?_, rfl⟩, fun q => ⟨?_, rfl⟩⟩
  · rw [show (0 : Int32) = nI 0 from rfl, nI_eq ht (by decide)] at q
    unfold dkn; rw [if_neg q]; rfl
  · rw [Decidable.not_not, show (0 : Int32) = nI 0 from rfl, nI_eq ht (by decide)] at q
    unfold dkn; rw [if_pos q]; rfl
theorem c_toggleOf {k : Nat} (hk : k < 2 ^ 31) : sm_Run D 28 0 (sm_ent 28 [.inl (nI k)]) [] M (fun v M' => v = some (.inl (nI (tgo k))) ∧ M = M') := by
  refine bb_28_0 ⟨fun q => ⟨?_, rfl⟩, fun q => ⟨?_, rfl⟩⟩
  · rw [show (3 : Int32) = nI 3 from rfl, nI_eq hk (by decide)] at q
    unfold tgo; rw [if_neg q]; rfl
  · rw [Decidable.not_not, show (3 : Int32) = nI 3 from rfl, nI_eq hk (by decide)] at q
    unfold tgo; rw [if_pos q]; rfl
theorem rc_D (h : RC g P M) {d : Nat} (hd : d < 6) : sm_R M (g.1 25 0) d = some (g.1 4 d) ∧ sm_R M (g.1 4 d) 5 = some (g.1 26 d) ∧ sm_R M (g.1 4 d) 7 = some (g.1 28 d) ∧ sm_R M (g.1 4 d) 8 = some (g.1 3 d) ∧ sm_R M (g.1 4 d) 12 = some (g.1 7 (60 + d)) ∧ sm_R M (g.1 3 d) 2 = some (g.1 29 d) ∧ sm_R M (g.1 33 0) d = some (g.1 8 d) ∧ sm_R M (g.1 8 d) 3 = some (g.1 35 d) := h.1.2.1.2.2.2.2.2.2.2 d hd
theorem rc_P3 (h : RC g P M) {j : Nat} (hj : j < 66) : sm_R M (g.1 7 j) 3 = some (g.1 27 j) := h.1.2.1.2.2.2.2.2.2.1 j (Nat.lt_succ_of_lt hj)
theorem rc_wA (h : RC g P M) {c i : Nat} (hl : g.2.1 c i = true) (hc : kd c % 3 = 2 ∧ kd c < 602 ∧ sm_grp (kd c) = 0) : sm_wA 0 M (g.1 c i) := by unfold sm_wA; rw [rc_K h hl]; exact hc
theorem rc_iA (h : RC g P M) {c i : Nat} (hl : g.2.1 c i = true) (hc : kd c % 3 = 2 ∧ kd c < 602) : sm_iA M (g.1 c i) := by unfold sm_iA; rw [rc_K h hl]; exact Or.inr hc
theorem rc_aK (h : RC g P M) {c i : Nat} (hl : g.2.1 c i = true) (hc : 1 ≤ kd c ∧ kd c % 3 ≠ 0) : 1 ≤ sm_K M (g.1 c i) ∧ sm_K M (g.1 c i) % 3 ≠ 0 := by rw [rc_K h hl]; exact hc
theorem rc_in (h : RC g P M) {c i p : Nat} (hl : g.2.1 c i = true) (h0 : 0 < ln c) (hp : p < ln c) (hn : ln c ≤ 1000) : sm_in_ M (g.1 c i) (nI p) := by
  unfold sm_in_
  rw [nI_toInt (by omega), rc_L h hl h0]
  omega
/-- Packet.add -/
def p_add (P : pP) (j x : Nat) : pP := pB P 7 j (b_ P 7 j ++ [x])
theorem c_add {j x : Nat} (h : RC g P M) (hj : j < 66) (hl : (b_ P 7 j).length < 64) : sm_Run D 106 0 (sm_ent 106 [.inr (some (g.1 7 j)), .inl (nI x)]) [] M (fun v M' => v = none ∧ RC g (p_add P j x) M') := by
  have l27 := rc_st h (c := 27) hj
  have hb := (h.2.2.1 j hj).1
  have hne : g.1 7 j ≠ g.1 27 j := rf_ne h.1.1 (rc_st h (c := 7) hj) l27 (by omega)
  refine bb_106_0 ⟨rc_Ks h (c := 7) hj, _, rc_P3 h hj, rc_aK h l27 (by decide), fun q => ?_, fun q => ⟨_, rc_P3 h hj, rc_wA h l27 (by decide), ?_, rfl, ?_⟩⟩
  · rw [rc_L h l27 (by decide), hb, show Int32.ofNat (ln 27) = nI 64 from rfl, nI_leI (by decide) (by omega)] at q
    omega
  · rw [hb]; exact rc_in h l27 (by decide) hl (by decide)
  · rw [I_put_a hne, hb, nI_clamp (by omega), nI_1]
    exact rc_pka h hj hl
theorem c_at {j i : Nat} (h : RC g P M) (hj : j < 66) (hi : i < 2 ^ 31) : sm_Run D 107 0 (sm_ent 107 [.inr (some (g.1 7 j)), .inl (nI i)]) [] M (fun v M' => v = some (.inl (nI ((b_ P 7 j).getD i 0))) ∧ M = M') := by
  have l27 := rc_st h (c := 27) hj
  obtain ⟨hb, h64, ha⟩ := h.2.2.1 j hj
  refine bb_107_0 ⟨fun q => absurd q (nI_pos hi), fun _ => ⟨rc_Ks h (c := 7) hj, fun q => ⟨?_, rfl⟩, fun q => ⟨_, rc_P3 h hj, rc_iA h l27 (by decide), ?_, ?_, rfl⟩⟩⟩
  · rw [hb, nI_leI (by omega) hi] at q
    rw [List.getD_eq_getElem?_getD, List.getElem?_eq_none q]; rfl
  · rw [hb, nI_leI (by omega) hi] at q
    exact rc_in h l27 (by decide) (show i < 64 by omega) (by decide)
  · rw [hb, nI_leI (by omega) hi] at q
    rw [nI_clamp hi, ha i (by omega)]
theorem c_pairAt {j i : Nat} (h : RC g P M) (hj : j < 66) (hi : i < 1000) : sm_Run (D + 1) 108 0 (sm_ent 108 [.inr (some (g.1 7 j)), .inl (nI i)]) [] M (fun v M' => v = some (.inl (nI ((b_ P 7 j).getD i 0 + 256 * (b_ P 7 j).getD (i + 1) 0))) ∧ M = M') := by
  refine bb_108_0 ⟨rc_Ks h (c := 7) hj, ru_mono (c_at h hj (by omega)) ?_⟩
  rintro v M1 ⟨rfl, rfl⟩
  refine bb_108_5 ⟨rc_Ks h (c := 7) hj, ?_⟩
  rw [nI_1]
  refine ru_mono (c_at h hj (by omega)) ?_
  rintro v M1 ⟨rfl, rfl⟩
  refine bb_108_15 ⟨?_, rfl⟩
  rw [show (256 : Int32) = nI 256 from rfl, pk_mul, nI_add]
def p_addPair (P : pP) (j x : Nat) : pP := p_add (p_add P j (x % 256)) j (x / 256 % 256)
theorem c_addPair {j x : Nat} (h : RC g P M) (hj : j < 66) (hl : (b_ P 7 j).length + 1 < 64) (hx : x < 2 ^ 31) : sm_Run (D + 1) 109 0 (sm_ent 109 [.inr (some (g.1 7 j)), .inl (nI x)]) [] M (fun v M' => v = none ∧ RC g (p_addPair P j x) M') := by
  refine bb_109_0 ⟨rc_Ks h (c := 7) hj, ?_⟩
  rw [pk_andN (by omega) 8 (by decide)]
  refine ru_mono (c_add h hj (by omega)) ?_
  rintro v M1 ⟨rfl, h1⟩
  refine bb_109_9 ⟨rc_Ks h1 (c := 7) hj, ?_⟩
  rw [pk_shrN hx _ 8 (by decide), pk_andN (by omega) 8 (by decide)]
  refine ru_mono (c_add h1 hj (by unfold p_add; rw [b_Bs, List.length_append]; exact hl)) ?_
  rintro v M2 ⟨rfl, h2⟩
  exact bb_109_21 ⟨rfl, h2⟩
/-- Device.answer, answerData -/
def p_ans (P : pP) (d k : Nat) : pP := pS (pB (pS P 141 (60 + d) k) 7 (60 + d) []) 91 d 1
theorem c_answer {d k : Nat} (h : RC g P M) (hd : d < 6) (hk : k < 2 ^ 31) : sm_Run D 65 0 (sm_ent 65 [.inr (some (g.1 4 d)), .inl (nI k)]) [] M (fun v M' => v = none ∧ RC g (p_ans P d k) M') := by
  have r := (rc_D h hd).2.2.2.2.1
  have hj : 60 + d < 66 := by omega
  exact bb_65_0 ⟨rc_Ks h (c := 4) hd, _, r, rc_Ks h (c := 7) hj, _, r, rc_Ks h (c := 7) hj, rfl, rc_w (c := 4) (k := 11) (rc_pk0 (rc_w (c := 7) (k := 1) h (rc_st h (c := 7) hj) rfl hk rfl) hj) (rc_st h (c := 4) hd) rfl (by decide) rfl⟩
def p_ansD (P : pP) (d t e : Nat) : pP := pS (pS (p_ans P d (dkn t)) 89 d 3) 90 d e
theorem dkn_lt (t : Nat) : dkn t < 2 ^ 31 := by unfold dkn; split <;> decide
theorem c_answerData {d t e : Nat} (h : RC g P M) (hd : d < 6) (ht : t < 2 ^ 31) (he : e < 2 ^ 31) : sm_Run (D + 1) 66 0 (sm_ent 66 [.inr (some (g.1 4 d)), .inl (nI t), .inl (nI e)]) [] M (fun v M' => v = none ∧ RC g (p_ansD P d t e) M') := by
  refine bb_66_0 (ru_mono (c_dataKind ht) ?_)
  rintro v M1 ⟨rfl, rfl⟩
  refine bb_66_5 ⟨rc_Ks h (c := 4) hd, ru_mono (c_answer h hd (dkn_lt t)) ?_⟩
  rintro v M1 ⟨rfl, h1⟩
  exact bb_66_8 ⟨rc_Ks h1 (c := 4) hd, rfl, rc_w (c := 4) (k := 10) (rc_w (c := 4) (k := 9) h1 (rc_st h1 (c := 4) hd) rfl (show 3 < 2 ^ 31 by decide) rfl) (rc_st h1 (c := 4) hd) rfl he rfl⟩
/-- Device.find -/
def p_find (P : pP) (d w : Nat) : Option Nat := (List.range (s_ P 86 d)).find? (fun k => s_ P 100 (6 * d + k) == w)
theorem find_lt {P : pP} {d w k : Nat} (h : p_find P d w = some k) : k < s_ P 86 d ∧ s_ P 100 (6 * d + k) = w := by
  unfold p_find at h
  exact ⟨List.mem_range.mp (List.mem_of_find?_eq_some h), by simpa using List.find?_some h⟩
theorem rc_E (h : RC g P M) {d : Nat} (hd : d < 6) : s_ P 86 d ≤ 6 ∧ (∀ k, k < s_ P 86 d → g.2.1 5 (6 * d + k) = true) ∧ ∀ k, k < 6 → sm_R M (g.1 26 d) k = if g.2.1 5 (6 * d + k) = true then some (g.1 5 (6 * d + k)) else none := h.1.2.2.2.1 d hd
theorem rc_E1 (h : RC g P M) {d k : Nat} (hd : d < 6) (hk : k < s_ P 86 d) : g.2.1 5 (6 * d + k) = true ∧ sm_R M (g.1 26 d) k = some (g.1 5 (6 * d + k)) := by
  obtain ⟨h1, h2, h3⟩ := rc_E h hd
  refine ⟨h2 k hk, ?_⟩
  rw [h3 k (by omega), if_pos (h2 k hk)]
theorem rf_r {n i : Nat} {p : Nat → Bool} (h : i ≤ n) (hn : ∀ k, k < i → p k = false) : (List.range n).find? p = ((List.range' i (n - i)).find? p) := by
  have e : List.range n = List.range i ++ List.range' i (n - i) := by
    rw [List.range_eq_range', List.range_eq_range', show n = i + (n - i) by omega, ← List.range'_append_1]
    simp
  rw [e, List.find?_append, List.find?_eq_none.mpr (fun x hx => by rw [hn x (List.mem_range.mp hx)]; decide)]
  rfl
theorem c_find_loop {d w : Nat} (h : RC g P M) (hd : d < 6) (hw : w < 2 ^ 31) : ∀ (j i : Nat), i + j = s_ P 86 d → (∀ k, k < i → (s_ P 100 (6 * d + k) == w) = false) →
    sm_Run D 62 2 [some (.inr (some (g.1 4 d))), some (.inl (nI w)), some (.inl (nI i))] [] M (fun v M' => v = some (.inr ((p_find P d w).map (fun k => g.1 5 (6 * d + k)))) ∧ M = M') := by
  have h6 := (rc_E h hd).1
  have e6 : sm_I M (g.1 4 d) 6 = nI (s_ P 86 d) := rc_Is h (c := 4) hd rfl
  intro j
  induction j with
  | zero =>
    intro i hi hn
    obtain rfl : i = s_ P 86 d := by omega
    refine bb_62_2 ⟨rc_Ks h (c := 4) hd, fun _ => ⟨?_, rfl⟩, fun q => ?_⟩
    · have : p_find P d w = none := List.find?_eq_none.mpr (fun x hx => by rw [hn x (List.mem_range.mp hx)]; decide)
      rw [this]; rfl
    · rw [e6] at q; exact absurd (nI_le (Nat.le_refl _) (by omega)) q
  | succ j ih =>
    intro i hi hn
    obtain ⟨l5, r5⟩ := rc_E1 h hd (show i < s_ P 86 d by omega)
    have e0 : sm_I M (g.1 5 (6 * d + i)) 0 = nI (s_ P 100 (6 * d + i)) := rc_I h l5 rfl
    have b0 : s_ P 100 (6 * d + i) < 2 ^ 31 := rc_b h (c := 5) (k := 0) l5 rfl
    have hin : sm_in_ M (g.1 26 d) (nI i) := rc_in h (rc_st h (c := 26) hd) (by decide) (show i < 6 by omega) (by decide)
    have r5' : sm_R M (g.1 26 d) (nI i).toNatClampNeg = some (g.1 5 (6 * d + i)) := by rw [nI_clamp (by omega)]; exact r5
    refine bb_62_2 ⟨rc_Ks h (c := 4) hd, fun q => ?_, fun _ => ⟨_, (rc_D h hd).2.1, ⟨5, rc_Ks h (c := 26) hd⟩, hin, _, r5', rc_K h l5, fun q => ?_, fun q => ⟨_, (rc_D h hd).2.1, ⟨5, rc_Ks h (c := 26) hd⟩, hin, ?_, rfl⟩⟩⟩
    · rw [e6, nI_leI (by omega) (by omega)] at q; omega
    · rw [e0, nI_eq b0 hw] at q
      rw [nI_1]
      refine ih (i + 1) (by omega) (fun k hk => ?_)
      rcases Nat.lt_or_ge k i with h1 | h1
      · exact hn k h1
      · obtain rfl : k = i := by omega
        simpa using q
    · rw [Decidable.not_not, e0, nI_eq b0 hw] at q
      have : p_find P d w = some i := by
        unfold p_find
        rw [rf_r (i := i) (by omega) hn, show s_ P 86 d - i = (s_ P 86 d - i - 1) + 1 by omega, List.range'_succ]
        exact List.find?_cons_of_pos (by simpa using q)
      rw [this, r5']; rfl
theorem c_find {d w : Nat} (h : RC g P M) (hd : d < 6) (hw : w < 2 ^ 31) : sm_Run D 62 0 (sm_ent 62 [.inr (some (g.1 4 d)), .inl (nI w)]) [] M (fun v M' => v = some (.inr ((p_find P d w).map (fun k => g.1 5 (6 * d + k)))) ∧ M = M') :=
  bb_62_0 (c_find_loop h hd hw (s_ P 86 d) 0 (by omega) (fun k hk => absurd hk (Nat.not_lt_zero _)))
end PK
