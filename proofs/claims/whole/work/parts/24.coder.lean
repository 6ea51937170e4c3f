/-! WireBus$Coder: bits, the CHECK (nx_xor, co_sm: after kit/laws/BITS) -/
def bI (b : Bool) : Int32 := bif b then 1 else 0
theorem bI_inj {a b : Bool} : bI a = bI b ↔ a = b := by cases a <;> cases b <;> decide
theorem co_sm : ∀ n, n < 32 → ((nI n &&& 31).toBitVec.smod 32).toNat = n := by decide +kernel
theorem nx_xor (a b : Nat) : nI a ^^^ nI b = nI (a ^^^ b) := by
  apply Int32.toBitVec_inj.1
  show BitVec.ofNat 32 a ^^^ BitVec.ofNat 32 b = BitVec.ofNat 32 (a ^^^ b)
  apply BitVec.eq_of_getLsbD_eq
  intro i hi
  simp [BitVec.getLsbD_ofNat, hi, Nat.testBit_xor]
theorem co_bit {n i : Nat} (hn : n < 2 ^ 31) (hi : i < 32) : (nI n >>> (nI i &&& 31)) &&& 1 = bI (n.testBit i) := by
  have hd : n / 2 ^ i ≤ n := Nat.div_le_self _ _
  rw [pk_shrN hn _ i (co_sm i hi), pk_andN (m := 1) (by omega) 1 (by decide), Nat.testBit_eq_decide_div_mod_eq]
  rcases Nat.mod_two_eq_zero_or_one (n / 2 ^ i) with h | h <;> simp only [Nat.pow_one, h] <;> rfl
/-- only these places changed -/
def sm_Ch (T : Nat → Nat → Prop) (M M' : sm_M) : Prop := sm_K M' = sm_K M ∧ sm_L M' = sm_L M ∧ sm_R M' = sm_R M ∧ sm_S M' = sm_S M ∧ sm_N M' = sm_N M ∧ sm_U M' = sm_U M ∧ ∀ b k, ¬ T b k → sm_I M' b k = sm_I M b k
theorem ch_rf {T : Nat → Nat → Prop} {M : sm_M} : sm_Ch T M M := ⟨rfl, rfl, rfl, rfl, rfl, rfl, fun _ _ _ => rfl⟩
theorem ch_tr {T : Nat → Nat → Prop} {M M1 M2 : sm_M} (h : sm_Ch T M M1) (k : sm_Ch T M1 M2) : sm_Ch T M M2 := by
  obtain ⟨a1, a2, a3, a4, a5, a6, a7⟩ := h
  obtain ⟨b1, b2, b3, b4, b5, b6, b7⟩ := k
  exact ⟨b1.trans a1, b2.trans a2, b3.trans a3, b4.trans a4, b5.trans a5, b6.trans a6, fun b i hb => (b7 b i hb).trans (a7 b i hb)⟩
theorem ch_mo {T T' : Nat → Nat → Prop} {M M1 : sm_M} (h : sm_Ch T M M1) (hs : ∀ b k, T b k → T' b k) : sm_Ch T' M M1 := ⟨h.1, h.2.1, h.2.2.1, h.2.2.2.1, h.2.2.2.2.1, h.2.2.2.2.2.1, fun b k hb => h.2.2.2.2.2.2 b k (fun q => hb (hs b k q))⟩
theorem ch_put {T : Nat → Nat → Prop} {M : sm_M} {a k : Nat} {x : Int32} (ha : T a k) : sm_Ch T M (sm_putI M a k x) := ⟨rfl, rfl, rfl, rfl, rfl, rfl, fun b j hb => by
  rw [I_put, if_neg]
  rintro ⟨rfl, rfl⟩
  exact hb ha⟩
def co_S (M : sm_M) (a bA lA : Nat) : Prop := sm_K M a = 9 ∧ sm_R M a 0 = some bA ∧ sm_K M bA = 8 ∧ sm_L M bA = 560 ∧ sm_R M a 2 = some lA ∧ sm_K M lA = 11 ∧ sm_L M lA = 660
theorem co_S_ch {T : Nat → Nat → Prop} {M M' : sm_M} {a bA lA : Nat} (h : co_S M a bA lA) (c : sm_Ch T M M') : co_S M' a bA lA := by
  obtain ⟨c1, c2, c3, -⟩ := c
  unfold co_S
  rw [c1, c2, c3]
  exact h
/-- count and bits -/
def co_B (M : sm_M) (a bA : Nat) (l : List Bool) : Prop := sm_I M a 1 = nI l.length ∧ l.length ≤ 560 ∧ ∀ i, i < l.length → sm_I M bA i = bI (l.getD i false)
abbrev co_T (a bA : Nat) : Nat → Nat → Prop := fun b k => (b = a ∧ k = 1) ∨ b = bA
theorem co_addBit {d : Nat} {M : sm_M} {a bA lA : Nat} {l : List Bool} {b : Bool} (hS : co_S M a bA lA) (hB : co_B M a bA l) (hl : l.length < 560) : sm_Run d 39 0 (sm_ent 39 [.inr (some a), .inl (bI b)]) [] M (fun v M' => v = none ∧ co_B M' a bA (l ++ [b]) ∧ sm_Ch (co_T a bA) M M') := by
  obtain ⟨h1, h2, h3, h4, h5, h6, h7⟩ := hS
  obtain ⟨g1, g2, g3⟩ := hB
  have hne : a ≠ bA := by rintro rfl; omega
  refine bb_39_0 ⟨h1, bA, h2, by rw [h3]; decide, fun hc => ?_, fun hc => ⟨bA, h2, by unfold sm_wA; rw [h3]; decide, ?_, rfl, ⟨?_, ?_, fun i hi => ?_⟩, ch_tr (ch_put (Or.inr rfl)) (ch_put (Or.inl ⟨rfl, rfl⟩))⟩⟩
  · rw [h4, g1, show Int32.ofNat 560 = nI 560 from rfl, nI_leI (by decide) (by omega)] at hc
    omega
  · unfold sm_in_
    rw [g1, nI_toInt (by omega), h4]
    omega
  · rw [I_put_s, I_put_a hne, g1, nI_1, List.length_append]; rfl
  · rw [List.length_append]; exact hl
  · rw [List.length_append] at hi
    have hi : i < l.length + 1 := hi
    rw [I_put_a (Ne.symm hne), g1, nI_clamp (by omega)]
    by_cases he : i = l.length
    · subst he
      rw [I_put_s]; simp
    · rw [I_put_k he, g3 i (by omega)]
      simp [List.getD_eq_getElem?_getD, List.getElem?_append_left (show i < l.length by omega)]
/-- the lowest w bits of n, the lowest first -/
def nuB (n w : Nat) : List Bool := (List.range w).map (fun i => n.testBit i)
theorem nuB_s (n w : Nat) : nuB n (w + 1) = nuB n w ++ [n.testBit w] := by simp [nuB, List.range_succ]
theorem nuB_len (n w : Nat) : (nuB n w).length = w := by simp [nuB]
theorem co_num_loop {d : Nat} {a bA lA n w : Nat} {l : List Bool} (hn : n < 2 ^ 31) (hw : w ≤ 31) (hl : l.length + w ≤ 560) : ∀ (k i : Nat) (M : sm_M), i + k = w → co_S M a bA lA → co_B M a bA (l ++ nuB n i) →
    sm_Run (d + 1) 40 2 [some (.inr (some a)), some (.inl (nI n)), some (.inl (nI w)), some (.inl (nI i))] [] M (fun v M' => v = none ∧ co_B M' a bA (l ++ nuB n w) ∧ sm_Ch (co_T a bA) M M') := by
  intro k
  induction k with
  | zero =>
    intro i M hi hS hB
    obtain rfl : i = w := by omega
    refine bb_40_2 ⟨fun _ => ⟨rfl, hB, ch_rf⟩, fun hc => ?_⟩
    rw [nI_leI (by omega) (by omega)] at hc
    omega
  | succ k ih =>
    intro i M hi hS hB
    refine bb_40_2 ⟨fun hc => ?_, fun _ => ⟨hS.1, ?_⟩⟩
    · rw [nI_leI (by omega) (by omega)] at hc
      omega
    · rw [co_bit hn (by omega)]
      refine ru_mono (co_addBit hS hB (by rw [List.length_append, nuB_len]; omega)) (fun v M1 hv => ?_)
      obtain ⟨rfl, hB1, hC1⟩ := hv
      refine bb_40_16 ?_
      rw [nI_1]
      refine ru_mono (ih (i + 1) M1 (by omega) (co_S_ch hS hC1) (by rw [nuB_s, ← List.append_assoc]; exact hB1)) (fun v M2 hv => ?_)
      exact ⟨hv.1, hv.2.1, ch_tr hC1 hv.2.2⟩
theorem co_addNumber {d : Nat} {M : sm_M} {a bA lA n w : Nat} {l : List Bool} (hS : co_S M a bA lA) (hB : co_B M a bA l) (hn : n < 2 ^ 31) (hw : w ≤ 31) (hl : l.length + w ≤ 560) :
    sm_Run (d + 1) 40 0 (sm_ent 40 [.inr (some a), .inl (nI n), .inl (nI w)]) [] M (fun v M' => v = none ∧ co_B M' a bA (l ++ nuB n w) ∧ sm_Ch (co_T a bA) M M') := by
  refine bb_40_0 ?_
  exact co_num_loop hn hw hl w 0 M (by omega) hS (by simpa [nuB] using hB)
theorem co_shl {c w : Nat} (hc : c < 2 ^ w) (hw : w ≤ 16) : (nI c <<< ((1 : Int32) &&& 31)) &&& nI (2 ^ w - 1) = nI ((c <<< 1) % 2 ^ w) := by
  have h16 : 2 ^ w ≤ 2 ^ 16 := Nat.pow_le_pow_right (by decide) hw
  rw [pk_shlN _ 1 (by decide) (by omega), pk_andN (by omega) w (pk_tn (by omega)), Nat.shiftLeft_eq]
/-- the CHECK of bits 16 .. e - 1 -/
theorem co_chk_loop {d : Nat} {M : sm_M} {a bA lA w P e : Nat} {l : List Bool} (hS : co_S M a bA lA) (hB : co_B M a bA l) (hw0 : 0 < w) (hw : w ≤ 16) (hP : P < 2 ^ w) (he : e ≤ l.length) : ∀ (k i c : Nat) (z : Option sm_V), i + k = e → c < 2 ^ w →
    sm_Run d 42 26 [some (.inr (some a)), some (.inl (nI e)), some (.inl (nI w)), some (.inl (nI (2 ^ w - 1))), some (.inl (nI P)), some (.inl (nI c)), some (.inl (nI i)), z] [] M (fun v M' => v = some (.inl (nI (cr_F w P c ((l.take e).drop i) ^^^ (2 ^ w - 1)))) ∧ M' = M) := by
  obtain ⟨h1, h2, h3, h4, h5, h6, h7⟩ := hS
  obtain ⟨g1, g2, g3⟩ := hB
  have h16 : 2 ^ w ≤ 2 ^ 16 := Nat.pow_le_pow_right (by decide) hw
  intro k
  induction k with
  | zero =>
    intro i c z hi hc
    obtain rfl : i = e := by omega
    refine bb_42_26 ⟨fun _ => ⟨?_, rfl⟩, fun q => ?_⟩
    · rw [List.drop_eq_nil_of_le (by rw [List.length_take]; omega), nx_xor]; rfl
    · exact absurd (nI_le (Nat.le_refl i) (by omega)) q
  | succ k ih =>
    intro i c z hi hc
    have hlt : i < (l.take e).length := by rw [List.length_take]; omega
    have hdr : (l.take e).drop i = l.getD i false :: (l.take e).drop (i + 1) := by
      rw [List.drop_eq_getElem_cons hlt]
      congr 1
      rw [List.getElem_take, List.getD_eq_getElem?_getD, List.getElem?_eq_getElem (by omega)]; rfl
    refine bb_42_26 ⟨fun q => ?_, fun _ => ⟨h1, bA, h2, by rw [h3]; decide, fun q => ?_, fun _ => ⟨bA, h2, by unfold sm_iA; rw [h3]; decide, ?_, ?_⟩⟩⟩
    · rw [nI_leI (by omega) (by omega)] at q; omega
    · rw [h4, show Int32.ofNat 560 = nI 560 from rfl, nI_leI (by decide) (by omega)] at q; omega
    · unfold sm_in_; rw [nI_toInt (by omega), h4]; omega
    · rw [nI_clamp (by omega), g3 i (by omega), show (nI w - 1 : Int32) = nI (w - 1) from by rw [show (1 : Int32) = nI 1 from rfl, pk_sub hw0], co_bit (by omega) (by omega), co_shl hc hw, nI_1, hdr]
      show (_ → sm_Run _ _ _ _ _ _ (fun v M' => v = some (.inl (nI (cr_F w P (cr_s w P c (l.getD i false)) _ ^^^ _))) ∧ M' = M)) ∧ (_ → sm_Run _ _ _ _ _ _ (fun v M' => v = some (.inl (nI (cr_F w P (cr_s w P c (l.getD i false)) _ ^^^ _))) ∧ M' = M))
      refine ⟨fun q => ?_, fun q => ?_⟩
      · have e9 : cr_s w P c (l.getD i false) = (c <<< 1) % 2 ^ w := by
          rw [bI_inj] at q
          unfold cr_s
          rw [q]; simp
        rw [e9]
        exact ih (i + 1) _ _ (by omega) (Nat.mod_lt _ (Nat.two_pow_pos w))
      · have e9 : cr_s w P c (l.getD i false) = (c <<< 1) % 2 ^ w ^^^ P := by
          rw [bI_inj] at q
          unfold cr_s
          rw [if_pos (by simpa using q), Nat.xor_comm]
        rw [e9, nx_xor]
        exact ih (i + 1) _ _ (by omega) (Nat.xor_lt_two_pow (Nat.mod_lt _ (Nat.two_pow_pos w)) hP)
def cr_poly (w : Nat) : Nat := if w = 5 then 5 else 32773
theorem co_all : ∀ w, w = 5 ∨ w = 16 → ((1 : Int32) <<< (nI w &&& 31)) - 1 = nI (2 ^ w - 1) := by
  rintro w (rfl | rfl) <;> decide
theorem co_check {d : Nat} {M : sm_M} {a bA lA w e : Nat} {l : List Bool} (hS : co_S M a bA lA) (hB : co_B M a bA l) (hw : w = 5 ∨ w = 16) (h16 : 16 ≤ e) (he : e ≤ l.length) :
    sm_Run d 42 0 (sm_ent 42 [.inr (some a), .inl (nI e), .inl (nI w)]) [] M (fun v M' => v = some (.inl (nI (cr_F w (cr_poly w) (2 ^ w - 1) ((l.take e).drop 16) ^^^ (2 ^ w - 1)))) ∧ M' = M) := by
  have hp := Nat.two_pow_pos w
  refine bb_42_0 ⟨fun hc => ?_, fun hc => ?_⟩
  · have h9 : w = 16 := by
      rcases hw with rfl | rfl
      · exact absurd rfl hc
      · rfl
    subst h9
    rw [co_all 16 (Or.inr rfl)]
    exact co_chk_loop (P := 32773) hS hB (by decide) (by decide) (by decide) he (e - 16) 16 (2 ^ 16 - 1) _ (by omega) (by decide)
  · have h9 : w = 5 := by
      rcases hw with rfl | rfl
      · rfl
      · exact absurd (Decidable.not_not.mp hc) (by decide)
    subst h9
    rw [co_all 5 (Or.inl rfl)]
    exact co_chk_loop (P := 5) hS hB (by decide) (by decide) (by decide) he (e - 16) 16 (2 ^ 5 - 1) _ (by omega) (by decide)
theorem co_ack_loop {d : Nat} {a bA lA w c : Nat} (hc : c < 2 ^ 31) : ∀ (k : Nat) (M : sm_M) (l : List Bool), k ≤ 31 → l.length + k ≤ 560 → co_S M a bA lA → co_B M a bA l →
    sm_Run (d + 1) 41 14 [some (.inr (some a)), some (.inl (nI w)), some (.inl (nI c)), some (.inl (nI k + (-1)))] [] M (fun v M' => v = none ∧ co_B M' a bA (l ++ cr_b c k) ∧ sm_Ch (co_T a bA) M M') := by
  intro k
  induction k with
  | zero =>
    intro M l _ _ hS hB
    refine bb_41_14 ⟨fun _ => ⟨rfl, by simpa [cr_b] using hB, ch_rf⟩, fun q => absurd (by decide) q⟩
  | succ k ih =>
    intro M l hk hl hS hB
    rw [pk_m1]
    refine bb_41_14 ⟨fun q => absurd q (nI_pos (by omega)), fun _ => ⟨hS.1, ?_⟩⟩
    rw [co_bit hc (by omega)]
    refine ru_mono (co_addBit hS hB (by omega)) (fun v M1 hv => ?_)
    obtain ⟨rfl, hB1, hC1⟩ := hv
    refine bb_41_27 ?_
    refine ru_mono (ih M1 (l ++ [c.testBit k]) (by omega) (by rw [List.length_append]; show l.length + 1 + k ≤ 560; omega) (co_S_ch hS hC1) hB1) (fun v M2 hv => ?_)
    refine ⟨hv.1, ?_, ch_tr hC1 hv.2.2⟩
    have := hv.2.1
    rw [List.append_assoc] at this
    exact this
theorem cr_b_not {c w : Nat} : ∀ n, n ≤ w → cr_b (c ^^^ (2 ^ w - 1)) n = (cr_b c n).map (fun b => !b)
  | 0, _ => rfl
  | n + 1, h => by
    show (c ^^^ (2 ^ w - 1)).testBit n :: cr_b (c ^^^ (2 ^ w - 1)) n = (!c.testBit n) :: (cr_b c n).map (fun b => !b)
    rw [cr_b_not n (by omega), Nat.testBit_xor, Nat.testBit_two_pow_sub_one]
    simp [show n < w by omega]
theorem co_addCheck {d : Nat} {M : sm_M} {a bA lA w : Nat} {l : List Bool} (hS : co_S M a bA lA) (hB : co_B M a bA l) (hw : w = 5 ∨ w = 16) (h16 : 16 ≤ l.length) (hl : l.length + w ≤ 560) :
    sm_Run (d + 1) 41 0 (sm_ent 41 [.inr (some a), .inl (nI w)]) [] M (fun v M' => v = none ∧ co_B M' a bA (l ++ (cr_b (cr_F w (cr_poly w) (2 ^ w - 1) (l.drop 16)) w).map (fun b => !b)) ∧ sm_Ch (co_T a bA) M M') := by
  refine bb_41_0 ⟨hS.1, ?_⟩
  rw [hB.1]
  refine ru_mono (co_check hS hB hw h16 (Nat.le_refl _)) (fun v M1 hv => ?_)
  obtain ⟨rfl, rfl⟩ := hv
  refine bb_41_9 ?_
  rw [List.take_length]
  have hP : cr_poly w < 2 ^ w := by rcases hw with rfl | rfl <;> decide
  have hF : cr_F w (cr_poly w) (2 ^ w - 1) (l.drop 16) < 2 ^ w := cr_F_lt hP _ _ (by have := Nat.two_pow_pos w; omega)
  have h31 : 2 ^ w ≤ 2 ^ 16 := Nat.pow_le_pow_right (by decide) (by omega)
  have hx : cr_F w (cr_poly w) (2 ^ w - 1) (l.drop 16) ^^^ (2 ^ w - 1) < 2 ^ w := Nat.xor_lt_two_pow hF (by have := Nat.two_pow_pos w; omega)
  rw [← cr_b_not w (Nat.le_refl _)]
  have e9 : nI w - 1 = nI w + (-1) := by rcases hw with rfl | rfl <;> decide
  rw [e9]
  exact co_ack_loop (Nat.lt_of_lt_of_le hx (by omega)) w _ l (by omega) hl hS hB
/-- length and levels -/
def co_L (M : sm_M) (a lA : Nat) (v : List Int32) : Prop := sm_I M a 3 = nI v.length ∧ v.length ≤ 660 ∧ ∀ i, i < v.length → sm_I M lA i = v.getD i 0
abbrev co_TL (a lA : Nat) : Nat → Nat → Prop := fun b k => (b = a ∧ k = 3) ∨ b = lA
theorem co_addLevel {d : Nat} {M : sm_M} {a bA lA : Nat} {v : List Int32} {x : Int32} (hS : co_S M a bA lA) (hL : co_L M a lA v) (hl : v.length < 660) : sm_Run d 43 0 (sm_ent 43 [.inr (some a), .inl x]) [] M (fun w M' => w = none ∧ co_L M' a lA (v ++ [x]) ∧ sm_Ch (co_TL a lA) M M') := by
  obtain ⟨h1, h2, h3, h4, h5, h6, h7⟩ := hS
  obtain ⟨g1, g2, g3⟩ := hL
  have hne : a ≠ lA := by rintro rfl; omega
  refine bb_43_0 ⟨h1, lA, h5, by rw [h6]; decide, fun hc => ?_, fun hc => ⟨lA, h5, by unfold sm_wA; rw [h6]; decide, ?_, rfl, ⟨?_, ?_, fun i hi => ?_⟩, ch_tr (ch_put (Or.inr rfl)) (ch_put (Or.inl ⟨rfl, rfl⟩))⟩⟩
  · rw [h7, g1, show Int32.ofNat 660 = nI 660 from rfl, nI_leI (by decide) (by omega)] at hc
    omega
  · unfold sm_in_
    rw [g1, nI_toInt (by omega), h7]
    omega
  · rw [I_put_s, I_put_a hne, g1, nI_1, List.length_append]; rfl
  · rw [List.length_append]; exact hl
  · rw [List.length_append] at hi
    have hi : i < v.length + 1 := hi
    rw [I_put_a (Ne.symm hne), g1, nI_clamp (by omega)]
    by_cases he : i = v.length
    · subst he
      rw [I_put_s]; simp
    · rw [I_put_k he, g3 i (by omega)]
      simp [List.getD_eq_getElem?_getD, List.getElem?_append_left (show i < v.length by omega)]
