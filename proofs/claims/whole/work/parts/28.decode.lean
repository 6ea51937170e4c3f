/-! Coder.decode: a row of levels is read only if it is a packet's -/
theorem nx_or (a b : Nat) : nI a ||| nI b = nI (a ||| b) := by
  apply Int32.toBitVec_inj.1
  show BitVec.ofNat 32 a ||| BitVec.ofNat 32 b = BitVec.ofNat 32 (a ||| b)
  apply BitVec.eq_of_getLsbD_eq
  intro i hi
  simp [BitVec.getLsbD_ofNat, hi, Nat.testBit_or]
/-- the number whose bits these are, the lowest first -/
def vlB : List Bool → Nat
  | [] => 0
  | b :: r => (bif b then 1 else 0) + 2 * vlB r
theorem vlB_app (x : List Bool) (b : Bool) : vlB (x ++ [b]) = vlB x + (bif b then 2 ^ x.length else 0) := by
  induction x with
  | nil => cases b <;> rfl
  | cons c x ih =>
    show (bif c then 1 else 0) + 2 * vlB (x ++ [b]) = (bif c then 1 else 0) + 2 * vlB x + _
    rw [ih]
    cases b <;> simp [Nat.pow_succ] <;> omega
theorem vlB_lt (x : List Bool) : vlB x < 2 ^ x.length := by
  induction x with
  | nil => decide
  | cons c x ih =>
    show (bif c then 1 else 0) + 2 * vlB x < 2 ^ (x.length + 1)
    rw [Nat.pow_succ]
    cases c <;> simp <;> omega
theorem nu_or {v i : Nat} {b : Bool} (hv : v < 2 ^ i) (hi : i < 12) : nI v ||| (bI b <<< (nI i &&& 31)) = nI (v + (bif b then 2 ^ i else 0)) := by
  have h12 : 2 ^ i < 2 ^ 12 := Nat.pow_lt_pow_right (by decide) hi
  cases b
  · show nI v ||| (nI 0 <<< (nI i &&& 31)) = _
    rw [pk_shlN _ i (co_sm i (by omega)) (by omega), nx_or]
    simp
  · show nI v ||| (nI 1 <<< (nI i &&& 31)) = _
    rw [pk_shlN _ i (co_sm i (by omega)) (by omega), nx_or, Nat.one_mul]
    congr 1
    have := Nat.two_pow_add_eq_or_of_lt hv 1
    rw [Nat.mul_one] at this
    rw [Nat.or_comm, ← this, Nat.add_comm]; rfl
theorem take_s {l : List Bool} {i : Nat} (h : i < l.length) : l.take (i + 1) = l.take i ++ [l.getD i false] := by
  rw [List.take_add_one, List.getElem?_eq_getElem h, List.getD_eq_getElem?_getD, List.getElem?_eq_getElem h]; rfl
theorem co_num_at_loop {d : Nat} {M : sm_M} {a bA lA f w : Nat} {l : List Bool} (hS : co_S M a bA lA) (hB : co_B M a bA l) (hf : f ≤ l.length) (hw : w ≤ 12) : ∀ (k i : Nat), i + k = w → i ≤ (l.drop f).length →
    sm_Run d 51 5 [some (.inr (some a)), some (.inl (nI f)), some (.inl (nI w)), some (.inl (nI (vlB ((l.drop f).take i)))), some (.inl (nI i))] [] M (fun v M' => v = some (.inl (nI (vlB ((l.drop f).take w)))) ∧ M' = M) := by
  obtain ⟨h1, h2, h3, h4, h5, h6, h7⟩ := hS
  obtain ⟨g1, g2, g3⟩ := hB
  intro k
  induction k with
  | zero =>
    intro i hi hl
    obtain rfl : i = w := by omega
    exact bb_51_5 ⟨fun _ => ⟨rfl, rfl⟩, fun q => absurd (nI_le (Nat.le_refl i) (by omega)) q⟩
  | succ k ih =>
    intro i hi hl
    rw [List.length_drop] at hl
    refine bb_51_5 ⟨fun q => ?_, fun _ => ⟨h1, fun q => ⟨?_, rfl⟩, fun q => ⟨bA, h2, by unfold sm_iA; rw [h3]; decide, ?_, ?_⟩⟩⟩
    · rw [nI_leI (by omega) (by omega)] at q; omega
    · rw [g1, nI_add, nI_leI (by omega) (by omega)] at q
      rw [List.take_of_length_le (by rw [List.length_drop]; omega), List.take_of_length_le (by rw [List.length_drop]; omega)]
    · rw [g1, nI_add, nI_leI (by omega) (by omega)] at q
      unfold sm_in_; rw [nI_add, nI_toInt (by omega), h4]; omega
    · rw [g1, nI_add, nI_leI (by omega) (by omega)] at q
      have hx : ((l.drop f).take i).length = i := by rw [List.length_take, List.length_drop]; omega
      have hv := vlB_lt ((l.drop f).take i)
      rw [hx] at hv
      rw [nI_add, nI_clamp (by omega), g3 _ (by omega), nu_or hv (by omega), nI_1]
      have e : vlB ((l.drop f).take i) + (bif l.getD (f + i) false then 2 ^ i else 0) = vlB ((l.drop f).take (i + 1)) := by
        rw [take_s (by rw [List.length_drop]; omega), vlB_app, hx]
        simp [List.getD_eq_getElem?_getD, List.getElem?_drop]
      rw [e]
      exact ih (i + 1) (by omega) (by rw [List.length_drop]; omega)
theorem co_num_at {d : Nat} {M : sm_M} {a bA lA f w : Nat} {l : List Bool} (hS : co_S M a bA lA) (hB : co_B M a bA l) (hf : f ≤ l.length) (hw : w ≤ 12) :
    sm_Run d 51 0 (sm_ent 51 [.inr (some a), .inl (nI f), .inl (nI w)]) [] M (fun v M' => v = some (.inl (nI (vlB ((l.drop f).take w)))) ∧ M' = M) :=
  bb_51_0 (co_num_at_loop hS hB hf hw w 0 (by omega) (Nat.zero_le _))
theorem cr_b_drop (c : Nat) : ∀ (n i : Nat), i < n → (cr_b c n).drop i = c.testBit (n - 1 - i) :: (cr_b c n).drop (i + 1)
  | 0, i, h => absurd h (Nat.not_lt_zero _)
  | n + 1, 0, _ => by simp [cr_b]
  | n + 1, i + 1, h => by
    show (cr_b c n).drop i = _ :: (cr_b c n).drop (i + 1)
    rw [cr_b_drop c n i (by omega)]
    congr 2; omega
theorem co_ck_loop {d : Nat} {M : sm_M} {a bA lA w c e : Nat} {l : List Bool} (hS : co_S M a bA lA) (hB : co_B M a bA l) (hw : w ≤ 16) (hc : c < 2 ^ 31) (he : e + w = l.length) : ∀ (k i : Nat), i + k = w →
    sm_Run (d + 1) 50 17 [some (.inr (some a)), some (.inl (nI w)), some (.inl (nI e)), some (.inl (nI c)), some (.inl (nI i))] [] M (fun v M' => (v = some (.inl 0) ∨ (v = some (.inl 1) ∧ l.drop (e + i) = (cr_b c w).drop i)) ∧ M' = M) := by
  obtain ⟨h1, h2, h3, h4, h5, h6, h7⟩ := hS
  obtain ⟨g1, g2, g3⟩ := hB
  intro k
  induction k with
  | zero =>
    intro i hi
    obtain rfl : i = w := by omega
    refine bb_50_17 ⟨fun _ => ⟨Or.inr ⟨rfl, ?_⟩, rfl⟩, fun q => absurd (nI_le (Nat.le_refl i) (by omega)) q⟩
    rw [List.drop_eq_nil_of_le (by omega), List.drop_eq_nil_of_le (by rw [cr_b_len]; omega)]
  | succ k ih =>
    intro i hi
    refine bb_50_17 ⟨fun q => ?_, fun _ => ⟨fun q => absurd q (nI_pos (by omega)), fun _ => ⟨h1, bA, h2, by unfold sm_iA; rw [h3]; decide, ?_, fun q => ?_, fun _ => ⟨Or.inl rfl, rfl⟩⟩⟩⟩
    · rw [nI_leI (by omega) (by omega)] at q; omega
    · unfold sm_in_; rw [nI_add, nI_toInt (by omega), h4]; omega
    · rw [nI_add, nI_clamp (by omega), g3 _ (by omega), show (1 : Int32) = nI 1 from rfl, pk_sub (by omega), pk_sub (by omega)] at q
      rw [show (nI 1 : Int32) = 1 from rfl, co_bit hc (by omega), bI_inj] at q
      rw [nI_1]
      refine ru_mono (ih (i + 1) (by omega)) (fun v M' hv => ⟨?_, hv.2⟩)
      rcases hv.1 with hv | ⟨hv, hx⟩
      · exact Or.inl hv
      · refine Or.inr ⟨hv, ?_⟩
        rw [drop_cons (by omega), q, cr_b_drop c w i (by omega)]
        congr 1
theorem co_isChecked {d : Nat} {M : sm_M} {a bA lA w : Nat} {l : List Bool} (hS : co_S M a bA lA) (hB : co_B M a bA l) (hw : w = 5 ∨ w = 16) (hl : 16 + w ≤ l.length) :
    sm_Run (d + 1) 50 0 (sm_ent 50 [.inr (some a), .inl (nI w)]) [] M (fun v M' => (v = some (.inl 0) ∨ (v = some (.inl 1) ∧ pk_ck w (cr_poly w) (l.drop 16))) ∧ M' = M) := by
  refine bb_50_0 ⟨hS.1, ?_⟩
  rw [hB.1, pk_sub (by omega)]
  refine ru_mono (co_check hS hB hw (e := l.length - w) (by omega) (by omega)) (fun v M1 hv => ?_)
  obtain ⟨rfl, rfl⟩ := hv
  have hP : cr_poly w < 2 ^ w := by rcases hw with rfl | rfl <;> decide
  have hF : cr_F w (cr_poly w) (2 ^ w - 1) ((l.take (l.length - w)).drop 16) < 2 ^ w := cr_F_lt hP _ _ (by have := Nat.two_pow_pos w; omega)
  have h31 : 2 ^ w ≤ 2 ^ 16 := Nat.pow_le_pow_right (by decide) (by omega)
  have hx : cr_F w (cr_poly w) (2 ^ w - 1) ((l.take (l.length - w)).drop 16) ^^^ (2 ^ w - 1) < 2 ^ w := Nat.xor_lt_two_pow hF (by have := Nat.two_pow_pos w; omega)
  refine bb_50_13 ?_
  have hl5 := hB.2.1
  refine ru_mono (co_ck_loop hS hB (by omega) (by omega) (e := l.length - w) (by omega) w 0 (by omega)) (fun v M' hv => ⟨?_, hv.2⟩)
  rcases hv.1 with hv | ⟨hv, hx⟩
  · exact Or.inl hv
  · refine Or.inr ⟨hv, (l.take (l.length - w)).drop 16, ?_⟩
    rw [List.drop_zero, Nat.add_zero, cr_b_not w (Nat.le_refl _)] at hx
    rw [← hx]
    have e1 : l = l.take (l.length - w) ++ l.drop (l.length - w) := (List.take_append_drop _ _).symm
    conv => lhs; rw [e1]
    rw [List.drop_append_of_le_length (by rw [List.length_take]; omega)]
/-- what liftBits makes of levels -/
def lf_d (last : Int32) (o : Nat) : List Int32 → Option (List Bool)
  | [] => if o < 6 then some [] else none
  | x :: r => if x = 2 then none else if o < 6 then (lf_d x (if x = last then o + 1 else 0) r).map (fun l => decide (x = last) :: l) else if x = last then none else lf_d x 0 r
theorem co_addBit_sat {d : Nat} {M : sm_M} {a bA lA : Nat} {l : List Bool} {b : Bool} (hS : co_S M a bA lA) (hB : co_B M a bA (l.take 560)) : sm_Run d 39 0 (sm_ent 39 [.inr (some a), .inl (bI b)]) [] M (fun v M' => v = none ∧ co_B M' a bA ((l ++ [b]).take 560) ∧ sm_Ch (co_T a bA) M M') := by
  by_cases h : l.length < 560
  · rw [List.take_of_length_le (by omega)] at hB
    rw [List.take_of_length_le (by simp; omega)]
    exact co_addBit hS hB h
  · obtain ⟨h1, h2, h3, h4, h5, h6, h7⟩ := hS
    refine bb_39_0 ⟨h1, bA, h2, by rw [h3]; decide, fun hc => ⟨rfl, ?_, ch_rf⟩, fun hc => ?_⟩
    · rw [List.take_append_of_le_length (by omega)]; exact hB
    · have := hB.1
      rw [List.length_take, Nat.min_eq_left (by omega)] at this
      rw [h4, this] at hc
      exact absurd (by decide) hc
theorem co_L_T1 {M M' : sm_M} {a bA lA : Nat} {v : List Int32} (hS : co_S M a bA lA) (hL : co_L M a lA v) (hC : sm_Ch (co_T a bA) M M') : co_L M' a lA v := co_L_T hS hL hC
theorem co_lift_loop {d : Nat} {a bA lA : Nat} {v : List Int32} (hv3 : 3 ≤ v.length) (hlv : ∀ x ∈ v, x = 0 ∨ x = 1 ∨ x = 2) : ∀ (k i o : Nat) (last : Int32) (M : sm_M) (l : List Bool) (z4 z5 : Option sm_V), i + k = v.length - 3 → o ≤ 6 → co_S M a bA lA → co_L M a lA v → co_B M a bA (l.take 560) →
    sm_Run (d + 1) 48 11 [some (.inr (some a)), some (.inl last), some (.inl (nI o)), some (.inl (nI i)), z4, z5] [] M (fun w M' => (w = some (.inl 0) ∨ (w = some (.inl 1) ∧ ∃ l', lf_d last o ((v.take (v.length - 3)).drop i) = some l' ∧ co_B M' a bA ((l ++ l').take 560))) ∧ sm_Ch (co_T a bA) M M') := by
  intro k
  induction k with
  | zero =>
    intro i o last M l z4 z5 hi ho hS hL hB
    obtain ⟨h1, h2, h3, h4, h5, h6, h7⟩ := hS
    refine bb_48_11 ⟨h1, fun _ => ⟨fun _ => ⟨Or.inl rfl, ch_rf⟩, fun q => ⟨Or.inr ⟨rfl, [], ?_, ?_⟩, ch_rf⟩⟩, fun q => ?_⟩
    · rw [List.drop_eq_nil_of_le (by rw [List.length_take]; omega)]
      rw [show (6 : Int32) = nI 6 from rfl, nI_leI (by decide) (by omega)] at q
      show (if o < 6 then some [] else none) = some []
      rw [if_pos (by omega)]
    · rw [List.append_nil]; exact hB
    · have hl := hL.2.1
      rw [hL.1, show (3 : Int32) = nI 3 from rfl, pk_sub (by omega), nI_leI (by omega) (by omega)] at q
      omega
  | succ k ih =>
    intro i o last M l z4 z5 hi ho hS hL hB
    have hS' := hS
    obtain ⟨h1, h2, h3, h4, h5, h6, h7⟩ := hS
    have hl := hL.2.1
    have hdr : (v.take (v.length - 3)).drop i = v.getD i 0 :: (v.take (v.length - 3)).drop (i + 1) := by
      rw [List.drop_eq_getElem_cons (by rw [List.length_take]; omega)]
      congr 1
      rw [List.getElem_take, List.getD_eq_getElem?_getD, List.getElem?_eq_getElem (by omega)]; rfl
    have hI : sm_I M lA (nI i).toNatClampNeg = v.getD i 0 := by rw [nI_clamp (by omega)]; exact hL.2.2 i (by omega)
    have step : ∀ (M1 : sm_M) (b : Bool) (z5 : Option sm_V) (o' : Nat), (b = decide (v.getD i 0 = last)) → v.getD i 0 ≠ 2 → o < 6 → o' = (if v.getD i 0 = last then o + 1 else 0) → co_B M1 a bA ((l ++ [b]).take 560) → sm_Ch (co_T a bA) M M1 →
        sm_Run (d + 1) 48 11 [some (.inr (some a)), some (.inl (v.getD i 0)), some (.inl (nI o')), some (.inl (nI (i + 1))), some (.inl (v.getD i 0)), z5] [] M1 (fun w M' => (w = some (.inl 0) ∨ (w = some (.inl 1) ∧ ∃ l', lf_d last o (v.getD i 0 :: (v.take (v.length - 3)).drop (i + 1)) = some l' ∧ co_B M' a bA ((l ++ l').take 560))) ∧ sm_Ch (co_T a bA) M M') := by
      intro M1 b z5 o' hb h2' ho6 ho' hB1 hC1
      refine ru_mono (ih (i + 1) o' (v.getD i 0) M1 (l ++ [b]) _ z5 (by omega) (by rw [ho']; split <;> omega) (co_S_ch hS' hC1) (co_L_T hS' hL hC1) hB1) (fun w M' hw => ⟨?_, ch_tr hC1 hw.2⟩)
      rcases hw.1 with hw | ⟨hw, l', e1, e2⟩
      · exact Or.inl hw
      · refine Or.inr ⟨hw, b :: l', ?_, ?_⟩
        · show (if v.getD i 0 = 2 then none else if o < 6 then (lf_d (v.getD i 0) (if v.getD i 0 = last then o + 1 else 0) _).map (fun l => decide (v.getD i 0 = last) :: l) else _) = _
          rw [if_neg h2', if_pos ho6, ← ho', e1, hb]; rfl
        · rw [List.append_assoc] at e2; exact e2
    refine bb_48_11 ⟨h1, fun q => ?_, fun _ => ⟨lA, h5, by unfold sm_iA; rw [h6]; decide, ?_, ?_⟩⟩
    · rw [hL.1, show (3 : Int32) = nI 3 from rfl, pk_sub (by omega), nI_leI (by omega) (by omega)] at q
      omega
    · unfold sm_in_; rw [nI_toInt (by omega), h7]; omega
    · rw [hI, hdr]
      refine ⟨fun n2 => ⟨fun nl => ⟨fun q => ?_, fun q => ?_⟩, fun nl => ⟨fun q => ⟨Or.inl rfl, ch_rf⟩, fun q => ?_⟩⟩, fun _ => ⟨Or.inl rfl, ch_rf⟩⟩
      · rw [show (6 : Int32) = nI 6 from rfl, nI_leI (by decide) (by omega)] at q
        refine bb_48_76 ⟨fun _ => ?_, fun q => absurd (by decide) q⟩
        rw [nI_1]
        refine ru_mono (ih (i + 1) 0 (v.getD i 0) M l _ _ (by omega) (by omega) hS' hL hB) (fun w M' hw => ⟨?_, hw.2⟩)
        rcases hw.1 with hw | ⟨hw, l', e1, e2⟩
        · exact Or.inl hw
        · refine Or.inr ⟨hw, l', ?_, e2⟩
          show (if v.getD i 0 = 2 then none else if o < 6 then _ else if v.getD i 0 = last then none else lf_d (v.getD i 0) 0 _) = _
          rw [if_neg n2, if_neg (by omega), if_neg nl]; exact e1
      · rw [show (6 : Int32) = nI 6 from rfl, nI_leI (by decide) (by omega)] at q
        refine ru_mono (co_addBit_sat (b := false) hS' hB) (fun w M1 hw => ?_)
        obtain ⟨rfl, hB1, hC1⟩ := hw
        refine bb_48_65 (bb_48_76 ⟨fun _ => ?_, fun q => absurd (by decide) q⟩)
        rw [nI_1]
        exact step M1 false _ 0 (by rw [decide_eq_false nl]) n2 (by omega) (by rw [if_neg nl]) hB1 hC1
      · rw [Decidable.not_not] at nl
        rw [show (6 : Int32) = nI 6 from rfl, nI_leI (by decide) (by omega)] at q
        refine ru_mono (co_addBit_sat (b := true) hS' hB) (fun w M1 hw => ?_)
        obtain ⟨rfl, hB1, hC1⟩ := hw
        refine bb_48_65 (bb_48_76 ⟨fun q => absurd rfl q, fun _ => ?_⟩)
        rw [nI_1, nI_1]
        exact step M1 true _ (o + 1) (by rw [decide_eq_true nl]) n2 (by omega) (by rw [if_pos nl]) hB1 hC1
theorem co_liftBits {d : Nat} {M : sm_M} {a bA lA : Nat} {v : List Int32} (hv3 : 3 ≤ v.length) (hlv : ∀ x ∈ v, x = 0 ∨ x = 1 ∨ x = 2) (hS : co_S M a bA lA) (hL : co_L M a lA v) :
    sm_Run (d + 1) 48 0 (sm_ent 48 [.inr (some a)]) [] M (fun w M' => (w = some (.inl 0) ∨ (w = some (.inl 1) ∧ ∃ l', lf_d 1 0 (v.take (v.length - 3)) = some l' ∧ co_B M' a bA (l'.take 560))) ∧ sm_Ch (co_T a bA) M M') := by
  have hC0 : sm_Ch (co_T a bA) M (sm_putI M a 1 0) := ch_put (Or.inl ⟨rfl, rfl⟩)
  refine bb_48_0 ⟨hS.1, ?_⟩
  refine ru_mono (co_lift_loop hv3 hlv (v.length - 3) 0 0 1 _ [] _ _ (by omega) (by omega) (co_S_ch hS hC0) (co_L_T hS hL hC0) ⟨I_put_s, Nat.zero_le _, fun i hi => absurd hi (Nat.not_lt_zero _)⟩) (fun w M' hw => ⟨hw.1, ch_tr hC0 hw.2⟩)
theorem co_hasTail {d : Nat} {M : sm_M} {a bA lA : Nat} {v : List Int32} (hS : co_S M a bA lA) (hL : co_L M a lA v) :
    sm_Run d 47 0 (sm_ent 47 [.inr (some a)]) [] M (fun w M' => (w = some (.inl 0) ∨ (w = some (.inl 1) ∧ 3 < v.length ∧ v.getD (v.length - 1) 0 = 1 ∧ v.getD (v.length - 2) 0 = 2 ∧ v.getD (v.length - 3) 0 = 2)) ∧ M' = M) := by
  obtain ⟨h1, h2, h3, h4, h5, h6, h7⟩ := hS
  obtain ⟨g1, g2, g3⟩ := hL
  have hA : sm_iA M lA := by unfold sm_iA; rw [h6]; decide
  refine bb_47_0 ⟨h1, fun _ => ⟨Or.inl rfl, rfl⟩, fun q => ?_⟩
  rw [g1, show (3 : Int32) = nI 3 from rfl, nI_leI (by omega) (by decide)] at q
  have e1 : nI v.length - 1 = nI (v.length - 1) := by rw [show (1 : Int32) = nI 1 from rfl, pk_sub (by omega)]
  have e2 : nI v.length - 2 = nI (v.length - 2) := by rw [show (2 : Int32) = nI 2 from rfl, pk_sub (by omega)]
  have e3 : nI v.length - 3 = nI (v.length - 3) := by rw [show (3 : Int32) = nI 3 from rfl, pk_sub (by omega)]
  rw [g1, e1, e2, e3, nI_clamp (by omega), nI_clamp (by omega), nI_clamp (by omega)]
  have hin : ∀ j, j < v.length → sm_in_ M lA (nI j) := fun j hj => by unfold sm_in_; rw [nI_toInt (by omega), h7]; omega
  refine ⟨lA, h5, hA, hin _ (by omega), fun _ => ⟨Or.inl rfl, rfl⟩, fun q1 => ⟨lA, h5, hA, hin _ (by omega), fun _ => ⟨Or.inl rfl, rfl⟩, fun q2 => ⟨lA, h5, hA, hin _ (by omega), fun _ => ⟨Or.inl rfl, rfl⟩, fun q3 => ⟨Or.inr ⟨rfl, by omega, ?_, ?_, ?_⟩, rfl⟩⟩⟩⟩
  · rw [← g3 _ (by omega)]; exact Decidable.not_not.mp q1
  · rw [← g3 _ (by omega)]; exact Decidable.not_not.mp q2
  · rw [← g3 _ (by omega)]; exact Decidable.not_not.mp q3
/-- bits that are a packet's, as decode sees it -/
def rd_ok (l : List Bool) : Prop := 16 ≤ l.length ∧ l.length % 8 = 0 ∧ vlB (l.take 8) = 128 ∧ vlB ((l.drop 12).take 4) + vlB ((l.drop 8).take 4) = 15 ∧
  (((vlB ((l.drop 8).take 4) = 3 ∨ vlB ((l.drop 8).take 4) = 11) → 32 ≤ l.length ∧ pk_ck 16 32773 (l.drop 16)) ∧
   (¬ (vlB ((l.drop 8).take 4) = 3 ∨ vlB ((l.drop 8).take 4) = 11) → (l.length = 32 ∧ pk_ck 5 5 (l.drop 16)) ∨ l.length = 16))
theorem he_isToken {d : Nat} {M : sm_M} {k : Nat} (hk : k < 2 ^ 31) : sm_Run d 25 0 (sm_ent 25 [.inl (nI k)]) [] M (fun v M' => v = some (.inl (bI (decide (k = 1 ∨ k = 9 ∨ k = 13)))) ∧ M' = M) := by
  refine bb_25_0 ⟨fun hc => ⟨?_, rfl⟩, fun h1 => ⟨fun hc => ⟨?_, rfl⟩, fun h2 => ⟨fun hc => ⟨?_, rfl⟩, fun hc => ⟨?_, rfl⟩⟩⟩⟩
  · rw [show (1 : Int32) = nI 1 from rfl, nI_eq hk (by decide)] at hc; subst hc; rfl
  · rw [show (9 : Int32) = nI 9 from rfl, nI_eq hk (by decide)] at hc; subst hc; rfl
  · rw [show (1 : Int32) = nI 1 from rfl, nI_eq hk (by decide)] at h1
    rw [show (9 : Int32) = nI 9 from rfl, nI_eq hk (by decide)] at h2
    rw [show (13 : Int32) = nI 13 from rfl, nI_eq hk (by decide)] at hc
    rw [decide_eq_false (by omega)]; rfl
  · rw [Decidable.not_not, show (13 : Int32) = nI 13 from rfl, nI_eq hk (by decide)] at hc; subst hc; rfl
theorem pa_restart {d : Nat} {M : sm_M} {p : Nat} {s k : Int32} (hp : sm_K M p = 24) : sm_Run d 105 0 (sm_ent 105 [.inr (some p), .inl s, .inl k]) [] M (fun v M' => v = none ∧ M' = sm_putI (sm_putI (sm_putI (sm_putI (sm_putI M p 0 s) p 1 k) p 2 0) p 4 0) p 5 0) :=
  bb_105_0 ⟨hp, rfl, rfl⟩
abbrev co_TD (a bA p pb : Nat) : Nat → Nat → Prop := fun b k => (b = a ∧ k = 1) ∨ b = bA ∨ b = p ∨ b = pb
theorem ch_TD {M M' : sm_M} {a bA p pb : Nat} (h : sm_Ch (co_T a bA) M M') : sm_Ch (co_TD a bA p pb) M M' := ch_mo h (fun b k q => by rcases q with q | q; exact Or.inl q; exact Or.inr (Or.inl q))
/-- decode answers false where the levels are no packet's -/
theorem co_decode_no {d : Nat} {M : sm_M} {a bA lA p pb : Nat} {v : List Int32} (hS : co_S M a bA lA) (hp : sm_K M p = 24) (hL : co_L M a lA v) (hlv : ∀ x ∈ v, x = 0 ∨ x = 1 ∨ x = 2)
    (hno : 3 < v.length → v.getD (v.length - 1) 0 = 1 → v.getD (v.length - 2) 0 = 2 → v.getD (v.length - 3) 0 = 2 → ∀ l, lf_d 1 0 (v.take (v.length - 3)) = some l → l.length ≤ 560 ∧ ¬ rd_ok l) :
    sm_Run (d + 3) 46 0 (sm_ent 46 [.inr (some a), .inr (some p)]) [] M (fun w M' => w = some (.inl 0) ∧ sm_Ch (co_TD a bA p pb) M M') := by
  refine bb_46_0 ⟨hS.1, ?_⟩
  refine ru_mono (co_hasTail hS hL) (fun w M1 hw => ?_)
  obtain ⟨hw, rfl⟩ := hw
  rcases hw with rfl | ⟨rfl, t1, t2, t3, t4⟩
  · exact bb_46_4 ⟨fun _ => ⟨rfl, ch_rf⟩, fun q => absurd rfl q⟩
  refine bb_46_4 ⟨fun q => absurd q (by decide), fun _ => ⟨hS.1, ?_⟩⟩
  refine ru_mono (co_liftBits (by omega) hlv hS hL) (fun w M2 hw => ?_)
  obtain ⟨hw, hC⟩ := hw
  rcases hw with rfl | ⟨rfl, l, hl, hB⟩
  · exact bb_46_11 ⟨fun _ => ⟨rfl, ch_TD hC⟩, fun q => absurd rfl q⟩
  obtain ⟨h560, hrd⟩ := hno t1 t2 t3 t4 l hl
  rw [List.take_of_length_le h560] at hB
  have hS2 := co_S_ch hS hC
  have hC := ch_TD (p := p) (pb := pb) hC
  have hp2 : sm_K M2 p = 24 := by rw [hC.1]; exact hp
  refine bb_46_11 ⟨fun q => absurd q (by decide), fun _ => ⟨hS2.1, fun _ => ⟨rfl, hC⟩, fun c16 => ⟨fun c8 => ?_, fun _ => ⟨rfl, hC⟩⟩⟩⟩
  rw [hB.1, show (16 : Int32) = nI 16 from rfl, nI_ltI (by omega) (by decide)] at c16
  rw [hB.1, pk_andN (by omega) 3 (by decide), show (0 : Int32) = nI 0 from rfl, nI_eq (by omega) (by decide)] at c8
  refine ru_mono (co_num_at (f := 8) (w := 4) hS2 hB (by omega) (by decide)) (fun w M3 hw => ?_)
  obtain ⟨rfl, rfl⟩ := hw
  refine bb_46_42 ⟨hS2.1, ?_⟩
  refine ru_mono (co_num_at (f := 0) (w := 8) hS2 hB (by omega) (by decide)) (fun w M3 hw => ?_)
  obtain ⟨rfl, rfl⟩ := hw
  rw [List.drop_zero]
  have b8 := vlB_lt (l.take 8)
  have b4 := vlB_lt ((l.drop 8).take 4)
  have b4' := vlB_lt ((l.drop 12).take 4)
  rw [List.length_take, Nat.min_eq_left (by omega)] at b8
  rw [List.length_take, List.length_drop, Nat.min_eq_left (by omega)] at b4 b4'
  refine bb_46_50 ⟨fun _ => ⟨rfl, hC⟩, fun c128 => ⟨hS2.1, ?_⟩⟩
  rw [Decidable.not_not, show (128 : Int32) = nI 128 from rfl, nI_eq (by omega) (by decide)] at c128
  refine ru_mono (co_num_at (f := 12) (w := 4) hS2 hB (by omega) (by decide)) (fun w M3 hw => ?_)
  obtain ⟨rfl, rfl⟩ := hw
  refine bb_46_63 ⟨fun c15 => ⟨p, rfl, hp2, ?_⟩, fun _ => ⟨rfl, hC⟩⟩
  rw [show (15 : Int32) = nI 15 from rfl, pk_sub (by omega), nI_eq (by omega) (by omega)] at c15
  refine ru_mono (pa_restart hp2) (fun w N3 hw => ?_)
  obtain ⟨rfl, hM3⟩ := hw
  have hC3 : sm_Ch (co_TD a bA p pb) M3 N3 := by
    rw [hM3]
    have hh : ∀ k, co_TD a bA p pb p k := fun _ => Or.inr (Or.inr (Or.inl rfl))
    exact ch_tr (ch_tr (ch_tr (ch_tr (ch_put (hh _)) (ch_put (hh _))) (ch_put (hh _))) (ch_put (hh _))) (ch_put (hh _))
  have na : a ≠ p := by have := hS2.1; rintro rfl; omega
  have nb : bA ≠ p := by have := hS2.2.2.1; rintro rfl; omega
  have hB3 : co_B N3 a bA l := by
    rw [hM3]
    unfold co_B
    simp only [I_put_a na, I_put_a nb]
    exact hB
  have hS3 := co_S_ch hS2 hC3
  have hC := ch_tr hC hC3
  clear hM3
  refine bb_46_78 ?_
  refine ru_mono (he_isData (by omega)) (fun w M4 hw => ?_)
  obtain ⟨rfl, rfl⟩ := hw
  refine bb_46_82 ⟨fun cd => ?_, fun cd => ⟨hS3.1, ?_⟩⟩
  · rw [bI_0, decide_eq_false_iff_not] at cd
    have h51 : ∀ (P : Prop), (l.length = 32 → pk_ck 5 5 (l.drop 16) → P) → sm_Run (d + 2) 51 0 (sm_ent 51 [.inr (some a), .inl 16, .inl 11]) [] M4 (fun v M9 => sm_Run (d + 2 + 1) 46 112 [some (.inr (some a)), some (.inr (some p)), some (.inl (nI (vlB ((l.drop 8).take 4))))] (v.toList ++ [.inr (some p)]) M9 (fun w M' => (w = some (.inl 0) ∨ P) ∧ sm_Ch (co_TD a bA p pb) M1 M')) := by
      intro P hP
      refine ru_mono (co_num_at (f := 16) (w := 11) hS3 hB3 (by omega) (by decide)) (fun w M5 hw => ?_)
      obtain ⟨rfl, rfl⟩ := hw
      have hC5 : sm_Ch (co_TD a bA p pb) M5 (sm_putI M5 p 2 (nI (vlB ((l.drop 16).take 11)))) := ch_put (Or.inr (Or.inr (Or.inl rfl)))
      have hB5 : co_B (sm_putI M5 p 2 (nI (vlB ((l.drop 16).take 11)))) a bA l := by
        unfold co_B
        simp only [I_put_a na, I_put_a nb]
        exact hB3
      refine bb_46_112 ⟨p, rfl, by rw [hC3.1]; exact hp2, hS3.1, fun _ => ⟨Or.inl rfl, ch_tr hC hC5⟩, fun c32 => ?_⟩
      rw [Decidable.not_not, I_put_a na, hB3.1, show (32 : Int32) = nI 32 from rfl, nI_eq (by omega) (by decide)] at c32
      refine ru_mono (co_isChecked (w := 5) (co_S_ch hS3 hC5) hB5 (Or.inl rfl) (by omega)) (fun w M6 hw => ?_)
      obtain ⟨hw, rfl⟩ := hw
      rcases hw with rfl | ⟨rfl, hck⟩
      · exact bb_46_129 ⟨fun _ => ⟨Or.inl rfl, ch_tr hC hC5⟩, fun q => absurd rfl q⟩
      · exact bb_46_129 ⟨fun q => absurd q (by decide), fun _ => ⟨Or.inr (hP c32 hck), ch_tr hC hC5⟩⟩
    have hck : l.length = 32 → pk_ck 5 5 (l.drop 16) → False := fun h1 h2 => hrd ⟨by omega, c8, c128, by omega, fun q => absurd q cd, fun _ => Or.inl ⟨h1, h2⟩⟩
    have h51 := ru_mono (h51 False hck) (fun w M5 hw => ru_mono (Q := fun w M' => w = some (.inl 0) ∧ sm_Ch (co_TD a bA p pb) M1 M') hw (fun w M6 hw => ⟨hw.1.resolve_right id, hw.2⟩))
    refine ru_mono (he_isToken (by omega)) (fun w M5 hw => ?_)
    obtain ⟨rfl, rfl⟩ := hw
    refine bb_46_95 ⟨fun _ => ⟨hS3.1, h51⟩, fun _ => ⟨fun c5 => ?_, fun _ => ⟨hS3.1, h51⟩⟩⟩
    refine ru_mono (he_isHand (by omega)) (fun w M6 hw => ?_)
    obtain ⟨rfl, rfl⟩ := hw
    refine bb_46_142 ⟨fun _ => ⟨rfl, hC⟩, fun _ => ⟨hS3.1, fun _ => ⟨rfl, hC⟩, fun c => ?_⟩⟩
    rw [Decidable.not_not, hB3.1, show (16 : Int32) = nI 16 from rfl, nI_eq (by omega) (by decide)] at c
    exact absurd ⟨by omega, c8, c128, by omega, fun q => absurd q cd, fun _ => Or.inr c⟩ hrd
  · rw [bI_0, Bool.not_eq_false, decide_eq_true_eq] at cd
    refine ru_mono (P := fun w M' => w = some (.inl 0) ∧ M' = M4) (bb_49_0 ⟨hS3.1, fun _ => ⟨rfl, rfl⟩, fun q1 => ⟨fun _ => ⟨rfl, rfl⟩, fun q2 => ?_⟩⟩) (fun w M5 hw => ?_)
    · rw [hB3.1, show (16 : Int32) = nI 16 from rfl, pk_sub (by omega), nI_ltI (by omega) (by decide)] at q1
      refine ru_mono (co_isChecked (w := 16) hS3 hB3 (Or.inr rfl) (by omega)) (fun w M5 hw => ?_)
      obtain ⟨hw, rfl⟩ := hw
      rcases hw with rfl | ⟨rfl, hck⟩
      · exact bb_49_27 ⟨fun q => absurd rfl q, fun _ => ⟨rfl, rfl⟩⟩
      · exact absurd ⟨by omega, c8, c128, by omega, fun _ => ⟨by omega, hck⟩, fun q => absurd cd q⟩ hrd
    · obtain ⟨rfl, rfl⟩ := hw
      exact bb_46_90 ⟨by decide, rfl, hC⟩
