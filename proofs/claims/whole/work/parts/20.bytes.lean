/-! WireBus$Bytes: a row that is used round and round is a list -/
/-- only ints of the cells in S changed -/
def sm_Only (S : Nat → Prop) (M M' : sm_M) : Prop := sm_K M' = sm_K M ∧ sm_L M' = sm_L M ∧ sm_R M' = sm_R M ∧ sm_S M' = sm_S M ∧ sm_N M' = sm_N M ∧ sm_U M' = sm_U M ∧ ∀ b, ¬ S b → sm_I M' b = sm_I M b
theorem on_rf {S : Nat → Prop} {M : sm_M} : sm_Only S M M := ⟨rfl, rfl, rfl, rfl, rfl, rfl, fun _ _ => rfl⟩
theorem on_tr {S : Nat → Prop} {M M1 M2 : sm_M} (h : sm_Only S M M1) (k : sm_Only S M1 M2) : sm_Only S M M2 := by
  obtain ⟨a1, a2, a3, a4, a5, a6, a7⟩ := h
  obtain ⟨b1, b2, b3, b4, b5, b6, b7⟩ := k
  exact ⟨b1.trans a1, b2.trans a2, b3.trans a3, b4.trans a4, b5.trans a5, b6.trans a6, fun b hb => (b7 b hb).trans (a7 b hb)⟩
theorem on_mo {S S' : Nat → Prop} {M M1 : sm_M} (h : sm_Only S M M1) (hs : ∀ b, S b → S' b) : sm_Only S' M M1 := ⟨h.1, h.2.1, h.2.2.1, h.2.2.2.1, h.2.2.2.2.1, h.2.2.2.2.2.1, fun b hb => h.2.2.2.2.2.2 b (fun q => hb (hs b q))⟩
theorem on_put {S : Nat → Prop} {M : sm_M} {a k : Nat} {x : Int32} (ha : S a) : sm_Only S M (sm_putI M a k x) := ⟨rfl, rfl, rfl, rfl, rfl, rfl, fun b hb => sm_u2_ne (fun e => hb (by rw [e]; exact ha))⟩
theorem I_put {M : sm_M} {a k b j : Nat} {x : Int32} : sm_I (sm_putI M a k x) b j = if b = a ∧ j = k then x else sm_I M b j := rfl
theorem I_put_s {M : sm_M} {a k : Nat} {x : Int32} : sm_I (sm_putI M a k x) a k = x := by rw [I_put, if_pos ⟨rfl, rfl⟩]
theorem I_put_k {M : sm_M} {a k b j : Nat} {x : Int32} (h : j ≠ k) : sm_I (sm_putI M a k x) b j = sm_I M b j := by rw [I_put, if_neg (fun q => h q.2)]
theorem I_put_a {M : sm_M} {a k b j : Nat} {x : Int32} (h : b ≠ a) : sm_I (sm_putI M a k x) b j = sm_I M b j := by rw [I_put, if_neg (fun q => h q.1)]
/-- the object a, its row, how many places, what it holds, the first one foremost -/
def by_Q (M : sm_M) (a row cap : Nat) (l : List Int32) : Prop :=
  sm_K M a = 6 ∧ sm_R M a 0 = some row ∧ sm_K M row = 5 ∧ sm_L M row = cap ∧ l.length ≤ cap ∧ cap ≤ 1000 ∧ sm_I M a 2 = nI l.length ∧ ∃ f, f < cap ∧ sm_I M a 1 = nI f ∧ ∀ i, i < l.length → sm_I M row ((f + i) % cap) = l.getD i 0
theorem by_ne {M : sm_M} {a row cap : Nat} {l : List Int32} (h : by_Q M a row cap l) : a ≠ row := by
  obtain ⟨h1, -, h3, -⟩ := h
  rintro rfl
  rw [h1] at h3
  exact absurd h3 (by decide)
theorem by_keep {M M' : sm_M} {a row cap : Nat} {l : List Int32} {S : Nat → Prop} (h : by_Q M a row cap l) (ho : sm_Only S M M') (ha : ¬ S a) (hr : ¬ S row) : by_Q M' a row cap l := by
  obtain ⟨h1, h2, h3, h4, h5, h6, h7, f, h8, h9, h10⟩ := h
  obtain ⟨o1, o2, o3, -, -, -, o7⟩ := ho
  refine ⟨by rw [o1]; exact h1, by rw [o3]; exact h2, by rw [o1]; exact h3, by rw [o2]; exact h4, h5, h6, by rw [o7 a ha]; exact h7, f, h8, by rw [o7 a ha]; exact h9, fun i hi => by rw [o7 row hr]; exact h10 i hi⟩
theorem by_len {M : sm_M} {row cap : Nat} (h4 : sm_L M row = cap) : Int32.ofNat (sm_L M row) = nI cap := by rw [h4]; rfl
theorem by_kA {M : sm_M} {row : Nat} (h : sm_K M row = 5) : 1 ≤ sm_K M row ∧ sm_K M row % 3 ≠ 0 := by rw [h]; decide
theorem by_wA {M : sm_M} {row : Nat} (h : sm_K M row = 5) : sm_wA 0 M row := by unfold sm_wA; rw [h]; decide
theorem by_iA {M : sm_M} {row : Nat} (h : sm_K M row = 5) : sm_iA M row := by unfold sm_iA; rw [h]; decide
theorem by_in {M : sm_M} {row cap p : Nat} (h4 : sm_L M row = cap) (hp : p < cap) (hc : cap ≤ 1000) : sm_in_ M row (nI p) := by
  unfold sm_in_
  rw [nI_toInt (by omega), h4]
  omega
/-- place(i): i places behind the first one -/
theorem by_place {d : Nat} {M : sm_M} {a row cap f i : Nat} (h1 : sm_K M a = 6) (h2 : sm_R M a 0 = some row) (h3 : sm_K M row = 5) (h4 : sm_L M row = cap) (h6 : cap ≤ 1000) (h8 : f < cap) (h9 : sm_I M a 1 = nI f) (hi : i ≤ cap) :
    sm_Run d 32 0 (sm_ent 32 [.inr (some a), .inl (nI i)]) [] M (fun v M' => v = some (.inl (nI ((f + i) % cap))) ∧ M' = M) := by
  refine bb_32_0 ⟨h1, row, h2, by_kA h3, fun hc => ⟨row, h2, by_kA h3, ?_, rfl⟩, fun hc => ⟨?_, rfl⟩⟩
  · rw [by_len h4, h9, nI_add, nI_leI (by omega) (by omega)] at hc
    rw [by_len h4, h9, nI_add, pk_sub hc]
    congr 3
    rw [Nat.mod_eq_sub_mod hc, Nat.mod_eq_of_lt (by omega)]
  · rw [by_len h4, h9, nI_add, nI_leI (by omega) (by omega)] at hc
    rw [h9, nI_add]
    congr 3
    rw [Nat.mod_eq_of_lt (by omega)]
theorem by_space {d : Nat} {M : sm_M} {a row cap : Nat} {l : List Int32} (h : by_Q M a row cap l) : sm_Run d 30 0 (sm_ent 30 [.inr (some a)]) [] M (fun v M' => v = some (.inl (nI (cap - l.length))) ∧ M' = M) := by
  obtain ⟨h1, h2, h3, h4, h5, h6, h7, f, h8, h9, h10⟩ := h
  refine bb_30_0 ⟨h1, row, h2, by_kA h3, ?_, rfl⟩
  rw [by_len h4, h7, pk_sub h5]
theorem by_clear {d : Nat} {M : sm_M} {a row cap : Nat} {l : List Int32} (h : by_Q M a row cap l) (hc : 0 < cap) : sm_Run d 31 0 (sm_ent 31 [.inr (some a)]) [] M (fun v M' => v = none ∧ by_Q M' a row cap [] ∧ sm_Only (fun b => b = a) M M') := by
  have hne := by_ne h
  obtain ⟨h1, h2, h3, h4, h5, h6, h7, f, h8, h9, h10⟩ := h
  refine bb_31_0 ⟨h1, rfl, ⟨h1, h2, h3, h4, Nat.zero_le _, h6, I_put_s, 0, hc, ?_, fun i hi => absurd hi (Nat.not_lt_zero _)⟩, on_tr (on_put rfl) (on_put rfl)⟩
  rw [I_put_k (by decide), I_put_s]; rfl
theorem by_add {d : Nat} {M : sm_M} {a row cap : Nat} {l : List Int32} {x : Int32} (h : by_Q M a row cap l) (hl : l.length < cap) : sm_Run (d + 1) 33 0 (sm_ent 33 [.inr (some a), .inl x]) [] M (fun v M' => v = none ∧ by_Q M' a row cap (l ++ [x]) ∧ sm_Only (fun b => b = a ∨ b = row) M M') := by
  have hne := by_ne h
  obtain ⟨h1, h2, h3, h4, h5, h6, h7, f, h8, h9, h10⟩ := h
  refine bb_33_0 ⟨h1, row, h2, by_kA h3, fun hc => ?_, fun hc => ?_⟩
  · rw [by_len h4, h7, nI_leI (by omega) (by omega)] at hc
    omega
  · rw [h7]
    refine ru_mono (by_place h1 h2 h3 h4 h6 h8 h9 h5) (fun v M1 hv => ?_)
    obtain ⟨rfl, rfl⟩ := hv
    have hp : (f + l.length) % cap < cap := Nat.mod_lt _ (by omega)
    refine bb_33_24 ⟨row, h2, by_wA h3, by_in h4 hp h6, h1, rfl, ?_, on_tr (on_put (Or.inr rfl)) (on_put (Or.inl rfl))⟩
    rw [nI_clamp (by omega)]
    refine ⟨h1, h2, h3, h4, by rw [List.length_append]; exact hl, h6, ?_, f, h8, ?_, fun i hi => ?_⟩
    · rw [I_put_s, I_put_a hne, h7, nI_1, List.length_append]; rfl
    · rw [I_put_k (by decide), I_put_a hne]; exact h9
    · rw [I_put_a (Ne.symm hne)]
      rw [List.length_append] at hi
      have hi : i < l.length + 1 := hi
      by_cases he : i = l.length
      · subst he
        rw [I_put_s]
        simp
      · have hlt : i < l.length := by omega
        have hpp : (f + i) % cap ≠ (f + l.length) % cap := by
          intro e
          have e1 := Nat.mod_lt (f + i) (show 0 < cap by omega)
          rcases Nat.lt_or_ge (f + i) cap with q | q <;> rcases Nat.lt_or_ge (f + l.length) cap with w | w
          · rw [Nat.mod_eq_of_lt q, Nat.mod_eq_of_lt w] at e; omega
          · rw [Nat.mod_eq_of_lt q, Nat.mod_eq_sub_mod w, Nat.mod_eq_of_lt (by omega)] at e; omega
          · omega
          · rw [Nat.mod_eq_sub_mod q, Nat.mod_eq_of_lt (by omega), Nat.mod_eq_sub_mod w, Nat.mod_eq_of_lt (by omega)] at e; omega
        rw [I_put_k hpp, h10 i hlt]
        simp [List.getD_eq_getElem?_getD, List.getElem?_append_left hlt]
theorem by_at {d : Nat} {M : sm_M} {a row cap k : Nat} {l : List Int32} (h : by_Q M a row cap l) (hk : k < 2 ^ 31) : sm_Run (d + 1) 34 0 (sm_ent 34 [.inr (some a), .inl (nI k)]) [] M (fun v M' => v = some (.inl (if k < l.length then l.getD k 0 else -1)) ∧ M' = M) := by
  obtain ⟨h1, h2, h3, h4, h5, h6, h7, f, h8, h9, h10⟩ := h
  refine bb_34_0 ⟨fun hc => absurd hc (nI_pos hk), fun _ => ⟨h1, fun hc => ⟨?_, rfl⟩, fun hc => ?_⟩⟩
  · rw [h7, nI_leI (by omega) hk] at hc
    rw [if_neg (by omega)]
  · rw [h7, nI_leI (by omega) hk] at hc
    refine ru_mono (by_place h1 h2 h3 h4 h6 h8 h9 (show k ≤ cap by omega)) (fun v M1 hv => ?_)
    obtain ⟨rfl, rfl⟩ := hv
    have hp : (f + k) % cap < cap := Nat.mod_lt _ (by omega)
    refine bb_34_21 ⟨row, h2, by_iA h3, by_in h4 hp h6, ?_, rfl⟩
    rw [nI_clamp (by omega), h10 k (by omega), if_pos (by omega)]
theorem by_min {n k : Nat} (hn : n < 2 ^ 31) (hk : k < 2 ^ 31) : (if (0 : Int32) < (if nI n < nI k then nI n else nI k) then (if nI n < nI k then nI n else nI k) else 0) = nI (min k n) := by
  have e : (if nI n < nI k then nI n else nI k) = nI (min k n) := by
    by_cases h : n < k
    · rw [if_pos ((nI_ltI hn hk).mpr h), Nat.min_eq_right (by omega)]
    · rw [if_neg (fun q => h ((nI_ltI hn hk).mp q)), Nat.min_eq_left (by omega)]
  rw [e]
  by_cases h : 0 < min k n
  · rw [if_pos (by rw [← nI_0, nI_ltI (by omega) (by omega)]; exact h)]
  · rw [if_neg (by rw [← nI_0, nI_ltI (by omega) (by omega)]; exact h), show min k n = 0 by omega, nI_0]
theorem by_drop {d : Nat} {M : sm_M} {a row cap k : Nat} {l : List Int32} (h : by_Q M a row cap l) (hk : k < 2 ^ 31) : sm_Run (d + 1) 36 0 (sm_ent 36 [.inr (some a), .inl (nI k)]) [] M (fun v M' => v = none ∧ by_Q M' a row cap (l.drop k) ∧ sm_Only (fun b => b = a) M M') := by
  have hne := by_ne h
  obtain ⟨h1, h2, h3, h4, h5, h6, h7, f, h8, h9, h10⟩ := h
  refine bb_36_0 ⟨h1, ?_⟩
  rw [h7, by_min (by omega) hk]
  refine ru_mono (by_place h1 h2 h3 h4 h6 h8 h9 (show min k l.length ≤ cap by omega)) (fun v M1 hv => ?_)
  obtain ⟨rfl, rfl⟩ := hv
  have hp : (f + min k l.length) % cap < cap := Nat.mod_lt _ (by omega)
  refine bb_36_19 ⟨h1, h1, rfl, ⟨h1, h2, h3, h4, by rw [List.length_drop]; omega, h6, ?_, (f + min k l.length) % cap, hp, ?_, fun i hi => ?_⟩, on_tr (on_put rfl) (on_put rfl)⟩
  · rw [I_put_s, I_put_k (by decide), h7, pk_sub (by omega), List.length_drop]
    congr 1
    omega
  · rw [I_put_k (by decide), I_put_s]
  · rw [List.length_drop] at hi
    rw [I_put_a (Ne.symm hne), I_put_a (Ne.symm hne), Nat.mod_add_mod, show f + min k l.length + i = f + (k + i) by omega, h10 (k + i) (by omega)]
    simp [List.getD_eq_getElem?_getD]
theorem by_poll {d : Nat} {M : sm_M} {a row cap : Nat} {l : List Int32} (h : by_Q M a row cap l) : sm_Run (d + 2) 35 0 (sm_ent 35 [.inr (some a)]) [] M (fun v M' => v = some (.inl (if 0 < l.length then l.getD 0 0 else -1)) ∧ by_Q M' a row cap (l.drop 1) ∧ sm_Only (fun b => b = a) M M') := by
  refine bb_35_0 ⟨h.1, ?_⟩
  refine ru_mono (by_at (k := 0) h (by decide)) (fun v M1 hv => ?_)
  obtain ⟨rfl, rfl⟩ := hv
  refine bb_35_5 ⟨h.1, ?_⟩
  refine ru_mono (by_drop (k := 1) h (by decide)) (fun v M2 hv => ?_)
  obtain ⟨rfl, h2, h3⟩ := hv
  exact bb_35_11 ⟨rfl, h2, h3⟩
