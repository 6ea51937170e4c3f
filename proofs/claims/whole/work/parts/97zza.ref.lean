/-! The reference is made. -/
section JI_
variable {a : Nat} {ra : Nat → Nat} {S : List Nat} {R R' : Nat → Nat → Int32} {M : sm_M} {D n u f : Nat} {x : Int32}
/-- rows made so far -/
def RG (a : Nat) (ra : Nat → Nat) (S : List Nat) (R : Nat → Nat → Int32) (n u : Nat) (M : sm_M) : Prop := sm_K M a = 39 ∧ a < n ∧ sm_N M = n ∧ sm_U M = u ∧ (∀ k, k ∈ S → sm_R M a k = some (ra k) ∧ sm_K M (ra k) = rK k ∧ sm_L M (ra k) = rL k ∧ ra k < n ∧ ∀ j, sm_I M (ra k) j = R k j) ∧ ∀ k, k < 88 → rK k = 0 → sm_I M a k = R k 0
theorem rg_gen {M' : sm_M} (h : RG a ra S R n u M) (hf : f ∉ S) (hK : ∀ b, sm_K M' b = if b = n then rK f else sm_K M b) (hL : ∀ b, sm_L M' b = if b = n then rL f else sm_L M b) (hN : sm_N M' = n + 1) (hU : sm_U M' = u + rL f) (hI : ∀ b j, sm_I M' b j = if b = n then R f j else sm_I M b j) (hR : ∀ b k, b ≠ n → sm_R M' b k = if b = a ∧ k = f then some n else sm_R M b k) : RG a (sm_u1 ra f n) (f :: S) R (n + 1) (u + rL f) M' := by
  obtain ⟨k1, k2, k3, k4, k5, k6⟩ := h
  refine ⟨by rw [hK, if_neg (by omega)]; exact k1, by omega, hN, hU, fun k hk => ?_, fun k hk h0 => by rw [hI, if_neg (by omega)]; exact k6 k hk h0⟩
  by_cases c : k = f
  · subst c
    have e : sm_u1 ra k n k = n := by unfold sm_u1; rw [if_pos rfl]
    rw [e]
    refine ⟨by rw [hR a k (by omega), if_pos ⟨rfl, rfl⟩], by rw [hK, if_pos rfl], by rw [hL, if_pos rfl], by omega, fun j => by rw [hI, if_pos rfl]⟩
  · have e : sm_u1 ra f n k = ra k := by unfold sm_u1; rw [if_neg c]
    have hk' : k ∈ S := by
      rcases List.mem_cons.mp hk with q | q
      · exact absurd q c
      · exact q
    obtain ⟨y1, y2, y3, y4, y5⟩ := k5 k hk'
    rw [e]
    refine ⟨by rw [hR a k (by omega), if_neg (fun q => c q.2)]; exact y1, by rw [hK, if_neg (by omega)]; exact y2, by rw [hL, if_neg (by omega)]; exact y3, by omega, fun j => by rw [hI, if_neg (by omega)]; exact y5 j⟩
theorem rg_new {K L : Nat} (h : RG a ra S R n u M) (hf : f ∉ S) (hz : ∀ j, R f j = 0) (hK : K = rK f) (hL : L = rL f) : RG a (sm_u1 ra f n) (f :: S) R (n + 1) (u + rL f) (sm_putR (sm_new M K L L) a f (some (sm_N M))) := by
  subst hK; subst hL
  have h3 := h.2.2.1
  have h4 := h.2.2.2.1
  refine rg_gen h hf (fun b => ?_) (fun b => ?_) ?_ ?_ (fun b j => ?_) (fun b k hb => ?_)
  · rw [K_putR, K_new, h3]
  · rw [L_putR, L_new, h3]
  · rw [N_putR, N_new, h3]
  · show sm_U M + rL f = _; rw [h4]
  · rw [I_putR, I_new, h3, hz]
  · rw [R_put, R_new, h3, if_neg hb]
theorem rg_k {K L v : Nat} (h : RG a ra S R n u M) : sm_K (sm_new M K L v) a = 39 := by
  rw [K_new, if_neg (by have := h.2.1; have := h.2.2.1; omega)]; exact h.1
theorem room_a (h1 : 1 ≤ x) (h2 : x ≤ 40) : x = roomI x := by
  have a1 := Int32.le_iff_toInt_le.mp h1
  have a2 := Int32.le_iff_toInt_le.mp h2
  have b1 : (1 : Int32).toInt = 1 := rfl
  have b40 : (40 : Int32).toInt = 40 := rfl
  unfold roomI
  by_cases c : x < 40
  · rw [if_pos c]
    by_cases c' : 1 < x
    · rw [if_pos c']
    · rw [if_neg c']
      have a3 : ¬ (1 : Int32).toInt < x.toInt := fun q => c' (Int32.lt_iff_toInt_lt.mpr q)
      exact Int32.toInt_inj.mp (by omega)
  · rw [if_neg c, if_pos (by decide)]
    have a3 : ¬ x.toInt < (40 : Int32).toInt := fun q => c (Int32.lt_iff_toInt_lt.mpr q)
    exact Int32.toInt_inj.mp (by omega)
theorem room_b (h2 : ¬ x ≤ 40) : 40 = roomI x := by
  have c : ¬ x < 40 := fun q => h2 (Int32.le_iff_toInt_le.mpr (by have := Int32.lt_iff_toInt_lt.mp q; omega))
  unfold roomI
  rw [if_neg c, if_pos (by decide)]
theorem room_c (h2 : ¬ 1 ≤ x) : 1 = roomI x := by
  have b1 : (1 : Int32).toInt = 1 := rfl
  have b40 : (40 : Int32).toInt = 40 := rfl
  have a1 : ¬ (1 : Int32).toInt ≤ x.toInt := fun q => h2 (Int32.le_iff_toInt_le.mpr q)
  have c : x < 40 := Int32.lt_iff_toInt_lt.mpr (by omega)
  unfold roomI
  rw [if_pos c, if_neg (fun q => by have := Int32.lt_iff_toInt_lt.mp q; omega)]
def rR0 : Nat → Nat → Int32 := fun f j => if f = 55 then nI (hd0.getD j 0) else 0
theorem cr_0 {z2 : Option sm_V} {Q : Option sm_V → sm_M → Prop} (h : RG a ra [] rR0 n u M) (hn : ∀ ra M nn uu, nn = n + 3 → uu = u + 20 + 200 + 6 → RG a ra [4, 2, 1] rR0 nn uu M → sm_Run (D + 1) 150 29 [some (.inr (some a)), some (.inl x), z2] [] M Q) : sm_Run (D + 1) 150 0 [some (.inr (some a)), some (.inl x), z2] [] M Q := by
  have g1 := rg_new (f := 1) (K := rK 1) (L := rL 1) h (by decide) (fun _ => rfl) rfl rfl
  have g2 := rg_new (f := 2) (K := rK 2) (L := rL 2) g1 (by decide) (fun _ => rfl) rfl rfl
  have g3 := rg_new (f := 4) (K := rK 4) (L := rL 4) g2 (by decide) (fun _ => rfl) rfl rfl
  exact bb_150_0 ⟨rg_k h, rg_k g1, rg_k g2, hn _ _ _ _ rfl rfl g3⟩
theorem cr_29 {z2 : Option sm_V} {Q : Option sm_V → sm_M → Prop} (h : RG a ra [4, 2, 1] rR0 n u M) (hn : ∀ ra M nn uu, nn = n + 3 → uu = u + 6 + 6 + 6 → RG a ra [7, 6, 5, 4, 2, 1] rR0 nn uu M → sm_Run (D + 1) 150 53 [some (.inr (some a)), some (.inl x), z2] [] M Q) : sm_Run (D + 1) 150 29 [some (.inr (some a)), some (.inl x), z2] [] M Q := by
  have g1 := rg_new (f := 5) (K := rK 5) (L := rL 5) h (by decide) (fun _ => rfl) rfl rfl
  have g2 := rg_new (f := 6) (K := rK 6) (L := rL 6) g1 (by decide) (fun _ => rfl) rfl rfl
  have g3 := rg_new (f := 7) (K := rK 7) (L := rL 7) g2 (by decide) (fun _ => rfl) rfl rfl
  exact bb_150_29 ⟨rg_k h, rg_k g1, rg_k g2, hn _ _ _ _ rfl rfl g3⟩
theorem cr_53 {z2 : Option sm_V} {Q : Option sm_V → sm_M → Prop} (h : RG a ra [7, 6, 5, 4, 2, 1] rR0 n u M) (hn : ∀ ra M nn uu, nn = n + 3 → uu = u + 6 + 6 + 36 → RG a ra [10, 9, 8, 7, 6, 5, 4, 2, 1] rR0 nn uu M → sm_Run (D + 1) 150 77 [some (.inr (some a)), some (.inl x), z2] [] M Q) : sm_Run (D + 1) 150 53 [some (.inr (some a)), some (.inl x), z2] [] M Q := by
  have g1 := rg_new (f := 8) (K := rK 8) (L := rL 8) h (by decide) (fun _ => rfl) rfl rfl
  have g2 := rg_new (f := 9) (K := rK 9) (L := rL 9) g1 (by decide) (fun _ => rfl) rfl rfl
  have g3 := rg_new (f := 10) (K := rK 10) (L := rL 10) g2 (by decide) (fun _ => rfl) rfl rfl
  exact bb_150_53 ⟨rg_k h, rg_k g1, rg_k g2, hn _ _ _ _ rfl rfl g3⟩
theorem cr_77 {z2 : Option sm_V} {Q : Option sm_V → sm_M → Prop} (h : RG a ra [10, 9, 8, 7, 6, 5, 4, 2, 1] rR0 n u M) (hn : ∀ ra M nn uu, nn = n + 3 → uu = u + 36 + 36 + 36 → RG a ra [13, 12, 11, 10, 9, 8, 7, 6, 5, 4, 2, 1] rR0 nn uu M → sm_Run (D + 1) 150 101 [some (.inr (some a)), some (.inl x), z2] [] M Q) : sm_Run (D + 1) 150 77 [some (.inr (some a)), some (.inl x), z2] [] M Q := by
  have g1 := rg_new (f := 11) (K := rK 11) (L := rL 11) h (by decide) (fun _ => rfl) rfl rfl
  have g2 := rg_new (f := 12) (K := rK 12) (L := rL 12) g1 (by decide) (fun _ => rfl) rfl rfl
  have g3 := rg_new (f := 13) (K := rK 13) (L := rL 13) g2 (by decide) (fun _ => rfl) rfl rfl
  exact bb_150_77 ⟨rg_k h, rg_k g1, rg_k g2, hn _ _ _ _ rfl rfl g3⟩
theorem cr_101 {z2 : Option sm_V} {Q : Option sm_V → sm_M → Prop} (h : RG a ra [13, 12, 11, 10, 9, 8, 7, 6, 5, 4, 2, 1] rR0 n u M) (hn : ∀ ra M nn uu, nn = n + 3 → uu = u + 36 + 36 + 36 → RG a ra [16, 15, 14, 13, 12, 11, 10, 9, 8, 7, 6, 5, 4, 2, 1] rR0 nn uu M → sm_Run (D + 1) 150 125 [some (.inr (some a)), some (.inl x), z2] [] M Q) : sm_Run (D + 1) 150 101 [some (.inr (some a)), some (.inl x), z2] [] M Q := by
  have g1 := rg_new (f := 14) (K := rK 14) (L := rL 14) h (by decide) (fun _ => rfl) rfl rfl
  have g2 := rg_new (f := 15) (K := rK 15) (L := rL 15) g1 (by decide) (fun _ => rfl) rfl rfl
  have g3 := rg_new (f := 16) (K := rK 16) (L := rL 16) g2 (by decide) (fun _ => rfl) rfl rfl
  exact bb_150_101 ⟨rg_k h, rg_k g1, rg_k g2, hn _ _ _ _ rfl rfl g3⟩
theorem cr_125 {z2 : Option sm_V} {Q : Option sm_V → sm_M → Prop} (h : RG a ra [16, 15, 14, 13, 12, 11, 10, 9, 8, 7, 6, 5, 4, 2, 1] rR0 n u M) (hn : ∀ ra M nn uu, nn = n + 3 → uu = u + 9216 + 384 + 6 → RG a ra [19, 18, 17, 16, 15, 14, 13, 12, 11, 10, 9, 8, 7, 6, 5, 4, 2, 1] rR0 nn uu M → sm_Run (D + 1) 150 151 [some (.inr (some a)), some (.inl x), z2] [] M Q) : sm_Run (D + 1) 150 125 [some (.inr (some a)), some (.inl x), z2] [] M Q := by
  have g1 := rg_new (f := 17) (K := rK 17) (L := rL 17) h (by decide) (fun _ => rfl) rfl rfl
  have g2 := rg_new (f := 18) (K := rK 18) (L := rL 18) g1 (by decide) (fun _ => rfl) rfl rfl
  have g3 := rg_new (f := 19) (K := rK 19) (L := rL 19) g2 (by decide) (fun _ => rfl) rfl rfl
  exact bb_150_125 ⟨rg_k h, rg_k g1, rg_k g2, hn _ _ _ _ rfl rfl g3⟩
theorem cr_151 {z2 : Option sm_V} {Q : Option sm_V → sm_M → Prop} (h : RG a ra [19, 18, 17, 16, 15, 14, 13, 12, 11, 10, 9, 8, 7, 6, 5, 4, 2, 1] rR0 n u M) (hn : ∀ ra M nn uu, nn = n + 3 → uu = u + 6 + 6 + 6 → RG a ra [22, 21, 20, 19, 18, 17, 16, 15, 14, 13, 12, 11, 10, 9, 8, 7, 6, 5, 4, 2, 1] rR0 nn uu M → sm_Run (D + 1) 150 175 [some (.inr (some a)), some (.inl x), z2] [] M Q) : sm_Run (D + 1) 150 151 [some (.inr (some a)), some (.inl x), z2] [] M Q := by
  have g1 := rg_new (f := 20) (K := rK 20) (L := rL 20) h (by decide) (fun _ => rfl) rfl rfl
  have g2 := rg_new (f := 21) (K := rK 21) (L := rL 21) g1 (by decide) (fun _ => rfl) rfl rfl
  have g3 := rg_new (f := 22) (K := rK 22) (L := rL 22) g2 (by decide) (fun _ => rfl) rfl rfl
  exact bb_150_151 ⟨rg_k h, rg_k g1, rg_k g2, hn _ _ _ _ rfl rfl g3⟩
theorem cr_175 {z2 : Option sm_V} {Q : Option sm_V → sm_M → Prop} (h : RG a ra [22, 21, 20, 19, 18, 17, 16, 15, 14, 13, 12, 11, 10, 9, 8, 7, 6, 5, 4, 2, 1] rR0 n u M) (hn : ∀ ra M nn uu, nn = n + 3 → uu = u + 6 + 6 + 6 → RG a ra [25, 24, 23, 22, 21, 20, 19, 18, 17, 16, 15, 14, 13, 12, 11, 10, 9, 8, 7, 6, 5, 4, 2, 1] rR0 nn uu M → sm_Run (D + 1) 150 199 [some (.inr (some a)), some (.inl x), z2] [] M Q) : sm_Run (D + 1) 150 175 [some (.inr (some a)), some (.inl x), z2] [] M Q := by
  have g1 := rg_new (f := 23) (K := rK 23) (L := rL 23) h (by decide) (fun _ => rfl) rfl rfl
  have g2 := rg_new (f := 24) (K := rK 24) (L := rL 24) g1 (by decide) (fun _ => rfl) rfl rfl
  have g3 := rg_new (f := 25) (K := rK 25) (L := rL 25) g2 (by decide) (fun _ => rfl) rfl rfl
  exact bb_150_175 ⟨rg_k h, rg_k g1, rg_k g2, hn _ _ _ _ rfl rfl g3⟩
theorem cr_199 {z2 : Option sm_V} {Q : Option sm_V → sm_M → Prop} (h : RG a ra [25, 24, 23, 22, 21, 20, 19, 18, 17, 16, 15, 14, 13, 12, 11, 10, 9, 8, 7, 6, 5, 4, 2, 1] rR0 n u M) (hn : ∀ ra M nn uu, nn = n + 3 → uu = u + 6 + 6 + 6 → RG a ra [28, 27, 26, 25, 24, 23, 22, 21, 20, 19, 18, 17, 16, 15, 14, 13, 12, 11, 10, 9, 8, 7, 6, 5, 4, 2, 1] rR0 nn uu M → sm_Run (D + 1) 150 223 [some (.inr (some a)), some (.inl x), z2] [] M Q) : sm_Run (D + 1) 150 199 [some (.inr (some a)), some (.inl x), z2] [] M Q := by
  have g1 := rg_new (f := 26) (K := rK 26) (L := rL 26) h (by decide) (fun _ => rfl) rfl rfl
  have g2 := rg_new (f := 27) (K := rK 27) (L := rL 27) g1 (by decide) (fun _ => rfl) rfl rfl
  have g3 := rg_new (f := 28) (K := rK 28) (L := rL 28) g2 (by decide) (fun _ => rfl) rfl rfl
  exact bb_150_199 ⟨rg_k h, rg_k g1, rg_k g2, hn _ _ _ _ rfl rfl g3⟩
theorem cr_223 {z2 : Option sm_V} {Q : Option sm_V → sm_M → Prop} (h : RG a ra [28, 27, 26, 25, 24, 23, 22, 21, 20, 19, 18, 17, 16, 15, 14, 13, 12, 11, 10, 9, 8, 7, 6, 5, 4, 2, 1] rR0 n u M) (hn : ∀ ra M nn uu, nn = n + 3 → uu = u + 600 + 6 + 6 → RG a ra [31, 30, 29, 28, 27, 26, 25, 24, 23, 22, 21, 20, 19, 18, 17, 16, 15, 14, 13, 12, 11, 10, 9, 8, 7, 6, 5, 4, 2, 1] rR0 nn uu M → sm_Run (D + 1) 150 248 [some (.inr (some a)), some (.inl x), z2] [] M Q) : sm_Run (D + 1) 150 223 [some (.inr (some a)), some (.inl x), z2] [] M Q := by
  have g1 := rg_new (f := 29) (K := rK 29) (L := rL 29) h (by decide) (fun _ => rfl) rfl rfl
  have g2 := rg_new (f := 30) (K := rK 30) (L := rL 30) g1 (by decide) (fun _ => rfl) rfl rfl
  have g3 := rg_new (f := 31) (K := rK 31) (L := rL 31) g2 (by decide) (fun _ => rfl) rfl rfl
  exact bb_150_223 ⟨rg_k h, rg_k g1, rg_k g2, hn _ _ _ _ rfl rfl g3⟩
theorem cr_248 {z2 : Option sm_V} {Q : Option sm_V → sm_M → Prop} (h : RG a ra [31, 30, 29, 28, 27, 26, 25, 24, 23, 22, 21, 20, 19, 18, 17, 16, 15, 14, 13, 12, 11, 10, 9, 8, 7, 6, 5, 4, 2, 1] rR0 n u M) (hn : ∀ ra M nn uu, nn = n + 3 → uu = u + 50 + 50 + 50 → RG a ra [36, 35, 34, 31, 30, 29, 28, 27, 26, 25, 24, 23, 22, 21, 20, 19, 18, 17, 16, 15, 14, 13, 12, 11, 10, 9, 8, 7, 6, 5, 4, 2, 1] rR0 nn uu M → sm_Run (D + 1) 150 272 [some (.inr (some a)), some (.inl x), z2] [] M Q) : sm_Run (D + 1) 150 248 [some (.inr (some a)), some (.inl x), z2] [] M Q := by
  have g1 := rg_new (f := 34) (K := rK 34) (L := rL 34) h (by decide) (fun _ => rfl) rfl rfl
  have g2 := rg_new (f := 35) (K := rK 35) (L := rL 35) g1 (by decide) (fun _ => rfl) rfl rfl
  have g3 := rg_new (f := 36) (K := rK 36) (L := rL 36) g2 (by decide) (fun _ => rfl) rfl rfl
  exact bb_150_248 ⟨rg_k h, rg_k g1, rg_k g2, hn _ _ _ _ rfl rfl g3⟩
theorem cr_272 {z2 : Option sm_V} {Q : Option sm_V → sm_M → Prop} (h : RG a ra [36, 35, 34, 31, 30, 29, 28, 27, 26, 25, 24, 23, 22, 21, 20, 19, 18, 17, 16, 15, 14, 13, 12, 11, 10, 9, 8, 7, 6, 5, 4, 2, 1] rR0 n u M) (hn : ∀ ra M nn uu, nn = n + 3 → uu = u + 60 + 60 + 60 → RG a ra [39, 38, 37, 36, 35, 34, 31, 30, 29, 28, 27, 26, 25, 24, 23, 22, 21, 20, 19, 18, 17, 16, 15, 14, 13, 12, 11, 10, 9, 8, 7, 6, 5, 4, 2, 1] rR0 nn uu M → sm_Run (D + 1) 150 296 [some (.inr (some a)), some (.inl x), z2] [] M Q) : sm_Run (D + 1) 150 272 [some (.inr (some a)), some (.inl x), z2] [] M Q := by
  have g1 := rg_new (f := 37) (K := rK 37) (L := rL 37) h (by decide) (fun _ => rfl) rfl rfl
  have g2 := rg_new (f := 38) (K := rK 38) (L := rL 38) g1 (by decide) (fun _ => rfl) rfl rfl
  have g3 := rg_new (f := 39) (K := rK 39) (L := rL 39) g2 (by decide) (fun _ => rfl) rfl rfl
  exact bb_150_272 ⟨rg_k h, rg_k g1, rg_k g2, hn _ _ _ _ rfl rfl g3⟩
theorem cr_296 {z2 : Option sm_V} {Q : Option sm_V → sm_M → Prop} (h : RG a ra [39, 38, 37, 36, 35, 34, 31, 30, 29, 28, 27, 26, 25, 24, 23, 22, 21, 20, 19, 18, 17, 16, 15, 14, 13, 12, 11, 10, 9, 8, 7, 6, 5, 4, 2, 1] rR0 n u M) (hn : ∀ ra M nn uu, nn = n + 3 → uu = u + 60 + 60 + 6000 → RG a ra [42, 41, 40, 39, 38, 37, 36, 35, 34, 31, 30, 29, 28, 27, 26, 25, 24, 23, 22, 21, 20, 19, 18, 17, 16, 15, 14, 13, 12, 11, 10, 9, 8, 7, 6, 5, 4, 2, 1] rR0 nn uu M → sm_Run (D + 1) 150 321 [some (.inr (some a)), some (.inl x), z2] [] M Q) : sm_Run (D + 1) 150 296 [some (.inr (some a)), some (.inl x), z2] [] M Q := by
  have g1 := rg_new (f := 40) (K := rK 40) (L := rL 40) h (by decide) (fun _ => rfl) rfl rfl
  have g2 := rg_new (f := 41) (K := rK 41) (L := rL 41) g1 (by decide) (fun _ => rfl) rfl rfl
  have g3 := rg_new (f := 42) (K := rK 42) (L := rL 42) g2 (by decide) (fun _ => rfl) rfl rfl
  exact bb_150_296 ⟨rg_k h, rg_k g1, rg_k g2, hn _ _ _ _ rfl rfl g3⟩
theorem cr_321 {z2 : Option sm_V} {Q : Option sm_V → sm_M → Prop} (h : RG a ra [42, 41, 40, 39, 38, 37, 36, 35, 34, 31, 30, 29, 28, 27, 26, 25, 24, 23, 22, 21, 20, 19, 18, 17, 16, 15, 14, 13, 12, 11, 10, 9, 8, 7, 6, 5, 4, 2, 1] rR0 n u M) (hn : ∀ ra M nn uu, nn = n + 3 → uu = u + 60 + 60 + 60 → RG a ra [45, 44, 43, 42, 41, 40, 39, 38, 37, 36, 35, 34, 31, 30, 29, 28, 27, 26, 25, 24, 23, 22, 21, 20, 19, 18, 17, 16, 15, 14, 13, 12, 11, 10, 9, 8, 7, 6, 5, 4, 2, 1] rR0 nn uu M → sm_Run (D + 1) 150 345 [some (.inr (some a)), some (.inl x), z2] [] M Q) : sm_Run (D + 1) 150 321 [some (.inr (some a)), some (.inl x), z2] [] M Q := by
  have g1 := rg_new (f := 43) (K := rK 43) (L := rL 43) h (by decide) (fun _ => rfl) rfl rfl
  have g2 := rg_new (f := 44) (K := rK 44) (L := rL 44) g1 (by decide) (fun _ => rfl) rfl rfl
  have g3 := rg_new (f := 45) (K := rK 45) (L := rL 45) g2 (by decide) (fun _ => rfl) rfl rfl
  exact bb_150_321 ⟨rg_k h, rg_k g1, rg_k g2, hn _ _ _ _ rfl rfl g3⟩
theorem cr_345 {z2 : Option sm_V} {Q : Option sm_V → sm_M → Prop} (h : RG a ra [45, 44, 43, 42, 41, 40, 39, 38, 37, 36, 35, 34, 31, 30, 29, 28, 27, 26, 25, 24, 23, 22, 21, 20, 19, 18, 17, 16, 15, 14, 13, 12, 11, 10, 9, 8, 7, 6, 5, 4, 2, 1] rR0 n u M) (hn : ∀ ra M nn uu, nn = n + 3 → uu = u + 800 + 700 + 100 → RG a ra [52, 49, 47, 45, 44, 43, 42, 41, 40, 39, 38, 37, 36, 35, 34, 31, 30, 29, 28, 27, 26, 25, 24, 23, 22, 21, 20, 19, 18, 17, 16, 15, 14, 13, 12, 11, 10, 9, 8, 7, 6, 5, 4, 2, 1] rR0 nn uu M → sm_Run (D + 1) 150 371 [some (.inr (some a)), some (.inl x), z2] [] M Q) : sm_Run (D + 1) 150 345 [some (.inr (some a)), some (.inl x), z2] [] M Q := by
  have g1 := rg_new (f := 47) (K := rK 47) (L := rL 47) h (by decide) (fun _ => rfl) rfl rfl
  have g2 := rg_new (f := 49) (K := rK 49) (L := rL 49) g1 (by decide) (fun _ => rfl) rfl rfl
  have g3 := rg_new (f := 52) (K := rK 52) (L := rL 52) g2 (by decide) (fun _ => rfl) rfl rfl
  exact bb_150_345 ⟨rg_k h, rg_k g1, rg_k g2, hn _ _ _ _ rfl rfl g3⟩
theorem cr_371 {z2 : Option sm_V} {Q : Option sm_V → sm_M → Prop} (h : RG a ra [52, 49, 47, 45, 44, 43, 42, 41, 40, 39, 38, 37, 36, 35, 34, 31, 30, 29, 28, 27, 26, 25, 24, 23, 22, 21, 20, 19, 18, 17, 16, 15, 14, 13, 12, 11, 10, 9, 8, 7, 6, 5, 4, 2, 1] rR0 n u M) (hn : ∀ ra M nn uu, nn = n + 1 → uu = u + 18 → RG a ra [55, 52, 49, 47, 45, 44, 43, 42, 41, 40, 39, 38, 37, 36, 35, 34, 31, 30, 29, 28, 27, 26, 25, 24, 23, 22, 21, 20, 19, 18, 17, 16, 15, 14, 13, 12, 11, 10, 9, 8, 7, 6, 5, 4, 2, 1] rR0 nn uu M → sm_Run (D + 1) 150 470 [some (.inr (some a)), some (.inl x), z2] [] M Q) : sm_Run (D + 1) 150 371 [some (.inr (some a)), some (.inl x), z2] [] M Q := by
  have h3 := h.2.2.1
  have h4 := h.2.2.2.1
  have hi : ∀ k : Nat, k < 18 → sm_in_ (sm_new M 428 (18 : Int32).toNatClampNeg (18 : Int32).toNatClampNeg) (sm_N M) (nI k) := fun k hk => by
    unfold sm_in_
    rw [nI_toInt (by omega), L_new, if_pos rfl]
    have : (18 : Int32).toNatClampNeg = 18 := rfl
    omega
  have hw : sm_wA 1 (sm_new M 428 (18 : Int32).toNatClampNeg (18 : Int32).toNatClampNeg) (sm_N M) := by
    unfold sm_wA
    rw [K_new, if_pos rfl]; decide
  refine bb_150_371 ⟨hw, hi 0 (by decide), hi 1 (by decide), hi 2 (by decide), hi 3 (by decide), hi 4 (by decide), hi 5 (by decide), hi 6 (by decide), hi 7 (by decide), hi 8 (by decide), hi 9 (by decide), hi 10 (by decide), hi 11 (by decide), hi 12 (by decide), hi 13 (by decide), hi 14 (by decide), hi 15 (by decide), hi 16 (by decide), hi 17 (by decide), rg_k h, ?_⟩
  refine hn (sm_u1 ra 55 n) _ _ _ rfl rfl (rg_gen (f := 55) h (by decide) (fun b => ?_) (fun b => ?_) ?_ ?_ (fun b j => ?_) (fun b k hb => ?_))
  · show (if b = sm_N M then 428 else sm_K M b) = _; rw [h3]; rfl
  · show (if b = sm_N M then (18 : Int32).toNatClampNeg else sm_L M b) = _; rw [h3]; rfl
  · show sm_N M + 1 = _; rw [h3]
  · show sm_U M + (18 : Int32).toNatClampNeg = _; rw [h4]; rfl
  · have c0 : (0 : Int32).toNatClampNeg = 0 := rfl
    have c1 : (1 : Int32).toNatClampNeg = 1 := rfl
    have c2 : (2 : Int32).toNatClampNeg = 2 := rfl
    have c3 : (3 : Int32).toNatClampNeg = 3 := rfl
    have c4 : (4 : Int32).toNatClampNeg = 4 := rfl
    have c5 : (5 : Int32).toNatClampNeg = 5 := rfl
    have c6 : (6 : Int32).toNatClampNeg = 6 := rfl
    have c7 : (7 : Int32).toNatClampNeg = 7 := rfl
    have c8 : (8 : Int32).toNatClampNeg = 8 := rfl
    have c9 : (9 : Int32).toNatClampNeg = 9 := rfl
    have c10 : (10 : Int32).toNatClampNeg = 10 := rfl
    have c11 : (11 : Int32).toNatClampNeg = 11 := rfl
    have c12 : (12 : Int32).toNatClampNeg = 12 := rfl
    have c13 : (13 : Int32).toNatClampNeg = 13 := rfl
    have c14 : (14 : Int32).toNatClampNeg = 14 := rfl
    have c15 : (15 : Int32).toNatClampNeg = 15 := rfl
    have c16 : (16 : Int32).toNatClampNeg = 16 := rfl
    have c17 : (17 : Int32).toNatClampNeg = 17 := rfl
    simp only [c0, c1, c2, c3, c4, c5, c6, c7, c8, c9, c10, c11, c12, c13, c14, c15, c16, c17, I_putR, I_put, I_new, h3]
    by_cases q : b = n
    · simp only [q, true_and, if_true]
      by_cases z : j < 18
      · have key : ∀ j, j < 18 → (if j = 17 then (0 : Int32) else if j = 16 then 0 else if j = 15 then 0 else if j = 14 then 255 else if j = 13 then 0 else if j = 12 then 0 else if j = 11 then 0 else if j = 10 then 4 else if j = 9 then 9 else if j = 8 then 50 else if j = 7 then 128 else if j = 6 then 0 else if j = 5 then 1 else if j = 4 then 1 else if j = 3 then 0 else if j = 2 then 0 else if j = 1 then 2 else if j = 0 then 9 else 0) = rR0 55 j := by decide +kernel
        exact key j z
      · rw [if_neg (by omega), if_neg (by omega), if_neg (by omega), if_neg (by omega), if_neg (by omega), if_neg (by omega), if_neg (by omega), if_neg (by omega), if_neg (by omega), if_neg (by omega), if_neg (by omega), if_neg (by omega), if_neg (by omega), if_neg (by omega), if_neg (by omega), if_neg (by omega), if_neg (by omega), if_neg (by omega)]
        show (0 : Int32) = nI (hd0.getD j 0)
        have : hd0.getD j 0 = 0 := by rw [List.getD_eq_getElem?_getD, List.getElem?_eq_none (by show 18 ≤ j; omega)]; rfl
        rw [this]; rfl
    · simp only [q, false_and, if_false]
  · rw [R_put, R_putI, R_putI, R_putI, R_putI, R_putI, R_putI, R_putI, R_putI, R_putI, R_putI, R_putI, R_putI, R_putI, R_putI, R_putI, R_putI, R_putI, R_putI, R_new, h3, if_neg hb]
theorem cr_470 {z2 : Option sm_V} {Q : Option sm_V → sm_M → Prop} (h : RG a ra [55, 52, 49, 47, 45, 44, 43, 42, 41, 40, 39, 38, 37, 36, 35, 34, 31, 30, 29, 28, 27, 26, 25, 24, 23, 22, 21, 20, 19, 18, 17, 16, 15, 14, 13, 12, 11, 10, 9, 8, 7, 6, 5, 4, 2, 1] rR0 n u M) (hn : ∀ ra M nn uu, nn = n + 3 → uu = u + 6 + 6 + 6 → RG a ra [59, 58, 57, 55, 52, 49, 47, 45, 44, 43, 42, 41, 40, 39, 38, 37, 36, 35, 34, 31, 30, 29, 28, 27, 26, 25, 24, 23, 22, 21, 20, 19, 18, 17, 16, 15, 14, 13, 12, 11, 10, 9, 8, 7, 6, 5, 4, 2, 1] rR0 nn uu M → sm_Run (D + 1) 150 494 [some (.inr (some a)), some (.inl x), z2] [] M Q) : sm_Run (D + 1) 150 470 [some (.inr (some a)), some (.inl x), z2] [] M Q := by
  have g1 := rg_new (f := 57) (K := rK 57) (L := rL 57) h (by decide) (fun _ => rfl) rfl rfl
  have g2 := rg_new (f := 58) (K := rK 58) (L := rL 58) g1 (by decide) (fun _ => rfl) rfl rfl
  have g3 := rg_new (f := 59) (K := rK 59) (L := rL 59) g2 (by decide) (fun _ => rfl) rfl rfl
  exact bb_150_470 ⟨rg_k h, rg_k g1, rg_k g2, hn _ _ _ _ rfl rfl g3⟩
theorem cr_494 {z2 : Option sm_V} {Q : Option sm_V → sm_M → Prop} (h : RG a ra [59, 58, 57, 55, 52, 49, 47, 45, 44, 43, 42, 41, 40, 39, 38, 37, 36, 35, 34, 31, 30, 29, 28, 27, 26, 25, 24, 23, 22, 21, 20, 19, 18, 17, 16, 15, 14, 13, 12, 11, 10, 9, 8, 7, 6, 5, 4, 2, 1] rR0 n u M) (hn : ∀ ra M nn uu, nn = n + 3 → uu = u + 6 + 6 + 60 → RG a ra [62, 61, 60, 59, 58, 57, 55, 52, 49, 47, 45, 44, 43, 42, 41, 40, 39, 38, 37, 36, 35, 34, 31, 30, 29, 28, 27, 26, 25, 24, 23, 22, 21, 20, 19, 18, 17, 16, 15, 14, 13, 12, 11, 10, 9, 8, 7, 6, 5, 4, 2, 1] rR0 nn uu M → sm_Run (D + 1) 150 518 [some (.inr (some a)), some (.inl x), z2] [] M Q) : sm_Run (D + 1) 150 494 [some (.inr (some a)), some (.inl x), z2] [] M Q := by
  have g1 := rg_new (f := 60) (K := rK 60) (L := rL 60) h (by decide) (fun _ => rfl) rfl rfl
  have g2 := rg_new (f := 61) (K := rK 61) (L := rL 61) g1 (by decide) (fun _ => rfl) rfl rfl
  have g3 := rg_new (f := 62) (K := rK 62) (L := rL 62) g2 (by decide) (fun _ => rfl) rfl rfl
  exact bb_150_494 ⟨rg_k h, rg_k g1, rg_k g2, hn _ _ _ _ rfl rfl g3⟩
theorem cr_518 {z2 : Option sm_V} {Q : Option sm_V → sm_M → Prop} (h : RG a ra [62, 61, 60, 59, 58, 57, 55, 52, 49, 47, 45, 44, 43, 42, 41, 40, 39, 38, 37, 36, 35, 34, 31, 30, 29, 28, 27, 26, 25, 24, 23, 22, 21, 20, 19, 18, 17, 16, 15, 14, 13, 12, 11, 10, 9, 8, 7, 6, 5, 4, 2, 1] rR0 n u M) (hn : ∀ ra M nn uu, nn = n + 3 → uu = u + 60 + 60 + 60 → RG a ra [65, 64, 63, 62, 61, 60, 59, 58, 57, 55, 52, 49, 47, 45, 44, 43, 42, 41, 40, 39, 38, 37, 36, 35, 34, 31, 30, 29, 28, 27, 26, 25, 24, 23, 22, 21, 20, 19, 18, 17, 16, 15, 14, 13, 12, 11, 10, 9, 8, 7, 6, 5, 4, 2, 1] rR0 nn uu M → sm_Run (D + 1) 150 542 [some (.inr (some a)), some (.inl x), z2] [] M Q) : sm_Run (D + 1) 150 518 [some (.inr (some a)), some (.inl x), z2] [] M Q := by
  have g1 := rg_new (f := 63) (K := rK 63) (L := rL 63) h (by decide) (fun _ => rfl) rfl rfl
  have g2 := rg_new (f := 64) (K := rK 64) (L := rL 64) g1 (by decide) (fun _ => rfl) rfl rfl
  have g3 := rg_new (f := 65) (K := rK 65) (L := rL 65) g2 (by decide) (fun _ => rfl) rfl rfl
  exact bb_150_518 ⟨rg_k h, rg_k g1, rg_k g2, hn _ _ _ _ rfl rfl g3⟩
theorem cr_542 {z2 : Option sm_V} {Q : Option sm_V → sm_M → Prop} (h : RG a ra [65, 64, 63, 62, 61, 60, 59, 58, 57, 55, 52, 49, 47, 45, 44, 43, 42, 41, 40, 39, 38, 37, 36, 35, 34, 31, 30, 29, 28, 27, 26, 25, 24, 23, 22, 21, 20, 19, 18, 17, 16, 15, 14, 13, 12, 11, 10, 9, 8, 7, 6, 5, 4, 2, 1] rR0 n u M) (hn : ∀ ra M nn uu, nn = n + 3 → uu = u + 60 + 60 + 60 → RG a ra [68, 67, 66, 65, 64, 63, 62, 61, 60, 59, 58, 57, 55, 52, 49, 47, 45, 44, 43, 42, 41, 40, 39, 38, 37, 36, 35, 34, 31, 30, 29, 28, 27, 26, 25, 24, 23, 22, 21, 20, 19, 18, 17, 16, 15, 14, 13, 12, 11, 10, 9, 8, 7, 6, 5, 4, 2, 1] rR0 nn uu M → sm_Run (D + 1) 150 566 [some (.inr (some a)), some (.inl x), z2] [] M Q) : sm_Run (D + 1) 150 542 [some (.inr (some a)), some (.inl x), z2] [] M Q := by
  have g1 := rg_new (f := 66) (K := rK 66) (L := rL 66) h (by decide) (fun _ => rfl) rfl rfl
  have g2 := rg_new (f := 67) (K := rK 67) (L := rL 67) g1 (by decide) (fun _ => rfl) rfl rfl
  have g3 := rg_new (f := 68) (K := rK 68) (L := rL 68) g2 (by decide) (fun _ => rfl) rfl rfl
  exact bb_150_542 ⟨rg_k h, rg_k g1, rg_k g2, hn _ _ _ _ rfl rfl g3⟩
theorem cr_566 {z2 : Option sm_V} {Q : Option sm_V → sm_M → Prop} (h : RG a ra [68, 67, 66, 65, 64, 63, 62, 61, 60, 59, 58, 57, 55, 52, 49, 47, 45, 44, 43, 42, 41, 40, 39, 38, 37, 36, 35, 34, 31, 30, 29, 28, 27, 26, 25, 24, 23, 22, 21, 20, 19, 18, 17, 16, 15, 14, 13, 12, 11, 10, 9, 8, 7, 6, 5, 4, 2, 1] rR0 n u M) (hn : ∀ ra M nn uu, nn = n + 3 → uu = u + 400 + 400 + 400 → RG a ra [73, 72, 71, 68, 67, 66, 65, 64, 63, 62, 61, 60, 59, 58, 57, 55, 52, 49, 47, 45, 44, 43, 42, 41, 40, 39, 38, 37, 36, 35, 34, 31, 30, 29, 28, 27, 26, 25, 24, 23, 22, 21, 20, 19, 18, 17, 16, 15, 14, 13, 12, 11, 10, 9, 8, 7, 6, 5, 4, 2, 1] rR0 nn uu M → sm_Run (D + 1) 150 593 [some (.inr (some a)), some (.inl x), z2] [] M Q) : sm_Run (D + 1) 150 566 [some (.inr (some a)), some (.inl x), z2] [] M Q := by
  have g1 := rg_new (f := 71) (K := rK 71) (L := rL 71) h (by decide) (fun _ => rfl) rfl rfl
  have g2 := rg_new (f := 72) (K := rK 72) (L := rL 72) g1 (by decide) (fun _ => rfl) rfl rfl
  have g3 := rg_new (f := 73) (K := rK 73) (L := rL 73) g2 (by decide) (fun _ => rfl) rfl rfl
  exact bb_150_566 ⟨rg_k h, rg_k g1, rg_k g2, hn _ _ _ _ rfl rfl g3⟩
theorem cr_593 {z2 : Option sm_V} {Q : Option sm_V → sm_M → Prop} (h : RG a ra [73, 72, 71, 68, 67, 66, 65, 64, 63, 62, 61, 60, 59, 58, 57, 55, 52, 49, 47, 45, 44, 43, 42, 41, 40, 39, 38, 37, 36, 35, 34, 31, 30, 29, 28, 27, 26, 25, 24, 23, 22, 21, 20, 19, 18, 17, 16, 15, 14, 13, 12, 11, 10, 9, 8, 7, 6, 5, 4, 2, 1] rR0 n u M) (hn : ∀ ra M nn uu, nn = n + 3 → uu = u + 400 + 400 + 400 → RG a ra [76, 75, 74, 73, 72, 71, 68, 67, 66, 65, 64, 63, 62, 61, 60, 59, 58, 57, 55, 52, 49, 47, 45, 44, 43, 42, 41, 40, 39, 38, 37, 36, 35, 34, 31, 30, 29, 28, 27, 26, 25, 24, 23, 22, 21, 20, 19, 18, 17, 16, 15, 14, 13, 12, 11, 10, 9, 8, 7, 6, 5, 4, 2, 1] rR0 nn uu M → sm_Run (D + 1) 150 620 [some (.inr (some a)), some (.inl x), z2] [] M Q) : sm_Run (D + 1) 150 593 [some (.inr (some a)), some (.inl x), z2] [] M Q := by
  have g1 := rg_new (f := 74) (K := rK 74) (L := rL 74) h (by decide) (fun _ => rfl) rfl rfl
  have g2 := rg_new (f := 75) (K := rK 75) (L := rL 75) g1 (by decide) (fun _ => rfl) rfl rfl
  have g3 := rg_new (f := 76) (K := rK 76) (L := rL 76) g2 (by decide) (fun _ => rfl) rfl rfl
  exact bb_150_593 ⟨rg_k h, rg_k g1, rg_k g2, hn _ _ _ _ rfl rfl g3⟩
theorem cr_620 {z2 : Option sm_V} {Q : Option sm_V → sm_M → Prop} (h : RG a ra [76, 75, 74, 73, 72, 71, 68, 67, 66, 65, 64, 63, 62, 61, 60, 59, 58, 57, 55, 52, 49, 47, 45, 44, 43, 42, 41, 40, 39, 38, 37, 36, 35, 34, 31, 30, 29, 28, 27, 26, 25, 24, 23, 22, 21, 20, 19, 18, 17, 16, 15, 14, 13, 12, 11, 10, 9, 8, 7, 6, 5, 4, 2, 1] rR0 n u M) (hn : ∀ ra M nn uu, nn = n + 3 → uu = u + 400 + 400 + 400 → RG a ra [79, 78, 77, 76, 75, 74, 73, 72, 71, 68, 67, 66, 65, 64, 63, 62, 61, 60, 59, 58, 57, 55, 52, 49, 47, 45, 44, 43, 42, 41, 40, 39, 38, 37, 36, 35, 34, 31, 30, 29, 28, 27, 26, 25, 24, 23, 22, 21, 20, 19, 18, 17, 16, 15, 14, 13, 12, 11, 10, 9, 8, 7, 6, 5, 4, 2, 1] rR0 nn uu M → sm_Run (D + 1) 150 647 [some (.inr (some a)), some (.inl x), z2] [] M Q) : sm_Run (D + 1) 150 620 [some (.inr (some a)), some (.inl x), z2] [] M Q := by
  have g1 := rg_new (f := 77) (K := rK 77) (L := rL 77) h (by decide) (fun _ => rfl) rfl rfl
  have g2 := rg_new (f := 78) (K := rK 78) (L := rL 78) g1 (by decide) (fun _ => rfl) rfl rfl
  have g3 := rg_new (f := 79) (K := rK 79) (L := rL 79) g2 (by decide) (fun _ => rfl) rfl rfl
  exact bb_150_620 ⟨rg_k h, rg_k g1, rg_k g2, hn _ _ _ _ rfl rfl g3⟩
theorem cr_647 {z2 : Option sm_V} {Q : Option sm_V → sm_M → Prop} (h : RG a ra [79, 78, 77, 76, 75, 74, 73, 72, 71, 68, 67, 66, 65, 64, 63, 62, 61, 60, 59, 58, 57, 55, 52, 49, 47, 45, 44, 43, 42, 41, 40, 39, 38, 37, 36, 35, 34, 31, 30, 29, 28, 27, 26, 25, 24, 23, 22, 21, 20, 19, 18, 17, 16, 15, 14, 13, 12, 11, 10, 9, 8, 7, 6, 5, 4, 2, 1] rR0 n u M) (hn : ∀ ra M nn uu, nn = n + 3 → uu = u + 3200 + 40000 + 100 → RG a ra [83, 81, 80, 79, 78, 77, 76, 75, 74, 73, 72, 71, 68, 67, 66, 65, 64, 63, 62, 61, 60, 59, 58, 57, 55, 52, 49, 47, 45, 44, 43, 42, 41, 40, 39, 38, 37, 36, 35, 34, 31, 30, 29, 28, 27, 26, 25, 24, 23, 22, 21, 20, 19, 18, 17, 16, 15, 14, 13, 12, 11, 10, 9, 8, 7, 6, 5, 4, 2, 1] rR0 nn uu M → sm_Run (D + 1) 150 672 [some (.inr (some a)), some (.inl x), z2] [] M Q) : sm_Run (D + 1) 150 647 [some (.inr (some a)), some (.inl x), z2] [] M Q := by
  have g1 := rg_new (f := 80) (K := rK 80) (L := rL 80) h (by decide) (fun _ => rfl) rfl rfl
  have g2 := rg_new (f := 81) (K := rK 81) (L := rL 81) g1 (by decide) (fun _ => rfl) rfl rfl
  have g3 := rg_new (f := 83) (K := rK 83) (L := rL 83) g2 (by decide) (fun _ => rfl) rfl rfl
  exact bb_150_647 ⟨rg_k h, rg_k g1, rg_k g2, hn _ _ _ _ rfl rfl g3⟩
theorem rg_rm (h : RG a ra [86, 85, 83, 81, 80, 79, 78, 77, 76, 75, 74, 73, 72, 71, 68, 67, 66, 65, 64, 63, 62, 61, 60, 59, 58, 57, 55, 52, 49, 47, 45, 44, 43, 42, 41, 40, 39, 38, 37, 36, 35, 34, 31, 30, 29, 28, 27, 26, 25, 24, 23, 22, 21, 20, 19, 18, 17, 16, 15, 14, 13, 12, 11, 10, 9, 8, 7, 6, 5, 4, 2, 1] R n u M) : RM a ra R M := by
  have m : ∀ k, k < 88 → rK k ≠ 0 → k ∈ [86, 85, 83, 81, 80, 79, 78, 77, 76, 75, 74, 73, 72, 71, 68, 67, 66, 65, 64, 63, 62, 61, 60, 59, 58, 57, 55, 52, 49, 47, 45, 44, 43, 42, 41, 40, 39, 38, 37, 36, 35, 34, 31, 30, 29, 28, 27, 26, 25, 24, 23, 22, 21, 20, 19, 18, 17, 16, 15, 14, 13, 12, 11, 10, 9, 8, 7, 6, 5, 4, 2, 1] := by decide +kernel
  obtain ⟨k1, k2, k3, k4, k5, k6⟩ := h
  refine ⟨k1, fun k hk h0 => ?_, fun k j hk h0 => (k5 k (m k hk h0)).2.2.2.2 j, k6⟩
  obtain ⟨y1, y2, y3, -⟩ := k5 k (m k hk h0)
  exact ⟨y1, y2, y3⟩
/-- what a new reference holds -/
def rS0 (r : Int32) (R : Nat → Nat → Int32) : Prop := R 0 0 = r ∧ R 69 0 = nI 59 ∧ (∀ d, d < 6 → R 6 d = nI 8 ∧ R 58 d = nI 8) ∧ (∀ i, R 55 i = nI (hd0.getD i 0)) ∧ ∀ f j, f ≠ 0 → f ≠ 69 → f ≠ 6 → f ≠ 58 → f ≠ 55 → R f j = nI 0
theorem cr_672 {z2 : Option sm_V} {Q : Option sm_V → sm_M → Prop} (h : RG a ra [83, 81, 80, 79, 78, 77, 76, 75, 74, 73, 72, 71, 68, 67, 66, 65, 64, 63, 62, 61, 60, 59, 58, 57, 55, 52, 49, 47, 45, 44, 43, 42, 41, 40, 39, 38, 37, 36, 35, 34, 31, 30, 29, 28, 27, 26, 25, 24, 23, 22, 21, 20, 19, 18, 17, 16, 15, 14, 13, 12, 11, 10, 9, 8, 7, 6, 5, 4, 2, 1] rR0 n u M) (hn : ∀ ra R M, RM a ra R M → rS0 (roomI x) R → sm_N M = n + 2 → sm_U M = u + 366 → Q none M) : sm_Run (D + 1) 150 672 [some (.inr (some a)), some (.inl x), z2] [] M Q := by
  have g1 := rg_new (f := 85) (K := rK 85) (L := rL 85) h (by decide) (fun _ => rfl) rfl rfl
  have g2 := rg_new (f := 86) (K := rK 86) (L := rL 86) g1 (by decide) (fun _ => rfl) rfl rfl
  have r2 := rg_rm g2
  have lp : ∀ (m i : Nat) (ra : Nat → Nat) (R : Nat → Nat → Int32) (M : sm_M), i + m = 6 → RM a ra R M → sm_N M = n + 2 → sm_U M = u + 366 → R 0 0 = roomI x → R 69 0 = nI 59 → (∀ d, d < i → R 6 d = nI 8 ∧ R 58 d = nI 8) → (∀ i, R 55 i = nI (hd0.getD i 0)) → (∀ f j, f ≠ 0 → f ≠ 69 → f ≠ 6 → f ≠ 58 → f ≠ 55 → R f j = nI 0) → sm_Run (D + 1) 150 722 [some (.inr (some a)), some (.inl x), some (.inl (nI i))] [] M Q := by
    intro m
    induction m with
    | zero =>
      intro i ra R M hi k1 k2 k3 k4 k5 k6 k7 k8
      obtain rfl : i = 6 := by omega
      exact bb_150_722 ⟨fun _ => hn ra R M k1 ⟨k4, k5, k6, k7, k8⟩ k2 k3, fun q => absurd (by decide) q⟩
    | succ m ih =>
      intro i ra R M hi k1 k2 k3 k4 k5 k6 k7 k8
      have i6 : i < 6 := by omega
      have cl : (nI i).toNatClampNeg = i := nI_clamp (by omega)
      have j1 := rm_wr k1 (f := 6) (j := i) (v := nI 8)
      have j2 := rm_wr j1 (f := 58) (j := i) (v := nI 8)
      refine bb_150_722 ⟨fun q => ?_, fun _ => ⟨k1.1, ra 6, rd_r6 k1, of_eq_true (rW_6 k1), of_eq_true (rN_6 k1 i6), ra 58, ?_⟩⟩
      · rw [li_6, nI_leI (by decide) (by omega)] at q; omega
      rw [cl, nI_1]
      refine ⟨rd_r58 j1, of_eq_true (rW_58 k1), of_eq_true (rN_58 k1 i6), ?_⟩
      refine ih (i + 1) ra _ _ (by omega) j2 k2 k3 ?_ ?_ (fun d hd => ?_) (fun i' => ?_) (fun f j n1 n2 n3 n4 n5 => ?_)
      · simp only [u2_r]; rw [if_neg (by omega), if_neg (by omega)]; exact k4
      · simp only [u2_r]; rw [if_neg (by omega), if_neg (by omega)]; exact k5
      · simp only [u2_r]
        by_cases c : d = i
        · subst c; simp
        · rw [if_neg (by omega), if_neg (by omega), if_neg (by omega), if_neg (by omega)]; exact k6 d (by omega)
      · simp only [u2_r]; rw [if_neg (by omega), if_neg (by omega)]; exact k7 i'
      · simp only [u2_r]; rw [if_neg (by omega), if_neg (by omega)]; exact k8 f j n1 n2 n3 n4 n5
  have go : ∀ y : Int32, y = roomI x → sm_Run (D + 1) 150 722 [some (.inr (some a)), some (.inl x), some (.inl (nI 0))] [] (sm_putI (sm_putI (sm_putR (sm_new (sm_putR (sm_new M 494 (6 : Int32).toNatClampNeg (6 : Int32).toNatClampNeg) a 85 (some (sm_N M))) 497 (360 : Int32).toNatClampNeg (360 : Int32).toNatClampNeg) a 86 (some (sm_N (sm_putR (sm_new M 494 (6 : Int32).toNatClampNeg (6 : Int32).toNatClampNeg) a 85 (some (sm_N M)))))) a 0 y) a 69 59) Q := by
    intro y hy
    have j1 := rm_sr r2 (f := 0) (v := y)
    have j2 := rm_sr j1 (f := 69) (v := 59)
    refine lp 6 0 _ _ _ rfl j2 g2.2.2.1 ?_ ?_ ?_ (fun d hd => absurd hd (Nat.not_lt_zero _)) (fun i => ?_) (fun f j n1 n2 n3 n4 n5 => ?_)
    · have := g2.2.2.2.1
      exact this
    · rw [u2_r, if_neg (by omega), u2_r, if_pos ⟨rfl, rfl⟩]; exact hy
    · rw [u2_r, if_pos ⟨rfl, rfl⟩]; rfl
    · simp only [u2_r]; rw [if_neg (by omega), if_neg (by omega)]; rfl
    · simp only [u2_r]; rw [if_neg (by omega), if_neg (by omega)]; unfold rR0; rw [if_neg n5]; rfl
  exact bb_150_672 ⟨rg_k h, rg_k g1, fun q => ⟨fun q' => go x (room_a q q'), fun q' => go 40 (room_b q')⟩, fun q => go 1 (room_c q)⟩
/-- new WireBusModel -/
theorem r_build (hk : sm_K M a = 39) (ha : a < sm_N M) (hz : ∀ k, sm_I M a k = 0) : sm_Run (D + 1) 150 0 (sm_ent 150 [.inr (some a), .inl x]) [] M (fun v M' => v = none ∧ (∃ ra R, RM a ra R M' ∧ rS0 (roomI x) R) ∧ sm_N M' = sm_N M + 72 ∧ sm_U M' = sm_U M + 66744) := by
  have h0 : RG a (fun _ => 0) [] rR0 (sm_N M) (sm_U M) M := by
    refine ⟨hk, ha, rfl, rfl, fun k hk => (by cases hk), fun k hk h0 => ?_⟩
    rw [hz k]; unfold rR0; split
    · rename_i c; subst c; exact absurd h0 (by decide)
    · rfl
  refine cr_0 h0 (fun ra M1 n0 u0 i0 j0 h0 => ?_)
  refine cr_29 h0 (fun ra M1 n29 u29 i29 j29 h0 => ?_)
  refine cr_53 h0 (fun ra M1 n53 u53 i53 j53 h0 => ?_)
  refine cr_77 h0 (fun ra M1 n77 u77 i77 j77 h0 => ?_)
  refine cr_101 h0 (fun ra M1 n101 u101 i101 j101 h0 => ?_)
  refine cr_125 h0 (fun ra M1 n125 u125 i125 j125 h0 => ?_)
  refine cr_151 h0 (fun ra M1 n151 u151 i151 j151 h0 => ?_)
  refine cr_175 h0 (fun ra M1 n175 u175 i175 j175 h0 => ?_)
  refine cr_199 h0 (fun ra M1 n199 u199 i199 j199 h0 => ?_)
  refine cr_223 h0 (fun ra M1 n223 u223 i223 j223 h0 => ?_)
  refine cr_248 h0 (fun ra M1 n248 u248 i248 j248 h0 => ?_)
  refine cr_272 h0 (fun ra M1 n272 u272 i272 j272 h0 => ?_)
  refine cr_296 h0 (fun ra M1 n296 u296 i296 j296 h0 => ?_)
  refine cr_321 h0 (fun ra M1 n321 u321 i321 j321 h0 => ?_)
  refine cr_345 h0 (fun ra M1 n345 u345 i345 j345 h0 => ?_)
  refine cr_371 h0 (fun ra M1 n371 u371 i371 j371 h0 => ?_)
  refine cr_470 h0 (fun ra M1 n470 u470 i470 j470 h0 => ?_)
  refine cr_494 h0 (fun ra M1 n494 u494 i494 j494 h0 => ?_)
  refine cr_518 h0 (fun ra M1 n518 u518 i518 j518 h0 => ?_)
  refine cr_542 h0 (fun ra M1 n542 u542 i542 j542 h0 => ?_)
  refine cr_566 h0 (fun ra M1 n566 u566 i566 j566 h0 => ?_)
  refine cr_593 h0 (fun ra M1 n593 u593 i593 j593 h0 => ?_)
  refine cr_620 h0 (fun ra M1 n620 u620 i620 j620 h0 => ?_)
  refine cr_647 h0 (fun ra M1 n647 u647 i647 j647 h0 => ?_)
  refine cr_672 h0 (fun ra R M1 h1 h2 h3 h4 => ⟨rfl, ⟨ra, R, h1, h2⟩, ?_, ?_⟩)
  · omega
  · omega
end JI_
