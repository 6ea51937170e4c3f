/-! What a memory of the small machine says of a heap -/
def sm_fv (ty : FieldType) (x : Int32) (r : Option Nat) : Value := bif sm_isR ty then va_rf r else .int x
def sm_fs (ci : Nat) (f : Nat → Int32) (r : Nat → Option Nat) : List Value := (List.range (sm_nf ci)).map (fun k => sm_fv (sm_ty ci k) (f k) (r k))
def sm_cell (tc : Nat → ClassId) (M : sm_M) (a : Nat) : va_E :=
  if sm_K M a % 3 = 2 then .inl (if sm_K M a < 602 then tc 0 else tc 999, sm_L M a, .inl (sm_I M a))
  else if sm_K M a % 3 = 0 then .inr ((sm_K M a - 3) / 3, sm_fs ((sm_K M a - 3) / 3) (sm_I M a) (sm_R M a))
  else .inl (tc (1 + (sm_K M a - 4) / 3), sm_L M a, .inr (.inr (.inr (.inr (sm_R M a)))))
def sm_kok (k : Nat) : Bool := decide (k ≤ 2) || (if k % 3 = 2 then true else if k % 3 = 0 then decide ((k - 3) / 3 < sm_nc) else decide ((k - 4) / 3 ∈ sm_arrs))
def sm_tys (tc : Nat → ClassId) : List (ClassId × FieldType) := (tc 0, .int) :: (tc 999, .boolean) :: sm_arrs.map (fun ci => (tc (1 + ci), .object (sm_cn ci)))
abbrev sm_A (base : Nat) : Nat → Prop := fun q => base ≤ q
def sm_Rep (G : va_G) (tc : Nat → ClassId) (base : Nat) (M : sm_M) (H : Heap) : Prop :=
  sm_N M = H.size ∧ (∀ a, sm_kok (sm_K M a) = true) ∧ ∀ a, 2 ≤ sm_K M a → base ≤ a ∧ va_at G sm_cl (a, sm_cell tc M a) H
/-- what nobody writes: the arrays of kind 1, the statics -/
def sm_Ro (base : Nat) (M : sm_M) (U : State) (H : Heap) : Prop :=
  (∀ a, sm_K M a = 1 → va_T .int a (sm_L M a) (fun j => .int (sm_I M a j)) (sm_A base) U H) ∧ ∀ k, k < sm_ns → va_Z (sm_sn k).1 (sm_sn k).2.1 (sm_sn k).2.2 (va_rf (sm_S M k)) (sm_A base) U H
theorem sm_cell_i {tc : Nat → ClassId} {M : sm_M} {a : Nat} (h : sm_K M a % 3 = 2) (h2 : sm_K M a < 602) : sm_cell tc M a = .inl (tc 0, sm_L M a, .inl (sm_I M a)) := by
  simp [sm_cell, h, h2]
theorem sm_cell_z {tc : Nat → ClassId} {M : sm_M} {a : Nat} (h : sm_K M a % 3 = 2) (h2 : 602 ≤ sm_K M a) : sm_cell tc M a = .inl (tc 999, sm_L M a, .inl (sm_I M a)) := by
  have h3 : ¬ sm_K M a < 602 := by omega
  simp [sm_cell, h, h3]
theorem sm_cell_o {tc : Nat → ClassId} {M : sm_M} {a ci : Nat} (h : sm_K M a = 3 + 3 * ci) : sm_cell tc M a = .inr (ci, sm_fs ci (sm_I M a) (sm_R M a)) := by
  have e1 : ¬ sm_K M a % 3 = 2 := by omega
  have e2 : sm_K M a % 3 = 0 := by omega
  have e3 : (sm_K M a - 3) / 3 = ci := by omega
  unfold sm_cell
  rw [if_neg e1, if_pos e2, e3]
theorem sm_cell_q {tc : Nat → ClassId} {M : sm_M} {a ci : Nat} (h : sm_K M a = 4 + 3 * ci) : sm_cell tc M a = .inl (tc (1 + ci), sm_L M a, .inr (.inr (.inr (.inr (sm_R M a))))) := by
  have e1 : ¬ sm_K M a % 3 = 2 := by omega
  have e2 : ¬ sm_K M a % 3 = 0 := by omega
  have e3 : (sm_K M a - 4) / 3 = ci := by omega
  unfold sm_cell
  rw [if_neg e1, if_neg e2, e3]
theorem sm_cell_eq {tc : Nat → ClassId} {M M' : sm_M} {b : Nat} (hK : sm_K M' b = sm_K M b) (hL : sm_L M' b = sm_L M b) (hI : sm_I M' b = sm_I M b) (hR : sm_R M' b = sm_R M b) : sm_cell tc M' b = sm_cell tc M b := by
  simp only [sm_cell, hK, hL, hI, hR]
theorem sm_u2_ne {α : Type} {f : Nat → Nat → α} {a k b : Nat} {x : α} (h : b ≠ a) : sm_u2 f a k x b = f b := by
  funext j
  simp [sm_u2, h]
theorem sm_u2_at {α : Type} {f : Nat → Nat → α} {a k : Nat} {x : α} (j : Nat) : sm_u2 f a k x a j = if j = k then x else f a j := by
  simp [sm_u2]
theorem sm_u1_ne {α : Type} {f : Nat → α} {a b : Nat} {x : α} (h : b ≠ a) : sm_u1 f a x b = f b := by
  simp [sm_u1, h]
theorem sm_u1_at {α : Type} {f : Nat → α} {a : Nat} {x : α} : sm_u1 f a x a = x := by
  simp [sm_u1]
theorem sm_kok_o {ci : Nat} (h : sm_kok (3 + 3 * ci) = true) : ci < sm_nc := by
  have e1 : ¬ (3 + 3 * ci ≤ 2) := by omega
  have e2 : (3 + 3 * ci) % 3 = 0 := by omega
  have e3 : (3 + 3 * ci - 3) / 3 = ci := by omega
  simpa [sm_kok, e1, e2, e3] using h
theorem sm_kok_q {ci : Nat} (h : sm_kok (4 + 3 * ci) = true) : ci ∈ sm_arrs := by
  have e1 : ¬ (4 + 3 * ci ≤ 2) := by omega
  have e2 : (4 + 3 * ci) % 3 = 1 := by omega
  have e3 : (4 + 3 * ci - 4) / 3 = ci := by omega
  simpa [sm_kok, e1, e2, e3] using h
theorem sm_kok_o' {ci : Nat} (h : ci < sm_nc) : sm_kok (3 + 3 * ci) = true := by
  have e2 : (3 + 3 * ci) % 3 = 0 := by omega
  have e3 : (3 + 3 * ci - 3) / 3 = ci := by omega
  simp [sm_kok, e2, e3, h]
theorem sm_kok_q' {ci : Nat} (h : ci ∈ sm_arrs) : sm_kok (4 + 3 * ci) = true := by
  have e2 : (4 + 3 * ci) % 3 = 1 := by omega
  have e3 : (4 + 3 * ci - 4) / 3 = ci := by omega
  simp [sm_kok, e2, e3, h]
theorem sm_kok_i (j : Nat) : sm_kok (2 + 3 * j) = true := by
  have e2 : (2 + 3 * j) % 3 = 2 := by omega
  simp [sm_kok, e2]
theorem sm_tys_q {tc : Nat → ClassId} {ci : Nat} (h : ci ∈ sm_arrs) : ∃ t0 : Nat, (sm_tys tc)[t0]? = some (tc (1 + ci), .object (sm_cn ci)) := by
  have h1 : (tc (1 + ci), FieldType.object (sm_cn ci)) ∈ sm_tys tc := List.mem_cons_of_mem _ (List.mem_cons_of_mem _ (List.mem_map.mpr ⟨ci, h, rfl⟩))
  exact List.getElem?_of_mem h1
theorem sm_P1 {G : va_G} {tc : Nat → ClassId} {base : Nat} {M : sm_M} {H : Heap} {a : Nat} (h : sm_Rep G tc base M H) (ha : 2 ≤ sm_K M a) : va_P G sm_cl [(a, sm_cell tc M a)] H := by
  intro k q hk
  cases k with
  | zero => cases hk; exact (h.2.2 a ha).2
  | succ k => simp at hk
/-- one cell changes -/
theorem sm_Rep_put {G : va_G} {tc : Nat → ClassId} {base a : Nat} {M M' : sm_M} {H H' : Heap} (h : sm_Rep G tc base M H) (hK : sm_K M' = sm_K M) (hL : sm_L M' = sm_L M) (hN : sm_N M' = sm_N M) (hI : ∀ b, b ≠ a → sm_I M' b = sm_I M b) (hR : ∀ b, b ≠ a → sm_R M' b = sm_R M b)
    (hz : H'.size = H.size) (oq : ∀ q : Nat, q ≠ a → H'[q]? = H[q]?) (he : va_at G sm_cl (a, sm_cell tc M' a) H') : sm_Rep G tc base M' H' := by
  refine ⟨by rw [hN, hz]; exact h.1, fun b => by rw [hK]; exact h.2.1 b, fun b hb => ?_⟩
  rw [hK] at hb
  refine ⟨(h.2.2 b hb).1, ?_⟩
  by_cases hba : b = a
  · subst hba; exact he
  · rw [sm_cell_eq (by rw [hK]) (by rw [hL]) (hI b hba) (hR b hba)]
    exact ((h.2.2 b hb).2).kept (oq b hba)
/-- one cell comes -/
theorem sm_Rep_new {G : va_G} {tc : Nat → ClassId} {base : Nat} {M : sm_M} {H H' : Heap} {K n u : Nat} (h : sm_Rep G tc base M H) (hb : base ≤ H.size) (hk : sm_kok K = true) (hz : H'.size = H.size + 1) (oq : ∀ q : Nat, q < H.size → H'[q]? = H[q]?)
    (he : va_at G sm_cl (sm_N M, sm_cell tc (sm_new M K n u) (sm_N M)) H') : sm_Rep G tc base (sm_new M K n u) H' := by
  have eK : ∀ b, b ≠ sm_N M → sm_K (sm_new M K n u) b = sm_K M b := fun b hb => sm_u1_ne hb
  refine ⟨by rw [hz, ← h.1]; rfl, fun b => ?_, fun b hb2 => ?_⟩
  · by_cases hbn : b = sm_N M
    · subst hbn; rw [show sm_K (sm_new M K n u) (sm_N M) = K from sm_u1_at]; exact hk
    · rw [eK b hbn]; exact h.2.1 b
  · by_cases hbn : b = sm_N M
    · subst hbn; exact ⟨by rw [h.1]; exact hb, he⟩
    · rw [eK b hbn] at hb2
      obtain ⟨g1, g2⟩ := h.2.2 b hb2
      refine ⟨g1, ?_⟩
      rw [sm_cell_eq (M := M) (eK b hbn) (sm_u1_ne hbn) (sm_u1_ne hbn) (sm_u1_ne hbn)]
      exact g2.kept (oq b g2.lt)
theorem sm_Ro_put {base a : Nat} {M M' : sm_M} {U : State} {H : Heap} (h : sm_Ro base M U H) (hK : sm_K M' = sm_K M) (hL : sm_L M' = sm_L M) (hS : sm_S M' = sm_S M) (hI : ∀ b, b ≠ a → sm_I M' b = sm_I M b) (ha : sm_K M a ≠ 1) : sm_Ro base M' U H := by
  refine ⟨fun b hb => ?_, fun k hk => by rw [hS]; exact h.2 k hk⟩
  rw [hK] at hb
  have hba : b ≠ a := fun e => ha (by rw [← e]; exact hb)
  rw [hL, hI b hba]
  exact h.1 b hb
theorem sm_Ro_new {base : Nat} {M : sm_M} {U : State} {H : Heap} {K n u : Nat} (h : sm_Ro base M U H) (hK : K ≠ 1) (hN : base ≤ sm_N M) : sm_Ro base (sm_new M K n u) U H := by
  refine ⟨fun b hb => ?_, h.2⟩
  by_cases hbn : b = sm_N M
  · subst hbn
    rw [show sm_K (sm_new M K n u) (sm_N M) = K from sm_u1_at] at hb
    exact absurd hb hK
  · rw [show sm_K (sm_new M K n u) b = sm_K M b from sm_u1_ne hbn] at hb
    rw [show sm_L (sm_new M K n u) b = sm_L M b from sm_u1_ne hbn, show sm_I (sm_new M K n u) b = sm_I M b from sm_u1_ne hbn]
    exact h.1 b hb
/-- the locals -/
def sm_ls (lsA : Array Slot) (nL : Nat) (ls : List (Option sm_V)) : Prop := ls.length = nL ∧ lsA.size = nL ∧ lv_wf lsA ∧ ∀ (i : Nat) (v : sm_V), ls[i]? = some (some v) → lsA[i]? = some (.val (sm_v v))
def sm_lp : Nat → List (Option sm_V) → List (Nat × Value)
  | _, [] => []
  | n, none :: r => sm_lp (n + 1) r
  | n, some v :: r => (n, sm_v v) :: sm_lp (n + 1) r
theorem sm_lp_mem : ∀ (ls : List (Option sm_V)) (n : Nat) (q : Nat × Value), q ∈ sm_lp n ls → ∃ (j : Nat) (v : sm_V), q = (n + j, sm_v v) ∧ ls[j]? = some (some v)
  | [], n, q, h => by simp [sm_lp] at h
  | none :: r, n, q, h => by
    obtain ⟨j, v, h1, h2⟩ := sm_lp_mem r (n + 1) q h
    exact ⟨j + 1, v, by rw [h1]; congr 1; omega, by simpa using h2⟩
  | some w :: r, n, q, h => by
    rcases List.mem_cons.mp h with h | h
    · exact ⟨0, w, by simpa using h, rfl⟩
    · obtain ⟨j, v, h1, h2⟩ := sm_lp_mem r (n + 1) q h
      exact ⟨j + 1, v, by rw [h1]; congr 1; omega, by simpa using h2⟩
theorem sm_lp_in : ∀ (ls : List (Option sm_V)) (n j : Nat) (v : sm_V), ls[j]? = some (some v) → (n + j, sm_v v) ∈ sm_lp n ls
  | [], n, j, v, h => by simp at h
  | none :: r, n, 0, v, h => by simp at h
  | none :: r, n, j + 1, v, h => by
    have := sm_lp_in r (n + 1) j v (by simpa using h)
    rw [show n + (j + 1) = n + 1 + j by omega]
    exact this
  | some w :: r, n, 0, v, h => by
    have e : w = v := by simpa using h
    subst e
    exact List.mem_cons_self
  | some w :: r, n, j + 1, v, h => by
    have := sm_lp_in r (n + 1) j v (by simpa using h)
    rw [show n + (j + 1) = n + 1 + j by omega]
    exact List.mem_cons_of_mem _ this
theorem sm_ls_has {lsA : Array Slot} {nL : Nat} {ls : List (Option sm_V)} (h : sm_ls lsA nL ls) : lv_has lsA nL (sm_lp 0 ls) := by
  refine ⟨h.2.1, h.2.2.1, fun q hq => ?_⟩
  obtain ⟨j, v, rfl, h2⟩ := sm_lp_mem ls 0 q hq
  rw [Nat.zero_add]
  exact h.2.2.2 j v h2
theorem sm_ls_get {lsA : Array Slot} {nL : Nat} {ls : List (Option sm_V)} (h : sm_ls lsA nL ls) {i : Nat} {v : sm_V} (hg : sm_get ls i = some v) : lsA[i]? = some (.val (sm_v v)) := by
  refine h.2.2.2 i v ?_
  unfold sm_get at hg
  split at hg
  · rename_i h1; cases hg; exact h1
  · cases hg
theorem sm_get_lt {ls : List (Option sm_V)} {i : Nat} {v : sm_V} (hg : sm_get ls i = some v) : i < ls.length ∧ ls[i]? = some (some v) := by
  unfold sm_get at hg
  split at hg
  · rename_i h1; cases hg; exact ⟨(List.getElem?_eq_some_iff.mp h1).1, h1⟩
  · cases hg
theorem sm_ls_set {lsA ls' : Array Slot} {nL i : Nat} {ls : List (Option sm_V)} {v : sm_V} (h : sm_ls lsA nL ls) (hi : i < nL) (h' : lv_has ls' nL ((i, sm_v v) :: (sm_lp 0 ls).filter (fun q => !(q.1 == i) && !(q.1 + 1 == i && q.2.category == 2)))) : sm_ls ls' nL (ls.set i (some v)) := by
  refine ⟨by rw [List.length_set]; exact h.1, h'.1, h'.2.1, fun j w hj => ?_⟩
  by_cases hji : j = i
  · subst hji
    rw [List.getElem?_set_self (by rw [h.1]; exact hi)] at hj
    cases hj
    exact h'.2.2 (j, sm_v v) List.mem_cons_self
  · rw [List.getElem?_set_ne (Ne.symm hji)] at hj
    refine h'.2.2 (j, sm_v w) (List.mem_cons_of_mem _ (List.mem_filter.mpr ⟨?_, ?_⟩))
    · have := sm_lp_in ls 0 j w hj
      rwa [Nat.zero_add] at this
    · simp [hji, sm_v_cat]
theorem sm_in {j : Int32} {n : Nat} (h : sm_ix j n = true) : vp_in j n := by
  rw [vp_in_iff]
  simpa [sm_ix] using h
