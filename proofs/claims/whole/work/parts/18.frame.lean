/-! What a run of the class leaves alone of the reference, and the other way round -/
def sm_mg (me : Nat) : Nat := if me < 150 then 0 else if me < 208 then 1 else 2
def sm_gc (g : Nat) (i : ClassFile.Instr) (x : sm_X) : Bool := match i with
  | .putfield _ => decide (sm_grp (3 + 3 * x.1) = g)
  | .iastore => decide (x.1 = g)
  | .aastore => decide (x.1 = g)
  | .bastore => decide (x.1 = g)
  | .new _ => decide (sm_grp (3 + 3 * x.1) = g)
  | .newarray _ => decide (sm_grp (2 + 3 * x.1) = g)
  | .anewarray _ => decide (sm_grp (4 + 3 * x.1) = g)
  | .invokevirtual _ => decide (x.2.1 < 208 ∧ sm_mg x.2.1 = g)
  | .invokespecial _ => decide (x.1 = 1 ∨ (x.2.1 < 208 ∧ sm_mg x.2.1 = g))
  | .invokestatic _ => if x.1 = 2 ∨ x.1 = 3 then true else if x.1 = 4 then decide (x.2.1 = g) else decide (x.2.1 < 208 ∧ sm_mg x.2.1 = g)
  | _ => true
theorem sm_gck : (List.range 208).all (fun me => (sm_tb me).all (fun q => sm_gc (sm_mg me) q.2.1 q.2.2.2)) = true := by decide +kernel
theorem sm_gok {me pc : Nat} {i : ClassFile.Instr} {len : Nat} {x : sm_X} (hm : me < 208) (h : sm_at me pc = some (i, len, x)) : sm_gc (sm_mg me) i x = true := by
  unfold sm_at at h
  obtain ⟨q, h1, h2⟩ := Option.map_eq_some_iff.mp h
  have h3 := List.all_eq_true.mp (List.all_eq_true.mp sm_gck me (List.mem_range.mpr hm)) q (List.mem_of_find?_eq_some h1)
  rw [h2] at h3
  exact h3
def sm_Wf (M : sm_M) : Prop := ∀ a, sm_K M a ≠ 0 → a < sm_N M
/-- since M only cells of group g changed, and only such came -/
def sm_Fr (g : Nat) (M M' : sm_M) : Prop := sm_S M' = sm_S M ∧ sm_N M ≤ sm_N M' ∧ (∀ a, sm_K M a ≠ 0 → sm_K M' a = sm_K M a ∧ sm_L M' a = sm_L M a ∧ ((sm_K M a = 1 ∨ sm_grp (sm_K M a) ≠ g) → sm_I M' a = sm_I M a ∧ sm_R M' a = sm_R M a)) ∧ ∀ a, sm_K M a = 0 → sm_K M' a = 0 ∨ (sm_N M ≤ a ∧ sm_grp (sm_K M' a) = g ∧ sm_K M' a ≠ 1)
theorem sm_Fr_rf {g : Nat} {M : sm_M} : sm_Fr g M M := ⟨rfl, Nat.le_refl _, fun _ _ => ⟨rfl, rfl, fun _ => ⟨rfl, rfl⟩⟩, fun _ h => Or.inl h⟩
theorem sm_Fr_tr {g : Nat} {M M1 M2 : sm_M} (h1 : sm_Fr g M M1) (h2 : sm_Fr g M1 M2) : sm_Fr g M M2 := by
  refine ⟨h2.1.trans h1.1, Nat.le_trans h1.2.1 h2.2.1, fun a ha => ?_, fun a ha => ?_⟩
  · obtain ⟨k1, l1, f1⟩ := h1.2.2.1 a ha
    obtain ⟨k2, l2, f2⟩ := h2.2.2.1 a (by rw [k1]; exact ha)
    refine ⟨k2.trans k1, l2.trans l1, fun hg => ?_⟩
    obtain ⟨i1, r1⟩ := f1 hg
    obtain ⟨i2, r2⟩ := f2 (by rw [k1]; exact hg)
    exact ⟨i2.trans i1, r2.trans r1⟩
  · by_cases h : sm_K M1 a = 0
    · rcases h2.2.2.2 a h with q | ⟨q1, q2⟩
      · exact Or.inl q
      · exact Or.inr ⟨Nat.le_trans h1.2.1 q1, q2⟩
    · rcases h1.2.2.2 a ha with q | ⟨q1, q2⟩
      · exact absurd q h
      · have := (h2.2.2.1 a h).1
        rw [this]
        exact Or.inr ⟨q1, q2⟩
theorem sm_Fr_put {g a : Nat} {M M' : sm_M} (hK : sm_K M' = sm_K M) (hL : sm_L M' = sm_L M) (hS : sm_S M' = sm_S M) (hN : sm_N M' = sm_N M) (hI : ∀ b, b ≠ a → sm_I M' b = sm_I M b) (hR : ∀ b, b ≠ a → sm_R M' b = sm_R M b) (hg : sm_grp (sm_K M a) = g) (h1 : sm_K M a ≠ 1) : sm_Fr g M M' := by
  refine ⟨hS, by rw [hN]; exact Nat.le_refl _, fun b hb => ⟨by rw [hK], by rw [hL], fun hx => ?_⟩, fun b hb => Or.inl (by rw [hK]; exact hb)⟩
  have hba : b ≠ a := by
    rintro rfl
    rcases hx with hx | hx
    · exact h1 hx
    · exact hx hg
  exact ⟨hI b hba, hR b hba⟩
theorem sm_Fr_new {g K n u : Nat} {M : sm_M} (hw : sm_Wf M) (hg : sm_grp K = g) (hK : K ≠ 1) : sm_Fr g M (sm_new M K n u) := by
  refine ⟨rfl, Nat.le_succ _, fun b hb => ?_, fun b hb => ?_⟩
  · have hbn : b ≠ sm_N M := Nat.ne_of_lt (hw b hb)
    exact ⟨sm_u1_ne hbn, sm_u1_ne hbn, fun _ => ⟨sm_u1_ne hbn, sm_u1_ne hbn⟩⟩
  · by_cases hbn : b = sm_N M
    · subst hbn
      have e : sm_K (sm_new M K n u) (sm_N M) = K := sm_u1_at
      rw [e]
      exact Or.inr ⟨Nat.le_refl _, hg, hK⟩
    · exact Or.inl ((show sm_K (sm_new M K n u) b = sm_K M b from sm_u1_ne hbn).trans hb)
theorem sm_Wf_new {K n u : Nat} {M : sm_M} (hw : sm_Wf M) : sm_Wf (sm_new M K n u) := by
  intro a ha
  by_cases hbn : a = sm_N M
  · subst hbn; exact Nat.lt_succ_self _
  · rw [show sm_K (sm_new M K n u) a = sm_K M a from sm_u1_ne hbn] at ha
    exact Nat.lt_succ_of_lt (hw a ha)
set_option maxHeartbeats 2000000 in
theorem sm_Fr_step {d g : Nat} {i : ClassFile.Instr} {x : sm_X} {pc : Nat} {ls : List (Option sm_V)} {st : List sm_V} {M : sm_M} {t : sm_T} (hg : sm_gc g i x = true) (hw : sm_Wf M) (h : sm_step d i x pc ls st M = some t) : sm_Wf t.2.2.2 ∧ sm_Fr g M t.2.2.2 := by
  cases i
  case putfield k =>
    have hg : sm_grp (3 + 3 * x.1) = g := of_decide_eq_true hg
    dsimp only [sm_step] at h
    split at h
    · split at h
      · rename_i v a r hc; cases h
        exact ⟨hw, sm_Fr_put (a := a) rfl rfl rfl rfl (fun b hb => sm_u2_ne hb) (fun b hb => rfl) (by rw [hc.1]; exact hg) (by omega)⟩
      · cases h
    · split at h
      · rename_i v a r hc; cases h
        exact ⟨hw, sm_Fr_put (a := a) rfl rfl rfl rfl (fun b hb => rfl) (fun b hb => sm_u2_ne hb) (by rw [hc.1]; exact hg) (by omega)⟩
      · cases h
    · cases h
  case iastore =>
    have hg : x.1 = g := of_decide_eq_true hg
    dsimp only [sm_step] at h
    split at h
    · split at h
      · rename_i v j a r hc; cases h
        exact ⟨hw, sm_Fr_put (a := a) rfl rfl rfl rfl (fun b hb => sm_u2_ne hb) (fun b hb => rfl) (by rw [hc.1.2.2]; exact hg) (by omega)⟩
      · cases h
    · cases h
  case bastore =>
    have hg : x.1 = g := of_decide_eq_true hg
    dsimp only [sm_step] at h
    split at h
    · split at h
      · rename_i v j a r hc; cases h
        exact ⟨hw, sm_Fr_put (a := a) rfl rfl rfl rfl (fun b hb => sm_u2_ne hb) (fun b hb => rfl) (by rw [hc.1.2.2]; exact hg) (by omega)⟩
      · cases h
    · cases h
  case aastore =>
    have hg : x.1 = g := of_decide_eq_true hg
    dsimp only [sm_step] at h
    split at h
    · split at h
      · rename_i v j a r hc; cases h
        exact ⟨hw, sm_Fr_put (a := a) rfl rfl rfl rfl (fun b hb => rfl) (fun b hb => sm_u2_ne hb) (by rw [hc.1.2.2]; exact hg) (by omega)⟩
      · cases h
    · cases h
  case new k =>
    have hg : sm_grp (3 + 3 * x.1) = g := of_decide_eq_true hg
    dsimp only [sm_step] at h
    cases h
    exact ⟨sm_Wf_new hw, sm_Fr_new hw hg (by omega)⟩
  case newarray k =>
    have hg : sm_grp (2 + 3 * x.1) = g := of_decide_eq_true hg
    dsimp only [sm_step] at h
    split at h
    · split at h
      · cases h; exact ⟨sm_Wf_new hw, sm_Fr_new hw hg (by omega)⟩
      · cases h
    · cases h
  case anewarray k =>
    have hg : sm_grp (4 + 3 * x.1) = g := of_decide_eq_true hg
    dsimp only [sm_step] at h
    split at h
    · split at h
      · cases h; exact ⟨sm_Wf_new hw, sm_Fr_new hw hg (by omega)⟩
      · cases h
    · cases h
  case invokestatic k =>
    dsimp only [sm_step] at h
    split at h
    · cases h
    · split at h
      · split at h
        · split at h
          · cases h; exact ⟨hw, sm_Fr_rf⟩
          · cases h
        · cases h
      · rename_i hx2
        split at h
        · split at h
          · split at h
            · cases h; exact ⟨hw, sm_Fr_rf⟩
            · cases h
          · cases h
        · rename_i hx3
          split at h
          · rename_i hx4
            split at h
            · split at h
              · rename_i n dp a sp a0 r hc; cases h
                have hg : x.2.1 = g := by
                  have hg2 := hg
                  dsimp only [sm_gc] at hg2
                  rw [if_neg (by omega), if_pos hx4] at hg2
                  exact of_decide_eq_true hg2
                exact ⟨hw, sm_Fr_put (a := a) rfl rfl rfl rfl (fun b hb => sm_u1_ne hb) (fun b hb => rfl) (by rw [hc.2.2.1.2.2]; exact hg) (by omega)⟩
              · cases h
            · cases h
          · cases h
  case invokespecial k =>
    dsimp only [sm_step] at h
    split at h
    · cases h
    · split at h
      · split at h
        · cases h; exact ⟨hw, sm_Fr_rf⟩
        · cases h
      · cases h
  all_goals (dsimp only [sm_step] at h; first | (cases h; done) | (cases h; exact ⟨hw, sm_Fr_rf⟩) | (split at h <;> first | (cases h; done) | (cases h; exact ⟨hw, sm_Fr_rf⟩) | (split at h <;> first | (cases h; done) | (cases h; exact ⟨hw, sm_Fr_rf⟩))))
theorem sm_call_y {i : ClassFile.Instr} {x : sm_X} {st : List sm_V} {M : sm_M} {y : Nat} {As r : List sm_V} {g : Nat} (hg : sm_gc g i x = true) (h : sm_call i x st M = some (y, As, r)) : y < 208 ∧ sm_mg y = g := by
  unfold sm_call at h
  split at h
  · have hg : x.2.1 < 208 ∧ sm_mg x.2.1 = g := of_decide_eq_true hg
    split at h
    · split at h
      · split at h
        · cases h; exact hg
        · cases h
      · cases h
    · cases h
  · have hg : x.1 = 1 ∨ (x.2.1 < 208 ∧ sm_mg x.2.1 = g) := of_decide_eq_true hg
    split at h
    · rename_i hk
      split at h
      · split at h
        · cases h
          rcases hg with hg | hg
          · omega
          · exact hg
        · cases h
      · cases h
    · cases h
  · split at h
    · rename_i hk
      dsimp only [sm_gc] at hg
      rw [if_neg (by omega), if_neg (by omega)] at hg
      split at h
      · cases h; exact of_decide_eq_true hg
      · cases h
    · cases h
  · cases h
theorem sm_frame : ∀ (f d me pc : Nat) (ls : List (Option sm_V)) (st : List sm_V) (M : sm_M) (v : Option sm_V) (M' : sm_M), sm_exec f d me pc ls st M = some (v, M') → me < 208 → sm_Wf M → sm_Wf M' ∧ sm_Fr (sm_mg me) M M' := by
  intro f
  induction f with
  | zero => intro d me pc ls st M v M' h; cases h
  | succ f ih =>
    intro d me pc ls st M v M' h hm hw
    change sm_F (sm_exec f) d me pc ls st M = some (v, M') at h
    unfold sm_F at h
    split at h
    · cases h
    · rename_i i len x hat
      have hg := sm_gok hm hat
      split at h
      · cases h; exact ⟨hw, sm_Fr_rf⟩
      · split at h
        · rename_i y As r hcall
          obtain ⟨hy, hyg⟩ := sm_call_y hg hcall
          split at h
          · cases h
          · split at h
            · rename_i h1
              obtain ⟨w1, f1⟩ := ih _ _ _ _ _ _ _ _ h1 hy hw
              obtain ⟨w2, f2⟩ := ih _ _ _ _ _ _ _ _ h hm w1
              rw [hyg] at f1
              exact ⟨w2, sm_Fr_tr f1 f2⟩
            · cases h
        · split at h
          · rename_i h1
            obtain ⟨w1, f1⟩ := sm_Fr_step hg hw h1
            obtain ⟨w2, f2⟩ := ih _ _ _ _ _ _ _ _ h hm w1
            exact ⟨w2, sm_Fr_tr f1 f2⟩
          · cases h
/-- a run has one end -/
theorem sm_Ev_det {d me pc : Nat} {ls : List (Option sm_V)} {st : List sm_V} {M : sm_M} {v v' : Option sm_V} {M1 M2 : sm_M} (h1 : sm_Ev d me pc ls st M v M1) (h2 : sm_Ev d me pc ls st M v' M2) : v = v' ∧ M1 = M2 := by
  obtain ⟨f, hf⟩ := h1
  obtain ⟨g, hg⟩ := h2
  have a := sm_exec_le (Nat.le_add_right f g) hf
  have b := sm_exec_le (Nat.le_add_left g f) hg
  have := Option.some.inj (a.symm.trans b)
  exact ⟨congrArg Prod.fst this, congrArg Prod.snd this⟩
