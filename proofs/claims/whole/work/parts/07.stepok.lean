def sm_Cx (p : Program) (R : Room) (s : State) (m : MethodId) (args : Array Value) (meth : Method) (c : Code) (G : va_G) (tc : Nat → ClassId) (base d me : Nat) : Prop :=
  p.tables.exec = Jvm.exec ∧ c.code = sm_by me ∧ c.maxLocals = sm_mx me ∧ s.vm.findClass (sm_ow me) = some m.cls ∧ (∀ w ∈ sm_gws, w.before args s = true) ∧ (∀ w ∈ sm_nws, va_Nw w s) ∧ va_K G sm_cl (sm_tys tc) s ∧ (∀ ci ∈ sm_arrs, va_AO (sm_cn ci) s) ∧ base ≤ s.heap.size ∧ (sm_ii me = true → meth.name = "<init>") ∧ d ≤ R.frames ∧ 43 * d ≤ R.locals
def sm_Wat (p : Program) (l : Launch) (e : Env) (R : Room) (s : State) (m : MethodId) (args : Array Value) (below : List Frame) (meth : Method) (c : Code) (G : va_G) (tc : Nat → ClassId) (base n0 u0 : Nat) (Q : State → Prop) (me pc : Nat) (ls : List (Option sm_V)) (st : List sm_V) (M : sm_M) : Prop :=
  ∀ (H : Heap) (locs : List Loc) (lsA : Array Slot), sm_Rep G tc base M H → sm_Ro base M s s.heap → va_S (sm_A base) s.heap H locs → sm_ls lsA (sm_mx me) ls → n0 ≤ sm_N M → u0 ≤ sm_U M → W p l e R s m args below meth c H locs (sm_N M - n0) (sm_U M - u0) Q (F0 m pc lsA (st.map sm_v))
theorem sm_tgt_eq {pc : Nat} {o : Int} (h : 0 ≤ (pc : Int) + o) : (pc : Int) + o = (sm_tgt pc o : Int) := (Int.toNat_of_nonneg h).symm
theorem sm_fs_get {ci k : Nat} {f : Nat → Int32} {r : Nat → Option Nat} (h : k < sm_nf ci) : (sm_fs ci f r)[k]? = some (sm_fv (sm_ty ci k) (f k) (r k)) := by
  simp [sm_fs, h]
theorem sm_fs_len {ci : Nat} {f : Nat → Int32} {r : Nat → Option Nat} : (sm_fs ci f r).length = sm_nf ci := by
  simp [sm_fs]
theorem sm_fs_set {ci k : Nat} {f f' : Nat → Int32} {r r' : Nat → Option Nat} {v : Value} (hk : k < sm_nf ci) (ho : ∀ j, j ≠ k → f' j = f j ∧ r' j = r j) (hv : sm_fv (sm_ty ci k) (f' k) (r' k) = v) : (sm_fs ci f r).set k v = sm_fs ci f' r' := by
  apply List.ext_getElem?
  intro j
  by_cases hj : j = k
  · subst hj
    rw [List.getElem?_set_self (by rw [sm_fs_len]; exact hk), sm_fs_get hk, hv]
  · rw [List.getElem?_set_ne (Ne.symm hj)]
    by_cases hl : j < sm_nf ci
    · rw [sm_fs_get hl, sm_fs_get hl, (ho j hj).1, (ho j hj).2]
    · rw [List.getElem?_eq_none (by rw [sm_fs_len]; omega), List.getElem?_eq_none (by rw [sm_fs_len]; omega)]
theorem sm_cat_sum (st : List sm_V) : ((st.map sm_v).map fun v => v.category).sum = st.length := by
  induction st with
  | nil => rfl
  | cons a r ih => simp only [List.map_cons, List.sum_cons, sm_v_cat, ih, List.length_cons]; omega
theorem sm_nneg {x : Int32} (h : 0 ≤ x.toInt) : ¬ x < 0 := by
  rw [Int32.lt_iff_toInt_lt, Int32.toInt_zero]; omega
theorem sm_clampI {x : Int32} (h : 0 ≤ x.toInt) : (x.toNatClampNeg : Int) = x.toInt := by
  show ((x.toInt.toNat : Nat) : Int) = x.toInt
  omega
theorem sm_fit_ok {ty : FieldType} {x : Int32} (h : sm_fit ty x = true) : narrow ty (.int x) = .int x ∧ fits ty (.int x) = true ∧ sm_isR ty = false := by
  cases ty
  case int => exact ⟨rfl, rfl, rfl⟩
  case boolean =>
    have h' : x = 0 ∨ x = 1 := by simpa [sm_fit] using h
    rcases h' with rfl | rfl <;> exact ⟨by decide, by decide, rfl⟩
  all_goals exact absurd h (by simp [sm_fit])
theorem sm_isR_ok {ty : FieldType} {r : Option Nat} (h : sm_isR ty = true) : narrow ty (va_rf r) = va_rf r ∧ fits ty (va_rf r) = true := by
  cases ty
  case object n => cases r <;> exact ⟨rfl, rfl⟩
  case array n => cases r <;> exact ⟨rfl, rfl⟩
  all_goals exact absurd h (by simp [sm_isR])
theorem sm_look : ∀ (ps : List (Int × Int)) {pc : Nat} {df : Int} {z : Int}, 0 ≤ (pc : Int) + df → (∀ a b : Int, (a, b) ∈ ps → 0 ≤ (pc : Int) + b) → 0 ≤ (pc : Int) + Op.lookupswitch.offset ps df z
  | [], pc, df, z, h, _ => h
  | (a, o) :: r, pc, df, z, h, hp => by
    rw [Op.lookupswitch.offset_cons]
    split
    · exact hp a o List.mem_cons_self
    · exact sm_look r h (fun x y hxy => hp x y (List.mem_cons_of_mem _ hxy))
theorem sm_dflt {ty : FieldType} (h : sm_isR ty = true ∨ ty = .int ∨ ty = .boolean) : defaultValue ty = (some (sm_fv ty 0 none)).getD .null := by
  rcases h with h | rfl | rfl
  · cases ty
    case object n => rfl
    case array n => rfl
    all_goals exact absurd h (by simp [sm_isR])
  · rfl
  · rfl
theorem sm_plink {args : Array Value} {s : State} {meth : Method} {me k : Nat} {x : sm_X} (hts : ∀ w ∈ sm_gws, w.before args s = true) (hnw : ∀ w ∈ sm_nws, va_Nw w s) (hini : sm_ii me = true → meth.name = "<init>")
    (h : (if x.2.2.1 = 0 then decide (lw_tbl[x.2.2.2]? = some (Jvm.Cond.fieldLink (sm_ow me) k (sm_ft x.1 x.2.1).1 (sm_ft x.1 x.2.1).2.1 (sm_ft x.1 x.2.1).2.2.1)) && ((sm_ft x.1 x.2.1).2.2.2 == false || (sm_ii me && decide ((sm_ft x.1 x.2.1).1 = sm_ow me))) else decide (lw_tbl[x.2.2.2]? = some (Jvm.Cond.fieldLinkNest (sm_ow me) k (sm_ft x.1 x.2.1).1 (sm_ft x.1 x.2.1).2.1 (sm_ft x.1 x.2.1).2.2.1 (sm_ho me))) && ((sm_ft x.1 x.2.1).2.2.2 == false)) = true) :
    ((Cond.fieldLink (sm_ow me) k (sm_ft x.1 x.2.1).1 (sm_ft x.1 x.2.1).2.1 (sm_ft x.1 x.2.1).2.2.1).before args s = true ∧ (sm_ft x.1 x.2.1).2.2.2 = false) ∨ ((Cond.fieldLinkNest (sm_ow me) k (sm_ft x.1 x.2.1).1 (sm_ft x.1 x.2.1).2.1 (sm_ft x.1 x.2.1).2.2.1 (sm_ho me)).before args s = true ∧ (sm_ft x.1 x.2.1).2.2.2 = false) ∨ ((Cond.fieldLink (sm_ow me) k (sm_ft x.1 x.2.1).1 (sm_ft x.1 x.2.1).2.1 (sm_ft x.1 x.2.1).2.2.1).before args s = true ∧ (sm_ft x.1 x.2.1).2.2.2 = true ∧ meth.name = "<init>" ∧ (sm_ft x.1 x.2.1).1 = sm_ow me) := by
  split at h
  · simp only [Bool.and_eq_true, Bool.or_eq_true, decide_eq_true_eq, beq_iff_eq] at h
    obtain ⟨h1, h2⟩ := h
    have h3 := hts _ (sm_gw h1 rfl)
    cases hf : (sm_ft x.1 x.2.1).2.2.2 with
    | false => exact Or.inl ⟨h3, rfl⟩
    | true =>
      rcases h2 with h2 | h2
      · rw [hf] at h2; cases h2
      · exact Or.inr (Or.inr ⟨h3, rfl, hini h2.1, h2.2⟩)
  · simp only [Bool.and_eq_true, decide_eq_true_eq, beq_iff_eq] at h
    exact Or.inr (Or.inl ⟨va_Nw.use rfl (hnw _ (sm_nw h.1 rfl)), h.2⟩)
set_option maxHeartbeats 4000000 in
theorem sm_step_ok {p : Program} {l : Launch} {e : Env} {R : Room} {s : State} {m : MethodId} {args : Array Value} {below : List Frame} {meth : Method} {c : Code} {Q : State → Prop} {G : va_G} {tc : Nat → ClassId} {base d me n0 u0 : Nat} (hC : sm_Cx p R s m args meth c G tc base d me)
    {i : ClassFile.Instr} {len pc : Nat} {x : sm_X} {ls : List (Option sm_V)} {st : List sm_V} {M : sm_M} {t : sm_T} (hck : sm_chk me pc i len x = true) (h : sm_step d i x pc ls st M = some t) (hcl : sm_N t.2.2.2 - n0 ≤ R.cells) (hsl : sm_U t.2.2.2 - u0 ≤ R.slots)
    (hk : sm_Wat p l e R s m args below meth c G tc base n0 u0 Q me t.1 t.2.1 t.2.2.1 t.2.2.2) : sm_Wat p l e R s m args below meth c G tc base n0 u0 Q me pc ls st M := by
  obtain ⟨hx, hb, hml, hown, hts, hnw, hK, hAO, hbase, hini, hfr, hlo⟩ := hC
  unfold sm_chk at hck
  rw [Bool.and_eq_true, Bool.and_eq_true, Bool.or_eq_true, decide_eq_true_eq, decide_eq_true_eq, decide_eq_true_eq] at hck
  obtain ⟨hd, hlen, hck⟩ := hck
  intro H locs lsA hR hRo hS hl hn hu
  have q7 := sm_tyok
  cases i with
  | iconst n =>
    obtain rfl : len = 1 := hlen.resolve_left (by simp [sm_len])
    dsimp only [sm_step] at h
    cases h
    exact lv_iconst hx hb hd rfl (hk H locs lsA hR hRo hS hl hn hu)
  | bipush n =>
    obtain rfl : len = 2 := hlen.resolve_left (by simp [sm_len])
    dsimp only [sm_step] at h
    cases h
    exact lv_bipush hx hb hd rfl (hk H locs lsA hR hRo hS hl hn hu)
  | sipush n =>
    obtain rfl : len = 3 := hlen.resolve_left (by simp [sm_len])
    dsimp only [sm_step] at h
    cases h
    exact lv_sipush hx hb hd rfl (hk H locs lsA hR hRo hS hl hn hu)
  | ldc k =>
    obtain rfl : len = 2 := hlen.resolve_left (by simp [sm_len])
    dsimp only [sm_step] at h
    cases h
    exact lv_ldc hx hb hown (hts _ (sm_gw (of_decide_eq_true hck) rfl)) hd (hk H locs lsA hR hRo hS hl hn hu)
  | ldc_w k =>
    obtain rfl : len = 3 := hlen.resolve_left (by simp [sm_len])
    dsimp only [sm_step] at h
    cases h
    exact lv_ldcw hx hb hown (hts _ (sm_gw (of_decide_eq_true hck) rfl)) hd (hk H locs lsA hR hRo hS hl hn hu)
  | aconst_null =>
    obtain rfl : len = 1 := hlen.resolve_left (by simp [sm_len])
    dsimp only [sm_step] at h
    cases h
    exact lv_null hx hb hd (hk H locs lsA hR hRo hS hl hn hu)
  | iload_n k =>
    obtain rfl : len = 1 := hlen.resolve_left (by simp [sm_len])
    dsimp only [sm_step] at h
    split at h
    · rename_i v hv; cases h
      exact lv_iload_n hx hb hd rfl (sm_ls_get hl hv) (hk H locs lsA hR hRo hS hl hn hu)
    · cases h
  | iload k =>
    obtain rfl : len = 2 := hlen.resolve_left (by simp [sm_len])
    dsimp only [sm_step] at h
    split at h
    · rename_i v hv; cases h
      exact lv_iload hx hb hd (sm_ls_get hl hv) (hk H locs lsA hR hRo hS hl hn hu)
    · cases h
  | aload_n k =>
    obtain rfl : len = 1 := hlen.resolve_left (by simp [sm_len])
    dsimp only [sm_step] at h
    split at h
    · rename_i v hv; cases h
      cases v with
      | none => exact lv_aload_nN hx hb hd rfl (sm_ls_get hl hv) (hk H locs lsA hR hRo hS hl hn hu)
      | some b => exact lv_aload_n hx hb hd rfl (sm_ls_get hl hv) (hk H locs lsA hR hRo hS hl hn hu)
    · cases h
  | aload k =>
    obtain rfl : len = 2 := hlen.resolve_left (by simp [sm_len])
    dsimp only [sm_step] at h
    split at h
    · rename_i v hv; cases h
      cases v with
      | none => exact lv_aloadN hx hb hd (sm_ls_get hl hv) (hk H locs lsA hR hRo hS hl hn hu)
      | some b => exact lv_aload hx hb hd (sm_ls_get hl hv) (hk H locs lsA hR hRo hS hl hn hu)
    · cases h
  | istore_n k =>
    obtain rfl : len = 1 := hlen.resolve_left (by simp [sm_len])
    dsimp only [sm_step] at h
    split at h
    · split at h
      · rename_i v r hk1; cases h
        have hk2 := hk1
        rw [hl.1] at hk2
        exact lv_istore_n hx hb hd rfl (sm_ls_has hl) hk2 rfl (fun ls' hl' => hk H locs ls' hR hRo hS (sm_ls_set hl hk2 hl') hn hu)
      · cases h
    · cases h
  | istore k =>
    obtain rfl : len = 2 := hlen.resolve_left (by simp [sm_len])
    dsimp only [sm_step] at h
    split at h
    · split at h
      · rename_i v r hk1; cases h
        have hk2 := hk1
        rw [hl.1] at hk2
        exact lv_istore hx hb hd (sm_ls_has hl) hk2 rfl (fun ls' hl' => hk H locs ls' hR hRo hS (sm_ls_set hl hk2 hl') hn hu)
      · cases h
    · cases h
  | astore_n k =>
    obtain rfl : len = 1 := hlen.resolve_left (by simp [sm_len])
    dsimp only [sm_step] at h
    split at h
    · split at h
      · rename_i v r hk1; cases h
        have hk2 := hk1
        rw [hl.1] at hk2
        cases v with
        | none => exact lv_astore_nN hx hb hd rfl (sm_ls_has hl) hk2 rfl (fun ls' hl' => hk H locs ls' hR hRo hS (sm_ls_set (v := .inr none) hl hk2 hl') hn hu)
        | some b => exact lv_astore_n hx hb hd rfl (sm_ls_has hl) hk2 rfl (fun ls' hl' => hk H locs ls' hR hRo hS (sm_ls_set (v := .inr (some b)) hl hk2 hl') hn hu)
      · cases h
    · cases h
  | astore k =>
    obtain rfl : len = 2 := hlen.resolve_left (by simp [sm_len])
    dsimp only [sm_step] at h
    split at h
    · split at h
      · rename_i v r hk1; cases h
        have hk2 := hk1
        rw [hl.1] at hk2
        cases v with
        | none => exact lv_astoreN hx hb hd (sm_ls_has hl) hk2 rfl (fun ls' hl' => hk H locs ls' hR hRo hS (sm_ls_set (v := .inr none) hl hk2 hl') hn hu)
        | some b => exact lv_astore hx hb hd (sm_ls_has hl) hk2 rfl (fun ls' hl' => hk H locs ls' hR hRo hS (sm_ls_set (v := .inr (some b)) hl hk2 hl') hn hu)
      · cases h
    · cases h
  | iinc k n =>
    obtain rfl : len = 3 := hlen.resolve_left (by simp [sm_len])
    dsimp only [sm_step] at h
    split at h
    · rename_i v hv; cases h
      obtain ⟨q, hq⟩ := List.getElem?_of_mem (sm_lp_in ls 0 k (.inl v) (sm_get_lt hv).2)
      rw [Nat.zero_add] at hq
      have hk2 := (sm_get_lt hv).1
      rw [hl.1] at hk2
      exact lv_iinc (x := v) (v := v + Int32.ofInt n) hx hb hd (sm_ls_has hl) hq rfl hk2 rfl (fun ls' hl' => hk H locs ls' hR hRo hS (sm_ls_set hl hk2 hl') hn hu)
    · cases h
  | iadd =>
    obtain rfl : len = 1 := hlen.resolve_left (by simp [sm_len])
    dsimp only [sm_step] at h
    split at h
    · cases h; exact lv_iadd hx hb hd (hk H locs lsA hR hRo hS hl hn hu)
    · cases h
  | isub =>
    obtain rfl : len = 1 := hlen.resolve_left (by simp [sm_len])
    dsimp only [sm_step] at h
    split at h
    · cases h; exact lv_isub hx hb hd (hk H locs lsA hR hRo hS hl hn hu)
    · cases h
  | imul =>
    obtain rfl : len = 1 := hlen.resolve_left (by simp [sm_len])
    dsimp only [sm_step] at h
    split at h
    · cases h; exact lv_imul hx hb hd (hk H locs lsA hR hRo hS hl hn hu)
    · cases h
  | iand =>
    obtain rfl : len = 1 := hlen.resolve_left (by simp [sm_len])
    dsimp only [sm_step] at h
    split at h
    · cases h; exact lv_iand hx hb hd (hk H locs lsA hR hRo hS hl hn hu)
    · cases h
  | ior =>
    obtain rfl : len = 1 := hlen.resolve_left (by simp [sm_len])
    dsimp only [sm_step] at h
    split at h
    · cases h; exact lv_ior hx hb hd (hk H locs lsA hR hRo hS hl hn hu)
    · cases h
  | ixor =>
    obtain rfl : len = 1 := hlen.resolve_left (by simp [sm_len])
    dsimp only [sm_step] at h
    split at h
    · cases h; exact lv_ixor hx hb hd (hk H locs lsA hR hRo hS hl hn hu)
    · cases h
  | ishl =>
    obtain rfl : len = 1 := hlen.resolve_left (by simp [sm_len])
    dsimp only [sm_step] at h
    split at h
    · cases h; exact lv_ishl hx hb hd (hk H locs lsA hR hRo hS hl hn hu)
    · cases h
  | ishr =>
    obtain rfl : len = 1 := hlen.resolve_left (by simp [sm_len])
    dsimp only [sm_step] at h
    split at h
    · cases h; exact lv_ishr hx hb hd (hk H locs lsA hR hRo hS hl hn hu)
    · cases h
  | iushr =>
    obtain rfl : len = 1 := hlen.resolve_left (by simp [sm_len])
    dsimp only [sm_step] at h
    split at h
    · cases h; exact lv_iushr hx hb hd rfl (hk H locs lsA hR hRo hS hl hn hu)
    · cases h
  | idiv =>
    obtain rfl : len = 1 := hlen.resolve_left (by simp [sm_len])
    dsimp only [sm_step] at h
    split at h
    · split at h
      · cases h
      · rename_i hz; cases h; exact lv_idiv hx hb hd hz (hk H locs lsA hR hRo hS hl hn hu)
    · cases h
  | irem =>
    obtain rfl : len = 1 := hlen.resolve_left (by simp [sm_len])
    dsimp only [sm_step] at h
    split at h
    · split at h
      · cases h
      · rename_i hz; cases h; exact lv_irem hx hb hd hz (hk H locs lsA hR hRo hS hl hn hu)
    · cases h
  | ineg =>
    obtain rfl : len = 1 := hlen.resolve_left (by simp [sm_len])
    dsimp only [sm_step] at h
    split at h
    · cases h; exact lv_ineg hx hb hd (hk H locs lsA hR hRo hS hl hn hu)
    · cases h
  | dup =>
    obtain rfl : len = 1 := hlen.resolve_left (by simp [sm_len])
    dsimp only [sm_step] at h
    split at h
    · cases h; exact lv_dup hx hb hd (sm_v_cat _) (hk H locs lsA hR hRo hS hl hn hu)
    · cases h
  | pop =>
    obtain rfl : len = 1 := hlen.resolve_left (by simp [sm_len])
    dsimp only [sm_step] at h
    split at h
    · cases h; exact lv_pop hx hb hd (sm_v_cat _) (hk H locs lsA hR hRo hS hl hn hu)
    · cases h
  | dup_x1 =>
    obtain rfl : len = 1 := hlen.resolve_left (by simp [sm_len])
    dsimp only [sm_step] at h
    split at h
    · cases h; exact lv_dup_x1 hx hb hd (sm_v_cat _) (sm_v_cat _) (hk H locs lsA hR hRo hS hl hn hu)
    · cases h
  | dup_x2 =>
    obtain rfl : len = 1 := hlen.resolve_left (by simp [sm_len])
    dsimp only [sm_step] at h
    split at h
    · cases h; exact lv_dup_x2 hx hb hd (sm_v_cat _) (sm_v_cat _) (sm_v_cat _) (hk H locs lsA hR hRo hS hl hn hu)
    · cases h
  | dup2 =>
    obtain rfl : len = 1 := hlen.resolve_left (by simp [sm_len])
    dsimp only [sm_step] at h
    split at h
    · cases h; exact lv_dup2_11 hx hb hd (sm_v_cat _) (sm_v_cat _) (hk H locs lsA hR hRo hS hl hn hu)
    · cases h
  | ifCond cd off =>
    obtain rfl : len = 3 := hlen.resolve_left (by simp [sm_len])
    dsimp only [sm_step] at h
    have ht := sm_tgt_eq (of_decide_eq_true hck)
    split at h
    · rename_i a1 r1; cases h
      have hk0 := hk H locs lsA hR hRo hS hl hn hu
      cases cd with
      | eq =>
        refine lv_if_eq hx hb hd ht (fun hc => ?_) (fun hc => ?_)
        · have e9 : sm_cnd .eq a1 0 = true := decide_eq_true hc
          rw [e9] at hk0; exact hk0
        · have e9 : sm_cnd .eq a1 0 = false := decide_eq_false hc
          rw [e9] at hk0; exact hk0
      | ne =>
        refine lv_if_ne hx hb hd ht (fun hc => ?_) (fun hc => ?_)
        · have e9 : sm_cnd .ne a1 0 = true := by show (!decide _) = true; rw [decide_eq_false hc]; rfl
          rw [e9] at hk0; exact hk0
        · have e9 : sm_cnd .ne a1 0 = false := by show (!decide _) = false; rw [decide_eq_true hc]; rfl
          rw [e9] at hk0; exact hk0
      | lt =>
        refine lv_if_lt hx hb hd ht (fun hc => ?_) (fun hc => ?_)
        · have e9 : sm_cnd .lt a1 0 = true := decide_eq_true hc
          rw [e9] at hk0; exact hk0
        · have e9 : sm_cnd .lt a1 0 = false := decide_eq_false hc
          rw [e9] at hk0; exact hk0
      | ge =>
        refine lv_if_ge hx hb hd ht (fun hc => ?_) (fun hc => ?_)
        · have e9 : sm_cnd .ge a1 0 = true := decide_eq_true hc
          rw [e9] at hk0; exact hk0
        · have e9 : sm_cnd .ge a1 0 = false := decide_eq_false hc
          rw [e9] at hk0; exact hk0
      | gt =>
        refine lv_if_gt hx hb hd ht (fun hc => ?_) (fun hc => ?_)
        · have e9 : sm_cnd .gt a1 0 = true := decide_eq_true hc
          rw [e9] at hk0; exact hk0
        · have e9 : sm_cnd .gt a1 0 = false := decide_eq_false hc
          rw [e9] at hk0; exact hk0
      | le =>
        refine lv_if_le hx hb hd ht (fun hc => ?_) (fun hc => ?_)
        · have e9 : sm_cnd .le a1 0 = true := decide_eq_true hc
          rw [e9] at hk0; exact hk0
        · have e9 : sm_cnd .le a1 0 = false := decide_eq_false hc
          rw [e9] at hk0; exact hk0
    · cases h
  | if_icmp cd off =>
    obtain rfl : len = 3 := hlen.resolve_left (by simp [sm_len])
    dsimp only [sm_step] at h
    have ht := sm_tgt_eq (of_decide_eq_true hck)
    split at h
    · rename_i b1 a1 r1; cases h
      have hk0 := hk H locs lsA hR hRo hS hl hn hu
      cases cd with
      | eq =>
        refine lv_icmp_eq hx hb hd ht (fun hc => ?_) (fun hc => ?_)
        · have e9 : sm_cnd .eq a1 b1 = true := decide_eq_true hc
          rw [e9] at hk0; exact hk0
        · have e9 : sm_cnd .eq a1 b1 = false := decide_eq_false hc
          rw [e9] at hk0; exact hk0
      | ne =>
        refine lv_icmp_ne hx hb hd ht (fun hc => ?_) (fun hc => ?_)
        · have e9 : sm_cnd .ne a1 b1 = true := by show (!decide _) = true; rw [decide_eq_false hc]; rfl
          rw [e9] at hk0; exact hk0
        · have e9 : sm_cnd .ne a1 b1 = false := by show (!decide _) = false; rw [decide_eq_true hc]; rfl
          rw [e9] at hk0; exact hk0
      | lt =>
        refine lv_icmp_lt hx hb hd ht (fun hc => ?_) (fun hc => ?_)
        · have e9 : sm_cnd .lt a1 b1 = true := decide_eq_true hc
          rw [e9] at hk0; exact hk0
        · have e9 : sm_cnd .lt a1 b1 = false := decide_eq_false hc
          rw [e9] at hk0; exact hk0
      | ge =>
        refine lv_icmp_ge hx hb hd ht (fun hc => ?_) (fun hc => ?_)
        · have e9 : sm_cnd .ge a1 b1 = true := decide_eq_true hc
          rw [e9] at hk0; exact hk0
        · have e9 : sm_cnd .ge a1 b1 = false := decide_eq_false hc
          rw [e9] at hk0; exact hk0
      | gt =>
        refine lv_icmp_gt hx hb hd ht (fun hc => ?_) (fun hc => ?_)
        · have e9 : sm_cnd .gt a1 b1 = true := decide_eq_true hc
          rw [e9] at hk0; exact hk0
        · have e9 : sm_cnd .gt a1 b1 = false := decide_eq_false hc
          rw [e9] at hk0; exact hk0
      | le =>
        refine lv_icmp_le hx hb hd ht (fun hc => ?_) (fun hc => ?_)
        · have e9 : sm_cnd .le a1 b1 = true := decide_eq_true hc
          rw [e9] at hk0; exact hk0
        · have e9 : sm_cnd .le a1 b1 = false := decide_eq_false hc
          rw [e9] at hk0; exact hk0
    · cases h
  | if_acmp cd off =>
    obtain rfl : len = 3 := hlen.resolve_left (by simp [sm_len])
    dsimp only [sm_step] at h
    have ht := sm_tgt_eq (of_decide_eq_true hck)
    split at h
    · rename_i b1 a1 r1; cases h
      have hk0 := hk H locs lsA hR hRo hS hl hn hu
      cases cd with
      | eq =>
        refine lv_acmp_eq (rx := a1) (ry := b1) hx hb hd ht (fun hc => ?_) (fun hc => ?_)
        · have e9 : decide (a1 = b1) = true := decide_eq_true hc
          dsimp only at hk0; rw [e9] at hk0; exact hk0
        · have e9 : decide (a1 = b1) = false := decide_eq_false hc
          dsimp only at hk0; rw [e9] at hk0; exact hk0
      | ne =>
        refine lv_acmp_ne (rx := a1) (ry := b1) hx hb hd ht (fun hc => ?_) (fun hc => ?_)
        · have e9 : decide (a1 = b1) = false := decide_eq_false hc
          dsimp only at hk0; rw [e9] at hk0; exact hk0
        · have e9 : decide (a1 = b1) = true := decide_eq_true hc
          dsimp only at hk0; rw [e9] at hk0; exact hk0
    · cases h
  | ifnull off =>
    obtain rfl : len = 3 := hlen.resolve_left (by simp [sm_len])
    dsimp only [sm_step] at h
    have ht := sm_tgt_eq (of_decide_eq_true hck)
    split at h
    · rename_i a1 r1; cases h
      have hk0 := hk H locs lsA hR hRo hS hl hn hu
      cases a1 with
      | none => exact lv_ifnullN hx hb hd ht hk0
      | some b => exact lv_ifnull hx hb hd hk0
    · cases h
  | ifnonnull off =>
    obtain rfl : len = 3 := hlen.resolve_left (by simp [sm_len])
    dsimp only [sm_step] at h
    have ht := sm_tgt_eq (of_decide_eq_true hck)
    split at h
    · rename_i a1 r1; cases h
      have hk0 := hk H locs lsA hR hRo hS hl hn hu
      cases a1 with
      | none => exact lv_ifnonnullN hx hb hd hk0
      | some b => exact lv_ifnonnull hx hb hd ht hk0
    · cases h
  | goto off =>
    obtain rfl : len = 3 := hlen.resolve_left (by simp [sm_len])
    dsimp only [sm_step] at h
    have ht := sm_tgt_eq (of_decide_eq_true hck)
    cases h
    exact lv_goto hx hb hd ht (hk H locs lsA hR hRo hS hl hn hu)
  | tableswitch df lo hi offs =>
    dsimp only [sm_step] at h
    dsimp only at hck
    simp only [Bool.and_eq_true, decide_eq_true_eq, List.all_eq_true] at hck
    obtain ⟨hc1, hc2, hc3⟩ := hck
    split at h
    · rename_i a1 r1; cases h
      have hk0 := hk H locs lsA hR hRo hS hl hn hu
      by_cases hc : a1.toInt < lo ∨ hi < a1.toInt
      · rw [decide_eq_true hc] at hk0
        exact lv_tableOut hx hb hd hc (sm_tgt_eq hc1) hk0
      · rw [decide_eq_false hc] at hk0
        have hlt : (a1.toInt - lo).toNat < offs.size := by omega
        have ho : offs[(a1.toInt - lo).toNat]? = some offs[(a1.toInt - lo).toNat] := Array.getElem?_eq_getElem hlt
        rw [ho] at hk0
        exact lv_tableIn hx hb hd (fun q => hc (Or.inl q)) (fun q => hc (Or.inr q)) ho (sm_tgt_eq (hc3 _ (Array.getElem_mem_toList hlt))) hk0
    · cases h
  | lookupswitch df ps =>
    dsimp only [sm_step] at h
    dsimp only at hck
    simp only [Bool.and_eq_true, decide_eq_true_eq] at hck
    obtain ⟨hc1, hc2, hc3⟩ := hck
    split at h
    · rename_i a1 r1; cases h
      exact lv_lookup hx hb hd hc2 rfl (sm_tgt_eq (sm_look ps.toList hc1 (fun a b hab => of_decide_eq_true (List.all_eq_true.mp hc3 (a, b) hab)))) (hk H locs lsA hR hRo hS hl hn hu)
    · cases h
  | getfield k =>
    obtain rfl : len = 3 := hlen.resolve_left (by simp [sm_len])
    dsimp only [sm_step] at h
    dsimp only at hck
    simp only [Bool.and_eq_true, decide_eq_true_eq] at hck
    obtain ⟨hc1, hc2, hc3⟩ := hck
    split at h
    · split at h
      · rename_i a1 r1 hKa; cases h
        obtain ⟨q1, q2, q3, q4, q5, q6⟩ := sm_clok x.1 hc1
        have hP := sm_P1 hR (a := a1) (by omega)
        rw [sm_cell_o hKa] at hP
        have hv := sm_fs_get (f := sm_I M a1) (r := sm_R M a1) hc2
        have hk0 := hk H locs lsA hR hRo hS hl hn hu
        have e9 : sm_v (bif sm_isR (sm_ty x.1 x.2.1) then .inr (sm_R M a1 x.2.1) else .inl (sm_I M a1 x.2.1)) = sm_fv (sm_ty x.1 x.2.1) (sm_I M a1 x.2.1) (sm_R M a1 x.2.1) := by
          unfold sm_fv; cases sm_isR (sm_ty x.1 x.2.1) <;> rfl
        rw [← e9] at hv
        split at hc3
        · exact va_get (D := G) (ci := x.1) hx hb hts q2 hown hK hP 0 rfl q1 x.2.1 hc2 (hts _ (sm_gw (of_decide_eq_true hc3) rfl)) (fun _ z => z) hv hd hk0
        · exact va_getN (D := G) (ci := x.1) hx hb hts q2 hown hK hP 0 rfl q1 x.2.1 hc2 (va_Nw.use rfl (hnw _ (sm_nw (of_decide_eq_true hc3) rfl))) (fun _ z => z) hv hd hk0
      · cases h
    · cases h
  | putfield k =>
    obtain rfl : len = 3 := hlen.resolve_left (by simp [sm_len])
    dsimp only [sm_step] at h
    dsimp only at hck
    simp only [Bool.and_eq_true, decide_eq_true_eq] at hck
    obtain ⟨hc1, hc2, hc3⟩ := hck
    have hlk := sm_plink (args := args) hts hnw hini hc3
    split at h
    · split at h
      ·
        rename_i v1 a1 r1 hKa; cases h
        obtain ⟨hKa, hft⟩ := hKa
        obtain ⟨q1, q2, q3, q4, q5, q6⟩ := sm_clok x.1 hc1
        obtain ⟨hba, hat⟩ := hR.2.2 a1 (by omega)
        rw [sm_cell_o hKa] at hat
        obtain ⟨f1, f2, f3⟩ := sm_fit_ok hft
        have hset : (sm_fs x.1 (sm_I M a1) (sm_R M a1)).set x.2.1 (sm_v (.inl v1)) = sm_fs x.1 (sm_I (sm_putI M a1 x.2.1 v1) a1) (sm_R (sm_putI M a1 x.2.1 v1) a1) := sm_fs_set hc2 (fun j hj => ⟨by show sm_u2 _ _ _ _ a1 j = _; rw [sm_u2_at, if_neg hj], rfl⟩) (by show sm_fv _ (sm_u2 _ _ _ _ a1 _) _ = _; rw [sm_u2_at, if_pos rfl]; unfold sm_fv; rw [f3]; rfl)
        refine sm_Wput (D := G) (ci := x.1) (host := sm_ho me) hx hb hts q2 (sm_ty x.1) q3 q4 hown hK hS hba hat q1 x.2.1 hc2 hlk f1 f2 (by rw [sm_fs_len]; exact hc2) hd (fun H1 locs1 z1 o1 e1 hS1 => ?_)
        rw [hset] at e1
        exact hk H1 locs1 lsA (sm_Rep_put (a := a1) hR rfl rfl rfl (fun b hb9 => sm_u2_ne hb9) (fun b hb9 => rfl) z1 o1 (by rw [sm_cell_o (M := sm_putI M a1 x.2.1 v1) hKa]; exact e1)) (sm_Ro_put (a := a1) hRo rfl rfl rfl (fun b hb9 => sm_u2_ne hb9) (by omega)) hS1 hl hn hu
      · cases h
    · split at h
      ·
        rename_i v1 a1 r1 hKa; cases h
        obtain ⟨hKa, hft⟩ := hKa
        obtain ⟨q1, q2, q3, q4, q5, q6⟩ := sm_clok x.1 hc1
        obtain ⟨hba, hat⟩ := hR.2.2 a1 (by omega)
        rw [sm_cell_o hKa] at hat
        obtain ⟨f1, f2⟩ := sm_isR_ok (r := v1) hft
        have hset : (sm_fs x.1 (sm_I M a1) (sm_R M a1)).set x.2.1 (sm_v (.inr v1)) = sm_fs x.1 (sm_I (sm_putR M a1 x.2.1 v1) a1) (sm_R (sm_putR M a1 x.2.1 v1) a1) := sm_fs_set hc2 (fun j hj => ⟨rfl, by show sm_u2 _ _ _ _ a1 j = _; rw [sm_u2_at, if_neg hj]⟩) (by show sm_fv _ _ (sm_u2 _ _ _ _ a1 _) = _; rw [sm_u2_at, if_pos rfl]; unfold sm_fv; rw [hft]; rfl)
        refine sm_Wput (D := G) (ci := x.1) (host := sm_ho me) hx hb hts q2 (sm_ty x.1) q3 q4 hown hK hS hba hat q1 x.2.1 hc2 hlk f1 f2 (by rw [sm_fs_len]; exact hc2) hd (fun H1 locs1 z1 o1 e1 hS1 => ?_)
        rw [hset] at e1
        exact hk H1 locs1 lsA (sm_Rep_put (a := a1) hR rfl rfl rfl (fun b hb9 => rfl) (fun b hb9 => sm_u2_ne hb9) z1 o1 (by rw [sm_cell_o (M := sm_putR M a1 x.2.1 v1) hKa]; exact e1)) (sm_Ro_put (a := a1) hRo rfl rfl rfl (fun b hb9 => rfl) (by omega)) hS1 hl hn hu
      · cases h
    · cases h
  | getstatic k =>
    obtain rfl : len = 3 := hlen.resolve_left (by simp [sm_len])
    dsimp only [sm_step] at h
    dsimp only at hck
    simp only [Bool.and_eq_true, decide_eq_true_eq] at hck
    obtain ⟨hc1, hc2⟩ := hck
    cases h
    exact va_gets hx hb (hRo.2 x.1 hc1) hS hown (hts _ (sm_gw hc2 rfl)) (fun _ z => z) hd (hk H locs lsA hR hRo hS hl hn hu)
  | iaload =>
    obtain rfl : len = 1 := hlen.resolve_left (by simp [sm_len])
    dsimp only [sm_step] at h
    split at h
    · split at h
      · rename_i j1 a1 r1 hc; cases h
        obtain ⟨hKa, hj⟩ := hc
        rcases hKa with hKa | hKa
        · exact va_ti hx hb (hRo.1 a1 hKa) hS (sm_in hj) rfl hd (hk H locs lsA hR hRo hS hl hn hu)
        · obtain ⟨hKa, hK6⟩ := hKa
          have hP := sm_P1 hR (a := a1) (by omega)
          rw [sm_cell_i hKa hK6] at hP
          exact va_iald hx hb hK hP 0 0 rfl rfl (sm_in hj) hd (hk H locs lsA hR hRo hS hl hn hu)
      · cases h
    · cases h
  | iastore =>
    obtain rfl : len = 1 := hlen.resolve_left (by simp [sm_len])
    dsimp only [sm_step] at h
    split at h
    · split at h
      · rename_i v1 j1 a1 r1 hc; cases h
        obtain ⟨⟨hKa, hK6, hgr⟩, hj⟩ := hc
        obtain ⟨hba, hat⟩ := hR.2.2 a1 (by omega)
        rw [sm_cell_i hKa hK6] at hat
        refine sm_Wiast (D := G) hx hb hS hba (hK.2 0 _ rfl).1 hat (sm_in hj) hd (fun H1 locs1 z1 o1 e1 hS1 => ?_)
        have e2 : upd (sm_I M a1) j1.toNatClampNeg v1 = sm_I (sm_putI M a1 j1.toNatClampNeg v1) a1 := by
          funext q; show _ = sm_u2 _ _ _ _ a1 q; rw [sm_u2_at]; rfl
        rw [e2] at e1
        exact hk H1 locs1 lsA (sm_Rep_put (a := a1) hR rfl rfl rfl (fun b hb9 => sm_u2_ne hb9) (fun b hb9 => rfl) z1 o1 (by rw [sm_cell_i (M := sm_putI M a1 j1.toNatClampNeg v1) hKa hK6]; exact e1)) (sm_Ro_put (a := a1) hRo rfl rfl rfl (fun b hb9 => sm_u2_ne hb9) (by omega)) hS1 hl hn hu
      · cases h
    · cases h
  | bastore =>
    obtain rfl : len = 1 := hlen.resolve_left (by simp [sm_len])
    dsimp only [sm_step] at h
    split at h
    · split at h
      · rename_i v1 j1 a1 r1 hc; cases h
        obtain ⟨⟨hKa, hK6, hgr⟩, hj, hft⟩ := hc
        obtain ⟨hba, hat⟩ := hR.2.2 a1 (by omega)
        rw [sm_cell_z hKa hK6] at hat
        refine sm_Wzast (D := G) hx hb hS hba (hK.2 1 _ rfl).1 hat (sm_fit_ok hft).1 (sm_in hj) hd (fun H1 locs1 z1 o1 e1 hS1 => ?_)
        have e2 : upd (sm_I M a1) j1.toNatClampNeg v1 = sm_I (sm_putI M a1 j1.toNatClampNeg v1) a1 := by
          funext q; show _ = sm_u2 _ _ _ _ a1 q; rw [sm_u2_at]; rfl
        rw [e2] at e1
        exact hk H1 locs1 lsA (sm_Rep_put (a := a1) hR rfl rfl rfl (fun b hb9 => sm_u2_ne hb9) (fun b hb9 => rfl) z1 o1 (by rw [sm_cell_z (M := sm_putI M a1 j1.toNatClampNeg v1) hKa hK6]; exact e1)) (sm_Ro_put (a := a1) hRo rfl rfl rfl (fun b hb9 => sm_u2_ne hb9) (by omega)) hS1 hl hn hu
      · cases h
    · cases h
  | baload =>
    obtain rfl : len = 1 := hlen.resolve_left (by simp [sm_len])
    dsimp only [sm_step] at h
    split at h
    · split at h
      · rename_i j1 a1 r1 hc; cases h
        obtain ⟨⟨hKa, hK6⟩, hj⟩ := hc
        have hP := sm_P1 hR (a := a1) (by omega)
        rw [sm_cell_z hKa hK6] at hP
        exact va_zald hx hb hK hP 0 1 rfl rfl (sm_in hj) hd (hk H locs lsA hR hRo hS hl hn hu)
      · cases h
    · cases h
  | aaload =>
    obtain rfl : len = 1 := hlen.resolve_left (by simp [sm_len])
    dsimp only [sm_step] at h
    split at h
    · split at h
      · rename_i j1 a1 r1 hc; cases h
        obtain ⟨⟨hc1, hc2⟩, hj⟩ := hc
        obtain ⟨ci, hKa⟩ : ∃ ci, sm_K M a1 = 4 + 3 * ci := ⟨(sm_K M a1 - 4) / 3, by omega⟩
        have hmem : ci ∈ sm_arrs := sm_kok_q (by rw [← hKa]; exact hR.2.1 a1)
        obtain ⟨t0, ht0⟩ := sm_tys_q (tc := tc) hmem
        have hP := sm_P1 hR (a := a1) (by omega)
        rw [sm_cell_q hKa] at hP
        exact va_aldq hx hb hK hP 0 t0 rfl ht0 (sm_in hj) hd (hk H locs lsA hR hRo hS hl hn hu)
      · cases h
    · cases h
  | aastore =>
    obtain rfl : len = 1 := hlen.resolve_left (by simp [sm_len])
    dsimp only [sm_step] at h
    split at h
    · split at h
      · rename_i v1 j1 a1 r1 hc; cases h
        obtain ⟨⟨hc1, hc2, hgr⟩, hj, hc3⟩ := hc
        obtain ⟨ci, hKa⟩ : ∃ ci, sm_K M a1 = 4 + 3 * ci := ⟨(sm_K M a1 - 4) / 3, by omega⟩
        have hmem : ci ∈ sm_arrs := sm_kok_q (by rw [← hKa]; exact hR.2.1 a1)
        obtain ⟨t0, ht0⟩ := sm_tys_q (tc := tc) hmem
        obtain ⟨hba, hat⟩ := hR.2.2 a1 (by omega)
        rw [sm_cell_q hKa] at hat
        have hci : ci < sm_nc := sm_arr_lt hmem
        obtain ⟨q1, -⟩ := sm_clok ci hci
        have hv : ∀ b, v1 = some b → ∃ vs : List Value, va_at G sm_cl (b, .inr (ci, vs)) H := by
          intro b hb9
          subst hb9
          have hKb : sm_K M b = 3 + 3 * ci := by
            have h9 : sm_K M b + 1 = sm_K M a1 := of_decide_eq_true hc3
            omega
          have h8 := (hR.2.2 b (by omega)).2
          rw [sm_cell_o hKb] at h8
          exact ⟨_, h8⟩
        refine sm_Waast (D := G) hx hb hK hS hba t0 ci hat ht0 q1 hv (sm_in hj) hd (fun H1 locs1 z1 o1 e1 hS1 => ?_)
        have e2 : va_up (sm_R M a1) j1.toNatClampNeg v1 = sm_R (sm_putR M a1 j1.toNatClampNeg v1) a1 := by
          funext q; show _ = sm_u2 _ _ _ _ a1 q; rw [sm_u2_at]; rfl
        rw [e2] at e1
        exact hk H1 locs1 lsA (sm_Rep_put (a := a1) hR rfl rfl rfl (fun b hb9 => rfl) (fun b hb9 => sm_u2_ne hb9) z1 o1 (by rw [sm_cell_q (M := sm_putR M a1 j1.toNatClampNeg v1) hKa]; exact e1)) (sm_Ro_put (a := a1) hRo rfl rfl rfl (fun b hb9 => rfl) (by omega)) hS1 hl hn hu
      · cases h
    · cases h
  | arraylength =>
    obtain rfl : len = 1 := hlen.resolve_left (by simp [sm_len])
    dsimp only [sm_step] at h
    split at h
    · split at h
      · rename_i a1 r1 hc; cases h
        obtain ⟨hc1, hc2⟩ := hc
        by_cases hK1 : sm_K M a1 = 1
        · exact va_tlen hx hb (hRo.1 a1 hK1) hS rfl hd (hk H locs lsA hR hRo hS hl hn hu)
        · by_cases hK2 : sm_K M a1 % 3 = 2
          · have hP := sm_P1 hR (a := a1) (by omega)
            by_cases hK6 : sm_K M a1 < 602
            · rw [sm_cell_i hK2 hK6] at hP
              exact va_alen hx hb hK hP 0 0 rfl rfl rfl hd (hk H locs lsA hR hRo hS hl hn hu)
            · rw [sm_cell_z hK2 (by omega)] at hP
              exact va_alen hx hb hK hP 0 1 rfl rfl rfl hd (hk H locs lsA hR hRo hS hl hn hu)
          · obtain ⟨ci, hKa⟩ : ∃ ci, sm_K M a1 = 4 + 3 * ci := ⟨(sm_K M a1 - 4) / 3, by omega⟩
            have hmem : ci ∈ sm_arrs := sm_kok_q (by rw [← hKa]; exact hR.2.1 a1)
            obtain ⟨t0, ht0⟩ := sm_tys_q (tc := tc) hmem
            have hP := sm_P1 hR (a := a1) (by omega)
            rw [sm_cell_q hKa] at hP
            exact va_alen hx hb hK hP 0 t0 rfl ht0 rfl hd (hk H locs lsA hR hRo hS hl hn hu)
      · cases h
    · cases h
  | new k =>
    obtain rfl : len = 3 := hlen.resolve_left (by simp [sm_len])
    dsimp only [sm_step] at h
    dsimp only at hck
    simp only [Bool.and_eq_true, decide_eq_true_eq] at hck
    obtain ⟨hc1, hc2⟩ := hck
    cases h
    obtain ⟨q1, q2, q3, q4, q5, q6⟩ := sm_clok x.1 hc1
    have hbs : base ≤ H.size := Nat.le_trans hbase hS.1
    have eN : sm_N (sm_new M (3 + 3 * x.1) 0 (sm_nf x.1)) = sm_N M + 1 := rfl
    have eU : sm_U (sm_new M (3 + 3 * x.1) 0 (sm_nf x.1)) = sm_U M + (sm_nf x.1) := rfl
    dsimp only at hcl hsl
    rw [eN] at hcl
    rw [eU] at hsl
    refine sm_Wnew (D := G) (ci := x.1) (fs := sm_fs x.1 (fun _ => 0) (fun _ => none)) hx hb hts q2 (sm_ty x.1) q3 hown (hts _ (sm_gw hc2 rfl)) (hts _ q5) (hts _ q6) hK hS q1 (fun j hj => ?_) (by omega) (by omega) hd (fun H1 z1 o1 e1 hS1 => ?_)
    · show _ = (sm_fs _ _ _).getD j .null
      rw [List.getD_eq_getElem?_getD, sm_fs_get hj]
      exact sm_dflt (q7 x.1 hc1 j hj)
    · rw [← hR.1] at e1 ⊢
      have hk0 := hk H1 locs lsA (sm_Rep_new hR hbs (sm_kok_o' hc1) z1 o1 (by rw [sm_cell_o (ci := x.1) (M := sm_new M (3 + 3 * x.1) 0 (sm_nf x.1)) sm_u1_at]; rw [show sm_I (sm_new M (3 + 3 * x.1) 0 (sm_nf x.1)) (sm_N M) = (fun _ => 0) from sm_u1_at, show sm_R (sm_new M (3 + 3 * x.1) 0 (sm_nf x.1)) (sm_N M) = (fun _ => none) from sm_u1_at]; exact e1)) (sm_Ro_new hRo (by omega) (by rw [hR.1]; exact hbs)) hS1 hl (Nat.le_succ_of_le hn) (Nat.le_trans hu (Nat.le_add_right _ _))
      dsimp only at hk0
      rw [eN, eU, show sm_N M + 1 - n0 = sm_N M - n0 + 1 by omega, show sm_U M + sm_nf x.1 - u0 = sm_U M - u0 + sm_nf x.1 by omega] at hk0
      exact hk0
  | newarray k =>
    obtain rfl : len = 2 := hlen.resolve_left (by simp [sm_len])
    dsimp only [sm_step] at h
    dsimp only at hck
    split at hck
    · rename_i hk6
      obtain rfl : k = .int := of_decide_eq_true hck
      split at h
      · split at h
        · rename_i n1 r1 hc; cases h
          obtain ⟨hn1, hn2⟩ := hc
          have hcz := sm_clampI hn1
          have hbs : base ≤ H.size := Nat.le_trans hbase hS.1
          have eN : sm_N (sm_new M (2 + 3 * x.1) n1.toNatClampNeg n1.toNatClampNeg) = sm_N M + 1 := rfl
          have eU : sm_U (sm_new M (2 + 3 * x.1) n1.toNatClampNeg n1.toNatClampNeg) = sm_U M + n1.toNatClampNeg := rfl
          dsimp only at hcl hsl
          rw [eN] at hcl
          rw [eU] at hsl
          refine sm_Wnewa (D := G) (cl := sm_cl) hx hb (t := .int) (hts _ sm_w_ai) (hK.2 0 _ rfl).2 rfl (by decide) hS (sm_nneg hn1) rfl (by omega) (by omega) (by omega) hd (fun H1 z1 o1 e1 hS1 => ?_)
          rw [← hR.1] at e1 ⊢
          have hk0 := hk H1 locs lsA (sm_Rep_new hR hbs (sm_kok_i x.1) z1 o1 (by rw [sm_cell_i (M := sm_new M (2 + 3 * x.1) n1.toNatClampNeg n1.toNatClampNeg) (by rw [show sm_K (sm_new M (2 + 3 * x.1) n1.toNatClampNeg n1.toNatClampNeg) (sm_N M) = 2 + 3 * x.1 from sm_u1_at]; omega) (by rw [show sm_K (sm_new M (2 + 3 * x.1) n1.toNatClampNeg n1.toNatClampNeg) (sm_N M) = 2 + 3 * x.1 from sm_u1_at]; omega)]; rw [show sm_I (sm_new M (2 + 3 * x.1) n1.toNatClampNeg n1.toNatClampNeg) (sm_N M) = (fun _ => 0) from sm_u1_at, show sm_L (sm_new M (2 + 3 * x.1) n1.toNatClampNeg n1.toNatClampNeg) (sm_N M) = n1.toNatClampNeg from sm_u1_at]; exact e1)) (sm_Ro_new hRo (by omega) (by rw [hR.1]; exact hbs)) hS1 hl (Nat.le_succ_of_le hn) (Nat.le_trans hu (Nat.le_add_right _ _))
          dsimp only at hk0
          rw [eN, eU, show sm_N M + 1 - n0 = sm_N M - n0 + 1 by omega, show sm_U M + n1.toNatClampNeg - u0 = sm_U M - u0 + n1.toNatClampNeg by omega] at hk0
          exact hk0
        · cases h
      · cases h
    · rename_i hk6
      obtain rfl : k = .boolean := of_decide_eq_true hck
      split at h
      · split at h
        · rename_i n1 r1 hc; cases h
          obtain ⟨hn1, hn2⟩ := hc
          have hcz := sm_clampI hn1
          have hbs : base ≤ H.size := Nat.le_trans hbase hS.1
          have eN : sm_N (sm_new M (2 + 3 * x.1) n1.toNatClampNeg n1.toNatClampNeg) = sm_N M + 1 := rfl
          have eU : sm_U (sm_new M (2 + 3 * x.1) n1.toNatClampNeg n1.toNatClampNeg) = sm_U M + n1.toNatClampNeg := rfl
          dsimp only at hcl hsl
          rw [eN] at hcl
          rw [eU] at hsl
          refine sm_Wnewa (D := G) (cl := sm_cl) hx hb (t := .boolean) (hts _ sm_w_ab) (hK.2 1 _ rfl).2 rfl (by decide) hS (sm_nneg hn1) rfl (by omega) (by omega) (by omega) hd (fun H1 z1 o1 e1 hS1 => ?_)
          rw [← hR.1] at e1 ⊢
          have hk0 := hk H1 locs lsA (sm_Rep_new hR hbs (sm_kok_i x.1) z1 o1 (by rw [sm_cell_z (M := sm_new M (2 + 3 * x.1) n1.toNatClampNeg n1.toNatClampNeg) (by rw [show sm_K (sm_new M (2 + 3 * x.1) n1.toNatClampNeg n1.toNatClampNeg) (sm_N M) = 2 + 3 * x.1 from sm_u1_at]; omega) (by rw [show sm_K (sm_new M (2 + 3 * x.1) n1.toNatClampNeg n1.toNatClampNeg) (sm_N M) = 2 + 3 * x.1 from sm_u1_at]; omega)]; rw [show sm_I (sm_new M (2 + 3 * x.1) n1.toNatClampNeg n1.toNatClampNeg) (sm_N M) = (fun _ => 0) from sm_u1_at, show sm_L (sm_new M (2 + 3 * x.1) n1.toNatClampNeg n1.toNatClampNeg) (sm_N M) = n1.toNatClampNeg from sm_u1_at]; exact e1)) (sm_Ro_new hRo (by omega) (by rw [hR.1]; exact hbs)) hS1 hl (Nat.le_succ_of_le hn) (Nat.le_trans hu (Nat.le_add_right _ _))
          dsimp only at hk0
          rw [eN, eU, show sm_N M + 1 - n0 = sm_N M - n0 + 1 by omega, show sm_U M + n1.toNatClampNeg - u0 = sm_U M - u0 + n1.toNatClampNeg by omega] at hk0
          exact hk0
        · cases h
      · cases h
  | anewarray k =>
    obtain rfl : len = 3 := hlen.resolve_left (by simp [sm_len])
    dsimp only [sm_step] at h
    dsimp only at hck
    simp only [Bool.and_eq_true, decide_eq_true_eq] at hck
    obtain ⟨hc1, hc2⟩ := hck
    obtain ⟨t0, ht0⟩ := sm_tys_q (tc := tc) hc1
    split at h
    · split at h
      · rename_i n1 r1 hc; cases h
        obtain ⟨hn1, hn2⟩ := hc
        have hcz := sm_clampI hn1
        have hbs : base ≤ H.size := Nat.le_trans hbase hS.1
        have eN : sm_N (sm_new M (4 + 3 * x.1) n1.toNatClampNeg n1.toNatClampNeg) = sm_N M + 1 := rfl
        have eU : sm_U (sm_new M (4 + 3 * x.1) n1.toNatClampNeg n1.toNatClampNeg) = sm_U M + n1.toNatClampNeg := rfl
        dsimp only at hcl hsl
        rw [eN] at hcl
        rw [eU] at hsl
        refine sm_Wnewq (D := G) (cl := sm_cl) hx hb hown (hts _ (sm_gw hc2 rfl)) (hAO _ hc1) (hK.2 t0 _ ht0).2 hS (sm_nneg hn1) rfl (by omega) (by omega) (by omega) hd (fun H1 z1 o1 e1 hS1 => ?_)
        rw [← hR.1] at e1 ⊢
        have hk0 := hk H1 locs lsA (sm_Rep_new hR hbs (sm_kok_q' hc1) z1 o1 (by rw [sm_cell_q (ci := x.1) (M := sm_new M (4 + 3 * x.1) n1.toNatClampNeg n1.toNatClampNeg) sm_u1_at]; rw [show sm_R (sm_new M (4 + 3 * x.1) n1.toNatClampNeg n1.toNatClampNeg) (sm_N M) = (fun _ => none) from sm_u1_at, show sm_L (sm_new M (4 + 3 * x.1) n1.toNatClampNeg n1.toNatClampNeg) (sm_N M) = n1.toNatClampNeg from sm_u1_at]; exact e1)) (sm_Ro_new hRo (by omega) (by rw [hR.1]; exact hbs)) hS1 hl (Nat.le_succ_of_le hn) (Nat.le_trans hu (Nat.le_add_right _ _))
        dsimp only at hk0
        rw [eN, eU, show sm_N M + 1 - n0 = sm_N M - n0 + 1 by omega, show sm_U M + n1.toNatClampNeg - u0 = sm_U M - u0 + n1.toNatClampNeg by omega] at hk0
        exact hk0
      · cases h
    · cases h
  | invokespecial k =>
    obtain rfl : len = 3 := hlen.resolve_left (by simp [sm_len])
    dsimp only [sm_step] at h
    split at h
    · cases h
    · rename_i hd1
      have hd2 : ¬ d = 0 ∧ x.1 = 1 := ⟨fun q => hd1 (Or.inl q), Decidable.not_not.mp (fun q => hd1 (Or.inr q))⟩
      dsimp only at hck
      rw [if_pos hd2.2] at hck
      split at h
      · split at h
        · rename_i a1 r1 hc; cases h
          exact W.objInit hx hb hown (hts _ (sm_gw (of_decide_eq_true hck) rfl)) (hts _ sm_w_oi) (hts _ sm_w_oc) rfl (by show lsA.size = _; rw [hml]; exact hl.2.1) rfl hd (by omega) (by show 2 * 0 + ((r1.map sm_v).map fun v => v.category).sum + 12 ≤ _; rw [sm_cat_sum]; omega) (hk H locs lsA hR hRo hS hl hn hu)
        · cases h
      · cases h
  | invokestatic k =>
    obtain rfl : len = 3 := hlen.resolve_left (by simp [sm_len])
    dsimp only [sm_step] at h
    split at h
    · cases h
    · rename_i hd1
      dsimp only at hck
      split at h
      · rename_i hx1
        split at h
        · rename_i b1 a1 r1; split at h
          · rename_i hc; cases h
            rw [if_pos hx1] at hck
            exact va_mmax hx hb (by rw [hml]; exact hl.2.1.symm) hown (hts _ (sm_gw (of_decide_eq_true hck) rfl)) (hts _ sm_w_ms) (hts _ sm_w_mi) (hts _ sm_w_mc) (by omega) (by rw [sm_cat_sum]; omega) hcl hsl hd (hk H locs lsA hR hRo hS hl hn hu)
          · cases h
        · cases h
      · rename_i hx2
        split at h
        · rename_i hx1
          split at h
          · rename_i b1 a1 r1; split at h
            · rename_i hc; cases h
              rw [if_neg hx2, if_pos hx1] at hck
              exact va_mmin hx hb (by rw [hml]; exact hl.2.1.symm) hown (hts _ (sm_gw (of_decide_eq_true hck) rfl)) (hts _ sm_w_ns) (hts _ sm_w_mi) (hts _ sm_w_nc) (by omega) (by rw [sm_cat_sum]; omega) hcl hsl hd (hk H locs lsA hR hRo hS hl hn hu)
            · cases h
          · cases h
        · rename_i hx3
          split at h
          · rename_i hx1
            split at h
            · rename_i n1 dp a1 sp a0 r1; split at h
              · rename_i hc; cases h
                obtain ⟨hr8, hK0, ⟨hKa, hK6, hgr⟩, h1, h2, h3, h4, h5⟩ := hc
                rw [if_neg hx2, if_neg hx3, if_pos hx1] at hck
                have e1 := sm_clampI h1; have e2 := sm_clampI h2; have e3 := sm_clampI h3
                obtain ⟨hba, hat⟩ := hR.2.2 a1 (by omega)
                rw [sm_cell_i hKa hK6] at hat
                obtain ⟨cs, hs1, hs2, hs3, hs4, hs5⟩ : ∃ cs : Cell, H[a0]? = some cs ∧ s.isArrayOf cs .int ∧ cs.vm ≠ .unknown ∧ sm_L M a0 ≤ cs.slots.size ∧ ∀ j, j < sm_L M a0 → cs.slots[j]? = some (.int (sm_I M a0 j)) := by
                  rcases hK0 with hK0 | hK0
                  · obtain ⟨cell, t1, t2, t3, t4, t5, t6, t7⟩ := hRo.1 a0 hK0
                    exact ⟨cell, by rw [hS.2.1 a0 (Array.getElem?_eq_some_iff.mp t1).1 t7]; exact t1, t2, t3, t4, t6⟩
                  · obtain ⟨hK0, hK9⟩ := hK0
                    have h8 := (hR.2.2 a0 (by omega)).2
                    rw [sm_cell_i hK0 hK9] at h8
                    exact ⟨_, h8, (hK.2 0 _ rfl).1 _ (fun j => .int (sm_I M a0 j)), (fun q => by cases q), (by show _ ≤ (arrV _ _ _).slots.size; rw [arrV_size]; exact Nat.le_refl _), (fun j hj => by show (arrV _ _ _).slots[j]? = _; rw [arrV_read _ _ hj])⟩
                refine sm_Wcopy (D := G) (cl := sm_cl) hx hb (by rw [hml]; exact hl.2.1.symm) hown (hts _ (sm_gw (of_decide_eq_true hck) rfl)) (hts _ sm_w_cn) (hts _ sm_w_cs) (hts _ sm_w_ci) hS hba hs1 hs2 hs3 hs4 hs5 (hK.2 0 _ rfl).1 hat (sm_nneg h1) (sm_nneg h2) (sm_nneg h3) (by omega) (by omega) (by omega) (by rw [sm_cat_sum]; have := sm_nfw; omega) hd (fun H1 locs1 z1 o1 e9 hS1 => ?_)
                exact hk H1 locs1 lsA (sm_Rep_put (a := a1) hR rfl rfl rfl (fun b hb9 => sm_u1_ne hb9) (fun b hb9 => rfl) z1 o1 (by rw [sm_cell_i (M := sm_rowI M a1 (va_cpy (sm_I M a0) (sm_I M a1) sp.toNatClampNeg dp.toNatClampNeg n1.toNatClampNeg)) hKa hK6]; rw [show sm_I (sm_rowI M a1 (va_cpy (sm_I M a0) (sm_I M a1) sp.toNatClampNeg dp.toNatClampNeg n1.toNatClampNeg)) a1 = va_cpy (sm_I M a0) (sm_I M a1) sp.toNatClampNeg dp.toNatClampNeg n1.toNatClampNeg from sm_u1_at]; exact e9)) (sm_Ro_put (a := a1) hRo rfl rfl rfl (fun b hb9 => sm_u1_ne hb9) (by omega)) hS1 hl hn hu
              · cases h
            · cases h
          · cases h
  | _ => exact absurd h (by simp [sm_step])
