/-! Runs of the small machine, by what holds at their end -/
def sm_Run (d me pc : Nat) (ls : List (Option sm_V)) (st : List sm_V) (M : sm_M) (Q : Option sm_V → sm_M → Prop) : Prop := ∃ v M', sm_Ev d me pc ls st M v M' ∧ Q v M'
section RU
variable {d me pc p p2 len : Nat} {ls : List (Option sm_V)} {st r : List sm_V} {M : sm_M} {x : sm_X} {Q : Option sm_V → sm_M → Prop}
theorem ru_mono {P : Option sm_V → sm_M → Prop} (h : sm_Run d me pc ls st M P) (k : ∀ v M', P v M' → Q v M') : sm_Run d me pc ls st M Q := by
  obtain ⟨v, M', h1, h2⟩ := h
  exact ⟨v, M', h1, k v M' h2⟩
theorem ru_ret {i : ClassFile.Instr} {v : Option sm_V} (h : sm_at me pc = some (i, len, x)) (h2 : sm_rv me i st = some v) (k : Q v M) : sm_Run d me pc ls st M Q := ⟨v, M, sm_ev_ret h h2, k⟩
theorem ru_go {i : ClassFile.Instr} {t : sm_T} (h : sm_at me pc = some (i, len, x)) (h2 : sm_rv me i st = none) (h3 : sm_call i x st M = none) (h4 : sm_step d i x pc ls st M = some t) (k : sm_Run d me t.1 t.2.1 t.2.2.1 t.2.2.2 Q) : sm_Run d me pc ls st M Q := by
  obtain ⟨v, M', h5, h6⟩ := k
  exact ⟨v, M', sm_ev_step h h2 h3 h4 h5, h6⟩
theorem ru_call {i : ClassFile.Instr} {y : Nat} {As : List sm_V} (h : sm_at me pc = some (i, len, x)) (h2 : sm_rv me i st = none) (h3 : sm_call i x st M = some (y, As, r)) (hp : pc + 3 = p) (k : sm_Run d y 0 (sm_ent y As) [] M (fun v M1 => sm_Run (d + 1) me p ls (v.toList ++ r) M1 Q)) : sm_Run (d + 1) me pc ls st M Q := by
  subst hp
  obtain ⟨v1, M1, h5, v, M', h6, h7⟩ := k
  exact ⟨v, M', sm_ev_call h h2 h3 h5 h6, h7⟩
def sm_cP (c : ClassFile.Cond) (a b : Int32) : Prop := match c with
  | .eq => a = b
  | .ne => ¬ a = b
  | .lt => a < b
  | .ge => b ≤ a
  | .gt => b < a
  | .le => a ≤ b
theorem sm_cP_t {c : ClassFile.Cond} {a b : Int32} (h : sm_cP c a b) : sm_cnd c a b = true := by
  cases c <;> first | exact decide_eq_true h | (show (!decide (a = b)) = true; rw [decide_eq_false h]; rfl)
theorem sm_cP_f {c : ClassFile.Cond} {a b : Int32} (h : ¬ sm_cP c a b) : sm_cnd c a b = false := by
  cases c <;> first | exact decide_eq_false h | (show (!decide (a = b)) = false; rw [decide_eq_true (Decidable.not_not.mp h)]; rfl)
theorem sm_cP_em (c : ClassFile.Cond) (a b : Int32) : sm_cP c a b ∨ ¬ sm_cP c a b := by
  exact Classical.em _
theorem ru_icmp {cd : ClassFile.Cond} {off : Int} {a b : Int32} (h : sm_at me pc = some (.if_icmp cd off, len, x)) (ht : sm_tgt pc off = p) (hf : pc + 3 = p2) (k : (sm_cP cd a b → sm_Run d me p ls r M Q) ∧ (¬ sm_cP cd a b → sm_Run d me p2 ls r M Q)) : sm_Run d me pc ls (.inl b :: .inl a :: r) M Q := by
  rcases sm_cP_em cd a b with hc | hc
  · refine ru_go (t := (bif sm_cnd cd a b then sm_tgt pc off else pc + 3, ls, r, M)) h rfl rfl rfl ?_
    rw [sm_cP_t hc]
    show sm_Run d me (sm_tgt pc off) ls r M Q
    rw [ht]; exact k.1 hc
  · refine ru_go (t := (bif sm_cnd cd a b then sm_tgt pc off else pc + 3, ls, r, M)) h rfl rfl rfl ?_
    rw [sm_cP_f hc]
    show sm_Run d me (pc + 3) ls r M Q
    rw [hf]; exact k.2 hc
theorem ru_if {cd : ClassFile.Cond} {off : Int} {a : Int32} (h : sm_at me pc = some (.ifCond cd off, len, x)) (ht : sm_tgt pc off = p) (hf : pc + 3 = p2) (k : (sm_cP cd a 0 → sm_Run d me p ls r M Q) ∧ (¬ sm_cP cd a 0 → sm_Run d me p2 ls r M Q)) : sm_Run d me pc ls (.inl a :: r) M Q := by
  rcases sm_cP_em cd a 0 with hc | hc
  · refine ru_go (t := (bif sm_cnd cd a 0 then sm_tgt pc off else pc + 3, ls, r, M)) h rfl rfl rfl ?_
    rw [sm_cP_t hc]
    show sm_Run d me (sm_tgt pc off) ls r M Q
    rw [ht]; exact k.1 hc
  · refine ru_go (t := (bif sm_cnd cd a 0 then sm_tgt pc off else pc + 3, ls, r, M)) h rfl rfl rfl ?_
    rw [sm_cP_f hc]
    show sm_Run d me (pc + 3) ls r M Q
    rw [hf]; exact k.2 hc
theorem ru_acmpeq {off : Int} {a b : Option Nat} (h : sm_at me pc = some (.if_acmp .eq off, len, x)) (ht : sm_tgt pc off = p) (hf : pc + 3 = p2) (k : (a = b → sm_Run d me p ls r M Q) ∧ (¬ a = b → sm_Run d me p2 ls r M Q)) : sm_Run d me pc ls (.inr b :: .inr a :: r) M Q := by
  refine ru_go (t := (bif decide (a = b) then sm_tgt pc off else pc + 3, ls, r, M)) h rfl rfl rfl ?_
  by_cases hc : a = b
  · rw [decide_eq_true hc]
    show sm_Run d me (sm_tgt pc off) ls r M Q
    rw [ht]; exact k.1 hc
  · rw [decide_eq_false hc]
    show sm_Run d me (pc + 3) ls r M Q
    rw [hf]; exact k.2 hc
theorem ru_acmpne {off : Int} {a b : Option Nat} (h : sm_at me pc = some (.if_acmp .ne off, len, x)) (ht : sm_tgt pc off = p) (hf : pc + 3 = p2) (k : (¬ a = b → sm_Run d me p ls r M Q) ∧ (a = b → sm_Run d me p2 ls r M Q)) : sm_Run d me pc ls (.inr b :: .inr a :: r) M Q := by
  refine ru_go (t := (bif !decide (a = b) then sm_tgt pc off else pc + 3, ls, r, M)) h rfl rfl rfl ?_
  by_cases hc : a = b
  · rw [decide_eq_true hc]
    show sm_Run d me (pc + 3) ls r M Q
    rw [hf]; exact k.2 hc
  · rw [decide_eq_false hc]
    show sm_Run d me (sm_tgt pc off) ls r M Q
    rw [ht]; exact k.1 hc
theorem ru_ifnull {off : Int} {a : Option Nat} (h : sm_at me pc = some (.ifnull off, len, x)) (ht : sm_tgt pc off = p) (hf : pc + 3 = p2) (k : (a = none → sm_Run d me p ls r M Q) ∧ (∀ b, a = some b → sm_Run d me p2 ls r M Q)) : sm_Run d me pc ls (.inr a :: r) M Q := by
  cases a with
  | none => exact ru_go (t := (sm_tgt pc off, ls, r, M)) h rfl rfl rfl (by rw [ht]; exact k.1 rfl)
  | some b => exact ru_go (t := (pc + 3, ls, r, M)) h rfl rfl rfl (by rw [hf]; exact k.2 b rfl)
theorem ru_ifnonnull {off : Int} {a : Option Nat} (h : sm_at me pc = some (.ifnonnull off, len, x)) (ht : sm_tgt pc off = p) (hf : pc + 3 = p2) (k : (∀ b, a = some b → sm_Run d me p ls r M Q) ∧ (a = none → sm_Run d me p2 ls r M Q)) : sm_Run d me pc ls (.inr a :: r) M Q := by
  cases a with
  | none => exact ru_go (t := (pc + 3, ls, r, M)) h rfl rfl rfl (by rw [hf]; exact k.2 rfl)
  | some b => exact ru_go (t := (sm_tgt pc off, ls, r, M)) h rfl rfl rfl (by rw [ht]; exact k.1 b rfl)
/-- a switch: at a place that is known, or elsewhere -/
theorem ru_tsw {df lo hi : Int} {offs : Array Int} {a v : Int32} (h : sm_at me pc = some (.tableswitch df lo hi offs, len, x)) (hv : a = v) (ht : (bif decide (v.toInt < lo ∨ hi < v.toInt) then sm_tgt pc df else sm_tgt pc ((offs[(v.toInt - lo).toNat]?).getD 0)) = p) (k : sm_Run d me p ls r M Q) : sm_Run d me pc ls (.inl a :: r) M Q := by
  subst hv
  exact ru_go (t := (bif decide (a.toInt < lo ∨ hi < a.toInt) then sm_tgt pc df else sm_tgt pc ((offs[(a.toInt - lo).toNat]?).getD 0), ls, r, M)) h rfl rfl rfl (by rw [ht]; exact k)
theorem ru_tswd {df lo hi : Int} {offs : Array Int} {a : Int32} (h : sm_at me pc = some (.tableswitch df lo hi offs, len, x)) (hv : a.toInt < lo ∨ hi < a.toInt) (ht : sm_tgt pc df = p) (k : sm_Run d me p ls r M Q) : sm_Run d me pc ls (.inl a :: r) M Q := by
  refine ru_go (t := (bif decide (a.toInt < lo ∨ hi < a.toInt) then sm_tgt pc df else sm_tgt pc ((offs[(a.toInt - lo).toNat]?).getD 0), ls, r, M)) h rfl rfl rfl ?_
  rw [decide_eq_true hv]
  show sm_Run d me (sm_tgt pc df) ls r M Q
  rw [ht]; exact k
theorem ru_lsw {df : Int} {ps : Array (Int × Int)} {a v : Int32} (h : sm_at me pc = some (.lookupswitch df ps, len, x)) (hv : a = v) (ht : sm_tgt pc (Op.lookupswitch.offset ps.toList df v.toInt) = p) (k : sm_Run d me p ls r M Q) : sm_Run d me pc ls (.inl a :: r) M Q := by
  subst hv
  exact ru_go (t := (sm_tgt pc (Op.lookupswitch.offset ps.toList df a.toInt), ls, r, M)) h rfl rfl rfl (by rw [ht]; exact k)
theorem sm_ne_toInt {a v : Int32} (h : ¬ a = v) : ¬ a.toInt = v.toInt := fun q => h (Int32.toInt_inj.mp q)
theorem sm_off_ne {ps : List (Int × Int)} {df z : Int} (h : ∀ q ∈ ps, z ≠ q.1) : Op.lookupswitch.offset ps df z = df := by
  induction ps with
  | nil => rfl
  | cons q r ih =>
    obtain ⟨a, o⟩ := q
    rw [Op.lookupswitch.offset_cons, if_neg (fun e => h (a, o) List.mem_cons_self (by first | exact e | exact e.symm))]
    exact ih (fun z hz => h z (List.mem_cons_of_mem _ hz))
theorem ru_lswd {df : Int} {ps : Array (Int × Int)} {a : Int32} (h : sm_at me pc = some (.lookupswitch df ps, len, x)) (hv : ∀ q ∈ ps.toList, a.toInt ≠ q.1) (ht : sm_tgt pc df = p) (k : sm_Run d me p ls r M Q) : sm_Run d me pc ls (.inl a :: r) M Q := by
  refine ru_go (t := (sm_tgt pc (Op.lookupswitch.offset ps.toList df a.toInt), ls, r, M)) h rfl rfl rfl ?_
  rw [sm_off_ne hv]
  show sm_Run d me (sm_tgt pc df) ls r M Q
  rw [ht]; exact k
/-! the instructions that look at the memory -/
theorem st_getI {n ci k z1 z2 a : Nat} (hK : sm_K M a = 3 + 3 * ci) (hT : sm_isR (sm_ty ci k) = false) : sm_step d (.getfield n) (ci, k, z1, z2) pc ls (.inr (some a) :: r) M = some (pc + 3, ls, .inl (sm_I M a k) :: r, M) := by
  simp only [sm_step, hK, hT, if_true, cond_false]
theorem st_getR {n ci k z1 z2 a : Nat} {b : Option Nat} (hK : sm_K M a = 3 + 3 * ci) (hT : sm_isR (sm_ty ci k) = true) (hb : sm_R M a k = b) : sm_step d (.getfield n) (ci, k, z1, z2) pc ls (.inr (some a) :: r) M = some (pc + 3, ls, .inr b :: r, M) := by
  subst hb
  simp only [sm_step, hK, hT, if_true, cond_true]
theorem st_putI {n ci k z1 z2 a : Nat} {v : Int32} (hK : sm_K M a = 3 + 3 * ci) (hT : sm_fit (sm_ty ci k) v = true) : sm_step d (.putfield n) (ci, k, z1, z2) pc ls (.inl v :: .inr (some a) :: r) M = some (pc + 3, ls, r, sm_putI M a k v) := by
  simp only [sm_step, hK, hT, and_self, if_true]
theorem st_putR {n ci k z1 z2 a : Nat} {v : Option Nat} (hK : sm_K M a = 3 + 3 * ci) (hT : sm_isR (sm_ty ci k) = true) : sm_step d (.putfield n) (ci, k, z1, z2) pc ls (.inr v :: .inr (some a) :: r) M = some (pc + 3, ls, r, sm_putR M a k v) := by
  simp only [sm_step, hK, hT, and_self, if_true]
theorem st_gets {n k z1 z2 z3 : Nat} {b : Option Nat} (hb : sm_S M k = b) : sm_step d (.getstatic n) (k, z1, z2, z3) pc ls st M = some (pc + 3, ls, .inr b :: st, M) := by
  subst hb; rfl
/-- an int array: its kind -/
def sm_iA (M : sm_M) (a : Nat) : Prop := sm_K M a = 1 ∨ (sm_K M a % 3 = 2 ∧ sm_K M a < 602)
def sm_wA (g : Nat) (M : sm_M) (a : Nat) : Prop := sm_K M a % 3 = 2 ∧ sm_K M a < 602 ∧ sm_grp (sm_K M a) = g
def sm_wZ (g : Nat) (M : sm_M) (a : Nat) : Prop := sm_K M a % 3 = 2 ∧ 602 ≤ sm_K M a ∧ sm_grp (sm_K M a) = g
def sm_in_ (M : sm_M) (a : Nat) (j : Int32) : Prop := 0 ≤ j.toInt ∧ j.toInt < sm_L M a
theorem sm_ix_t {j : Int32} {a : Nat} (h : sm_in_ M a j) : sm_ix j (sm_L M a) = true := decide_eq_true h
theorem st_iald {a : Nat} {j : Int32} (hK : sm_iA M a) (hj : sm_in_ M a j) : sm_step d .iaload x pc ls (.inl j :: .inr (some a) :: r) M = some (pc + 1, ls, .inl (sm_I M a j.toNatClampNeg) :: r, M) := by
  dsimp only [sm_step]
  rw [if_pos ⟨hK, sm_ix_t hj⟩]
theorem st_iast {g z1 z2 z3 a : Nat} {j v : Int32} (hK : sm_wA g M a) (hj : sm_in_ M a j) : sm_step d .iastore (g, z1, z2, z3) pc ls (.inl v :: .inl j :: .inr (some a) :: r) M = some (pc + 1, ls, r, sm_putI M a j.toNatClampNeg v) := by
  dsimp only [sm_step]
  rw [if_pos ⟨hK, sm_ix_t hj⟩]
theorem st_zald {g a : Nat} {j : Int32} (hK : sm_wZ g M a) (hj : sm_in_ M a j) : sm_step d .baload x pc ls (.inl j :: .inr (some a) :: r) M = some (pc + 1, ls, .inl (sm_I M a j.toNatClampNeg) :: r, M) := by
  dsimp only [sm_step]
  rw [if_pos ⟨⟨hK.1, hK.2.1⟩, sm_ix_t hj⟩]
theorem st_zast {g z1 z2 z3 a : Nat} {j v : Int32} (hK : sm_wZ g M a) (hj : sm_in_ M a j) (hv : sm_fit .boolean v = true) : sm_step d .bastore (g, z1, z2, z3) pc ls (.inl v :: .inl j :: .inr (some a) :: r) M = some (pc + 1, ls, r, sm_putI M a j.toNatClampNeg v) := by
  dsimp only [sm_step]
  rw [if_pos ⟨hK, sm_ix_t hj, hv⟩]
theorem st_aald {a ci : Nat} {j : Int32} {b : Option Nat} (hK : sm_K M a = 4 + 3 * ci) (hj : sm_in_ M a j) (hb : sm_R M a j.toNatClampNeg = b) : sm_step d .aaload x pc ls (.inl j :: .inr (some a) :: r) M = some (pc + 1, ls, .inr b :: r, M) := by
  subst hb
  dsimp only [sm_step]
  rw [if_pos ⟨⟨by omega, by omega⟩, sm_ix_t hj⟩]
theorem st_aast {g z1 z2 z3 a ci : Nat} {j : Int32} {v : Option Nat} (hK : sm_K M a = 4 + 3 * ci) (hg : sm_grp (4 + 3 * ci) = g) (hj : sm_in_ M a j) (hv : ∀ b, v = some b → sm_K M b = 3 + 3 * ci) : sm_step d .aastore (g, z1, z2, z3) pc ls (.inr v :: .inl j :: .inr (some a) :: r) M = some (pc + 1, ls, r, sm_putR M a j.toNatClampNeg v) := by
  dsimp only [sm_step]
  rw [if_pos ⟨⟨by omega, by omega, by rw [hK]; exact hg⟩, sm_ix_t hj, by
    cases v with
    | none => rfl
    | some b => exact decide_eq_true (by rw [hv b rfl, hK]; omega)⟩]
theorem st_alen {a : Nat} (hK : 1 ≤ sm_K M a ∧ sm_K M a % 3 ≠ 0) : sm_step d .arraylength x pc ls (.inr (some a) :: r) M = some (pc + 1, ls, .inl (Int32.ofNat (sm_L M a)) :: r, M) := by
  dsimp only [sm_step]
  rw [if_pos hK]
theorem st_newa {t : ClassFile.ArrayType} {j z1 z2 z3 : Nat} {n : Int32} (hn : 0 ≤ n.toInt ∧ n.toInt ≤ 100000) : sm_step d (.newarray t) (j, z1, z2, z3) pc ls (.inl n :: r) M = some (pc + 2, ls, .inr (some (sm_N M)) :: r, sm_new M (2 + 3 * j) n.toNatClampNeg n.toNatClampNeg) := by
  dsimp only [sm_step]
  rw [if_pos hn]
theorem st_newq {t ci z1 z2 z3 : Nat} {n : Int32} (hn : 0 ≤ n.toInt ∧ n.toInt ≤ 100000) : sm_step d (.anewarray t) (ci, z1, z2, z3) pc ls (.inl n :: r) M = some (pc + 3, ls, .inr (some (sm_N M)) :: r, sm_new M (4 + 3 * ci) n.toNatClampNeg n.toNatClampNeg) := by
  dsimp only [sm_step]
  rw [if_pos hn]
theorem st_div {a b : Int32} (hb : ¬ b = 0) : sm_step d .idiv x pc ls (.inl b :: .inl a :: r) M = some (pc + 1, ls, .inl (a / b) :: r, M) := by
  dsimp only [sm_step]
  rw [if_neg hb]
theorem st_rem {a b : Int32} (hb : ¬ b = 0) : sm_step d .irem x pc ls (.inl b :: .inl a :: r) M = some (pc + 1, ls, .inl (a - a / b * b) :: r, M) := by
  dsimp only [sm_step]
  rw [if_neg hb]
theorem st_copy {n9 g z2 z3 a a0 : Nat} {n dp sp : Int32} (h8 : r.length ≤ 8) (hK0 : sm_iA M a0) (hK : sm_wA g M a) (h1 : 0 ≤ sp.toInt ∧ 0 ≤ dp.toInt ∧ 0 ≤ n.toInt) (h2 : sp.toInt + n.toInt ≤ sm_L M a0 ∧ dp.toInt + n.toInt ≤ sm_L M a) : sm_step (d + 1) (.invokestatic n9) (4, g, z2, z3) pc ls (.inl n :: .inl dp :: .inr (some a) :: .inl sp :: .inr (some a0) :: r) M = some (pc + 3, ls, r, sm_rowI M a (va_cpy (sm_I M a0) (sm_I M a) sp.toNatClampNeg dp.toNatClampNeg n.toNatClampNeg)) := by
  have e : sm_step (d + 1) (.invokestatic n9) (4, g, z2, z3) pc ls (.inl n :: .inl dp :: .inr (some a) :: .inl sp :: .inr (some a0) :: r) M = if r.length ≤ 8 ∧ (sm_K M a0 = 1 ∨ (sm_K M a0 % 3 = 2 ∧ sm_K M a0 < 602)) ∧ (sm_K M a % 3 = 2 ∧ sm_K M a < 602 ∧ sm_grp (sm_K M a) = g) ∧ 0 ≤ sp.toInt ∧ 0 ≤ dp.toInt ∧ 0 ≤ n.toInt ∧ sp.toInt + n.toInt ≤ sm_L M a0 ∧ dp.toInt + n.toInt ≤ sm_L M a then some (pc + 3, ls, r, sm_rowI M a (va_cpy (sm_I M a0) (sm_I M a) sp.toNatClampNeg dp.toNatClampNeg n.toNatClampNeg)) else none := rfl
  rw [e, if_pos ⟨h8, hK0, hK, h1.1, h1.2.1, h1.2.2, h2.1, h2.2⟩]
theorem sc_virt {n kd y ci z b : Nat} {As : List sm_V} (hk : kd = 10 ∨ kd = 11) (hd : st.drop (sm_np y) = .inr (some b) :: r) (ht : (st.take (sm_np y)).reverse = As) (hK : sm_K M b = 3 + 3 * ci) (h8 : r.length ≤ 8) : sm_call (.invokevirtual n) (kd, y, ci, z) st M = some (y, .inr (some b) :: As, r) := by
  subst ht
  dsimp only [sm_call]
  rw [if_pos hk, hd]
  dsimp only
  rw [if_pos ⟨hK, h8⟩]
end RU
