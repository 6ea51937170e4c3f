def sm_isN (w : Cond) : Bool := match w with
  | .fieldLinkNest .. => true
  | .methodLinkNest .. => true
  | _ => false
def sm_isG (w : Cond) : Bool := (w.onTables && w.keeps) || (match w with
  | .arrayClass _ => true
  | _ => false)
def sm_gws : List Cond := lw_tbl.filter sm_isG
def sm_nws : List Cond := lw_tbl.filter sm_isN
theorem sm_good : ∀ w ∈ sm_gws, (w.onTables && w.keeps) = true ∨ ∃ ty, w = .arrayClass ty := by
  intro w hw
  have h := (List.mem_filter.mp hw).2
  unfold sm_isG at h
  rw [Bool.or_eq_true] at h
  rcases h with h | h
  · exact Or.inl h
  · split at h
    · exact Or.inr ⟨_, rfl⟩
    · cases h
theorem sm_nws_ok : ∀ w ∈ sm_nws, sm_isN w = true := fun w h => (List.mem_filter.mp h).2
theorem sm_gw {pos : Nat} {w : Cond} (h : lw_tbl[pos]? = some w) (hg : sm_isG w = true) : w ∈ sm_gws := List.mem_filter.mpr ⟨List.mem_of_getElem? h, hg⟩
theorem sm_nw {pos : Nat} {w : Cond} (h : lw_tbl[pos]? = some w) (hg : sm_isN w = true) : w ∈ sm_nws := List.mem_filter.mpr ⟨List.mem_of_getElem? h, hg⟩
/-! THE SMALL MACHINE. Values are ints or references; the memory is a few functions of addresses; sm_exec runs a method of the tables (part 01) on it. Below it is shown once that the machine of the kit does what sm_exec says. -/
abbrev sm_V : Type := Int32 ⊕ Option Nat
def sm_v (x : sm_V) : Value := match x with
  | .inl n => .int n
  | .inr r => va_rf r
theorem sm_v_cat (x : sm_V) : (sm_v x).category = 1 := by
  rcases x with n | r
  · rfl
  · cases r <;> rfl
/-- kinds, lengths, ints, references, statics, next address, slots used -/
abbrev sm_M : Type := (Nat → Nat) × (Nat → Nat) × (Nat → Nat → Int32) × (Nat → Nat → Option Nat) × (Nat → Option Nat) × Nat × Nat
def sm_K (M : sm_M) : Nat → Nat := M.1
def sm_L (M : sm_M) : Nat → Nat := M.2.1
def sm_I (M : sm_M) : Nat → Nat → Int32 := M.2.2.1
def sm_R (M : sm_M) : Nat → Nat → Option Nat := M.2.2.2.1
def sm_S (M : sm_M) : Nat → Option Nat := M.2.2.2.2.1
def sm_N (M : sm_M) : Nat := M.2.2.2.2.2.1
def sm_U (M : sm_M) : Nat := M.2.2.2.2.2.2
def sm_u1 {α : Type} (f : Nat → α) (a : Nat) (x : α) : Nat → α := fun b => if b = a then x else f b
def sm_u2 {α : Type} (f : Nat → Nat → α) (a k : Nat) (x : α) : Nat → Nat → α := fun b j => if b = a ∧ j = k then x else f b j
def sm_putI (M : sm_M) (a k : Nat) (x : Int32) : sm_M := (sm_K M, sm_L M, sm_u2 (sm_I M) a k x, sm_R M, sm_S M, sm_N M, sm_U M)
def sm_putR (M : sm_M) (a k : Nat) (x : Option Nat) : sm_M := (sm_K M, sm_L M, sm_I M, sm_u2 (sm_R M) a k x, sm_S M, sm_N M, sm_U M)
/-- a row of ints anew -/
def sm_rowI (M : sm_M) (a : Nat) (f : Nat → Int32) : sm_M := (sm_K M, sm_L M, sm_u1 (sm_I M) a f, sm_R M, sm_S M, sm_N M, sm_U M)
/-- a new cell of kind K, length n; u slots -/
def sm_new (M : sm_M) (K n u : Nat) : sm_M := (sm_u1 (sm_K M) (sm_N M) K, sm_u1 (sm_L M) (sm_N M) n, sm_u1 (sm_I M) (sm_N M) (fun _ => 0), sm_u1 (sm_R M) (sm_N M) (fun _ => none), sm_S M, sm_N M + 1, sm_U M + u)
def sm_get (ls : List (Option sm_V)) (i : Nat) : Option sm_V := match ls[i]? with
  | some (some v) => some v
  | _ => none
abbrev sm_T : Type := Nat × List (Option sm_V) × List sm_V × sm_M
def sm_tgt (pc : Nat) (off : Int) : Nat := ((pc : Int) + off).toNat
def sm_isR (ty : FieldType) : Bool := match ty with
  | .object _ => true
  | .array _ => true
  | _ => false
def sm_fit (ty : FieldType) (x : Int32) : Bool := match ty with
  | .int => true
  | .boolean => x == 0 || x == 1
  | _ => false
def sm_cnd (c : ClassFile.Cond) (x y : Int32) : Bool := match c with
  | .eq => decide (x = y)
  | .ne => !decide (x = y)
  | .lt => decide (x < y)
  | .ge => decide (y ≤ x)
  | .gt => decide (y < x)
  | .le => decide (x ≤ y)
def sm_ix (i : Int32) (n : Nat) : Bool := decide (0 ≤ i.toInt ∧ i.toInt < n)
def sm_okv (M : sm_M) (v : Option Nat) (a : Nat) : Bool := match v with
  | none => true
  | some b => decide (sm_K M b + 1 = sm_K M a)
/-- one instruction that is no call of a method of the tables and no return -/
def sm_step (d : Nat) (i : ClassFile.Instr) (x : sm_X) (pc : Nat) (ls : List (Option sm_V)) (st : List sm_V) (M : sm_M) : Option sm_T :=
  match i with
  | .iconst n => some (pc + 1, ls, .inl (Int32.ofInt n) :: st, M)
  | .bipush n => some (pc + 2, ls, .inl (Int8.ofInt n).toInt32 :: st, M)
  | .sipush n => some (pc + 3, ls, .inl (Int16.ofInt n).toInt32 :: st, M)
  | .ldc _ => some (pc + 2, ls, .inl (Int32.ofNat x.1) :: st, M)
  | .ldc_w _ => some (pc + 3, ls, .inl (Int32.ofNat x.1) :: st, M)
  | .aconst_null => some (pc + 1, ls, .inr none :: st, M)
  | .iload_n k => match sm_get ls k with
    | some (.inl v) => some (pc + 1, ls, .inl v :: st, M)
    | _ => none
  | .iload k => match sm_get ls k with
    | some (.inl v) => some (pc + 2, ls, .inl v :: st, M)
    | _ => none
  | .aload_n k => match sm_get ls k with
    | some (.inr v) => some (pc + 1, ls, .inr v :: st, M)
    | _ => none
  | .aload k => match sm_get ls k with
    | some (.inr v) => some (pc + 2, ls, .inr v :: st, M)
    | _ => none
  | .istore_n k => match st with
    | .inl v :: r => if k < ls.length then some (pc + 1, ls.set k (some (.inl v)), r, M) else none
    | _ => none
  | .istore k => match st with
    | .inl v :: r => if k < ls.length then some (pc + 2, ls.set k (some (.inl v)), r, M) else none
    | _ => none
  | .astore_n k => match st with
    | .inr v :: r => if k < ls.length then some (pc + 1, ls.set k (some (.inr v)), r, M) else none
    | _ => none
  | .astore k => match st with
    | .inr v :: r => if k < ls.length then some (pc + 2, ls.set k (some (.inr v)), r, M) else none
    | _ => none
  | .iinc k n => match sm_get ls k with
    | some (.inl v) => some (pc + 3, ls.set k (some (.inl (v + Int32.ofInt n))), st, M)
    | _ => none
  | .iadd => match st with
    | .inl b :: .inl a :: r => some (pc + 1, ls, .inl (a + b) :: r, M)
    | _ => none
  | .isub => match st with
    | .inl b :: .inl a :: r => some (pc + 1, ls, .inl (a - b) :: r, M)
    | _ => none
  | .imul => match st with
    | .inl b :: .inl a :: r => some (pc + 1, ls, .inl (a * b) :: r, M)
    | _ => none
  | .iand => match st with
    | .inl b :: .inl a :: r => some (pc + 1, ls, .inl (a &&& b) :: r, M)
    | _ => none
  | .ior => match st with
    | .inl b :: .inl a :: r => some (pc + 1, ls, .inl (a ||| b) :: r, M)
    | _ => none
  | .ixor => match st with
    | .inl b :: .inl a :: r => some (pc + 1, ls, .inl (a ^^^ b) :: r, M)
    | _ => none
  | .ishl => match st with
    | .inl b :: .inl a :: r => some (pc + 1, ls, .inl (a <<< (b &&& 31)) :: r, M)
    | _ => none
  | .ishr => match st with
    | .inl b :: .inl a :: r => some (pc + 1, ls, .inl (a >>> (b &&& 31)) :: r, M)
    | _ => none
  | .iushr => match st with
    | .inl b :: .inl a :: r => some (pc + 1, ls, .inl ((a.toUInt32 >>> (b.toUInt32 &&& Int32.toUInt32 31)).toInt32) :: r, M)
    | _ => none
  | .idiv => match st with
    | .inl b :: .inl a :: r => if b = 0 then none else some (pc + 1, ls, .inl (a / b) :: r, M)
    | _ => none
  | .irem => match st with
    | .inl b :: .inl a :: r => if b = 0 then none else some (pc + 1, ls, .inl (a - a / b * b) :: r, M)
    | _ => none
  | .ineg => match st with
    | .inl a :: r => some (pc + 1, ls, .inl (-a) :: r, M)
    | _ => none
  | .dup => match st with
    | a :: r => some (pc + 1, ls, a :: a :: r, M)
    | _ => none
  | .pop => match st with
    | _ :: r => some (pc + 1, ls, r, M)
    | _ => none
  | .dup_x1 => match st with
    | a :: b :: r => some (pc + 1, ls, a :: b :: a :: r, M)
    | _ => none
  | .dup_x2 => match st with
    | a :: b :: e :: r => some (pc + 1, ls, a :: b :: e :: a :: r, M)
    | _ => none
  | .dup2 => match st with
    | a :: b :: r => some (pc + 1, ls, a :: b :: a :: b :: r, M)
    | _ => none
  | .ifCond cd off => match st with
    | .inl a :: r => some (bif sm_cnd cd a 0 then sm_tgt pc off else pc + 3, ls, r, M)
    | _ => none
  | .if_icmp cd off => match st with
    | .inl b :: .inl a :: r => some (bif sm_cnd cd a b then sm_tgt pc off else pc + 3, ls, r, M)
    | _ => none
  | .if_acmp cd off => match st with
    | .inr b :: .inr a :: r => some (bif (match cd with | .eq => decide (a = b) | .ne => !decide (a = b)) then sm_tgt pc off else pc + 3, ls, r, M)
    | _ => none
  | .ifnull off => match st with
    | .inr a :: r => some (bif a.isNone then sm_tgt pc off else pc + 3, ls, r, M)
    | _ => none
  | .ifnonnull off => match st with
    | .inr a :: r => some (bif a.isSome then sm_tgt pc off else pc + 3, ls, r, M)
    | _ => none
  | .goto off => some (sm_tgt pc off, ls, st, M)
  | .tableswitch df lo hi offs => match st with
    | .inl a :: r => some (bif decide (a.toInt < lo ∨ hi < a.toInt) then sm_tgt pc df else sm_tgt pc ((offs[(a.toInt - lo).toNat]?).getD 0), ls, r, M)
    | _ => none
  | .lookupswitch df ps => match st with
    | .inl a :: r => some (sm_tgt pc (Op.lookupswitch.offset ps.toList df a.toInt), ls, r, M)
    | _ => none
  | .getfield _ => match st with
    | .inr (some a) :: r => if sm_K M a = 3 + 3 * x.1 then some (pc + 3, ls, (bif sm_isR (sm_ty x.1 x.2.1) then .inr (sm_R M a x.2.1) else .inl (sm_I M a x.2.1)) :: r, M) else none
    | _ => none
  | .putfield _ => match st with
    | .inl v :: .inr (some a) :: r => if sm_K M a = 3 + 3 * x.1 ∧ sm_fit (sm_ty x.1 x.2.1) v = true then some (pc + 3, ls, r, sm_putI M a x.2.1 v) else none
    | .inr v :: .inr (some a) :: r => if sm_K M a = 3 + 3 * x.1 ∧ sm_isR (sm_ty x.1 x.2.1) = true then some (pc + 3, ls, r, sm_putR M a x.2.1 v) else none
    | _ => none
  | .getstatic _ => some (pc + 3, ls, .inr (sm_S M x.1) :: st, M)
  | .iaload => match st with
    | .inl j :: .inr (some a) :: r => if (sm_K M a = 1 ∨ (sm_K M a % 3 = 2 ∧ sm_K M a < 602)) ∧ sm_ix j (sm_L M a) = true then some (pc + 1, ls, .inl (sm_I M a j.toNatClampNeg) :: r, M) else none
    | _ => none
  | .iastore => match st with
    | .inl v :: .inl j :: .inr (some a) :: r => if (sm_K M a % 3 = 2 ∧ sm_K M a < 602 ∧ sm_grp (sm_K M a) = x.1) ∧ sm_ix j (sm_L M a) = true then some (pc + 1, ls, r, sm_putI M a j.toNatClampNeg v) else none
    | _ => none
  | .baload => match st with
    | .inl j :: .inr (some a) :: r => if (sm_K M a % 3 = 2 ∧ 602 ≤ sm_K M a) ∧ sm_ix j (sm_L M a) = true then some (pc + 1, ls, .inl (sm_I M a j.toNatClampNeg) :: r, M) else none
    | _ => none
  | .bastore => match st with
    | .inl v :: .inl j :: .inr (some a) :: r => if (sm_K M a % 3 = 2 ∧ 602 ≤ sm_K M a ∧ sm_grp (sm_K M a) = x.1) ∧ sm_ix j (sm_L M a) = true ∧ sm_fit .boolean v = true then some (pc + 1, ls, r, sm_putI M a j.toNatClampNeg v) else none
    | _ => none
  | .aaload => match st with
    | .inl j :: .inr (some a) :: r => if (4 ≤ sm_K M a ∧ sm_K M a % 3 = 1) ∧ sm_ix j (sm_L M a) = true then some (pc + 1, ls, .inr (sm_R M a j.toNatClampNeg) :: r, M) else none
    | _ => none
  | .aastore => match st with
    | .inr v :: .inl j :: .inr (some a) :: r => if (4 ≤ sm_K M a ∧ sm_K M a % 3 = 1 ∧ sm_grp (sm_K M a) = x.1) ∧ sm_ix j (sm_L M a) = true ∧ sm_okv M v a = true then some (pc + 1, ls, r, sm_putR M a j.toNatClampNeg v) else none
    | _ => none
  | .arraylength => match st with
    | .inr (some a) :: r => if 1 ≤ sm_K M a ∧ sm_K M a % 3 ≠ 0 then some (pc + 1, ls, .inl (Int32.ofNat (sm_L M a)) :: r, M) else none
    | _ => none
  | .new _ => some (pc + 3, ls, .inr (some (sm_N M)) :: st, sm_new M (3 + 3 * x.1) 0 (sm_nf x.1))
  | .newarray _ => match st with
    | .inl n :: r => if 0 ≤ n.toInt ∧ n.toInt ≤ 100000 then some (pc + 2, ls, .inr (some (sm_N M)) :: r, sm_new M (2 + 3 * x.1) n.toNatClampNeg n.toNatClampNeg) else none
    | _ => none
  | .anewarray _ => match st with
    | .inl n :: r => if 0 ≤ n.toInt ∧ n.toInt ≤ 100000 then some (pc + 3, ls, .inr (some (sm_N M)) :: r, sm_new M (4 + 3 * x.1) n.toNatClampNeg n.toNatClampNeg) else none
    | _ => none
  | .invokespecial _ => if d = 0 ∨ x.1 ≠ 1 then none else match st with
    | .inr (some _) :: r => if r.length ≤ 8 then some (pc + 3, ls, r, M) else none
    | _ => none
  | .invokestatic _ => if d = 0 then none else if x.1 = 2 then (match st with
    | .inl b :: .inl a :: r => if r.length ≤ 8 then some (pc + 3, ls, .inl (if a < b then b else a) :: r, M) else none
    | _ => none)
    else if x.1 = 3 then (match st with
    | .inl b :: .inl a :: r => if r.length ≤ 8 then some (pc + 3, ls, .inl (if b < a then b else a) :: r, M) else none
    | _ => none)
    else if x.1 = 4 then (match st with
    | .inl n :: .inl dp :: .inr (some a) :: .inl sp :: .inr (some a0) :: r => if r.length ≤ 8 ∧ (sm_K M a0 = 1 ∨ (sm_K M a0 % 3 = 2 ∧ sm_K M a0 < 602)) ∧ (sm_K M a % 3 = 2 ∧ sm_K M a < 602 ∧ sm_grp (sm_K M a) = x.2.1) ∧ 0 ≤ sp.toInt ∧ 0 ≤ dp.toInt ∧ 0 ≤ n.toInt ∧ sp.toInt + n.toInt ≤ sm_L M a0 ∧ dp.toInt + n.toInt ≤ sm_L M a then some (pc + 3, ls, r, sm_rowI M a (va_cpy (sm_I M a0) (sm_I M a) sp.toNatClampNeg dp.toNatClampNeg n.toNatClampNeg)) else none
    | _ => none)
    else none
  | _ => none
/-- a call of a method of the tables: which one, its arguments (the receiver first), the stack below -/
def sm_call (i : ClassFile.Instr) (x : sm_X) (st : List sm_V) (M : sm_M) : Option (Nat × List sm_V × List sm_V) :=
  match i with
  | .invokevirtual _ => if x.1 = 10 ∨ x.1 = 11 then
      match st.drop (sm_np x.2.1) with
      | .inr (some b) :: r => if sm_K M b = 3 + 3 * x.2.2.1 ∧ r.length ≤ 8 then some (x.2.1, .inr (some b) :: (st.take (sm_np x.2.1)).reverse, r) else none
      | _ => none
    else none
  | .invokespecial _ => if x.1 = 14 ∨ x.1 = 15 then
      match st.drop (sm_np x.2.1) with
      | .inr (some b) :: r => if r.length ≤ 8 then some (x.2.1, .inr (some b) :: (st.take (sm_np x.2.1)).reverse, r) else none
      | _ => none
    else none
  | .invokestatic _ => if x.1 = 12 ∨ x.1 = 13 then
      if sm_np x.2.1 ≤ st.length ∧ (st.drop (sm_np x.2.1)).length ≤ 8 then some (x.2.1, (st.take (sm_np x.2.1)).reverse, st.drop (sm_np x.2.1)) else none
    else none
  | _ => none
def sm_ent (y : Nat) (As : List sm_V) : List (Option sm_V) := As.map some ++ List.replicate (sm_mx y - As.length) none
def sm_okI (r : Option FieldType) (v : Int32) : Bool := match r with
  | some ty => sm_fit ty v
  | none => false
def sm_okR (r : Option FieldType) : Bool := match r with
  | some ty => sm_isR ty
  | none => false
def sm_rv (me : Nat) (i : ClassFile.Instr) (st : List sm_V) : Option (Option sm_V) :=
  match i with
  | .ireturn => match st with
    | [.inl v] => if sm_okI (sm_rt me) v = true then some (some (.inl v)) else none
    | _ => none
  | .areturn => match st with
    | [.inr v] => if sm_okR (sm_rt me) = true then some (some (.inr v)) else none
    | _ => none
  | .return_ => match st with
    | [] => if sm_rt me = none then some none else none
    | _ => none
  | _ => none
abbrev sm_E : Type := Nat → Nat → Nat → List (Option sm_V) → List sm_V → sm_M → Option (Option sm_V × sm_M)
def sm_F (rc : sm_E) : sm_E := fun d me pc ls st M =>
    match sm_at me pc with
    | none => none
    | some (i, _, x) =>
      match sm_rv me i st with
      | some v => some (v, M)
      | none =>
        match sm_call i x st M with
        | some (y, As, r) =>
          match d with
          | 0 => none
          | d' + 1 =>
            match rc d' y 0 (sm_ent y As) [] M with
            | some (v, M1) => rc (d' + 1) me (pc + 3) ls (v.toList ++ r) M1
            | none => none
        | none =>
          match sm_step d i x pc ls st M with
          | some (pc', ls', st', M') => rc d me pc' ls' st' M'
          | none => none
/-- the small machine: f bounds the instructions, d the calls within calls -/
def sm_exec : Nat → sm_E
  | 0 => fun _ _ _ _ _ _ => none
  | f + 1 => sm_F (sm_exec f)
theorem sm_put_I (M : sm_M) (a k : Nat) (x : Int32) : sm_I (sm_putI M a k x) = sm_u2 (sm_I M) a k x := rfl
theorem sm_step_mono {d : Nat} {i : ClassFile.Instr} {x : sm_X} {pc : Nat} {ls : List (Option sm_V)} {st : List sm_V} {M : sm_M} {t : sm_T} (h : sm_step d i x pc ls st M = some t) : sm_N M ≤ sm_N t.2.2.2 ∧ sm_U M ≤ sm_U t.2.2.2 := by
  unfold sm_step at h
  split at h <;> (try split at h) <;> (try split at h) <;> (try split at h) <;> (try split at h) <;> (try split at h) <;> (try split at h) <;> first | (cases h; done) | (cases h; exact ⟨Nat.le_refl _, Nat.le_refl _⟩) | (cases h; exact ⟨Nat.le_succ _, Nat.le_add_right _ _⟩)
theorem sm_exec_mono : ∀ (f d me pc : Nat) (ls : List (Option sm_V)) (st : List sm_V) (M : sm_M) (v : Option sm_V) (M' : sm_M), sm_exec f d me pc ls st M = some (v, M') → sm_N M ≤ sm_N M' ∧ sm_U M ≤ sm_U M' := by
  intro f
  induction f with
  | zero => intro d me pc ls st M v M' h; cases h
  | succ f ih =>
    intro d me pc ls st M v M' h
    have h : sm_F (sm_exec f) d me pc ls st M = some (v, M') := h
    unfold sm_F at h
    split at h
    · cases h
    · split at h
      · cases h; exact ⟨Nat.le_refl _, Nat.le_refl _⟩
      · split at h
        · split at h
          · cases h
          · split at h
            · rename_i h1
              have a1 := ih _ _ _ _ _ _ _ _ h1
              have a2 := ih _ _ _ _ _ _ _ _ h
              exact ⟨Nat.le_trans a1.1 a2.1, Nat.le_trans a1.2 a2.2⟩
            · cases h
        · split at h
          · rename_i h1
            have a1 := sm_step_mono h1
            have a2 := ih _ _ _ _ _ _ _ _ h
            exact ⟨Nat.le_trans a1.1 a2.1, Nat.le_trans a1.2 a2.2⟩
          · cases h
/-- a longer run, a deeper room -/
theorem sm_F_le {r1 r2 : sm_E} (hr : ∀ d me pc ls st M v, r1 d me pc ls st M = some v → r2 d me pc ls st M = some v) {d me pc : Nat} {ls : List (Option sm_V)} {st : List sm_V} {M : sm_M} {v : Option sm_V × sm_M} (h : sm_F r1 d me pc ls st M = some v) : sm_F r2 d me pc ls st M = some v := by
  unfold sm_F at h ⊢
  cases h1 : sm_at me pc with
  | none => rw [h1] at h; cases h
  | some q =>
    obtain ⟨i, len, x⟩ := q
    rw [h1] at h
    dsimp only at h ⊢
    cases h2 : sm_rv me i st with
    | some w => rw [h2] at h; exact h
    | none =>
      rw [h2] at h
      dsimp only at h ⊢
      cases h3 : sm_call i x st M with
      | some q =>
        obtain ⟨y, As, r⟩ := q
        rw [h3] at h
        dsimp only at h ⊢
        cases d with
        | zero => cases h
        | succ d' =>
          dsimp only at h ⊢
          cases h4 : r1 d' y 0 (sm_ent y As) [] M with
          | none => rw [h4] at h; cases h
          | some q =>
            obtain ⟨v1, M1⟩ := q
            rw [h4] at h
            rw [hr _ _ _ _ _ _ _ h4]
            exact hr _ _ _ _ _ _ _ h
      | none =>
        rw [h3] at h
        dsimp only at h ⊢
        cases h4 : sm_step d i x pc ls st M with
        | none => rw [h4] at h; cases h
        | some q =>
          obtain ⟨pc', ls', st', M'⟩ := q
          rw [h4] at h
          exact hr _ _ _ _ _ _ _ h
theorem sm_exec_succ : ∀ (f d me pc : Nat) (ls : List (Option sm_V)) (st : List sm_V) (M : sm_M) (v : Option sm_V × sm_M), sm_exec f d me pc ls st M = some v → sm_exec (f + 1) d me pc ls st M = some v := by
  intro f
  induction f with
  | zero => intro d me pc ls st M v h; cases h
  | succ f ih => intro d me pc ls st M v h; exact sm_F_le (r1 := sm_exec f) (r2 := sm_exec (f + 1)) ih h
theorem sm_exec_le {f g d me pc : Nat} {ls : List (Option sm_V)} {st : List sm_V} {M : sm_M} {v : Option sm_V × sm_M} (hfg : f ≤ g) (h : sm_exec f d me pc ls st M = some v) : sm_exec g d me pc ls st M = some v := by
  induction hfg with
  | refl => exact h
  | step _ ih => exact sm_exec_succ _ _ _ _ _ _ _ _ ih
/-- a run that ends -/
def sm_Ev (d me pc : Nat) (ls : List (Option sm_V)) (st : List sm_V) (M : sm_M) (v : Option sm_V) (M' : sm_M) : Prop := ∃ f, sm_exec f d me pc ls st M = some (v, M')
theorem sm_ev_ret {d me pc : Nat} {ls : List (Option sm_V)} {st : List sm_V} {M : sm_M} {i : ClassFile.Instr} {len : Nat} {x : sm_X} {v : Option sm_V} (h1 : sm_at me pc = some (i, len, x)) (h2 : sm_rv me i st = some v) : sm_Ev d me pc ls st M v M := by
  refine ⟨1, ?_⟩
  show sm_F (sm_exec 0) d me pc ls st M = _
  unfold sm_F
  rw [h1]; dsimp only; rw [h2]
theorem sm_ev_step {d me pc : Nat} {ls : List (Option sm_V)} {st : List sm_V} {M : sm_M} {i : ClassFile.Instr} {len : Nat} {x : sm_X} {v : Option sm_V} {t : sm_T} {M' : sm_M} (h1 : sm_at me pc = some (i, len, x)) (h2 : sm_rv me i st = none) (h3 : sm_call i x st M = none) (h4 : sm_step d i x pc ls st M = some t) (k : sm_Ev d me t.1 t.2.1 t.2.2.1 t.2.2.2 v M') : sm_Ev d me pc ls st M v M' := by
  obtain ⟨f, hf⟩ := k
  refine ⟨f + 1, ?_⟩
  show sm_F (sm_exec f) d me pc ls st M = _
  unfold sm_F
  rw [h1]; dsimp only; rw [h2]; dsimp only; rw [h3]; dsimp only; rw [h4]
  exact hf
theorem sm_ev_call {d me pc : Nat} {ls : List (Option sm_V)} {st : List sm_V} {M : sm_M} {i : ClassFile.Instr} {len : Nat} {x : sm_X} {v v1 : Option sm_V} {y : Nat} {As r : List sm_V} {M1 M' : sm_M} (h1 : sm_at me pc = some (i, len, x)) (h2 : sm_rv me i st = none) (h3 : sm_call i x st M = some (y, As, r)) (h4 : sm_Ev d y 0 (sm_ent y As) [] M v1 M1) (k : sm_Ev (d + 1) me (pc + 3) ls (v1.toList ++ r) M1 v M') : sm_Ev (d + 1) me pc ls st M v M' := by
  obtain ⟨f, hf⟩ := k
  obtain ⟨g, hg⟩ := h4
  refine ⟨f + g + 1, ?_⟩
  show sm_F (sm_exec (f + g)) (d + 1) me pc ls st M = _
  unfold sm_F
  rw [h1]; dsimp only; rw [h2]; dsimp only; rw [h3]; dsimp only
  rw [sm_exec_le (Nat.le_add_left g f) hg]
  exact sm_exec_le (Nat.le_add_right f g) hf
