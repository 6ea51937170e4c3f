section RU2
variable {d me pc p p2 len : Nat} {ls : List (Option sm_V)} {st r : List sm_V} {M : sm_M} {x : sm_X} {Q : Option sm_V → sm_M → Prop}
theorem st_goto {off : Int} (ht : sm_tgt pc off = p) : sm_step d (.goto off) x pc ls st M = some (p, ls, st, M) := by subst ht; rfl
theorem st_iconst {n : Int} {v : Int32} (hv : Int32.ofInt n = v) : sm_step d (.iconst n) x pc ls st M = some (pc + 1, ls, .inl v :: st, M) := by subst hv; rfl
theorem st_bipush {n : Int} {v : Int32} (hv : (Int8.ofInt n).toInt32 = v) : sm_step d (.bipush n) x pc ls st M = some (pc + 2, ls, .inl v :: st, M) := by subst hv; rfl
theorem st_sipush {n : Int} {v : Int32} (hv : (Int16.ofInt n).toInt32 = v) : sm_step d (.sipush n) x pc ls st M = some (pc + 3, ls, .inl v :: st, M) := by subst hv; rfl
theorem st_ldc {n c z1 z2 z3 : Nat} {v : Int32} (hv : Int32.ofNat c = v) : sm_step d (.ldc n) (c, z1, z2, z3) pc ls st M = some (pc + 2, ls, .inl v :: st, M) := by subst hv; rfl
theorem st_ldc_w {n c z1 z2 z3 : Nat} {v : Int32} (hv : Int32.ofNat c = v) : sm_step d (.ldc_w n) (c, z1, z2, z3) pc ls st M = some (pc + 3, ls, .inl v :: st, M) := by subst hv; rfl
theorem st_iinc {k : Nat} {n : Int} {v w : Int32} (hg : sm_get ls k = some (.inl v)) (hw : Int32.ofInt n = w) : sm_step d (.iinc k n) x pc ls st M = some (pc + 3, ls.set k (some (.inl (v + w))), st, M) := by
  subst hw
  dsimp only [sm_step]
  rw [hg]
theorem st_oi {n z1 z2 z3 a : Nat} (h8 : r.length ≤ 8) : sm_step (d + 1) (.invokespecial n) (1, z1, z2, z3) pc ls (.inr (some a) :: r) M = some (pc + 3, ls, r, M) := by
  have e : sm_step (d + 1) (.invokespecial n) (1, z1, z2, z3) pc ls (.inr (some a) :: r) M = if r.length ≤ 8 then some (pc + 3, ls, r, M) else none := rfl
  rw [e, if_pos h8]
theorem st_max {n z1 z2 z3 : Nat} {a b : Int32} (h8 : r.length ≤ 8) : sm_step (d + 1) (.invokestatic n) (2, z1, z2, z3) pc ls (.inl b :: .inl a :: r) M = some (pc + 3, ls, .inl (if a < b then b else a) :: r, M) := by
  have e : sm_step (d + 1) (.invokestatic n) (2, z1, z2, z3) pc ls (.inl b :: .inl a :: r) M = if r.length ≤ 8 then some (pc + 3, ls, .inl (if a < b then b else a) :: r, M) else none := rfl
  rw [e, if_pos h8]
theorem st_min {n z1 z2 z3 : Nat} {a b : Int32} (h8 : r.length ≤ 8) : sm_step (d + 1) (.invokestatic n) (3, z1, z2, z3) pc ls (.inl b :: .inl a :: r) M = some (pc + 3, ls, .inl (if b < a then b else a) :: r, M) := by
  have e : sm_step (d + 1) (.invokestatic n) (3, z1, z2, z3) pc ls (.inl b :: .inl a :: r) M = if r.length ≤ 8 then some (pc + 3, ls, .inl (if b < a then b else a) :: r, M) else none := rfl
  rw [e, if_pos h8]
theorem sc_spec {n kd y z1 z2 b : Nat} {As : List sm_V} (hk : kd = 14 ∨ kd = 15) (hd : st.drop (sm_np y) = .inr (some b) :: r) (ht : (st.take (sm_np y)).reverse = As) (h8 : r.length ≤ 8) : sm_call (.invokespecial n) (kd, y, z1, z2) st M = some (y, .inr (some b) :: As, r) := by
  subst ht
  dsimp only [sm_call]
  rw [if_pos hk, hd]
  dsimp only
  rw [if_pos h8]
theorem sc_stat {n kd y z1 z2 : Nat} {As : List sm_V} (hk : kd = 12 ∨ kd = 13) (hn : sm_np y ≤ st.length) (hd : st.drop (sm_np y) = r) (ht : (st.take (sm_np y)).reverse = As) (h8 : r.length ≤ 8) : sm_call (.invokestatic n) (kd, y, z1, z2) st M = some (y, As, r) := by
  subst ht; subst hd
  dsimp only [sm_call]
  rw [if_pos hk, if_pos ⟨hn, h8⟩]
theorem sm_rvz {v : Int32} (hr : sm_rt me = some .boolean) (hv : sm_fit .boolean v = true) : sm_rv me .ireturn [.inl v] = some (some (.inl v)) := by
  dsimp only [sm_rv]
  rw [hr]
  exact if_pos hv
theorem sm_rvv (hr : sm_rt me = none) : sm_rv me .return_ [] = some none := by
  dsimp only [sm_rv]
  rw [if_pos hr]
end RU2
