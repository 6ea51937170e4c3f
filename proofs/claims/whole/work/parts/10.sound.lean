def sm_ws (y : Nat) : List Cond := Cond.code (sm_yn y) (sm_by y) (sm_mx y) (sm_rt y) :: sm_gws
def sm_Kx (G : va_G) (tc : Nat → ClassId) (base : Nat) (U : State) : Prop := va_K G sm_cl (sm_tys tc) U ∧ (∀ w ∈ sm_nws, va_Nw w U) ∧ (∀ ci ∈ sm_arrs, va_AO (sm_cn ci) U) ∧ base ≤ U.heap.size
def sm_Pc (G : va_G) (tc : Nat → ClassId) (base : Nat) (av : List sm_V) (M : sm_M) : Array Value → State → Prop := fun a U => a = (av.map sm_v).toArray ∧ sm_Rep G tc base M U.heap ∧ sm_Ro base M U U.heap ∧ sm_Kx G tc base U
def sm_Qc (G : va_G) (tc : Nat → ClassId) (base : Nat) (v : Option sm_V) (M : sm_M) : Array Value → State → Outcome → State → Prop := fun _ st o t => o = .returned (v.map sm_v) ∧ sm_Rep G tc base M t.heap ∧ sm_Ro base M t t.heap ∧ va_F (sm_A base) st t
theorem sm_Ro_to {base : Nat} {M : sm_M} {u U : State} {H H1 : Heap} (h : sm_Ro base M u H) (hvm : u.vm.Alike U.vm) (hq : ∀ a : Nat, a < base → H1[a]? = H[a]?) : sm_Ro base M U H1 :=
  ⟨fun a ha => ((h.1 a ha).moved hvm).kept (fun b _ hb => hq b (Nat.not_le.mp hb)), fun k hk => ((h.2 k hk).moved hvm).kept (fun b _ hb => hq b (Nat.not_le.mp hb))⟩
theorem sm_nw_warm {w : Cond} (hw : sm_isN w = true) {s U : State} (hW : s.WarmedH U.vm) (h : va_Nw w s) : va_Nw w U := by
  unfold sm_isN at hw
  split at hw
  · exact va_Nw.warmF hW h
  · exact va_Nw.warmM hW h
  · cases hw
theorem sm_nw_same {w : Cond} (hw : sm_isN w = true) {s U : State} (hv : s.vm = U.vm) (h : va_Nw w s) : va_Nw w U := by
  unfold sm_isN at hw
  split at hw
  · exact va_Nw.same rfl hv h
  · exact va_Nw.same rfl hv h
  · cases hw
theorem sm_Kx_warm {G : va_G} {tc : Nat → ClassId} {base : Nat} {s U : State} (hW : s.WarmedH U.vm) (hb : base ≤ U.heap.size) (h : sm_Kx G tc base s) : sm_Kx G tc base U :=
  ⟨va_K.moved hW.alike h.1, fun w hw => sm_nw_warm (sm_nws_ok w hw) hW (h.2.1 w hw), fun ci hc => (h.2.2.1 ci hc).moved hW.alike, hb⟩
theorem sm_blind (G : va_G) (tc : Nat → ClassId) (base : Nat) (av : List sm_V) (M : sm_M) : FrameBlind (sm_Pc G tc base av M) := by
  intro a U g mk h
  obtain ⟨h1, h2, h3, h4, h5, h6, h7⟩ := h
  exact ⟨h1, h2, sm_Ro_to h3 (Vm.Alike.refl U.vm) (fun _ _ => rfl), va_K.moved (u := U) (U := U.calling g mk a) (Vm.Alike.refl U.vm) h4, fun w hw => sm_nw_same (s := U) (U := U.calling g mk a) (sm_nws_ok w hw) rfl (h5 w hw), fun ci hc => (h6 ci hc).moved (Vm.Alike.refl U.vm), h7⟩
section SMC
variable {p : Program} {l : Launch} {e : Env} {R : Room} {s : State} {m : MethodId} {args : Array Value} {below : List Frame} {meth : Method} {c : Code} {H : Heap} {locs : List Loc} {cells slots : Nat} {Q : State → Prop}
variable {pc : Nat} {ls : Array Slot} {rest st0 : List Value} {a : Array Value} {mc ms : Nat} {G : va_G} {tc : Nat → ClassId} {base : Nat} {v1 : Option sm_V} {M1 : sm_M}
theorem sm_Wcall (hr : va_Run p l e R s m args below meth c H locs cells slots mc ms (F0 m pc ls st0) rest (sm_Qc G tc base v1 M1 a) (sm_A base)) (hS : va_S (sm_A base) s.heap H locs) (hbase : base ≤ s.heap.size)
    (kk : ∀ (H1 : Heap) (locs1 : List Loc), sm_Rep G tc base M1 H1 → sm_Ro base M1 s s.heap → va_S (sm_A base) s.heap H1 locs1 → W p l e R s m args below meth c H1 locs1 (cells + mc) (slots + ms) Q (F0 m (pc + 3) ls ((v1.map sm_v).toList ++ rest))) : W p l e R s m args below meth c H locs cells slots Q (F0 m pc ls st0) := by
  intro T hT X
  obtain ⟨v, st₀, t, T', L, h0, X', hL, e1, e2, ⟨hv, hRep, hRo, hz, hk⟩, st⟩ := hr T hT X
  cases hv
  rw [h0] at hz hk
  have hkeep : ∀ q : Nat, q < base → t.heap[q]? = s.heap[q]? := fun q hq => by
    rw [hk q (Nat.lt_of_lt_of_le hq (Nat.le_trans hbase hS.1)) (Nat.not_le.mpr hq)]
    exact hS.2.1 q (Nat.lt_of_lt_of_le hq hbase) (Nat.not_le.mpr hq)
  have hvm : t.vm.Alike s.vm := by
    have := X'.warmed.alike
    rw [e2] at this
    exact this.symm
  obtain ⟨t2, a1, b1⟩ := kk T'.heap (locs ++ L) (by rw [e1]; exact hRep) (sm_Ro_to hRo hvm (fun q hq => (hkeep q hq).symm))
    ⟨Nat.le_trans hS.1 (by rw [e1]; exact hz), fun q h1 h2 => by rw [e1]; exact hkeep q (Nat.not_le.mp h2), fun q hq => by
      rcases List.mem_append.mp hq with h | h
      · exact hS.2.2 q h
      · exact hL q h⟩ T' rfl X'
  exact ⟨t2, st t2 a1, b1⟩
end SMC
/-- at a return: the method's own end -/
def sm_End (p : Program) (l : Launch) (e : Env) (R : Room) (s : State) (m : MethodId) (args : Array Value) (below : List Frame) (meth : Method) (c : Code) (G : va_G) (tc : Nat → ClassId) (base n0 u0 : Nat) (Q : State → Prop) (me : Nat) (v : Option sm_V) (M : sm_M) : Prop :=
  ∀ (H : Heap) (locs : List Loc) (lsA : Array Slot) (pc : Nat) (i : ClassFile.Instr) (len : Nat) (x : sm_X) (st : List sm_V), sm_at me pc = some (i, len, x) → sm_rv me i st = some v → sm_Rep G tc base M H → sm_Ro base M s s.heap → va_S (sm_A base) s.heap H locs → W p l e R s m args below meth c H locs (sm_N M - n0) (sm_U M - u0) Q (F0 m pc lsA (st.map sm_v))
def sm_Snd (l : Launch) (G : va_G) (tc : Nat → ClassId) (base f : Nat) : Prop :=
  ∀ (d me pc : Nat) (ls : List (Option sm_V)) (st : List sm_V) (M : sm_M) (v : Option sm_V) (M' : sm_M), sm_exec f d me pc ls st M = some (v, M') →
    ∀ (p : Program) (e : Env) (R : Room) (s : State) (m : MethodId) (args : Array Value) (below : List Frame) (meth : Method) (c : Code) (n0 u0 : Nat) (Q : State → Prop), sm_Cx p R s m args meth c G tc base d me → n0 ≤ sm_N M → u0 ≤ sm_U M → sm_N M' - n0 ≤ R.cells → sm_U M' - u0 ≤ R.slots →
      sm_End p l e R s m args below meth c G tc base n0 u0 Q me v M' → sm_Wat p l e R s m args below meth c G tc base n0 u0 Q me pc ls st M
def sm_rm (d k n : Nat) : Room := { frames := d, cells := k, slots := n, locals := 43 * d }
theorem sm_la : ∀ (As : List sm_V) (k i : Nat) (v : sm_V), As[i]? = some v → (k + i, sm_v v) ∈ lv_args k (As.map sm_v)
  | [], k, i, v, h => by simp at h
  | a :: r, k, 0, v, h => by
    have e : a = v := by simpa using h
    subst e
    exact List.mem_cons_self
  | a :: r, k, i + 1, v, h => by
    have h2 := sm_la r (k + 1) i v (by simpa using h)
    simp only [List.map_cons, lv_args, sm_v_cat]
    rw [show k + (i + 1) = k + 1 + i by omega]
    exact List.mem_cons_of_mem _ h2
theorem sm_lgl (As : List sm_V) : (lg_sl (As.map sm_v)).length = As.length := by
  induction As with
  | nil => rfl
  | cons a r ih => simp only [List.map_cons, lg_sl, List.flatMap_cons, sm_v_cat, List.length_append, List.length_cons] at ih ⊢; rw [← ih]; simp [lg_sl]; omega
theorem sm_ent_get {y i : Nat} {As : List sm_V} {v : sm_V} (h : (sm_ent y As)[i]? = some (some v)) : As[i]? = some v := by
  unfold sm_ent at h
  by_cases hi : i < As.length
  · rw [List.getElem?_append_left (by simpa using hi)] at h
    simpa using h
  · rw [List.getElem?_append_right (by simpa using hi)] at h
    rw [List.getElem?_replicate] at h
    split at h <;> cases h
theorem sm_ls_ent {y : Nat} {As : List sm_V} (h : As.length ≤ sm_mx y) : sm_ls ((lg_sl (As.map sm_v) ++ List.replicate (sm_mx y - (lg_sl (As.map sm_v)).length) Slot.unset).toArray) (sm_mx y) (sm_ent y As) := by
  have h1 := lv_entry (As.map sm_v) (n := sm_mx y) (by rw [sm_lgl]; exact h)
  refine ⟨by simp [sm_ent]; omega, h1.1, h1.2.1, fun i v hi => ?_⟩
  have h2 := sm_la As 0 i v (sm_ent_get hi)
  rw [Nat.zero_add] at h2
  exact h1.2.2 _ h2
theorem sm_okI_e {r : Option FieldType} {v : Int32} (h : sm_okI r v = true) : ∃ ty, r = some ty ∧ sm_fit ty v = true := by
  unfold sm_okI at h
  split at h
  · exact ⟨_, rfl, h⟩
  · cases h
theorem sm_okR_e {r : Option FieldType} (h : sm_okR r = true) : ∃ ty, r = some ty ∧ sm_isR ty = true := by
  unfold sm_okR at h
  split at h
  · exact ⟨_, rfl, h⟩
  · cases h
theorem sm_met {l : Launch} {G : va_G} {tc : Nat → ClassId} {base f d y : Nat} {As : List sm_V} {M M' : sm_M} {v : Option sm_V} (IH : sm_Snd l G tc base f) (h : sm_exec f d y 0 (sm_ent y As) [] M = some (v, M')) (hy : y < sm_nm) (hA : As.length ≤ sm_mx y) :
    Met l (sm_yn y) (sm_ws y) (sm_rm d (sm_N M' - sm_N M) (sm_U M' - sm_U M)) (sm_Pc G tc base As M) (sm_Qc G tc base v M') (sm_N M' - sm_N M) (sm_U M' - sm_U M) (sm_A base) := by
  obtain ⟨k1, k2, k3, k4, k5, k6, k7, k8⟩ := sm_mok y hy
  refine Met.ofW (cc := sm_by y) (maxL := sm_mx y) (ret := sm_rt y) k1 rfl ?_
  intro p e s m args below meth c s₁ B hml hv
  obtain ⟨rfl, hRep, hRo, hK, hnw, hAO, hbase⟩ := hv
  have hts := atoms_spec (ws := sm_ws y) B.pre
  have hown : s.vm.findClass (sm_ow y) = some m.cls := by rw [← k6]; exact findClass_of_methodNamed B.named
  have hnm : meth.name = (sm_yn y).name := (name_of_methodNamed B.named B.method).1
  have hlocks := B.notSynchronized
  have hC : sm_Cx p (headSpec (sm_ws y) (sm_rm d (sm_N M' - sm_N M) (sm_U M' - sm_U M))).room s m ((As.map sm_v).toArray) meth c G tc base d y := ⟨B.exec, B.bytes, hml, hown, fun w hw => hts w (List.mem_cons_of_mem _ hw), hnw, hK, hAO, hbase, fun q => by rw [hnm]; exact k7 q, Nat.le_refl _, Nat.le_refl _⟩
  have hE : sm_End p l e (headSpec (sm_ws y) (sm_rm d (sm_N M' - sm_N M) (sm_U M' - sm_U M))).room s m ((As.map sm_v).toArray) below meth c G tc base (sm_N M) (sm_U M) (MQ below (sm_Qc G tc base v M') ((As.map sm_v).toArray) s (sm_N M' - sm_N M) (sm_U M' - sm_U M) (sm_A base)) y v M' := by
    intro H locs lsA pc i len x st hat hrv hR hRo' hS
    have hck := sm_tab hat
    unfold sm_chk at hck
    rw [Bool.and_eq_true, Bool.and_eq_true, Bool.or_eq_true, decide_eq_true_eq, decide_eq_true_eq, decide_eq_true_eq] at hck
    obtain ⟨hd, hlen, -⟩ := hck
    have hq : ∀ t : State, t.heap = H → s.WarmedH t.vm → sm_Qc G tc base v M' ((As.map sm_v).toArray) s (.returned (v.map sm_v)) t := fun t ht hW =>
      ⟨rfl, by rw [ht]; exact hR, sm_Ro_to hRo' hW.alike (fun q hq => by rw [ht]; exact hS.2.1 q (Nat.lt_of_lt_of_le hq hbase) (Nat.not_le.mpr hq)), hS.F ht⟩
    unfold sm_rv at hrv
    split at hrv
    · obtain rfl : len = 1 := hlen.resolve_left (by simp [sm_len])
      split at hrv
      · rename_i w9
        split at hrv
        · rename_i hft
          cases hrv
          obtain ⟨ty, hty, hft⟩ := sm_okI_e hft
          exact W.zret B.exec B.bytes (B.returns.trans hty) (sm_fit_ok hft).1 hq hS.2.2 hd
        · cases hrv
      · cases hrv
    · obtain rfl : len = 1 := hlen.resolve_left (by simp [sm_len])
      split at hrv
      · rename_i r9
        split at hrv
        · rename_i hft
          cases hrv
          obtain ⟨ty, hty, hft⟩ := sm_okR_e hft
          refine W.aret B.exec B.bytes (B.returns.trans hty) ?_ ?_ hq hS.2.2 hd
          · cases ty
            case object n => exact Or.inl ⟨n, rfl⟩
            case array n => exact Or.inr ⟨n, rfl⟩
            all_goals exact absurd hft (by simp [sm_isR])
          · cases r9 with
            | none => exact Or.inl rfl
            | some b => exact Or.inr ⟨b, rfl⟩
        · cases hrv
      · cases hrv
    · obtain rfl : len = 1 := hlen.resolve_left (by simp [sm_len])
      split at hrv
      · split at hrv
        · rename_i hft
          cases hrv
          exact W.vret B.exec B.bytes (B.returns.trans hft) hq hS.2.2 hd
        · cases hrv
      · cases hrv
    · cases hrv
  have K := IH d y 0 (sm_ent y As) [] M v M' h p e _ s m _ below meth c (sm_N M) (sm_U M) _ hC (Nat.le_refl _) (Nat.le_refl _) (Nat.le_refl _) (Nat.le_refl _) hE s.heap [] _ hRep hRo va_S.rf (sm_ls_ent hA) (Nat.le_refl _) (Nat.le_refl _)
  rw [Nat.sub_self, Nat.sub_self] at K
  rw [lg_entry_eq]
  exact K
theorem sm_take_len {α : Type} {st : List α} {n : Nat} {b : α} {r : List α} (h : st.drop n = b :: r) : (st.take n).length = n := by
  have h1 : (st.drop n).length = r.length + 1 := by rw [h]; rfl
  rw [List.length_drop] at h1
  rw [List.length_take]
  omega
