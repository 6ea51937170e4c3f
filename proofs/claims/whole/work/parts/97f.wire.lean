/-! What a packet on the wire does to one device. -/
section HM
variable {P P' Q : pP} {d t : Nat}
theorem s_n {f i v f' i' : Nat} (h : f' ≠ f) : s_ (pS P f i v) f' i' = s_ P f' i' := by rw [s_S, if_neg (fun q => h q.1)]
/-- what stays of a device that is there -/
abbrev stf (f : Nat) : Prop := f = 80 ∨ f = 81 ∨ f = 82 ∨ f = 86 ∨ f = 100 ∨ f = 101 ∨ f = 102
theorem st_ans {k f i : Nat} (hf : stf f) : s_ (p_ans P d k) f i = s_ P f i := by
  unfold p_ans
  rw [s_n (by omega), s_B, s_n (by omega)]
theorem st_ansD {k e f i : Nat} (hf : stf f) : s_ (p_ansD P d k e) f i = s_ P f i := by
  unfold p_ansD
  rw [s_n (by omega), s_n (by omega), st_ans hf]
theorem st_h0 {f i : Nat} (hf : stf f) : s_ (p_h0 P d) f i = s_ P f i := by
  unfold p_h0
  rw [s_n (by omega), s_n (by omega)]
theorem st_eRs {e f i : Nat} (hf : stf f) : s_ (p_eRs P e) f i = s_ P f i := by
  unfold p_eRs
  rw [s_n (by omega), s_n (by omega), s_n (by omega)]
theorem st_rsAll {f i : Nat} (hf : stf f) : ∀ n, s_ (p_rsAll P d n) f i = s_ P f i
  | 0 => rfl
  | n + 1 => by unfold p_rsAll; rw [st_eRs hf, st_rsAll hf n]
theorem st_hIn {e f i : Nat} (hf : stf f) : s_ (p_hIn P d e) f i = s_ P f i := by
  have z : s_ (p_zIn P d) f i = s_ P f i := by
    have z1 : s_ (p_zIn1 P d) f i = s_ P f i := by
      unfold p_zIn1
      split
      · rw [s_n (by omega)]
      · rfl
    unfold p_zIn p_zIn2
    split
    · rw [st_ans hf, z1]
    · split
      · rw [s_B, st_ansD hf, s_n (by omega), z1]
      · split
        · rw [st_ansD hf, z1]
        · rw [st_ans hf, z1]
  have y : ∀ e, s_ (p_eIn P d e) f i = s_ P f i := by
    intro e
    have y1 : s_ (p_eIn1 P e) f i = s_ P f i := by
      unfold p_eIn1
      split
      · rw [s_n (by omega)]
      · rfl
    unfold p_eIn
    split
    · rw [st_ans hf]
    · split
      · rw [st_ans hf, y1]
      · rw [s_B, st_ansD hf, y1]
  unfold p_hIn
  split
  · exact z
  · split
    · rfl
    · split
      · exact y _
      · rfl
theorem st_hOut {j f i : Nat} (hf : stf f) : s_ (p_hOut P d j) f i = s_ P f i := by
  have z : s_ (p_zOut P d j) f i = s_ P f i := by
    unfold p_zOut
    split
    · rw [st_ans hf]
    · split
      · split
        · rw [st_ans hf, s_n (by omega)]
        · rw [st_ans hf, s_n (by omega)]
      · split
        · unfold p_zTake p_zTk1
          split
          · rw [st_ans hf]
          · split
            · rw [st_ans hf, s_n (by omega)]
            · split
              · unfold p_keep
                rw [s_n (by omega), s_B, st_ans hf, s_n (by omega), s_n (by omega), s_B]
              · rw [st_ans hf, s_n (by omega), s_n (by omega), s_B]
        · split
          · split
            · rw [st_ans hf]
            · rw [st_ans hf, s_n (by omega)]
          · rw [st_ans hf]
  have y : ∀ e, s_ (p_eOut P d e j) f i = s_ P f i := by
    intro e
    unfold p_eOut
    split
    · rw [st_ans hf]
    · split
      · rw [st_ans hf]
      · split
        · rw [st_ans hf]
        · rw [st_ans hf, s_n (by omega), s_B]
  unfold p_hOut
  split
  · exact z
  · split
    · rfl
    · split
      · exact y _
      · rfl
theorem st_hAck {f i : Nat} (hf : stf f) : s_ (p_hAck P d) f i = s_ P f i := by
  unfold p_hAck p_zAck p_eAck
  split
  · split
    · rw [s_n (by omega), s_n (by omega), s_n (by omega)]
    · split
      · split
        · rw [s_n (by omega)]
        · rw [s_n (by omega), s_n (by omega), s_n (by omega)]
      · rfl
  · split
    · rfl
    · rw [s_n (by omega), s_n (by omega), s_B]
theorem st_obey {w v ix f i : Nat} (hf : stf f) : s_ (p_obey P d w v ix).1 f i = s_ P f i := by
  unfold p_obey
  split
  · split
    · rfl
    · dsimp only
      rw [st_rsAll hf, s_n (by omega)]
  · split
    · rfl
    · split
      · rfl
      · split
        · exact st_eRs hf
        · split
          · exact s_n (by omega)
          · rfl
theorem st_zBeg {l : List Nat} {f i : Nat} (hf : stf f) : s_ (p_zBeg P d l) f i = s_ P f i := by
  have z1 : s_ (p_zB1 P d l) f i = s_ P f i := by
    unfold p_zB1
    rw [s_n (by omega), s_n (by omega), s_n (by omega), s_n (by omega), s_n (by omega), s_n (by omega)]
  unfold p_zBeg
  split
  · rw [s_n (by omega)]
    unfold p_bfh
    split
    · dsimp only; rw [s_B, z1]
    · split
      · dsimp only; rw [s_B, z1]
      · split
        · split
          · dsimp only; rw [s_B, z1]
          · dsimp only; rw [s_n (by omega), s_B, z1]
        · dsimp only; rw [st_obey hf, s_B, z1]
  · split
    · rw [s_n (by omega), s_n (by omega), z1]
    · rw [s_n (by omega), s_n (by omega), s_B, z1]
theorem hear_st {o : Option Nat} {f i : Nat} (hf : stf f) : s_ (p_hear P d o) f i = s_ P f i := by
  unfold p_hear
  split
  · exact st_h0 hf
  · split
    · split
      · rw [st_hIn hf, st_h0 hf]
      · rw [s_n (by omega), s_n (by omega), st_h0 hf]
    · split
      · rw [st_ans hf, st_zBeg hf, st_h0 hf]
      · split
        · rw [st_hOut hf, st_h0 hf]
        · split
          · rw [st_hAck hf, st_h0 hf]
          · exact st_h0 hf
/-- a device's view of a packet on the wire -/
theorem carry_at (h6 : ∀ d, d < 6 → s_ P 86 d ≤ 6) (hd : d < 6) : ∃ Q, SO d P Q ∧ (∀ f, 140 ≤ f ∧ f < 145 → s_ Q f (nk P) = s_ P f (nk P)) ∧ b_ Q 7 (nk P) = b_ P 7 (nk P) ∧ SO d (if s_ P 140 (nk P) = d + 1 ∨ s_ P 83 d = 0 then Q else p_hear Q d (p_carry P).2) (p_carry P).1 := by
  have h6' : ∀ d, d < 6 → s_ (c2 P) 86 d ≤ 6 := fun d hd => by rw [so_s (c2_so d) (by decide)]; exact h6 d hd
  obtain ⟨Q, q1, q2, q3⟩ := hears_at (s := s_ P 140 (nk P)) (r := (p_carry1 P).2) h6' hd
  have e83 : s_ (c2 P) 83 d = s_ P 83 d := so_s (c2_so d) (by decide)
  rw [e83] at q3
  refine ⟨Q, so_tr (c2_so d) q1, fun f hf => ?_, ?_, q3⟩
  · rw [(q2 _ nk_60).1 f (by omega), c2_s (by omega)]
  · rw [(q2 _ nk_60).2, c2_b (by decide)]
/-- the static part of all devices -/
def STs (P P' : pP) : Prop := ∀ d, d < 6 → (∀ f, f = 80 ∨ f = 81 ∨ f = 82 ∨ f = 86 → s_ P' f d = s_ P f d) ∧ ∀ f k, 100 ≤ f → f ≤ 102 → k < 6 → s_ P' f (6 * d + k) = s_ P f (6 * d + k)
theorem sts_rf : STs P P := fun _ _ => ⟨fun _ _ => rfl, fun _ _ _ _ _ => rfl⟩
theorem sts_tr {P'' : pP} (h : STs P P') (k : STs P' P'') : STs P P'' := fun d hd => ⟨fun f hf => ((k d hd).1 f hf).trans ((h d hd).1 f hf), fun f e h1 h2 h3 => ((k d hd).2 f e h1 h2 h3).trans ((h d hd).2 f e h1 h2 h3)⟩
theorem sts_so (h : ∀ d, d < 6 → SO d P P') : STs P P' := fun d hd => ⟨fun f hf => so_s (h d hd) (by omega), fun f k h1 h2 h3 => so_e (h d hd) (by omega) h3⟩
theorem sts_carry (h6 : ∀ d, d < 6 → s_ P 86 d ≤ 6) : STs P (p_carry P).1 := by
  intro d hd
  obtain ⟨Q, q1, -, -, q4⟩ := carry_at h6 hd
  refine ⟨fun f hf => ?_, fun f k h1 h2 h3 => ?_⟩
  · rw [so_s q4 (by omega)]
    split
    · exact so_s q1 (by omega)
    · rw [hear_st (by omega)]; exact so_s q1 (by omega)
  · rw [so_e q4 (by omega) h3]
    split
    · exact so_e q1 (by omega) h3
    · rw [hear_st (by omega)]; exact so_e q1 (by omega) h3
/-- a device's endpoint 0 and its address stay -/
def ZSa (d : Nat) (P P' : pP) : Prop := (∀ f, (60 ≤ f ∧ f < 70) ∨ f = 83 ∨ f = 84 → s_ P' f d = s_ P f d) ∧ b_ P' 29 d = b_ P 29 d
theorem zs_rf : ZSa d P P := ⟨fun _ _ => rfl, rfl⟩
theorem zs_tr {P'' : pP} (h : ZSa d P P') (k : ZSa d P' P'') : ZSa d P P'' := ⟨fun f hf => (k.1 f hf).trans (h.1 f hf), k.2.trans h.2⟩
theorem zs_so (h : SO d P P') : ZSa d P P' := ⟨fun f hf => so_s h (by omega), so_29 h⟩
theorem zs_h0 : ZSa d P (p_h0 P d) := ⟨fun f hf => by unfold p_h0; rw [s_n (by omega), s_n (by omega)], rfl⟩
/-- a device that is not meant, and awaits nothing or hears a token -/
theorem hear_quiet {o : Option Nat} (ho : ∀ j, o = some j → ¬ (s_ P 141 j = 9 ∧ s_ P 142 j % 128 = s_ P 84 d) ∧ (s_ P 89 d = 0 ∨ isTok (s_ P 141 j))) : ZSa d P (p_hear P d o) ∧ s_ (p_hear P d o) 91 d = 0 := by
  unfold p_hear
  split
  · exact ⟨zs_h0, h0_91⟩
  · rename_i j
    obtain ⟨h1, h2⟩ := ho j rfl
    split
    · rename_i c
      rw [if_neg (fun q => h1 ⟨q, c.2⟩)]
      refine ⟨zs_tr zs_h0 ⟨fun f hf => by rw [s_n (by omega), s_n (by omega)], rfl⟩, ?_⟩
      rw [s_n (by decide), s_n (by decide)]; exact h0_91
    · have n0 : ¬ isTok (s_ P 141 j) → s_ P 89 d = 0 := fun q => h2.elim id (fun c => absurd c q)
      by_cases c : s_ P 89 d = 0
      · rw [if_neg (by omega), if_neg (by omega), if_neg (by omega)]
        exact ⟨zs_h0, h0_91⟩
      · have c' : isTok (s_ P 141 j) := h2.elim (fun q => absurd q c) id
        rw [if_neg (by unfold isTok at c'; omega), if_neg (by unfold isTok at c'; unfold isDat; omega), if_neg (by unfold isTok at c'; omega)]
        exact ⟨zs_h0, h0_91⟩
/-- a packet that can't concern d -/
theorem carry_quiet (h6 : ∀ d, d < 6 → s_ P 86 d ≤ 6) (hd : d < 6) (hs : s_ P 140 (nk P) ≠ d + 1) (hn : ¬ (s_ P 141 (nk P) = 9 ∧ s_ P 142 (nk P) % 128 = s_ P 84 d)) (hw : s_ P 89 d = 0 ∨ isTok (s_ P 141 (nk P))) (h83 : s_ P 83 d ≠ 0) : ZSa d P (p_carry P).1 ∧ s_ (p_carry P).1 91 d = 0 ∧ (s_ (p_carry P).1 89 d ≠ 0 → isTok (s_ P 141 (nk P)) ∧ s_ P 142 (nk P) % 128 = s_ P 84 d) := by
  obtain ⟨Q, q1, q2, q3, q4⟩ := carry_at h6 hd
  rw [if_neg (by omega)] at q4
  have k1 := q2 141 (by decide)
  have k2 := q2 142 (by decide)
  have k4 : s_ Q 84 d = s_ P 84 d := so_s q1 (by decide)
  have k9 : s_ Q 89 d = s_ P 89 d := so_s q1 (by decide)
  have e : (p_carry P).2 = none ∨ (p_carry P).2 = some (nk P) := c1_2
  have hq := hear_quiet (P := Q) (d := d) (o := (p_carry P).2) (fun j ej => by
    rcases e with e | e
    · rw [e] at ej; cases ej
    · rw [e] at ej; cases ej
      rw [k1, k2, k4, k9]; exact ⟨hn, hw⟩)
  refine ⟨zs_tr (zs_tr (zs_so q1) hq.1) (zs_so q4), by rw [so_s q4 (by decide)]; exact hq.2, fun h89 => ?_⟩
  rw [so_s q4 (by decide)] at h89
  obtain ⟨j, ej, h1, h2⟩ := hear_89 h89
  rcases e with e | e
  · rw [e] at ej; cases ej
  · rw [e] at ej; cases ej
    rw [k1] at h1
    rw [k2, k4] at h2
    exact ⟨h1, h2⟩
/-- a device that is not there -/
theorem carry_gone (h6 : ∀ d, d < 6 → s_ P 86 d ≤ 6) (hd : d < 6) (h83 : s_ P 83 d = 0) : SO d P (p_carry P).1 := by
  obtain ⟨Q, q1, -, -, q4⟩ := carry_at h6 hd
  rw [if_pos (Or.inr h83)] at q4
  exact so_tr q1 q4
/-- CK -/
theorem ck_rdy {j s : Nat} (hW : WX P) (hS : s_ P 228 0 + 1 < 2 ^ 31) (hr : Rdy P j s) : CK P := by
  have hW2 := wx_c2 hW hS hr
  obtain ⟨rfl, rfl, r2, r3, r4, r5, r6, r7⟩ := hr
  obtain ⟨w1, w2, w3⟩ := hW2
  have h6 : ∀ d, d < 6 → s_ (c2 P) 86 d ≤ 6 := fun d hd => ex_86 w1.1 hd
  refine ⟨hS, r3, fun n hn => ?_⟩
  show s_ (p_hears (c2 P) (s_ P 140 (nk P)) (p_carry1 P).2 n) 140 (nk P) = s_ P 140 (nk P) ∧ (s_ (p_hears (c2 P) (s_ P 140 (nk P)) (p_carry1 P).2 n) 83 n ≠ 0 → DI (p_hears (c2 P) (s_ P 140 (nk P)) (p_carry1 P).2 n) n) ∧ ∀ j', (p_carry1 P).2 = some j' → j' < 60 ∧ s_ (p_hears (c2 P) (s_ P 140 (nk P)) (p_carry1 P).2 n) 141 j' < 16 ∧ ∀ x ∈ b_ (p_hears (c2 P) (s_ P 140 (nk P)) (p_carry1 P).2 n) 7 j', x < 256
  refine ⟨?_, fun pr => ?_, fun j' e => ?_⟩
  · rw [hears_K h6 (fun d => own_j nk_60 (by decide) d) n (by omega), c2_s (by omega)]
  · rcases c1_2 (P := P) with e | e
    · rw [e] at pr ⊢; exact (id_HD (sh_ID ((hears_ex0 (s := s_ P 140 (nk P)) w1.1 w1.2.1 n (by omega)).2 n hn) pr)).1
    · rw [e] at pr ⊢; exact (id_HD (sh_ID (hears_ID w1.1 w1.2.1 nk_60 (c2_PK r3) n (by omega) n hn) pr)).1
  · rcases c1_2 (P := P) with e' | e'
    · rw [e'] at e; cases e
    · rw [e'] at e
      obtain rfl : nk P = j' := Option.some.inj e
      rw [hears_K h6 (fun d => own_j nk_60 (by decide) d) n (by omega), hears_KB h6 (fun d => ownB_j nk_60 d) n (by omega), c2_s (by omega), c2_b (by decide)]
      exact ⟨nk_60, r3.1, r3.2.2⟩
theorem wx_prT {k n : Nat} (hW : WX P) (hk : k < 16) (kk : okK k) (k3 : k ≠ 3) (hn : n < 2048) : WX (prT P k n) := by
  have rd := rdy_prT (P := P) (k := k) (n := n) hk kk k3 hn
  exact pr_wx hW (ex_prT hW.1.1 hk hn) (fun f i hf => prT_s hf) (fun c i hc => prT_b hc) rd.pk rd.kk (by rw [rd.sn]; decide)
theorem wx_prD {k : Nat} {l : List Nat} (hW : WX P) (hk : k = 3 ∨ k = 11 ∨ k = 2) (hl : B8 l) (h64 : l.length ≤ 64) (sa : ∀ d, d < 6 → s_ P 83 d ≠ 0 → s_ P 89 d = 14 → k = 3 → l.length = 8 → lwh l = 5 → 1 ≤ l16 l 2 → l16 l 2 ≤ 127 → l16 l 2 = d + 1 ∧ s_ P 83 d = 1) : WX (prD P k l) := by
  have rd := rdy_prD (P := P) (k := k) (l := l) hk hl sa
  exact pr_wx hW (ex_prD hW.1.1 (by omega) h64) (fun f i hf => prD_s hf) (fun c i hc => prD_b hc) rd.pk rd.kk (by rw [rd.sn]; decide)
end HM
