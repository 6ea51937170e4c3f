/-! Constructors of Host and WireBus -/
section CH
variable {M M' : sm_M} {D : Nat}
/-- the controls' pipe as it is made -/
def piF (M : sm_M) (a : Nat) : Prop := sm_K M a = 30 ∧ sm_I M a 0 = 0 ∧ sm_I M a 1 = 0 ∧ sm_I M a 2 = 0 ∧ sm_I M a 3 = 0 ∧ sm_I M a 4 = 1 ∧ sm_I M a 5 = 0 ∧ sm_I M a 6 = -1 ∧ sm_I M a 7 = 0
theorem pi_old {n a : Nat} (h : piF M a) (ho : old_ n M M') (ha : a < n) : piF M' a := by
  obtain ⟨o1, o2, o3, o4⟩ := ho.1 a ha
  unfold piF at *
  rw [o1, o3]; exact h
theorem pi_pR {a b k : Nat} {v : Option Nat} (h : piF M a) : piF (sm_putR M b k v) a := h
theorem pi_pIn {a b k : Nat} {v : Int32} (h : piF M a) (hb : a ≠ b) : piF (sm_putI M b k v) a := by
  unfold piF at *
  rw [I_put_a hb, I_put_a hb, I_put_a hb, I_put_a hb, I_put_a hb, I_put_a hb, I_put_a hb, I_put_a hb]
  exact h
theorem pe_old {n m : Nat} (h : peF M m) (ho : old_ n M M') (hm : m + 1 < n) : peF M' m := ⟨ce_old h.1 ho (by omega), ce_old h.2 ho hm⟩
theorem pe_pRn {m b k : Nat} {v : Option Nat} (h : peF M m) (hb : b < m) : peF (sm_putR M b k v) m := ⟨ce_pRn h.1 (by omega), ce_pRn h.2 (by omega)⟩
def hB (M : sm_M) (n d : Nat) : Prop := cel M n 21 0 (sm_u1 z0 8 35) (sm_u1 (sm_u1 (sm_u1 e0 0 (some (n + 1))) 1 (some (n + 2))) 4 (some (n + 3))) ∧ cel M (n + 1) 28 6 z0 (rfs (n + 4) 2 d) ∧ cel M (n + 2) 34 336 z0 e0 ∧ piF M (n + 3) ∧ ∀ e, e < d → peF M (n + 4 + 2 * e)
theorem hB_old {n m d : Nat} (h : hB M n d) (ho : old_ m M M') (hm : n + 4 + 2 * d ≤ m) : hB M' n d := by
  obtain ⟨h1, h2, h3, h4, h5⟩ := h
  exact ⟨ce_old h1 ho (by omega), ce_old h2 ho (by omega), ce_old h3 ho (by omega), pi_old h4 ho (by omega), fun e he => pe_old (h5 e he) ho (by omega)⟩
theorem c_hoI : sm_Run (D + 2) 84 0 (sm_ent 84 [.inr (some (sm_N M))]) [] (sm_new M 21 0 9) (fun v M' => v = none ∧ mkd M M' 16 431 ∧ hB M' (sm_N M) 6) := by
  generalize hn : sm_N M = n
  have c0 : cel (sm_new M 21 0 9) n 21 0 z0 e0 := by subst hn; exact ce_new
  have o0 : old_ n M (sm_new M 21 0 9) := old_new (Nat.le_of_eq hn.symm)
  have lp : ∀ (m d : Nat) (M1 : sm_M), d + m = 6 → old_ n M M1 → sm_N M1 = n + 4 + 2 * d → sm_U M1 = sm_U M + 359 + 12 * d → hB M1 n d → sm_Run (D + 2) 84 46 [some (.inr (some n)), some (.inl (nI d))] [] M1 (fun v M' => v = none ∧ mkd M M' 16 431 ∧ hB M' n 6) := by
    intro m
    induction m with
    | zero =>
      intro d M1 hd ho hN hU hB
      obtain rfl : d = 6 := by omega
      exact bb_84_46 ⟨fun _ => ⟨rfl, ⟨by rw [hn]; exact ho, by omega, by omega⟩, hB⟩, fun q => absurd (by decide) q⟩
    | succ m ih =>
      intro d M1 hd ho hN hU hB
      have r0 : sm_R M1 n 0 = some (n + 1) := by rw [hB.1.2.2.2]; rfl
      refine bb_84_46 ⟨fun q => ?_, fun _ => ⟨hB.1.1, ?_⟩⟩
      · rw [li_6, nI_leI (by decide) (by omega)] at q; omega
      rw [r0]
      refine ru_mono (c_peI (D := D) (M := M1)) ?_
      rintro v M2 ⟨rfl, ⟨p1, p2, p3⟩, p4⟩
      obtain ⟨h1, h2, h3, h4, h5⟩ := hB_old hB p1 (by omega)
      rw [hN] at p4 ⊢
      refine bb_84_64 ⟨_, rfl, ⟨8, h2.1, by decide, fun q hq => by cases hq; exact p4.1.1⟩, ?_, ?_⟩
      · unfold sm_in_; rw [nI_toInt (by omega), h2.2.1]; omega
      rw [nI_clamp (by omega), nI_1]
      refine ih (d + 1) _ (by omega) (old_tr (old_tr ho (old_w (by omega) p1)) (old_putR (by omega))) (by show sm_N M2 = _; omega) (by show sm_U M2 = _; omega) ?_
      have h2' := ce_pR (k := d) (v := some (n + 4 + 2 * d)) h2
      rw [rfs_s rfl] at h2'
      exact ⟨ce_pRn h1 (by omega), h2', ce_pRn h3 (by omega), pi_pR h4, fun e he => by
        by_cases hed : e = d
        · subst hed; exact pe_pRn p4 (by omega)
        · exact pe_pRn (h5 e (by omega)) (by omega)⟩
  refine bb_84_0 ?_
  rw [show (6 : Int32).toNatClampNeg = 6 from rfl, show (336 : Int32).toNatClampNeg = 336 from rfl]
  have na : sm_N (sm_new M 21 0 9) = n + 1 := by show sm_N M + 1 = _; omega
  have a1 := ce_newn (K' := 28) (L' := 6) (u := 6) c0 na (by omega)
  have a2 : cel (sm_new (sm_new M 21 0 9) 28 6 6) (n + 1) 28 6 z0 e0 := by rw [← na]; exact ce_new
  refine ⟨a1.1, ?_⟩
  rw [na]
  have b1 := ce_pR (k := 0) (v := some (n + 1)) a1
  have b2 := ce_pRn (b := n) (k := 0) (v := some (n + 1)) a2 (by omega)
  have ob : old_ n M (sm_putR (sm_new (sm_new M 21 0 9) 28 6 6) n 0 (some (n + 1))) := old_tr (old_tr o0 (old_new (by omega))) (old_putR (Nat.le_refl _))
  generalize hMb : sm_putR (sm_new (sm_new M 21 0 9) 28 6 6) n 0 (some (n + 1)) = Mb at b1 b2 ob
  have nb : sm_N Mb = n + 2 := by subst hMb; show sm_N M + 1 + 1 = _; omega
  have ub : sm_U Mb = sm_U M + 15 := by subst hMb; rfl
  have f1 := ce_newn (K' := 34) (L' := 336) (u := 336) b1 nb (by omega)
  refine ⟨f1.1, ?_⟩
  rw [nb]
  have ofn : old_ (n + 2) Mb (sm_new Mb 34 336 336) := old_new (by omega)
  have f3 : cel (sm_new Mb 34 336 336) (n + 2) 34 336 z0 e0 := by rw [← nb]; exact ce_new
  have g1 := ce_pR (k := 1) (v := some (n + 2)) f1
  have g2 := ce_pRn (b := n) (k := 1) (v := some (n + 2)) (ce_old b2 ofn (by omega)) (by omega)
  have g3 := ce_pRn (b := n) (k := 1) (v := some (n + 2)) f3 (by omega)
  have og : old_ n M (sm_putR (sm_new Mb 34 336 336) n 1 (some (n + 2))) := old_tr (old_tr ob (old_w (by omega) ofn)) (old_putR (Nat.le_refl _))
  generalize hMg : sm_putR (sm_new Mb 34 336 336) n 1 (some (n + 2)) = Mg at g1 g2 g3 og
  have ng : sm_N Mg = n + 3 := by subst hMg; show sm_N Mb + 1 = _; omega
  have ug : sm_U Mg = sm_U M + 351 := by subst hMg; show sm_U Mb + 336 = _; omega
  have hpi := c_pinit (D := D) (M := sm_new Mg 30 0 8) (n0 := sm_N Mg) (ad := 0) (bk := 0) (sz := 0) (iv := 0) (by decide) (by rw [K_new, if_pos rfl]) (by rw [I_new, if_pos rfl]) (by rw [I_new, if_pos rfl]) (by rw [N_new]; omega)
  refine ru_mono hpi ?_
  rintro v Mh ⟨rfl, hF, ho3, hN3, hU3⟩
  rw [ng] at hF ho3 ⊢
  have oh0 : old_ (n + 3) Mg Mh := old_tr (old_new (by omega)) ho3
  have h1 := ce_old g1 oh0 (by omega)
  have h2 := ce_old g2 oh0 (by omega)
  have h3 := ce_old g3 oh0 (by omega)
  obtain ⟨p1, p2, p3, p4, p5, p6, p7, p8, p9, p10, p11⟩ := hF
  have hp : piF Mh (n + 3) := ⟨p1, p4, p5, p6, p7, p8, p9, p10, p11⟩
  refine bb_84_35 ⟨h1.1, h1.1, lp 6 0 _ rfl ?_ ?_ ?_ ⟨ce_pI (ce_pR h1), ?_, ?_, pi_pIn (pi_pR hp) (by omega), fun e he => absurd he (Nat.not_lt_zero _)⟩⟩
  · exact old_tr (old_tr (old_tr og (old_w (by omega) oh0)) (old_putR (Nat.le_refl _))) (old_putI (Nat.le_refl _))
  · show sm_N Mh = _; rw [hN3, N_new]; omega
  · show sm_U Mh = _; rw [hU3]; show sm_U Mg + 8 = _; omega
  · rw [rfs_0]; exact ce_pIn (ce_pRn h2 (by omega)) (by omega)
  · exact ce_pIn (ce_pRn h3 (by omega)) (by omega)
/-- the bus at n -/
def roomI (x : Int32) : Int32 := if 1 < (if x < 40 then x else 40) then (if x < 40 then x else 40) else 1
theorem room_nI (x : Int32) : ∃ r, roomI x = nI r ∧ 1 ≤ r ∧ r ≤ 40 := by
  unfold roomI
  by_cases h : x < 40
  · rw [if_pos h]
    by_cases h1 : (1 : Int32) < x
    · rw [if_pos h1]
      have : ¬ x < 0 := by
        intro c
        have a1 := Int32.lt_iff_toInt_lt.mp c
        have a2 := Int32.lt_iff_toInt_lt.mp h1
        have a0 : (0 : Int32).toInt = 0 := rfl
        have a3 : (1 : Int32).toInt = 1 := rfl
        omega
      obtain ⟨j, hj, rfl⟩ := nI_of this
      rw [li_1, nI_ltI (by decide) hj] at h1
      rw [li_40, nI_ltI hj (by decide)] at h
      exact ⟨j, rfl, by omega, by omega⟩
    · rw [if_neg h1]; exact ⟨1, rfl, by decide, by decide⟩
  · rw [if_neg h, if_pos (by decide)]; exact ⟨40, rfl, by decide, by decide⟩
theorem by_old {n m cap : Nat} (h : byF M m cap) (ho : old_ n M M') (hm : m + 1 < n) : byF M' m cap := ⟨ce_old h.1 ho (by omega), ce_old h.2 ho hm⟩
theorem by_pRn {m b k cap : Nat} {v : Option Nat} (h : byF M m cap) (hb : b < m) : byF (sm_putR M b k v) m cap := ⟨ce_pRn h.1 (by omega), ce_pRn h.2 (by omega)⟩
theorem wB_pRn {n i d b k : Nat} {v : Option Nat} (h : wB M n i d) (hb : b < n) : wB (sm_putR M b k v) n i d := by
  obtain ⟨h1, h2, h3, h4, h5, h6, h7, h8, h9, h10⟩ := h
  exact ⟨ce_pRn h1 (by omega), ce_pRn h2 (by omega), pk_pRn h3 (by omega) (by omega), cd_pRn h4 (by omega), ce_pRn h5 (by omega), ce_pRn h6 (by omega), ce_pRn h7 (by omega), ce_pRn h8 (by omega), fun j hj => pk_pRn (h9 j hj) (by omega) (by omega), fun e he => dv_pRn (h10 e he) (by omega)⟩
theorem hB_pRn {n d b k : Nat} {v : Option Nat} (h : hB M n d) (hb : b < n) : hB (sm_putR M b k v) n d := by
  obtain ⟨h1, h2, h3, h4, h5⟩ := h
  exact ⟨ce_pRn h1 (by omega), ce_pRn h2 (by omega), ce_pRn h3 (by omega), pi_pR h4, fun e he => pe_pRn (h5 e he) (by omega)⟩
theorem ce_cel {a b k K L : Nat} {v : Int32} {I : Nat → Int32} {R : Nat → Option Nat} (h : cel M a K L I R) (hb : b < a) : cel (sm_putI M b k v) a K L I R := ce_pIn h (by omega)
/-- the bus at n: all of it -/
def buF (M : sm_M) (n : Nat) (r : Int32) : Prop := cel M n 3 0 (sm_u1 z0 0 r) (sm_u1 (sm_u1 (sm_u1 (sm_u1 e0 1 (some (n + 1))) 2 (some (n + 2))) 3 (some (n + 4))) 4 (some (n + 177))) ∧ cel M (n + 1) 2 20 z0 e0 ∧ byF M (n + 2) 200 ∧ wB M (n + 4) 60 6 ∧ hB M (n + 177) 6
theorem wB_pIn {n i d b k : Nat} {v : Int32} (h : wB M n i d) (hb : b < n) : wB (sm_putI M b k v) n i d := by
  obtain ⟨h1, h2, h3, h4, h5, h6, h7, h8, h9, h10⟩ := h
  have pk : ∀ {m}, b < m → pkF M m → pkF (sm_putI M b k v) m := fun hm q => ⟨ce_cel q.1 hm, ce_cel q.2 (by omega)⟩
  have dv : ∀ {m}, b < m → dvF M m → dvF (sm_putI M b k v) m := fun hm q => ⟨ce_cel q.1 hm, ce_cel q.2.1 (by omega), ce_cel q.2.2.1 (by omega), ⟨ce_cel q.2.2.2.1.1 (by omega), ce_cel q.2.2.2.1.2 (by omega)⟩, pk (by omega) q.2.2.2.2⟩
  exact ⟨ce_cel h1 (by omega), ce_cel h2 (by omega), pk (by omega) h3, ⟨ce_cel h4.1 (by omega), ce_cel h4.2.1 (by omega), ce_cel h4.2.2 (by omega)⟩, ce_cel h5 (by omega), ce_cel h6 (by omega), ce_cel h7 (by omega), ce_cel h8 (by omega), fun j hj => pk (by omega) (h9 j hj), fun e he => dv (by omega) (h10 e he)⟩
theorem hB_pIn {n d b k : Nat} {v : Int32} (h : hB M n d) (hb : b < n) : hB (sm_putI M b k v) n d := by
  obtain ⟨h1, h2, h3, h4, h5⟩ := h
  exact ⟨ce_cel h1 (by omega), ce_cel h2 (by omega), ce_cel h3 (by omega), pi_pIn h4 (by omega), fun e he => ⟨ce_cel (h5 e he).1 (by omega), ce_cel (h5 e he).2 (by omega)⟩⟩
theorem c_buI {x : Int32} : sm_Run (D + 4) 0 0 (sm_ent 0 [.inr (some (sm_N M)), .inl x]) [] (sm_new M 3 0 5) (fun v M' => v = none ∧ mkd M M' 193 7875 ∧ buF M' (sm_N M) (roomI x)) := by
  generalize hn : sm_N M = n
  have c0 : cel (sm_new M 3 0 5) n 3 0 z0 e0 := by subst hn; exact ce_new
  have o0 : old_ n M (sm_new M 3 0 5) := old_new (Nat.le_of_eq hn.symm)
  refine bb_0_0 ?_
  rw [show (20 : Int32).toNatClampNeg = 20 from rfl]
  have na : sm_N (sm_new M 3 0 5) = n + 1 := by show sm_N M + 1 = _; omega
  have a1 := ce_newn (K' := 2) (L' := 20) (u := 20) c0 na (by omega)
  have a2 : cel (sm_new (sm_new M 3 0 5) 2 20 20) (n + 1) 2 20 z0 e0 := by rw [← na]; exact ce_new
  refine ⟨a1.1, ?_⟩
  rw [na]
  have b1 := ce_pR (k := 1) (v := some (n + 1)) a1
  have b2 := ce_pRn (b := n) (k := 1) (v := some (n + 1)) a2 (by omega)
  have ob : old_ n M (sm_putR (sm_new (sm_new M 3 0 5) 2 20 20) n 1 (some (n + 1))) := old_tr (old_tr o0 (old_new (by omega))) (old_putR (Nat.le_refl _))
  generalize hMb : sm_putR (sm_new (sm_new M 3 0 5) 2 20 20) n 1 (some (n + 1)) = Mb at b1 b2 ob
  have nb : sm_N Mb = n + 2 := by subst hMb; show sm_N M + 1 + 1 = _; omega
  have ub : sm_U Mb = sm_U M + 25 := by subst hMb; rfl
  refine ru_mono (c_byI (D := D + 2) (M := Mb) (cap := 200) (by decide) (by decide)) ?_
  rintro v Mc ⟨rfl, ⟨p1, p2, p3⟩, p4⟩
  rw [nb] at p4 ⊢
  have c1 := ce_old b1 p1 (by omega)
  have c2 := ce_old b2 p1 (by omega)
  refine bb_0_23 ⟨c1.1, ?_⟩
  have d1 := ce_pR (k := 2) (v := some (n + 2)) c1
  have d2 := ce_pRn (b := n) (k := 2) (v := some (n + 2)) c2 (by omega)
  have d3 : byF (sm_putR Mc n 2 (some (n + 2))) (n + 2) 200 := by_pRn p4 (by omega)
  have od : old_ n M (sm_putR Mc n 2 (some (n + 2))) := old_tr (old_tr ob (old_w (by omega) p1)) (old_putR (Nat.le_refl _))
  generalize hMd : sm_putR Mc n 2 (some (n + 2)) = Md at d1 d2 d3 od
  have nd : sm_N Md = n + 4 := by subst hMd; show sm_N Mc = _; omega
  have ud : sm_U Md = sm_U M + 228 := by subst hMd; show sm_U Mc = _; omega
  refine ru_mono (c_wiI (D := D) (M := Md)) ?_
  rintro v Me ⟨rfl, ⟨q1, q2, q3⟩, q4⟩
  rw [nd] at q4 ⊢
  have e1 := ce_old d1 q1 (by omega)
  have e2 := ce_old d2 q1 (by omega)
  have e3 := by_old d3 q1 (by omega)
  refine bb_0_34 ⟨e1.1, ?_⟩
  have f1 := ce_pR (k := 3) (v := some (n + 4)) e1
  have f2 := ce_pRn (b := n) (k := 3) (v := some (n + 4)) e2 (by omega)
  have f3 : byF (sm_putR Me n 3 (some (n + 4))) (n + 2) 200 := by_pRn e3 (by omega)
  have f4 : wB (sm_putR Me n 3 (some (n + 4))) (n + 4) 60 6 := wB_pRn q4 (by omega)
  have of_ : old_ n M (sm_putR Me n 3 (some (n + 4))) := old_tr (old_tr od (old_w (by omega) q1)) (old_putR (Nat.le_refl _))
  generalize hMf : sm_putR Me n 3 (some (n + 4)) = Mf at f1 f2 f3 f4 of_
  have nf : sm_N Mf = n + 177 := by subst hMf; show sm_N Me = _; omega
  have uf : sm_U Mf = sm_U M + 7444 := by subst hMf; show sm_U Me = _; omega
  refine ru_mono (c_hoI (D := D + 1) (M := Mf)) ?_
  rintro v Mg ⟨rfl, ⟨r1, r2, r3⟩, r4⟩
  rw [nf] at r4 ⊢
  have g1 := ce_old f1 r1 (by omega)
  have g2 := ce_old f2 r1 (by omega)
  have g3 := by_old f3 r1 (by omega)
  have g4 := wB_old f4 r1 (by omega) (by omega)
  refine bb_0_45 ⟨g1.1, g1.1, rfl, ⟨?_, ?_, ?_⟩, ce_pI (ce_pR g1), ?_, ?_, ?_, ?_⟩
  · rw [hn]; exact old_tr (old_tr (old_tr of_ (old_w (by omega) r1)) (old_putR (Nat.le_refl _))) (old_putI (Nat.le_refl _))
  · show sm_N Mg = _; omega
  · show sm_U Mg = _; omega
  · exact ce_cel (ce_pRn g2 (by omega)) (by omega)
  · exact ⟨ce_cel (ce_pRn g3.1 (by omega)) (by omega), ce_cel (ce_pRn g3.2 (by omega)) (by omega)⟩
  · exact wB_pIn (wB_pRn g4 (by omega)) (by omega)
  · exact hB_pIn (hB_pRn r4 (by omega)) (by omega)
end CH
