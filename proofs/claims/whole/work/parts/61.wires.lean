/-! Constructors of Wire and Host -/
section CW
variable {M M' : sm_M} {D : Nat}
theorem old_w {n n' : Nat} {A B : sm_M} (hn : n ≤ n') (h : old_ n' A B) : old_ n A B := ⟨fun b hb => h.1 b (by omega), h.2⟩
/-- a row of references, the first i of them set -/
def rfs (s w i : Nat) : Nat → Option Nat := fun j => if j < i then some (s + w * j) else none
theorem rfs_0 {s w : Nat} : rfs s w 0 = e0 := by funext j; unfold rfs; rw [if_neg (Nat.not_lt_zero _)]
theorem rfs_s {s w i a : Nat} (ha : a = s + w * i) : sm_u1 (rfs s w i) i (some a) = rfs s w (i + 1) := by
  funext j
  unfold sm_u1 rfs
  subst ha
  by_cases h : j = i
  · rw [if_pos h, if_pos (by omega), h]
  · rw [if_neg h]
    by_cases h2 : j < i
    · rw [if_pos h2, if_pos (by omega)]
    · rw [if_neg h2, if_neg (by omega)]
theorem dv_old {n m : Nat} (h : dvF M m) (ho : old_ n M M') (hm : m + 6 < n) : dvF M' m := ⟨ce_old h.1 ho (by omega), ce_old h.2.1 ho (by omega), ce_old h.2.2.1 ho (by omega), cp_old h.2.2.2.1 ho (by omega), pk_old h.2.2.2.2 ho (by omega)⟩
theorem dv_pRn {m b k : Nat} {v : Option Nat} (h : dvF M m) (hb : b < m) : dvF (sm_putR M b k v) m := ⟨ce_pRn h.1 (by omega), ce_pRn h.2.1 (by omega), ce_pRn h.2.2.1 (by omega), cp_pRn h.2.2.2.1 (by omega) (by omega), pk_pRn h.2.2.2.2 (by omega) (by omega)⟩
theorem cd_old {n m : Nat} (h : cdF M m) (ho : old_ n M M') (hm : m + 2 < n) : cdF M' m := ⟨ce_old h.1 ho (by omega), ce_old h.2.1 ho (by omega), ce_old h.2.2 ho (by omega)⟩
theorem cd_pRn {m b k : Nat} {v : Option Nat} (h : cdF M m) (hb : b < m ∨ m + 2 < b) : cdF (sm_putR M b k v) m := ⟨ce_pRn h.1 (by omega), ce_pRn h.2.1 (by omega), ce_pRn h.2.2 (by omega)⟩
/-- the wire at n, i packets and d devices made -/
def wB (M : sm_M) (n i d : Nat) : Prop :=
  cel M n 36 0 (sm_u1 z0 9 (-1)) (sm_u1 (sm_u1 (sm_u1 (sm_u1 (sm_u1 (sm_u1 (sm_u1 e0 0 (some (n + 1))) 1 (some (n + 2))) 2 (some (n + 4))) 3 (some (n + 7))) 4 (some (n + 8))) 5 (some (n + 9))) 6 (some (n + 10))) ∧
  cel M (n + 1) 25 60 z0 (rfs (n + 11) 2 i) ∧ pkF M (n + 2) ∧ cdF M (n + 4) ∧ cel M (n + 7) 16 6 z0 (rfs (n + 131) 7 d) ∧ cel M (n + 8) 26 50 z0 e0 ∧ cel M (n + 9) 29 50 z0 e0 ∧ cel M (n + 10) 32 50 z0 e0 ∧
  (∀ j, j < i → pkF M (n + 11 + 2 * j)) ∧ ∀ e, e < d → dvF M (n + 131 + 7 * e)
theorem wB_old {n m i d : Nat} (h : wB M n i d) (ho : old_ m M M') (hm : n + 11 + 2 * i ≤ m) (hd : d = 0 ∨ n + 131 + 7 * d ≤ m) : wB M' n i d := by
  obtain ⟨h1, h2, h3, h4, h5, h6, h7, h8, h9, h10⟩ := h
  exact ⟨ce_old h1 ho (by omega), ce_old h2 ho (by omega), pk_old h3 ho (by omega), cd_old h4 ho (by omega), ce_old h5 ho (by omega), ce_old h6 ho (by omega), ce_old h7 ho (by omega), ce_old h8 ho (by omega), fun j hj => pk_old (h9 j hj) ho (by omega), fun e he => dv_old (h10 e he) ho (by omega)⟩
theorem c_wiI : sm_Run (D + 3) 137 0 (sm_ent 137 [.inr (some (sm_N M))]) [] (sm_new M 36 0 10) (fun v M' => v = none ∧ mkd M M' 173 7216 ∧ wB M' (sm_N M) 60 6) := by
  generalize hn : sm_N M = n
  have cw0 : cel (sm_new M 36 0 10) n 36 0 z0 e0 := by subst hn; exact ce_new
  have o0 : old_ n M (sm_new M 36 0 10) := old_new (Nat.le_of_eq hn.symm)
  -- the devices' loop
  have ld : ∀ (m d : Nat) (M1 : sm_M), d + m = 6 → old_ n M M1 → sm_N M1 = n + 131 + 7 * d → sm_U M1 = sm_U M + 5842 + 229 * d → wB M1 n 60 d → sm_Run (D + 3) 137 102 [some (.inr (some n)), some (.inl (nI d))] [] M1 (fun v M' => v = none ∧ mkd M M' 173 7216 ∧ wB M' n 60 6) := by
    intro m
    induction m with
    | zero =>
      intro d M1 hd ho hN hU hB
      obtain rfl : d = 6 := by omega
      exact bb_137_102 ⟨fun _ => ⟨rfl, ⟨by rw [hn]; exact ho, by omega, by omega⟩, hB⟩, fun q => absurd (by decide) q⟩
    | succ m ih =>
      intro d M1 hd ho hN hU hB
      have r3 : sm_R M1 n 3 = some (n + 7) := by rw [hB.1.2.2.2]; rfl
      refine bb_137_102 ⟨fun q => ?_, fun _ => ⟨hB.1.1, ?_⟩⟩
      · rw [li_6, nI_leI (by decide) (by omega)] at q; omega
      rw [r3]
      refine ru_mono (c_dvI (D := D) (M := M1)) ?_
      rintro v M2 ⟨rfl, ⟨p1, p2, p3⟩, p4⟩
      have hB2 := wB_old hB p1 (by omega) (by omega)
      obtain ⟨h1, h2, h3, h4, h5, h6, h7, h8, h9, h10⟩ := hB2
      rw [hN] at p4 ⊢
      refine bb_137_120 ⟨_, rfl, ⟨4, h5.1, by decide, fun q hq => by cases hq; exact p4.1.1⟩, ?_, ?_⟩
      · unfold sm_in_; rw [nI_toInt (by omega), h5.2.1]; omega
      rw [nI_clamp (by omega), nI_1]
      refine ih (d + 1) _ (by omega) (old_tr (old_tr ho (old_w (by omega) p1)) (old_putR (by omega))) (by show sm_N M2 = _; omega) (by show sm_U M2 = _; omega) ?_
      have h5' := ce_pR (k := d) (v := some (n + 131 + 7 * d)) h5
      rw [rfs_s rfl] at h5'
      exact ⟨ce_pRn h1 (by omega), ce_pRn h2 (by omega), pk_pRn h3 (by omega) (by omega), cd_pRn h4 (by omega), h5', ce_pRn h6 (by omega), ce_pRn h7 (by omega), ce_pRn h8 (by omega), fun j hj => pk_pRn (h9 j hj) (by omega) (by omega), fun e he => by
        by_cases hed : e = d
        · subst hed; exact dv_pRn p4 (by omega)
        · exact dv_pRn (h10 e (by omega)) (by omega)⟩
  -- the packets' loop
  have lp : ∀ (m i : Nat) (M1 : sm_M), i + m = 60 → old_ n M M1 → sm_N M1 = n + 11 + 2 * i → sm_U M1 = sm_U M + 1522 + 72 * i → wB M1 n i 0 → sm_Run (D + 3) 137 75 [some (.inr (some n)), some (.inl (nI i))] [] M1 (fun v M' => v = none ∧ mkd M M' 173 7216 ∧ wB M' n 60 6) := by
    intro m
    induction m with
    | zero =>
      intro i M1 hi ho hN hU hB
      obtain rfl : i = 60 := by omega
      exact bb_137_75 ⟨fun _ => ld 6 0 M1 rfl ho (by omega) (by omega) hB, fun q => absurd (by decide) q⟩
    | succ m ih =>
      intro i M1 hi ho hN hU hB
      have r0 : sm_R M1 n 0 = some (n + 1) := by rw [hB.1.2.2.2]; rfl
      refine bb_137_75 ⟨fun q => ?_, fun _ => ⟨hB.1.1, ?_⟩⟩
      · rw [li_60, nI_leI (by decide) (by omega)] at q; omega
      rw [r0]
      refine ru_mono (c_pkI (D := D + 1) (M := M1)) ?_
      rintro v M2 ⟨rfl, ⟨p1, p2, p3⟩, p4⟩
      have hB2 := wB_old hB p1 (by omega) (Or.inl rfl)
      obtain ⟨h1, h2, h3, h4, h5, h6, h7, h8, h9, h10⟩ := hB2
      rw [hN] at p4 ⊢
      refine bb_137_93 ⟨_, rfl, ⟨7, h2.1, by decide, fun q hq => by cases hq; exact p4.1.1⟩, ?_, ?_⟩
      · unfold sm_in_; rw [nI_toInt (by omega), h2.2.1]; omega
      rw [nI_clamp (by omega), nI_1]
      refine ih (i + 1) _ (by omega) (old_tr (old_tr ho (old_w (by omega) p1)) (old_putR (by omega))) (by show sm_N M2 = _; omega) (by show sm_U M2 = _; omega) ?_
      have h2' := ce_pR (k := i) (v := some (n + 11 + 2 * i)) h2
      rw [rfs_s rfl] at h2'
      exact ⟨ce_pRn h1 (by omega), h2', pk_pRn h3 (by omega) (by omega), cd_pRn h4 (by omega), ce_pRn h5 (by omega), ce_pRn h6 (by omega), ce_pRn h7 (by omega), ce_pRn h8 (by omega), fun j hj => by
        by_cases hji : j = i
        · subst hji; exact pk_pRn p4 (by omega) (by omega)
        · exact pk_pRn (h9 j (by omega)) (by omega) (by omega), fun e he => absurd he (Nat.not_lt_zero _)⟩
  -- the single cells
  refine bb_137_0 ?_
  rw [show (60 : Int32).toNatClampNeg = 60 from rfl]
  have na : sm_N (sm_new M 36 0 10) = n + 1 := by show sm_N M + 1 = _; omega
  have a1 := ce_newn (K' := 25) (L' := 60) (u := 60) cw0 na (by omega)
  have a2 : cel (sm_new (sm_new M 36 0 10) 25 60 60) (n + 1) 25 60 z0 e0 := by rw [← na]; exact ce_new
  refine ⟨a1.1, ?_⟩
  rw [na]
  have b1 := ce_pR (k := 0) (v := some (n + 1)) a1
  have b2 := ce_pRn (b := n) (k := 0) (v := some (n + 1)) a2 (by omega)
  have ob : old_ n M (sm_putR (sm_new (sm_new M 36 0 10) 25 60 60) n 0 (some (n + 1))) := old_tr (old_tr o0 (old_new (by omega))) (old_putR (Nat.le_refl _))
  generalize hMb : sm_putR (sm_new (sm_new M 36 0 10) 25 60 60) n 0 (some (n + 1)) = Mb at b1 b2 ob
  have nb : sm_N Mb = n + 2 := by subst hMb; show sm_N M + 1 + 1 = _; omega
  have ub : sm_U Mb = sm_U M + 70 := by subst hMb; rfl
  refine ru_mono (c_pkI (D := D + 1) (M := Mb)) ?_
  rintro v Mc ⟨rfl, ⟨p1, p2, p3⟩, p4⟩
  rw [nb] at p4 ⊢
  have c1 := ce_old b1 p1 (by omega)
  have c2 := ce_old b2 p1 (by omega)
  refine bb_137_21 ⟨c1.1, ?_⟩
  have d1 := ce_pR (k := 1) (v := some (n + 2)) c1
  have d2 := ce_pRn (b := n) (k := 1) (v := some (n + 2)) c2 (by omega)
  have d3 : pkF (sm_putR Mc n 1 (some (n + 2))) (n + 2) := pk_pRn p4 (by omega) (by omega)
  have od : old_ n M (sm_putR Mc n 1 (some (n + 2))) := old_tr (old_tr ob (old_w (by omega) p1)) (old_putR (Nat.le_refl _))
  generalize hMd : sm_putR Mc n 1 (some (n + 2)) = Md at d1 d2 d3 od
  have nd : sm_N Md = n + 4 := by subst hMd; show sm_N Mc = _; omega
  have ud : sm_U Md = sm_U M + 142 := by subst hMd; show sm_U Mc = _; omega
  refine ru_mono (c_cdI (D := D + 1) (M := Md)) ?_
  rintro v Me ⟨rfl, ⟨q1, q2, q3⟩, q4⟩
  rw [nd] at q4 ⊢
  have e1 := ce_old d1 q1 (by omega)
  have e2 := ce_old d2 q1 (by omega)
  have e3 := pk_old d3 q1 (by omega)
  refine bb_137_32 ?_
  rw [show (6 : Int32).toNatClampNeg = 6 from rfl, show (50 : Int32).toNatClampNeg = 50 from rfl]
  refine ⟨e1.1, ?_⟩
  have f1 := ce_pR (k := 2) (v := some (n + 4)) e1
  have f2 := ce_pRn (b := n) (k := 2) (v := some (n + 4)) e2 (by omega)
  have f3 : pkF (sm_putR Me n 2 (some (n + 4))) (n + 2) := pk_pRn e3 (by omega) (by omega)
  have f4 : cdF (sm_putR Me n 2 (some (n + 4))) (n + 4) := cd_pRn q4 (by omega)
  have of_ : old_ n M (sm_putR Me n 2 (some (n + 4))) := old_tr (old_tr od (old_w (by omega) q1)) (old_putR (Nat.le_refl _))
  generalize hMf : sm_putR Me n 2 (some (n + 4)) = Mf at f1 f2 f3 f4 of_
  have nf : sm_N Mf = n + 7 := by subst hMf; show sm_N Me = _; omega
  have uf : sm_U Mf = sm_U M + 1366 := by subst hMf; show sm_U Me = _; omega
  have g1 := ce_newn (K' := 16) (L' := 6) (u := 6) f1 nf (by omega)
  refine ⟨g1.1, ?_⟩
  rw [nf]
  have og : old_ (n + 7) Mf (sm_new Mf 16 6 6) := old_new (by omega)
  have g5 : cel (sm_new Mf 16 6 6) (n + 7) 16 6 z0 e0 := by rw [← nf]; exact ce_new
  have h1 := ce_pR (k := 3) (v := some (n + 7)) g1
  have h2 := ce_pRn (b := n) (k := 3) (v := some (n + 7)) (ce_old f2 og (by omega)) (by omega)
  have h3 : pkF (sm_putR (sm_new Mf 16 6 6) n 3 (some (n + 7))) (n + 2) := pk_pRn (pk_old f3 og (by omega)) (by omega) (by omega)
  have h4 : cdF (sm_putR (sm_new Mf 16 6 6) n 3 (some (n + 7))) (n + 4) := cd_pRn (cd_old f4 og (by omega)) (by omega)
  have h5 := ce_pRn (b := n) (k := 3) (v := some (n + 7)) g5 (by omega)
  have oh : old_ n M (sm_putR (sm_new Mf 16 6 6) n 3 (some (n + 7))) := old_tr (old_tr of_ (old_w (by omega) og)) (old_putR (Nat.le_refl _))
  generalize hMh : sm_putR (sm_new Mf 16 6 6) n 3 (some (n + 7)) = Mh at h1 h2 h3 h4 h5 oh
  have nh : sm_N Mh = n + 8 := by subst hMh; show sm_N Mf + 1 = _; omega
  have uh : sm_U Mh = sm_U M + 1372 := by subst hMh; show sm_U Mf + 6 = _; omega
  have i1 := ce_newn (K' := 26) (L' := 50) (u := 50) h1 nh (by omega)
  refine ⟨i1.1, ?_⟩
  rw [nh]
  have oi : old_ (n + 8) Mh (sm_new Mh 26 50 50) := old_new (by omega)
  have i6 : cel (sm_new Mh 26 50 50) (n + 8) 26 50 z0 e0 := by rw [← nh]; exact ce_new
  have j1 := ce_pR (k := 4) (v := some (n + 8)) i1
  have j2 := ce_pRn (b := n) (k := 4) (v := some (n + 8)) (ce_old h2 oi (by omega)) (by omega)
  have j3 : pkF (sm_putR (sm_new Mh 26 50 50) n 4 (some (n + 8))) (n + 2) := pk_pRn (pk_old h3 oi (by omega)) (by omega) (by omega)
  have j4 : cdF (sm_putR (sm_new Mh 26 50 50) n 4 (some (n + 8))) (n + 4) := cd_pRn (cd_old h4 oi (by omega)) (by omega)
  have j5 := ce_pRn (b := n) (k := 4) (v := some (n + 8)) (ce_old h5 oi (by omega)) (by omega)
  have j6 := ce_pRn (b := n) (k := 4) (v := some (n + 8)) i6 (by omega)
  have oj : old_ n M (sm_putR (sm_new Mh 26 50 50) n 4 (some (n + 8))) := old_tr (old_tr oh (old_w (by omega) oi)) (old_putR (Nat.le_refl _))
  generalize hMj : sm_putR (sm_new Mh 26 50 50) n 4 (some (n + 8)) = Mj at j1 j2 j3 j4 j5 j6 oj
  have nj : sm_N Mj = n + 9 := by subst hMj; show sm_N Mh + 1 = _; omega
  have uj : sm_U Mj = sm_U M + 1422 := by subst hMj; show sm_U Mh + 50 = _; omega
  refine bb_137_52 ?_
  rw [show (50 : Int32).toNatClampNeg = 50 from rfl]
  have k1 := ce_newn (K' := 29) (L' := 50) (u := 50) j1 nj (by omega)
  refine ⟨k1.1, ?_⟩
  rw [nj]
  have ok : old_ (n + 9) Mj (sm_new Mj 29 50 50) := old_new (by omega)
  have k7 : cel (sm_new Mj 29 50 50) (n + 9) 29 50 z0 e0 := by rw [← nj]; exact ce_new
  have l1 := ce_pR (k := 5) (v := some (n + 9)) k1
  have l2 := ce_pRn (b := n) (k := 5) (v := some (n + 9)) (ce_old j2 ok (by omega)) (by omega)
  have l3 : pkF (sm_putR (sm_new Mj 29 50 50) n 5 (some (n + 9))) (n + 2) := pk_pRn (pk_old j3 ok (by omega)) (by omega) (by omega)
  have l4 : cdF (sm_putR (sm_new Mj 29 50 50) n 5 (some (n + 9))) (n + 4) := cd_pRn (cd_old j4 ok (by omega)) (by omega)
  have l5 := ce_pRn (b := n) (k := 5) (v := some (n + 9)) (ce_old j5 ok (by omega)) (by omega)
  have l6 := ce_pRn (b := n) (k := 5) (v := some (n + 9)) (ce_old j6 ok (by omega)) (by omega)
  have l7 := ce_pRn (b := n) (k := 5) (v := some (n + 9)) k7 (by omega)
  have ol : old_ n M (sm_putR (sm_new Mj 29 50 50) n 5 (some (n + 9))) := old_tr (old_tr oj (old_w (by omega) ok)) (old_putR (Nat.le_refl _))
  generalize hMl : sm_putR (sm_new Mj 29 50 50) n 5 (some (n + 9)) = Ml at l1 l2 l3 l4 l5 l6 l7 ol
  have nl : sm_N Ml = n + 10 := by subst hMl; show sm_N Mj + 1 = _; omega
  have ul : sm_U Ml = sm_U M + 1472 := by subst hMl; show sm_U Mj + 50 = _; omega
  have m1 := ce_newn (K' := 32) (L' := 50) (u := 50) l1 nl (by omega)
  refine ⟨m1.1, ?_⟩
  rw [nl]
  have om : old_ (n + 10) Ml (sm_new Ml 32 50 50) := old_new (by omega)
  have m8 : cel (sm_new Ml 32 50 50) (n + 10) 32 50 z0 e0 := by rw [← nl]; exact ce_new
  refine lp 60 0 _ rfl ?_ ?_ ?_ ⟨ce_pI (ce_pR m1), ?_, ?_, ?_, ?_, ?_, ?_, ?_, fun j hj => absurd hj (Nat.not_lt_zero _), fun e he => absurd he (Nat.not_lt_zero _)⟩
  · exact old_tr (old_tr (old_tr ol (old_w (by omega) om)) (old_putR (Nat.le_refl _))) (old_putI (Nat.le_refl _))
  · show sm_N Ml + 1 = _; omega
  · show sm_U Ml + 50 = _; omega
  · rw [rfs_0]; exact ce_pIn (ce_pRn (ce_old l2 om (by omega)) (by omega)) (by omega)
  · exact ⟨ce_pIn (ce_pRn (ce_old l3.1 om (by omega)) (by omega)) (by omega), ce_pIn (ce_pRn (ce_old l3.2 om (by omega)) (by omega)) (by omega)⟩
  · exact ⟨ce_pIn (ce_pRn (ce_old l4.1 om (by omega)) (by omega)) (by omega), ce_pIn (ce_pRn (ce_old l4.2.1 om (by omega)) (by omega)) (by omega), ce_pIn (ce_pRn (ce_old l4.2.2 om (by omega)) (by omega)) (by omega)⟩
  · rw [rfs_0]; exact ce_pIn (ce_pRn (ce_old l5 om (by omega)) (by omega)) (by omega)
  · exact ce_pIn (ce_pRn (ce_old l6 om (by omega)) (by omega)) (by omega)
  · exact ce_pIn (ce_pRn (ce_old l7 om (by omega)) (by omega)) (by omega)
  · exact ce_pIn (ce_pRn m8 (by omega)) (by omega)
end CW
