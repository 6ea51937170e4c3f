/-! Constructors: cells as they are made -/
section CC
variable {M M' : sm_M} {D : Nat}
def cel (M : sm_M) (a K L : Nat) (I : Nat → Int32) (R : Nat → Option Nat) : Prop := sm_K M a = K ∧ sm_L M a = L ∧ sm_I M a = I ∧ sm_R M a = R
abbrev z0 : Nat → Int32 := fun _ => 0
abbrev e0 : Nat → Option Nat := fun _ => none
theorem ce_old {n a K L : Nat} {I : Nat → Int32} {R : Nat → Option Nat} (h : cel M a K L I R) (ho : old_ n M M') (ha : a < n) : cel M' a K L I R := by
  obtain ⟨h1, h2, h3, h4⟩ := h
  obtain ⟨o1, o2, o3, o4⟩ := ho.1 a ha
  exact ⟨o1.trans h1, o2.trans h2, o3.trans h3, o4.trans h4⟩
theorem ce_new {K L u : Nat} : cel (sm_new M K L u) (sm_N M) K L z0 e0 := by
  refine ⟨?_, ?_, ?_, ?_⟩ <;> (show sm_u1 _ _ _ _ = _; unfold sm_u1; rw [if_pos rfl])
theorem ce_newn {a n K L K' L' u : Nat} {I : Nat → Int32} {R : Nat → Option Nat} (h : cel M a K L I R) (hn : sm_N M = n) (ha : a < n) : cel (sm_new M K' L' u) a K L I R := ce_old h (old_new (Nat.le_of_eq hn.symm)) ha
theorem ce_pI {a k K L : Nat} {v : Int32} {I : Nat → Int32} {R : Nat → Option Nat} (h : cel M a K L I R) : cel (sm_putI M a k v) a K L (sm_u1 I k v) R := by
  obtain ⟨h1, h2, h3, h4⟩ := h
  refine ⟨h1, h2, ?_, h4⟩
  funext j
  show (if a = a ∧ j = k then v else sm_I M a j) = if j = k then v else I j
  rw [h3]
  by_cases q : j = k
  · rw [if_pos ⟨rfl, q⟩, if_pos q]
  · rw [if_neg (fun c => q c.2), if_neg q]
theorem ce_pIn {a b k K L : Nat} {v : Int32} {I : Nat → Int32} {R : Nat → Option Nat} (h : cel M a K L I R) (hb : a ≠ b) : cel (sm_putI M b k v) a K L I R := by
  obtain ⟨h1, h2, h3, h4⟩ := h
  refine ⟨h1, h2, ?_, h4⟩
  funext j
  rw [I_put_a hb, h3]
theorem ce_pR {a k K L : Nat} {v : Option Nat} {I : Nat → Int32} {R : Nat → Option Nat} (h : cel M a K L I R) : cel (sm_putR M a k v) a K L I (sm_u1 R k v) := by
  obtain ⟨h1, h2, h3, h4⟩ := h
  refine ⟨h1, h2, h3, ?_⟩
  funext j
  show (if a = a ∧ j = k then v else sm_R M a j) = if j = k then v else R j
  rw [h4]
  by_cases q : j = k
  · rw [if_pos ⟨rfl, q⟩, if_pos q]
  · rw [if_neg (fun c => q c.2), if_neg q]
theorem ce_pRn {a b k K L : Nat} {v : Option Nat} {I : Nat → Int32} {R : Nat → Option Nat} (h : cel M a K L I R) (hb : a ≠ b) : cel (sm_putR M b k v) a K L I R := by
  obtain ⟨h1, h2, h3, h4⟩ := h
  refine ⟨h1, h2, h3, ?_⟩
  funext j
  rw [R_put, if_neg (fun q => hb q.1), h4]
/-- what a constructor leaves: n cells from sm_N M on -/
def mkd (M M' : sm_M) (k u : Nat) : Prop := old_ (sm_N M) M M' ∧ sm_N M' = sm_N M + k ∧ sm_U M' = sm_U M + u
def pkF (M : sm_M) (n : Nat) : Prop := cel M n 24 0 z0 (sm_u1 e0 3 (some (n + 1))) ∧ cel M (n + 1) 20 64 z0 e0
theorem c_pkI : sm_Run (D + 1) 104 0 (sm_ent 104 [.inr (some (sm_N M))]) [] (sm_new M 24 0 8) (fun v M' => v = none ∧ mkd M M' 2 72 ∧ pkF M' (sm_N M)) := by
  refine bb_104_0 ?_
  rw [show (64 : Int32).toNatClampNeg = 64 from rfl]
  have c1 : cel (sm_new (sm_new M 24 0 8) 20 64 64) (sm_N M) 24 0 z0 e0 := ce_newn ce_new rfl (by show sm_N M < sm_N M + 1; omega)
  have c2 : cel (sm_new (sm_new M 24 0 8) 20 64 64) (sm_N M + 1) 20 64 z0 e0 := ce_new
  refine ⟨c1.1, rfl, ⟨?_, rfl, rfl⟩, ce_pR c1, ce_pRn c2 (by omega)⟩
  exact old_tr (old_tr (old_new (Nat.le_refl _)) (old_new (by show sm_N M ≤ sm_N M + 1; omega))) (old_putR (Nat.le_refl _))
def cdF (M : sm_M) (n : Nat) : Prop := cel M n 9 0 z0 (sm_u1 (sm_u1 e0 0 (some (n + 1))) 2 (some (n + 2))) ∧ cel M (n + 1) 8 560 z0 e0 ∧ cel M (n + 2) 11 660 z0 e0
theorem c_cdI : sm_Run (D + 1) 37 0 (sm_ent 37 [.inr (some (sm_N M))]) [] (sm_new M 9 0 4) (fun v M' => v = none ∧ mkd M M' 3 1224 ∧ cdF M' (sm_N M)) := by
  refine bb_37_0 ?_
  rw [show (560 : Int32).toNatClampNeg = 560 from rfl, show (660 : Int32).toNatClampNeg = 660 from rfl]
  have c1 : cel (sm_new (sm_new M 9 0 4) 8 560 560) (sm_N M) 9 0 z0 e0 := ce_newn ce_new rfl (by show sm_N M < sm_N M + 1; omega)
  have c2 : cel (sm_new (sm_new M 9 0 4) 8 560 560) (sm_N M + 1) 8 560 z0 e0 := ce_new
  have d1 := ce_pR (k := 0) (v := some (sm_N (sm_new M 9 0 4))) c1
  have d2 := ce_pRn (b := sm_N M) (k := 0) (v := some (sm_N (sm_new M 9 0 4))) c2 (by omega)
  have f1 := ce_newn (K' := 11) (L' := 660) (u := 660) d1 (n := sm_N M + 2) rfl (by omega)
  have f2 := ce_newn (K' := 11) (L' := 660) (u := 660) d2 (n := sm_N M + 2) rfl (by omega)
  refine ⟨c1.1, f1.1, rfl, ⟨?_, rfl, rfl⟩, ce_pR f1, ce_pRn f2 (by omega), ce_pRn ce_new (by show sm_N M + 2 ≠ sm_N M; omega)⟩
  exact old_tr (old_tr (old_tr (old_new (Nat.le_refl _)) (old_new (by show sm_N M ≤ sm_N M + 1; omega))) (old_putR (Nat.le_refl _))) (old_tr (old_new (by show sm_N M ≤ sm_N M + 1 + 1; omega)) (old_putR (Nat.le_refl _)))
def cpF (M : sm_M) (n : Nat) : Prop := cel M n 12 0 z0 (sm_u1 e0 2 (some (n + 1))) ∧ cel M (n + 1) 14 64 z0 e0
theorem c_cpI : sm_Run (D + 1) 52 0 (sm_ent 52 [.inr (some (sm_N M))]) [] (sm_new M 12 0 10) (fun v M' => v = none ∧ mkd M M' 2 74 ∧ cpF M' (sm_N M)) := by
  refine bb_52_0 ?_
  rw [show (64 : Int32).toNatClampNeg = 64 from rfl]
  have c1 : cel (sm_new (sm_new M 12 0 10) 14 64 64) (sm_N M) 12 0 z0 e0 := ce_newn ce_new rfl (by show sm_N M < sm_N M + 1; omega)
  have c2 : cel (sm_new (sm_new M 12 0 10) 14 64 64) (sm_N M + 1) 14 64 z0 e0 := ce_new
  refine ⟨c1.1, rfl, ⟨?_, rfl, rfl⟩, ce_pR c1, ce_pRn c2 (by omega)⟩
  exact old_tr (old_tr (old_new (Nat.le_refl _)) (old_new (by show sm_N M ≤ sm_N M + 1; omega))) (old_putR (Nat.le_refl _))
def byF (M : sm_M) (n cap : Nat) : Prop := cel M n 6 0 z0 (sm_u1 e0 0 (some (n + 1))) ∧ cel M (n + 1) 5 cap z0 e0
theorem c_byI {x : Int32} {cap : Nat} (hx : (if 1 < x then x else 1) = nI cap) (hc : cap ≤ 1000) : sm_Run (D + 1) 29 0 (sm_ent 29 [.inr (some (sm_N M)), .inl x]) [] (sm_new M 6 0 3) (fun v M' => v = none ∧ mkd M M' 2 (3 + cap) ∧ byF M' (sm_N M) cap) := by
  refine bb_29_0 ?_
  rw [hx, nI_clamp (by omega), nI_toInt (by omega)]
  have c1 : cel (sm_new (sm_new M 6 0 3) 5 cap cap) (sm_N M) 6 0 z0 e0 := ce_newn ce_new rfl (by show sm_N M < sm_N M + 1; omega)
  have c2 : cel (sm_new (sm_new M 6 0 3) 5 cap cap) (sm_N M + 1) 5 cap z0 e0 := ce_new
  refine ⟨by omega, c1.1, rfl, ⟨?_, rfl, by show sm_U M + 3 + cap = _; omega⟩, ce_pR c1, ce_pRn c2 (by omega)⟩
  exact old_tr (old_tr (old_new (Nat.le_refl _)) (old_new (by show sm_N M ≤ sm_N M + 1; omega))) (old_putR (Nat.le_refl _))
def peF (M : sm_M) (n : Nat) : Prop := cel M n 27 0 (sm_u1 (sm_u1 z0 0 0) 2 8) (sm_u1 e0 3 (some (n + 1))) ∧ cel M (n + 1) 31 6 z0 e0
theorem c_peI : sm_Run (D + 1) 111 0 (sm_ent 111 [.inr (some (sm_N M))]) [] (sm_new M 27 0 6) (fun v M' => v = none ∧ mkd M M' 2 12 ∧ peF M' (sm_N M)) := by
  refine bb_111_0 ?_
  rw [show (6 : Int32).toNatClampNeg = 6 from rfl]
  have c0 : cel (sm_new M 27 0 6) (sm_N M) 27 0 z0 e0 := ce_new
  have c1 := ce_pI (k := 2) (v := 8) (ce_pI (k := 0) (v := 0) c0)
  have c2 := ce_newn (K' := 31) (L' := 6) (u := 6) c1 (n := sm_N M + 1) rfl (by omega)
  refine ⟨c0.1, c2.1, rfl, ⟨?_, rfl, rfl⟩, ce_pR c2, ce_pRn ce_new (by show sm_N M + 1 ≠ sm_N M; omega)⟩
  exact old_tr (old_tr (old_tr (old_tr (old_new (Nat.le_refl _)) (old_putI (Nat.le_refl _))) (old_putI (Nat.le_refl _))) (old_new (by show sm_N M ≤ sm_N M + 1; omega))) (old_putR (Nat.le_refl _))
def dvF (M : sm_M) (n : Nat) : Prop := cel M n 15 0 (sm_u1 (sm_u1 (sm_u1 z0 0 8) 3 0) 9 (-1)) (sm_u1 (sm_u1 (sm_u1 (sm_u1 e0 5 (some (n + 1))) 7 (some (n + 2))) 8 (some (n + 3))) 12 (some (n + 5))) ∧ cel M (n + 1) 19 6 z0 e0 ∧ cel M (n + 2) 17 64 z0 e0 ∧ cpF M (n + 3) ∧ pkF M (n + 5)
theorem cp_old {n m : Nat} (h : cpF M m) (ho : old_ n M M') (hm : m + 1 < n) : cpF M' m := ⟨ce_old h.1 ho (by omega), ce_old h.2 ho hm⟩
theorem pk_old {n m : Nat} (h : pkF M m) (ho : old_ n M M') (hm : m + 1 < n) : pkF M' m := ⟨ce_old h.1 ho (by omega), ce_old h.2 ho hm⟩
theorem cp_pRn {m b k : Nat} {v : Option Nat} (h : cpF M m) (h1 : m ≠ b) (h2 : m + 1 ≠ b) : cpF (sm_putR M b k v) m := ⟨ce_pRn h.1 h1, ce_pRn h.2 h2⟩
theorem pk_pRn {m b k : Nat} {v : Option Nat} (h : pkF M m) (h1 : m ≠ b) (h2 : m + 1 ≠ b) : pkF (sm_putR M b k v) m := ⟨ce_pRn h.1 h1, ce_pRn h.2 h2⟩
theorem c_dvI : sm_Run (D + 2) 59 0 (sm_ent 59 [.inr (some (sm_N M))]) [] (sm_new M 15 0 13) (fun v M' => v = none ∧ mkd M M' 7 229 ∧ dvF M' (sm_N M)) := by
  refine bb_59_0 ?_
  rw [show (6 : Int32).toNatClampNeg = 6 from rfl, show (64 : Int32).toNatClampNeg = 64 from rfl]
  have c0 : cel (sm_new M 15 0 13) (sm_N M) 15 0 z0 e0 := ce_new
  have c1 := ce_pI (k := 3) (v := 0) (ce_pI (k := 0) (v := 8) c0)
  have o1 : old_ (sm_N M) M (sm_putI (sm_putI (sm_new M 15 0 13) (sm_N M) 0 8) (sm_N M) 3 0) := old_tr (old_tr (old_new (Nat.le_refl _)) (old_putI (Nat.le_refl _))) (old_putI (Nat.le_refl _))
  generalize hM1 : sm_putI (sm_putI (sm_new M 15 0 13) (sm_N M) 0 8) (sm_N M) 3 0 = M1 at c1 o1
  have n1 : sm_N M1 = sm_N M + 1 := by subst hM1; rfl
  have u1 : sm_U M1 = sm_U M + 13 := by subst hM1; rfl
  have c2 := ce_newn (K' := 19) (L' := 6) (u := 6) c1 (n := sm_N M + 1) n1 (by omega)
  refine ⟨c0.1, c2.1, ?_⟩
  have d2 := ce_pR (k := 5) (v := some (sm_N M1)) c2
  have a2 : cel (sm_new M1 19 6 6) (sm_N M1) 19 6 z0 e0 := ce_new
  have b2 := ce_pRn (b := sm_N M) (k := 5) (v := some (sm_N M1)) a2 (by omega)
  have o2 : old_ (sm_N M) M1 (sm_putR (sm_new M1 19 6 6) (sm_N M) 5 (some (sm_N M1))) := old_tr (old_new (by omega)) (old_putR (Nat.le_refl _))
  generalize hM2 : sm_putR (sm_new M1 19 6 6) (sm_N M) 5 (some (sm_N M1)) = M2 at d2 b2 o2
  have n2 : sm_N M2 = sm_N M + 2 := by subst hM2; show sm_N M1 + 1 = _; omega
  have u2 : sm_U M2 = sm_U M + 19 := by subst hM2; show sm_U M1 + 6 = _; omega
  have c3 := ce_newn (K' := 17) (L' := 64) (u := 64) d2 n2 (by omega)
  have b3 := ce_newn (K' := 17) (L' := 64) (u := 64) b2 n2 (by omega)
  refine ⟨c3.1, ?_⟩
  have d3 := ce_pR (k := 7) (v := some (sm_N M2)) c3
  have e3 := ce_pRn (b := sm_N M) (k := 7) (v := some (sm_N M2)) b3 (by omega)
  have a3 : cel (sm_new M2 17 64 64) (sm_N M2) 17 64 z0 e0 := ce_new
  have f3 := ce_pRn (b := sm_N M) (k := 7) (v := some (sm_N M2)) a3 (by omega)
  have o3 : old_ (sm_N M) M2 (sm_putR (sm_new M2 17 64 64) (sm_N M) 7 (some (sm_N M2))) := old_tr (old_new (by omega)) (old_putR (Nat.le_refl _))
  generalize hM3 : sm_putR (sm_new M2 17 64 64) (sm_N M) 7 (some (sm_N M2)) = M3 at d3 e3 f3 o3
  have n3 : sm_N M3 = sm_N M + 3 := by subst hM3; show sm_N M2 + 1 = _; omega
  have u3 : sm_U M3 = sm_U M + 83 := by subst hM3; show sm_U M2 + 64 = _; omega
  refine bb_59_32 (ru_mono (c_cpI (D := D) (M := M3)) ?_)
  rintro v M4 ⟨rfl, ⟨p1, p2, p3⟩, p4⟩
  have d4 := ce_old d3 p1 (by omega)
  have e4 := ce_old e3 p1 (by omega)
  have f4 := ce_old f3 p1 (by omega)
  refine bb_59_40 ⟨d4.1, d4.1, ?_⟩
  have d5 := ce_pI (k := 9) (v := -1) (ce_pR (k := 8) (v := some (sm_N M3)) d4)
  have e5 := ce_pIn (b := sm_N M) (k := 9) (v := -1) (ce_pRn (b := sm_N M) (k := 8) (v := some (sm_N M3)) e4 (by omega)) (by omega)
  have f5 := ce_pIn (b := sm_N M) (k := 9) (v := -1) (ce_pRn (b := sm_N M) (k := 8) (v := some (sm_N M3)) f4 (by omega)) (by omega)
  have g5 : cpF (sm_putI (sm_putR M4 (sm_N M) 8 (some (sm_N M3))) (sm_N M) 9 (-1)) (sm_N M3) := ⟨ce_pIn (ce_pRn p4.1 (by omega)) (by omega), ce_pIn (ce_pRn p4.2 (by omega)) (by omega)⟩
  have o5 : old_ (sm_N M) M4 (sm_putI (sm_putR M4 (sm_N M) 8 (some (sm_N M3))) (sm_N M) 9 (-1)) := old_tr (old_putR (Nat.le_refl _)) (old_putI (Nat.le_refl _))
  generalize hM5 : sm_putI (sm_putR M4 (sm_N M) 8 (some (sm_N M3))) (sm_N M) 9 (-1) = M5 at d5 e5 f5 g5 o5
  have n5 : sm_N M5 = sm_N M + 5 := by subst hM5; show sm_N M4 = _; omega
  have u5 : sm_U M5 = sm_U M + 157 := by subst hM5; show sm_U M4 = _; omega
  refine ru_mono (c_pkI (D := D) (M := M5)) ?_
  rintro v M6 ⟨rfl, ⟨q1, q2, q3⟩, q4⟩
  have d6 := ce_old d5 q1 (by omega)
  have e6 := ce_old e5 q1 (by omega)
  have f6 := ce_old f5 q1 (by omega)
  have g6 := cp_old g5 q1 (by omega)
  rw [n1] at e6 d6
  rw [n2] at f6 d6
  rw [n3] at g6 d6
  rw [n5] at q4
  refine bb_59_56 ⟨d6.1, rfl, ⟨?_, ?_, ?_⟩, ?_, ce_pRn e6 (by omega), ce_pRn f6 (by omega), cp_pRn g6 (by omega) (by omega), pk_pRn q4 (by omega) (by omega)⟩
  · have w : ∀ {n n' : Nat} {A B : sm_M}, n ≤ n' → old_ n' A B → old_ n A B := fun hn h => ⟨fun b hb => h.1 b (by omega), h.2⟩
    exact old_tr (old_tr (old_tr (old_tr o1 (old_tr o2 o3)) (w (by omega) p1)) (old_tr o5 (w (by omega) q1))) (old_putR (Nat.le_refl _))
  · show sm_N M6 = _; omega
  · show sm_U M6 = _; omega
  · rw [n5]; exact ce_pR d6
end CC
