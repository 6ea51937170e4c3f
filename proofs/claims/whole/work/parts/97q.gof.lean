/-! What always holds of the host: FINDING goes on. -/
section HV_q
variable {P P' Q X : pP} {d k t : Nat}
theorem dd_160 {v : Nat} (h : DD X d) (h83 : s_ X 83 d ≠ 0) (h1 : v ≠ 1) (h2 : v = 2 → s_ X 161 d ≠ 0) : DD (pS X 160 d v) d := by
  obtain ⟨e1, e2, e3, e4, e5, e6, e7, e8, e9⟩ := h
  have en : ∀ f' j, f' ≠ 160 → s_ (pS X 160 d v) f' j = s_ X f' j := fun f' j n => s_n n
  have E2 : ∀ k, PR (pS X 160 d v) d k = PR X d k := fun k => by unfold PR pid; simp (disch := decide) only [en]
  have E3 : CFG (pS X 160 d v) d = CFG X d := by
    unfold CFG
    rw [conf_cg (P' := pS X 160 d v) (P := X) (s_n (by decide)) (fun f k k1 k2 _ => s_n (by omega))]
    simp (disch := decide) only [en, b_S]
  have E4 : EPs (pS X 160 d v) d = EPs X d := by unfold EPs; simp (disch := decide) only [en]
  have e160 : s_ (pS X 160 d v) 160 d = v := by rw [s_S, if_pos ⟨rfl, rfl⟩]
  unfold DD
  rw [E3, E4, e160, en 83 d (by decide), en 161 d (by decide), en 162 d (by decide), en 164 d (by decide), en 165 d (by decide), en 86 d (by decide)]
  exact ⟨fun z => absurd z h83, e2, fun q => absurd q h1, h2, e5, e6, fun k hk => by rw [E2]; exact e7 k hk, e8, e9⟩
/-- FINDING goes on -/
theorem inv_gof (hI : INV X) (hF : FN X t) (h86 : ∀ d, d < 6 → s_ X 86 d ≤ 6) (hx : ∀ d, s_ X 165 d ≤ s_ X 122 0) : INV (p_gof X t) := by
  obtain ⟨f1, f2, f3, f4, f5, f6, f7, f8, f9, f10, f11, f12, f13, f14, f15⟩ := hF
  obtain ⟨iG, iT, iW, iU, iF, iN, iR, iQ, iD, iI⟩ := id hI
  have a1 := (iT t f1).1
  have a11 := (iT t f1).2.2.2.2.2.2.2.2.2.2.1
  generalize hd : s_ X 200 t = d at *
  obtain ⟨e1, e2, e3, e4, e5, e6, e7, e8, e9⟩ := iD d a1
  obtain ⟨w1, w2, w3, w4, w5⟩ := id f7
  -- the end of FINDING
  have bad : INV (pS X 160 d 3) := inv_pS hI a1 (by omega) f12 (dd_160 (iD d a1) f14 (by decide) (fun q => by omega))
  -- the next one
  have nxt : ∀ (Z : pP) (s tot : Nat), INV Z → s = s_ X 208 t + 1 → s ≤ 6 → (∀ f j, f ≠ 161 → f ≠ 162 → f ≠ 165 → s_ Z f j = s_ X f j) → s_ Z 161 d ≠ 0 ∨ s = 2 → (s = 2 → s_ Z 161 d = 0) → (∀ d, s_ Z 165 d ≤ s_ X 122 0) → (s = 2 → s_ X 83 d = 1) → (s = 5 → 18 ≤ tot ∧ tot ≤ 60) → (s = 6 → s_ Z 165 d ≠ 0) → INV (p_fnd Z d s tot) := by
    intro Z s tot hZ es h6 hz q161 q161' q165 q2 q5 q6
    have wz : ∀ t', wtc Z t' → wtc X t' := fun t' hw => by
      unfold wtc at *
      rw [hz 122 0 (by decide) (by decide) (by decide), hz 211 t' (by decide) (by decide) (by decide), hz 213 t' (by decide) (by decide) (by decide)] at hw
      exact hw
    refine inv_fnd hZ a1 (by omega) (by rw [hz 83 d (by decide) (by decide) (by decide)]; exact f14) (by rw [hz 160 d (by decide) (by decide) (by decide)]; exact f5) ?_ (fun t' hw => by rw [hz 200 t' (by decide) (by decide) (by decide)]; exact f12 t' (wz t' hw)) (fun c => by omega) (fun c => by rw [hz 83 d (by decide) (by decide) (by decide)]; exact q2 c) q5 q6 ?_ (fun d' => by rw [hz 122 0 (by decide) (by decide) (by decide)]; exact q165 d')
    · constructor
      · intro c; exact q161' (by omega)
      · intro c
        rcases q161 with z | z
        · exact absurd c z
        · exact Or.inr z
    · obtain ⟨r, r1, r2, r3, r4⟩ := f13
      have r0 : 1 ≤ r d := by omega
      have sd := sum6_dn (r := r) a1 r0
      refine ⟨fun e => if e = d then r e - 1 else r e, fun e => ?_, fun t' hw n => ?_, ?_, ?_⟩
      · have := r1 e
        dsimp only
        split <;> omega
      · rw [hz 208 t' (by decide) (by decide) (by decide)] at n
        have nd := f12 t' (wz t' hw)
        rw [hz 208 t' (by decide) (by decide) (by decide), hz 200 t' (by decide) (by decide) (by decide)]
        dsimp only
        rw [if_neg nd]
        exact r2 t' (wz t' hw) n
      · dsimp only
        rw [if_pos rfl]; omega
      · rw [hz 122 0 (by decide) (by decide) (by decide)]; omega
  have pst : ∀ f v, f = 161 ∨ f = 162 ∨ f = 165 → DD (pS X f d v) d → INV (pS X f d v) := fun f v hf h => inv_pS hI a1 (by omega) f12 h
  have dpS : ∀ f v, f = 161 ∨ f = 162 ∨ f = 165 → (f = 161 → v ≠ 0) → (f = 162 → v ≤ 64) → (f = 165 → CFG (pS X f d v) d) → DD (pS X f d v) d := by
    intro f v hf k1 k2 k3
    have en : ∀ f' j, f' ≠ f → s_ (pS X f d v) f' j = s_ X f' j := fun f' j n => s_n n
    have E2 : ∀ k, PR (pS X f d v) d k = PR X d k := fun k => by unfold PR pid; simp (disch := omega) only [en]
    have E3 : f ≠ 165 → CFG (pS X f d v) d = CFG X d := fun n => by
      unfold CFG
      rw [conf_cg (P' := pS X f d v) (P := X) (en 86 d (by omega)) (fun f' k k1 k2 _ => en f' _ (by omega))]
      simp (disch := omega) only [en, b_S]
    have E4 : EPs (pS X f d v) d = EPs X d := by unfold EPs; simp (disch := omega) only [en]
    unfold DD
    rw [E4, en 83 d (by omega), en 160 d (by omega), en 164 d (by omega), en 86 d (by omega)]
    refine ⟨fun z => absurd z f14, ?_, e3, fun q => by omega, fun q => ?_, e6, fun k hk => by rw [E2]; exact e7 k hk, fun q => ?_, e9⟩
    · by_cases c : f = 162
      · rw [c, s_S, if_pos ⟨rfl, rfl⟩]; exact k2 c
      · rw [en 162 d (by omega)]; exact e2
    · have := e3 f5; omega
    · by_cases c : f = 165
      · exact k3 c
      · rw [E3 c]
        rw [en 165 d (by omega)] at q
        exact e8 q
  have n161 : s_ X 208 t ≠ 1 → s_ X 208 t ≠ 2 → s_ X 161 d ≠ 0 := fun c1 c2 c => by have := f6.mpr c; omega
  unfold p_gof
  rw [hd]
  by_cases qc : isCmp X t
  · rw [if_neg (fun c => c qc)]
    by_cases s1 : s_ X 208 t = 1
    · rw [if_pos s1]
      have m := f9 s1
      by_cases qb : isBk ((b_ X 36 t).getD 7 0)
      · rw [if_pos qb]
        have b64 : (b_ X 36 t).getD 7 0 ≤ 64 := by unfold isBk at qb; omega
        exact nxt _ 2 0 (pst 162 _ (by omega) (dpS 162 _ (by omega) (fun c => by omega) (fun _ => b64) (fun c => by omega))) (by omega) (by omega) (fun f j n1 n2 n3 => s_n n2) (Or.inr rfl) (fun _ => by rw [s_n (by decide)]; exact f6.mp (Or.inl s1)) (fun d' => by rw [s_n (by decide)]; exact hx d') (fun _ => m.1) (fun c => by omega) (fun c => by omega)
      · rw [if_neg qb]; exact bad
    · rw [if_neg s1]
      by_cases s2 : s_ X 208 t = 2
      · rw [if_pos s2]
        exact nxt _ 3 0 (pst 161 _ (by omega) (dpS 161 _ (by omega) (fun _ => by decide) (fun c => by omega) (fun c => by omega))) (by omega) (by omega) (fun f j n1 n2 n3 => s_n n1) (Or.inl (by rw [s_S, if_pos ⟨rfl, rfl⟩]; decide)) (fun c => by omega) (fun d' => by rw [s_n (by decide)]; exact hx d') (fun c => by omega) (fun c => by omega) (fun c => by omega)
      · rw [if_neg s2]
        have z161 := n161 s1 s2
        by_cases s4 : s_ X 208 t = 4
        · rw [if_pos s4]
          by_cases q4 : tot4 X t < 18 ∨ 60 < tot4 X t
          · rw [if_pos q4]; exact bad
          · rw [if_neg q4]
            exact nxt X 5 _ hI (by omega) (by omega) (fun f j _ _ _ => rfl) (Or.inl z161) (fun c => by omega) hx (fun c => by omega) (fun _ => by omega) (fun c => by omega)
        · rw [if_neg s4]
          by_cases s5 : s_ X 208 t = 5
          · rw [if_pos s5]
            have px := f10 s5
            have e203 : s_ X 203 t ≠ 0 := by rw [f8, w1, s5]; decide
            have e210 : s_ X 210 t = (b_ X 36 t).length := by rcases qc.2 with c | c; exact absurd c e203; exact c
            have cf : CFG (pS X 165 d (t + 1)) d := by
              have e165' : s_ (pS X 165 d (t + 1)) 165 d = t + 1 := by rw [s_S, if_pos ⟨rfl, rfl⟩]
              unfold CFG
              rw [conf_cg (P' := pS X 165 d (t + 1)) (P := X) (s_n (by decide)) (fun f' k k1 k2 _ => s_n (by omega)), e165', show t + 1 - 1 = t by omega, s_n (by decide), s_n (by decide), s_n (by decide), b_S]
              unfold PFX at px
              rw [hd, e210, List.take_length] at px
              have := w5 s5
              exact ⟨f3, e203, e210, this.1, this.2, px.1, px.2⟩
            exact nxt _ 6 0 (pst 165 _ (by omega) (dpS 165 _ (by omega) (fun c => by omega) (fun c => by omega) (fun _ => cf))) (by omega) (by omega) (fun f j n1 n2 n3 => s_n n3) (Or.inl (by rw [s_n (by decide)]; exact z161)) (fun c => by omega) (fun d' => by rw [s_S]; split; omega; exact hx d') (fun c => by omega) (fun c => by omega) (fun _ => by rw [s_S, if_pos ⟨rfl, rfl⟩]; omega)
          · rw [if_neg s5]
            by_cases s6 : s_ X 208 t = 6
            · rw [if_pos s6]
              have z165 := f11 s6
              have g1 : INV (pS X 160 d 2) := inv_pS hI a1 (by omega) f12 (dd_160 (iD d a1) f14 (by decide) (fun _ => z161))
              unfold p_open
              rw [if_neg z165]
              have e165 : s_ (pS X 160 d 2) 165 d = s_ X 165 d := s_n (by decide)
              have ol : OL (pS X 160 d 2) d 0 := by
                refine ⟨g1, fun d' hd' => by rw [s_n (by decide)]; exact h86 d' hd', a1, by rw [s_n (by decide)]; exact e3 f5, by omega, by rw [e165]; exact z165, by rw [s_S, if_pos ⟨rfl, rfl⟩]; decide, by rw [s_n (by decide)]; exact z161, by rw [s_n (by decide)]; exact f14, ?_⟩
                rw [s_n (by decide), s_n (by decide), s_n (by decide)]; omega
              have := inv_opL 13 0 _ ol
              rw [e165] at this
              exact this
            · rw [if_neg s6]
              have s3 : s_ X 208 t = 3 := by omega
              exact nxt X _ 0 hI rfl (by omega) (fun f j _ _ _ => rfl) (Or.inl z161) (fun c => by omega) hx (fun c => by omega) (fun c => by omega) (fun c => by omega)
  · rw [if_pos qc]; exact bad
end HV_q
