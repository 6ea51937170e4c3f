/-! Both sides at the start. -/
section JK_
variable {R : Nat → Nat → Int32} {r : Nat}
theorem co_start (hE : EXO (P0 r)) (h1 : 1 ≤ r) (h2 : r ≤ 40) (hR : rS0 (nI r) R) : CO (P0 r) R := by
  obtain ⟨q0, q69, q6, q55, qz⟩ := hR
  have hx := exo_ex hE
  have z : ∀ f j, (f ≠ 0 ∧ f ≠ 69 ∧ f ≠ 6 ∧ f ≠ 58 ∧ f ≠ 55) → R f j = nI 0 := fun f j n => qz f j n.1 n.2.1 n.2.2.1 n.2.2.2.1 n.2.2.2.2
  have v : ∀ f i, (f ≠ 0 ∧ f ≠ 80 ∧ f ≠ 162 ∧ f ≠ 128 ∧ f ≠ 184 ∧ f ≠ 130 ∧ f ≠ 63 ∧ f ≠ 140) → s_ (P0 r) f i = 0 := fun f i n => by
    rw [s0, if_neg (by omega), if_neg (by omega), if_neg (by omega), if_neg (by omega)]
  have v0 : s_ (P0 r) 0 0 = r := rfl
  have v80 : ∀ i, s_ (P0 r) 80 i = 8 := fun _ => rfl
  have v162 : ∀ i, s_ (P0 r) 162 i = 8 := fun _ => rfl
  have v128 : s_ (P0 r) 128 0 = 35 := rfl
  have v184 : s_ (P0 r) 184 0 = 1 := rfl
  have v130 : s_ (P0 r) 130 0 = 1 := rfl
  have b28 : ∀ i, b_ (P0 r) 28 i = List.replicate 64 0 := fun _ => rfl
  have b29 : ∀ i, b_ (P0 r) 29 i = [] := fun _ => rfl
  have b1 : ∀ i, b_ (P0 r) 1 i = [] := fun _ => rfl
  have b7 : ∀ i, b_ (P0 r) 7 i = [] := fun _ => rfl
  have b20 : b_ (P0 r) 20 0 = List.replicate 20 0 := rfl
  have rep : ∀ n j, (List.replicate n 0).getD j 0 = 0 := fun n j => by
    rw [List.getD_eq_getElem?_getD, List.getElem?_replicate]; split <;> rfl
  have b8r : ∀ n, B8 (List.replicate n 0) := fun n x hx => by rw [List.eq_of_mem_replicate hx]; decide
  have b8n : B8 [] := fun x hx => by cases hx
  have w0 : ∀ i, s_ (P0 r) 83 i = 0 := fun i => v 83 i (by decide)
  have wi : WI (P0 r) := by
    refine ⟨hx, fun d hd => id_sh ⟨fun k hk => ?_, ?_, ?_⟩, fun d hd => ?_, fun d d' hd hd' p p' => ?_, fun d d' hd hd' p p' => ?_⟩
    · rw [v 86 d (by decide)] at hk; omega
    · unfold IZ
      rw [v 61 d (by decide), v 60 d (by decide), v 64 d (by decide), v 68 d (by decide), b29]
      exact ⟨by decide, by decide, by decide, by decide, by decide, fun c => by omega, fun c => by omega⟩
    · unfold IW
      rw [v 89 d (by decide)]
      exact ⟨Or.inl rfl, fun c => by omega, fun c => by omega⟩
    · unfold IA
      rw [v 83 d (by decide), v 84 d (by decide), v 60 d (by decide)]
      exact ⟨by omega, fun _ => rfl, fun c => by omega, fun c => by omega, fun c => by omega⟩
    · rw [w0] at p; omega
    · exact absurd (w0 d) p
  have n8 : s_ (P0 r) 228 0 = 0 := v 228 0 (by decide)
  have n122 : s_ (P0 r) 122 0 = 0 := v 122 0 (by decide)
  have wx : WX (P0 r) := by
    refine ⟨wi, fun j hj hS => by omega, fun d hd => ⟨⟨by rw [b28]; exact b8r _, by rw [b29]; exact b8n, fun k hk => by rw [b1]; exact b8n, ?_, ?_, ?_, ?_, fun k hk => ?_⟩, fun c => absurd (v 91 d (by decide)) c⟩⟩
    · rw [v80]; decide
    · rw [v 81 d (by decide)]; decide
    · rw [v 82 d (by decide)]; decide
    · rw [v 86 d (by decide)]; decide
    · rw [v 86 d (by decide)] at hk; omega
  have inv : INV (P0 r) := by
    refine ⟨⟨h1, h2, ?_, ?_, ?_, ?_, ?_, ?_, fun i => ?_, fun d _ => ?_⟩, fun t ht => by omega, fun t ht => by have := ht.1; omega, fun t t' ht => by have := ht.1; omega, ⟨fun i => ?_, fun i t _ ht => by omega⟩, ?_, ⟨fun _ => 0, fun _ => Nat.zero_le _, fun t ht => by have := ht.1; omega, ?_⟩, ?_, fun d hd => ?_, fun d k d' k' hd hd' hk => ?_⟩
    · rw [v 125 0 (by decide)]; decide
    · rw [v 127 0 (by decide)]; decide
    · rw [v128]; decide
    · exact v 180 0 (by decide)
    · rw [v184]; decide
    · rw [v130]; decide
    · rw [v 185 i (by decide)]; decide
    · exact v 165 d (by decide)
    · rw [v 187 i (by decide)]; exact Nat.zero_le _
    · rw [n122, v 123 0 (by decide)]; rfl
    · rw [n122]; decide
    · rw [n122, v 123 0 (by decide), v130]; decide
    · unfold DD EPs
      rw [v 160 d (by decide), v162, v 164 d (by decide), v 165 d (by decide), v 86 d (by decide), v 161 d (by decide)]
      exact ⟨fun _ => ⟨rfl, rfl, rfl, fun t ht => by have := ht.1; omega⟩, by decide, fun _ => rfl, fun c => by omega, fun c => by omega, Nat.le_refl _, fun k hk => by omega, fun c => by omega, fun k hk => by omega, fun k k' hk => by omega⟩
    · rw [v 164 d (by decide)] at hk; omega
  refine ⟨⟨⟨wx, fun d hd => v 91 d (by decide), ⟨fun d hd => ?_, ⟨?_, ?_, fun i hi => ?_, fun i i' hi => ?_, fun p w hw => by cases hw⟩, ?_, fun i hi => q55 i⟩, fun j hj hS => by omega, ⟨⟨q0, ?_, ?_, trivial⟩, fun d hd => ⟨?_, ?_, ?_, ?_, fun k hk => ?_⟩, fun t ht => by omega, ?_, fun i hi => ?_, fun i hi => ?_⟩⟩, inv, hE, Or.inr ⟨q69, v128⟩, fun i => ?_⟩, ?_, ⟨?_, fun t ht => by omega⟩, fun c => ?_, fun p hp => by omega, fun d k hd hk _ => v 105 _ (by decide), by rw [b1]; exact b8n, by rw [b20]; exact b8r _⟩
  · refine relX_D ⟨?_, ?_, fun k hk => ?_⟩
    · unfold RelA
      rw [z 4 d (by decide), z 5 d (by decide), (q6 d hd).1, z 7 d (by decide), z 8 d (by decide), z 9 d (by decide), z 19 d (by decide), z 20 d (by decide), v 83 d (by decide), v 84 d (by decide), v80, v 81 d (by decide), v 82 d (by decide), v 86 d (by decide), v 89 d (by decide), v 90 d (by decide), b28]
      exact ⟨rfl, rfl, rfl, rfl, rfl, rfl, rfl, rfl, fun j hj => by rw [z 18 _ (by decide), rep]⟩
    · unfold RelZ
      rw [v 60 d (by decide), z 21 d (by decide), z 23 d (by decide), z 24 d (by decide), z 26 d (by decide), v 61 d (by decide), v 65 d (by decide), v 64 d (by decide)]
      exact ⟨by decide, rfl, rfl, rfl, rfl, fun q => by omega, fun q => by omega, fun q => by omega, fun q => by omega, fun q => by omega⟩
    · rw [v 86 d (by decide)] at hk; omega
  · rw [v 227 0 (by decide)]; decide
  · rw [v 227 0 (by decide)]; exact z 33 0 (by decide)
  · rw [v 227 0 (by decide)] at hi; omega
  · rw [v 227 0 (by decide)] at hi; omega
  · rw [n8]; exact z 32 0 (by decide)
  · rw [v 125 0 (by decide)]; exact z 56 0 (by decide)
  · rw [n122]; exact z 70 0 (by decide)
  · rw [v 160 d (by decide)]; exact z 57 d (by decide)
  · rw [v162]; exact (q6 d hd).2
  · rw [v 161 d (by decide), if_pos rfl]; exact z 59 d (by decide)
  · rw [v 164 d (by decide)]; exact z 61 d (by decide)
  · rw [v 164 d (by decide)] at hk; omega
  · rw [b1]; exact z 3 0 (by decide)
  · rw [b1] at hi; exact absurd hi (Nat.not_lt_zero _)
  · rw [b20, rep]; exact z 1 i (by decide)
  · rw [v 186 i (by decide)]; exact Nat.zero_le _
  · rw [n8]; exact Nat.zero_le _
  · rw [v130]; decide
  · exact absurd (v 229 0 (by decide)) c
end JK_
