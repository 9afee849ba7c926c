theorem or_bit {s i : Nat} (h : s.testBit i = false) : (s ||| 2 ^ i).testBit i = true ∧ (s ||| 2 ^ i) ^^^ 2 ^ i = s := by
  have h1 : (s ||| 2 ^ i).testBit i = true := by
    rw [Nat.testBit_or, Nat.testBit_two_pow]
    simp
  refine ⟨h1, ?_⟩
  apply Nat.eq_of_testBit_eq
  intro j
  rw [tb_xor h1, Nat.testBit_or, Nat.testBit_two_pow]
  by_cases e : i = j
  · subst e
    simp [h]
  · simp [e, show j ≠ i from fun q => e q.symm]
theorem or_same {s i : Nat} (h : s.testBit i = true) : s ||| 2 ^ i = s := by
  apply Nat.eq_of_testBit_eq
  intro j
  rw [Nat.testBit_or, Nat.testBit_two_pow]
  by_cases e : i = j
  · subst e
    simp [h]
  · simp [e]
theorem xor_or {T v s : Nat} (h : T.testBit v = true) (e : T ^^^ 2 ^ v = s) : T = s ||| 2 ^ v ∧ s.testBit v = false := by
  have h1 : s.testBit v = false := by
    rw [← e, tb_xor h]
    simp
  refine ⟨?_, h1⟩
  apply Nat.eq_of_testBit_eq
  intro j
  rw [Nat.testBit_or, Nat.testBit_two_pow, ← e, tb_xor h]
  by_cases q : v = j
  · subst q
    simp [h]
  · simp [q, show j ≠ v from fun r => q r.symm]
section sp_lb4
variable {d : Nat} {post : Option mj_V → mj_H → Prop} {K : Nat → Nat × Nat} {ρ : Nat → Nat → Option Nat}
/-- what v has back to the set r -/
def lbS (pw : Nat → Nat → Int) (r v : Nat) : Int := cnt (fun w => if r.testBit w = true then pw v w else 0) 12
/-- the step from r by v has been tried -/
def lbP (s i r v : Nat) : Prop := r < s ∨ (r = s ∧ v < i)
/-- costs of sets while the steps are tried -/
def lbF (pw : Nat → Nat → Int) (M s i : Nat) (B : Nat → Int) : Prop := B 0 = 0 ∧ (∀ T, T ≤ M → 0 ≤ B T ∧ B T ≤ 1000000) ∧ ∀ T, T ≤ M → T ≠ 0 → (B T = 1000000 ∨ ∃ v, T.testBit v = true ∧ lbP s i (T ^^^ 2 ^ v) v ∧ B T = B (T ^^^ 2 ^ v) + lbS pw (T ^^^ 2 ^ v) v) ∧ ∀ v, T.testBit v = true → lbP s i (T ^^^ 2 ^ v) v → B T ≤ B (T ^^^ 2 ^ v) + lbS pw (T ^^^ 2 ^ v) v
theorem lbF_same {pw : Nat → Nat → Int} {M s i : Nat} {B : Nat → Int} (h : lbF pw M s i B) (hb : s.testBit i = true) : lbF pw M s (i + 1) B := by
  obtain ⟨h1, h2, h3⟩ := h
  refine ⟨h1, h2, fun T hT h0 => ⟨(h3 T hT h0).1.imp id (fun ⟨v, a, b, c⟩ => ⟨v, a, b.imp id (fun q => ⟨q.1, by omega⟩), c⟩), fun v hv hp => (h3 T hT h0).2 v hv (hp.imp id (fun q => ⟨q.1, ?_⟩))⟩⟩
  rcases Nat.lt_or_ge v i with r | r
  · exact r
  · exfalso
    have e : v = i := by omega
    subst e
    have := (xor_or hv q.1).2
    rw [hb] at this
    cases this
theorem lbF_up {pw : Nat → Nat → Int} {M s i : Nat} {B B2 : Nat → Int} (h : lbF pw M s i B) (hb : s.testBit i = false) (hS : 0 ≤ lbS pw s i) (hs : s ≤ M) (e1 : B2 (s ||| 2 ^ i) = if B s + lbS pw s i < B (s ||| 2 ^ i) then B s + lbS pw s i else B (s ||| 2 ^ i)) (e2 : ∀ T, T ≠ s ||| 2 ^ i → B2 T = B T) : lbF pw M s (i + 1) B2 := by
  obtain ⟨h1, h2, h3⟩ := h
  have hob := or_bit hb
  have hgt : s < s ||| 2 ^ i := by
    have := xor_less hob.1
    rw [hob.2] at this
    exact this
  have hle : ∀ T, T ≤ M → B2 T ≤ B T := fun T _ => by
    by_cases e : T = s ||| 2 ^ i
    · rw [e, e1]
      split <;> omega
    · rw [e2 T e]
      exact Int.le_refl _
  have hold : ∀ r v, lbP s (i + 1) r v → B2 r = B r := fun r v hp => e2 r (fun q => by rcases hp with p | p <;> omega)
  refine ⟨by rw [e2 0 (by omega)]; exact h1, fun T hT => ?_, fun T hT h0 => ⟨?_, fun v hv hp => ?_⟩⟩
  · have a := h2 T hT
    have b := h2 s hs
    by_cases e : T = s ||| 2 ^ i
    · rw [e, e1]
      rw [e] at a
      split <;> omega
    · rw [e2 T e]
      exact a
  · by_cases e : T = s ||| 2 ^ i
    · subst e
      rw [e1]
      by_cases q : B s + lbS pw s i < B (s ||| 2 ^ i)
      · rw [if_pos q]
        refine Or.inr ⟨i, hob.1, Or.inr ⟨hob.2, by omega⟩, ?_⟩
        rw [hob.2, e2 s (by omega)]
      · rw [if_neg q]
        refine (h3 _ hT h0).1.imp id (fun ⟨v, a, b, c⟩ => ⟨v, a, b.imp id (fun q => ⟨q.1, by omega⟩), ?_⟩)
        rw [hold _ v (b.imp id (fun q => ⟨q.1, by omega⟩))]
        exact c
    · rw [e2 T e]
      refine (h3 T hT h0).1.imp id (fun ⟨v, a, b, c⟩ => ⟨v, a, b.imp id (fun q => ⟨q.1, by omega⟩), ?_⟩)
      rw [hold _ v (b.imp id (fun q => ⟨q.1, by omega⟩))]
      exact c
  · rw [hold _ v hp]
    by_cases q : lbP s i (T ^^^ 2 ^ v) v
    · exact Int.le_trans (hle T hT) ((h3 T hT h0).2 v hv q)
    · have e : T ^^^ 2 ^ v = s ∧ v = i := by
        unfold lbP at q hp
        omega
      obtain ⟨e3, e4⟩ := e
      subst e4
      have e5 := (xor_or hv e3).1
      rw [e3, e5, e1]
      split <;> omega
theorem lbF_next {pw : Nat → Nat → Int} {M s n : Nat} {B : Nat → Int} (h : lbF pw M s n B) (hn : ∀ T, T ≤ M → ∀ v, T.testBit v = true → v < n) : lbF pw M (s + 1) 0 B := by
  obtain ⟨h1, h2, h3⟩ := h
  refine ⟨h1, h2, fun T hT h0 => ⟨(h3 T hT h0).1.imp id (fun ⟨v, a, b, c⟩ => ⟨v, a, Or.inl (by rcases b with p | p <;> omega), c⟩), fun v hv hp => (h3 T hT h0).2 v hv ?_⟩⟩
  have := hn T hT v hv
  unfold lbP at hp ⊢
  omega
/-- at the end: the least costs -/
theorem lbF_end {pw : Nat → Nat → Int} {M : Nat} {B : Nat → Int} (hM : M < 4096) (h : lbF pw M M 0 B) (hd : ∀ v, pw v v = 0) (hB : ∀ l, l.Nodup → (∀ v, v ∈ l → v < 12) → bc pw l ≤ 24000) (hB2 : ∀ r v, lbS pw r v ≤ 24000) : ∀ T, T ≤ M → isMin pw (fun v => T.testBit v) (B T) := by
  intro T
  induction T using Nat.strongRecOn with
  | ind T ih =>
    intro hT
    by_cases h0 : T = 0
    · subst h0
      rw [h.1]
      exact isMin_nil (fun v => by simp)
    · have h3 := h.2.2 T hT h0
      have hp : ∀ v, T.testBit v = true → lbP M 0 (T ^^^ 2 ^ v) v := fun v hv => Or.inl (by have := xor_less hv; omega)
      have hmin : ∀ v, T.testBit v = true → isMin pw (fun u => T.testBit u && decide (u ≠ v)) (B (T ^^^ 2 ^ v)) := fun v hv => isMin_congr (fun u => tb_xor hv u) (fun _ _ => rfl) (ih _ (xor_less hv) (by have := xor_less hv; omega))
      have heq : ∀ v, T.testBit v = true → cnt (fun u => if T.testBit u = true ∧ u ≠ v then pw v u else 0) 12 = lbS pw (T ^^^ 2 ^ v) v := fun v hv => cnt_congr (fun u _ => by
        rw [tb_xor hv]
        simp)
      refine isMin_step (N := 12) (fun v hv => bit_lt12 (T := T) (by omega) hv) (cv := fun v => B (T ^^^ 2 ^ v)) hmin ?_ (fun v hv => ?_)
      · rcases h3.1 with q | ⟨v, q1, q2, q3⟩
        · exfalso
          obtain ⟨v, hv⟩ := bit_ex h0
          have a1 := h3.2 v hv (hp v hv)
          have a2 := hB2 (T ^^^ 2 ^ v) v
          obtain ⟨⟨l, hl, e⟩, -⟩ := hmin v hv
          have a3 := hB l hl.1 (fun u hu => by
            have := (hl.2 u).mp hu
            rw [Bool.and_eq_true] at this
            exact bit_lt12 (T := T) (by omega) this.1)
          omega
        · exact ⟨v, q1, by rw [heq v q1]; exact q3⟩
      · rw [heq v hv]
        exact h3.2 v hv (hp v hv)
end sp_lb4
