-- places
section plc
variable {pu pd : Nat → Nat} {N : Nat} {w : Nat → Int} {R : Nat → Nat → Int} {sz : Nat → Nat}
/-- where an item would stand below those that it is joined to -/
def wnt (pu pd : Nat → Nat) (N : Nat) (w pl : Nat → Int) (x : Nat) : Int := if mdN pd N x = 0 then 0 else cnt (fun p => if pd p = x then 2 * pl (pu p) + w (pu p) else 0) N / (2 * mdN pd N x) - w x / 2
/-- the first free place -/
def frP (w : Nat → Int) (r pl : Nat → Int) : Nat → Int
  | 0 => 0
  | k + 1 => pl (r k).toNat + w (r k).toNat + 1
/-- the first k items of a row, over places pl above -/
def rwP (pu pd : Nat → Nat) (N : Nat) (w r pl : Nat → Int) : Nat → Nat → Int
  | 0 => pl
  | k + 1 => upf (rwP pu pd N w r pl k) (r k).toNat (if frP w r (rwP pu pd N w r pl k) k < wnt pu pd N w pl (r k).toNat then wnt pu pd N w pl (r k).toNat else frP w r (rwP pu pd N w r pl k) k)
def alP (pu pd : Nat → Nat) (N : Nat) (w : Nat → Int) (R : Nat → Nat → Int) (sz : Nat → Nat) : Nat → Nat → Int
  | 0 => fun _ => 0
  | l + 1 => rwP pu pd N w (R l) (alP pu pd N w R sz l) (sz l)
theorem mdN_nn {x : Nat} : 0 ≤ mdN pd N x := cnt_nonneg (fun p _ => by split <;> decide)
theorem mdN_le {x : Nat} : mdN pd N x ≤ N := by
  have := cnt_bnd (b := 1) (m := N) (g := fun p => if pd p = x then (1 : Int) else 0) (fun a _ => by split <;> decide)
  unfold mdN
  omega
theorem sum_rng {x : Nat} {f : Nat → Int} {C : Int} (h : ∀ p, p < N → pd p = x → 0 ≤ f p ∧ f p ≤ C) : 0 ≤ cnt (fun p => if pd p = x then f p else 0) N ∧ cnt (fun p => if pd p = x then f p else 0) N ≤ C * mdN pd N x := by
  refine ⟨cnt_nonneg (fun p hp => ?_), ?_⟩
  · split
    · rename_i e
      exact (h p hp e).1
    · exact Int.le_refl _
  · unfold mdN
    rw [← cnt_mul]
    refine cnt_le (fun p hp => ?_)
    split
    · rename_i e
      have := (h p hp e).2
      omega
    · omega
theorem wnt_rng {x : Nat} {pl : Nat → Int} {C : Int} (hC : 0 ≤ C) (hw : 0 ≤ w x ∧ w x ≤ 9) (h : ∀ p, p < N → pd p = x → 0 ≤ 2 * pl (pu p) + w (pu p) ∧ 2 * pl (pu p) + w (pu p) ≤ C) : -4 ≤ wnt pu pd N w pl x ∧ wnt pu pd N w pl x ≤ C / 2 := by
  have h1 := sum_rng (f := fun p => 2 * pl (pu p) + w (pu p)) h
  have h2 := mdN_nn (pd := pd) (N := N) (x := x)
  unfold wnt
  split
  · omega
  · obtain ⟨c, hc⟩ : ∃ c, c = mdN pd N x := ⟨_, rfl⟩
    obtain ⟨s, hs⟩ : ∃ s, s = cnt (fun p => if pd p = x then 2 * pl (pu p) + w (pu p) else 0) N := ⟨_, rfl⟩
    rw [← hc] at h1 h2 ⊢
    rw [← hs] at h1 ⊢
    have c1 : 1 ≤ c := by omega
    have h3 : 0 ≤ s / (2 * c) := Int.ediv_nonneg h1.1 (by omega)
    have h4 : s / (2 * c) < C / 2 + 1 := by
      refine Int.ediv_lt_of_lt_mul (by omega) ?_
      have h5 : (C + 1) * c ≤ (2 * (C / 2 + 1)) * c := Int.mul_le_mul_of_nonneg_right (by omega) (by omega)
      have h6 : (C / 2 + 1) * (2 * c) = (2 * (C / 2 + 1)) * c := by
        rw [← Int.mul_assoc, Int.mul_comm (C / 2 + 1) 2]
      rw [Int.add_mul, Int.one_mul] at h5
      omega
    omega
theorem rwP_off {r pl : Nat → Int} {x : Nat} : ∀ {k : Nat}, (∀ j, j < k → (r j).toNat ≠ x) → rwP pu pd N w r pl k x = pl x
  | 0, _ => rfl
  | k + 1, h => by
    show upf _ _ _ _ = _
    rw [upf_n (fun e => h k (by omega) e.symm)]
    exact rwP_off (fun j hj => h j (by omega))
/-- places are small -/
theorem rwP_rng {r pl : Nat → Int} {s : Nat} {C : Int} (hC : 0 ≤ C) (hi : ∀ i j, i < s → j < s → (r i).toNat = (r j).toNat → i = j) (hw : ∀ j, j < s → 1 ≤ w (r j).toNat ∧ w (r j).toNat ≤ 9) (h : ∀ j, j < s → ∀ p, p < N → pd p = (r j).toNat → 0 ≤ 2 * pl (pu p) + w (pu p) ∧ 2 * pl (pu p) + w (pu p) ≤ 2 * C) : ∀ k, k ≤ s → ∀ j, j < k → 0 ≤ rwP pu pd N w r pl k (r j).toNat ∧ rwP pu pd N w r pl k (r j).toNat ≤ C + 12 * j
  | 0, _, j, hj => absurd hj (by omega)
  | k + 1, hk, j, hj => by
    have ih := rwP_rng hC hi hw h k (by omega)
    show 0 ≤ upf _ _ _ _ ∧ upf _ _ _ _ ≤ _
    by_cases e : j = k
    · rw [e, upf_s]
      have h1 := wnt_rng (pl := pl) (x := (r k).toNat) (C := 2 * C) (by omega) (by have := hw k (by omega); omega) (h k (by omega))
      have h2 : 0 ≤ frP w r (rwP pu pd N w r pl k) k ∧ frP w r (rwP pu pd N w r pl k) k ≤ C + 12 * (k : Int) := by
        cases k with
        | zero =>
          show (0 : Int) ≤ 0 ∧ (0 : Int) ≤ _
          omega
        | succ k =>
          have := ih k (by omega)
          have := hw k (by omega)
          show 0 ≤ rwP pu pd N w r pl (k + 1) (r k).toNat + w (r k).toNat + 1 ∧ rwP pu pd N w r pl (k + 1) (r k).toNat + w (r k).toNat + 1 ≤ _
          omega
      split <;> omega
    · rw [upf_n (fun q => e (hi j k (by omega) (by omega) q))]
      exact ih j (by omega)
end plc
