-- sums
theorem cnt_add {f g : Nat → Int} : ∀ m : Nat, cnt (fun a => f a + g a) m = cnt f m + cnt g m
  | 0 => rfl
  | m + 1 => by
    show cnt (fun a => f a + g a) m + (f m + g m) = cnt f m + f m + (cnt g m + g m)
    rw [cnt_add m]
    omega
theorem cnt_sub {f g : Nat → Int} : ∀ m : Nat, cnt (fun a => f a - g a) m = cnt f m - cnt g m
  | 0 => rfl
  | m + 1 => by
    show cnt (fun a => f a - g a) m + (f m - g m) = cnt f m + f m - (cnt g m + g m)
    rw [cnt_sub m]
    omega
theorem cnt_zero : ∀ m : Nat, cnt (fun _ => 0) m = 0
  | 0 => rfl
  | m + 1 => by
    show cnt (fun _ => 0) m + 0 = 0
    rw [cnt_zero m]
    rfl
theorem cnt_le {f g : Nat → Int} : ∀ {m : Nat}, (∀ a, a < m → f a ≤ g a) → cnt f m ≤ cnt g m
  | 0, _ => Int.le_refl _
  | m + 1, h => by
    have h1 := cnt_le (m := m) (fun a ha => h a (by omega))
    have h2 := h m (by omega)
    show cnt f m + f m ≤ cnt g m + g m
    omega
theorem cnt_nonneg {f : Nat → Int} {m : Nat} (h : ∀ a, a < m → 0 ≤ f a) : 0 ≤ cnt f m := by
  have := cnt_le (f := fun _ => 0) (g := f) (m := m) h
  rwa [cnt_zero] at this
theorem cnt_all0 {f : Nat → Int} : ∀ {m : Nat}, (∀ a, a < m → 0 ≤ f a) → cnt f m ≤ 0 → ∀ a, a < m → f a = 0
  | 0, _, _, a, ha => absurd ha (by omega)
  | m + 1, h, h0, a, ha => by
    have h1 := cnt_nonneg (f := f) (m := m) (fun a ha => h a (by omega))
    have h2 := h m (by omega)
    have h3 : cnt f m + f m ≤ 0 := h0
    by_cases e : a = m
    · subst e
      omega
    · exact cnt_all0 (m := m) (fun a ha => h a (by omega)) (by omega) a (by omega)
theorem cnt_neg_ex {f : Nat → Int} : ∀ {m : Nat}, cnt f m < 0 → ∃ a, a < m ∧ f a < 0
  | 0, h => absurd h (by show ¬ (0 : Int) < 0; decide)
  | m + 1, h => by
    have h1 : cnt f m + f m < 0 := h
    by_cases e : f m < 0
    · exact ⟨m, by omega, e⟩
    · obtain ⟨a, ha, hf⟩ := cnt_neg_ex (f := f) (m := m) (by omega)
      exact ⟨a, by omega, hf⟩
theorem cnt_swap {F : Nat → Nat → Int} (M : Nat) : ∀ m : Nat, cnt (fun a => cnt (fun t => F a t) M) m = cnt (fun t => cnt (fun a => F a t) m) M
  | 0 => (cnt_zero M).symm
  | m + 1 => by
    show cnt (fun a => cnt (fun t => F a t) M) m + cnt (fun t => F m t) M = cnt (fun t => cnt (fun a => F a t) m + F m t) M
    rw [cnt_swap M m, cnt_add]
/-- a number by its levels -/
theorem lev_pos : ∀ (M : Nat) (x : Int), 0 ≤ x → x ≤ M → cnt (fun t => if (t : Int) + 1 ≤ x then 1 else 0) M = x
  | 0, x, h0, h1 => by
    show (0 : Int) = x
    omega
  | M + 1, x, h0, h1 => by
    show cnt (fun t => if (t : Int) + 1 ≤ x then 1 else 0) M + (if (M : Int) + 1 ≤ x then 1 else 0) = x
    by_cases e : (M : Int) + 1 ≤ x
    · rw [if_pos e, cnt_congr (m := M) (g := fun t => if (t : Int) + 1 ≤ (M : Int) then 1 else 0) (fun t ht => by rw [if_pos (by omega), if_pos (by omega)]), lev_pos M M (by omega) (by omega)]
      omega
    · rw [if_neg e, lev_pos M x h0 (by omega)]
      omega
theorem lev_neg : ∀ (M : Nat) (x : Int), x ≤ 0 → cnt (fun t => if (t : Int) + 1 ≤ x then 1 else 0) M = 0
  | M, x, h => by rw [cnt_congr (m := M) (g := fun _ => 0) (fun t ht => by rw [if_neg (by omega)]), cnt_zero]
theorem lev (M : Nat) (x : Int) (h1 : -(M : Int) ≤ x) (h2 : x ≤ M) : cnt (fun t => if (t : Int) + 1 ≤ x then 1 else 0) M - cnt (fun t => if (t : Int) + 1 ≤ -x then 1 else 0) M = x := by
  rcases Int.le_total 0 x with h | h
  · rw [lev_pos M x h h2, lev_neg M (-x) (by omega)]
    omega
  · rw [lev_neg M x h, lev_pos M (-x) (by omega) (by omega)]
    omega
-- LAYERS: m arcs from up a down to lo a, those with th a = 1 are there; n nodes
section lay
variable {n m : Nat} {up lo : Nat → Nat} {th : Nat → Int}
/-- the length is linear in the layers -/
def len (m : Nat) (up lo : Nat → Nat) (th : Nat → Int) (y : Nat → Int) : Int := cnt (fun a => if th a = 1 then y (lo a) - y (up a) else 0) m
def feas (n m : Nat) (up lo : Nat → Nat) (th : Nat → Int) (y : Nat → Int) : Prop := (∀ v, v < n → 0 ≤ y v) ∧ ∀ a, a < m → th a = 1 → y (up a) + 1 ≤ y (lo a)
def isOpt (n m : Nat) (up lo : Nat → Nat) (th : Nat → Int) (y : Nat → Int) : Prop := feas n m up lo th y ∧ ∀ z, feas n m up lo th z → len m up lo th y ≤ len m up lo th z
/-- the layers that are meant: of the least length, and then least for every node -/
def isLay (n m : Nat) (up lo : Nat → Nat) (th : Nat → Int) (y : Nat → Int) : Prop := isOpt n m up lo th y ∧ ∀ z, isOpt n m up lo th z → ∀ v, v < n → y v ≤ z v
theorem isLay_one {y z : Nat → Int} (hy : isLay n m up lo th y) (hz : isLay n m up lo th z) : ∀ v, v < n → y v = z v := fun v hv => Int.le_antisymm (hy.2 z hz.1 v hv) (hz.2 y hy.1 v hv)
theorem len_add {y z : Nat → Int} : len m up lo th (fun v => y v + z v) = len m up lo th y + len m up lo th z := by
  unfold len
  rw [← cnt_add]
  refine cnt_congr (fun a _ => ?_)
  by_cases h : th a = 1
  · simp only [if_pos h]
    omega
  · simp only [if_neg h]
    rfl
theorem len_sub {y z : Nat → Int} : len m up lo th (fun v => y v - z v) = len m up lo th y - len m up lo th z := by
  unfold len
  rw [← cnt_sub]
  refine cnt_congr (fun a _ => ?_)
  by_cases h : th a = 1
  · simp only [if_pos h]
    omega
  · simp only [if_neg h]
    rfl
theorem len_cnt {F : Nat → Nat → Int} {M : Nat} : len m up lo th (fun v => cnt (fun t => F t v) M) = cnt (fun t => len m up lo th (F t)) M := by
  unfold len
  rw [← cnt_swap]
  refine cnt_congr (fun a _ => ?_)
  by_cases h : th a = 1
  · simp only [if_pos h]
    rw [cnt_sub]
  · simp only [if_neg h]
    rw [cnt_zero]
theorem len_congr (hin : ∀ a, a < m → up a < n ∧ lo a < n) {y z : Nat → Int} (h : ∀ v, v < n → y v = z v) : len m up lo th y = len m up lo th z := by
  unfold len
  refine cnt_congr (fun a ha => ?_)
  rw [h _ (hin a ha).1, h _ (hin a ha).2]
/-- a bound over finitely many -/
theorem bound_ex (d : Nat → Int) : ∀ n : Nat, ∃ M : Nat, ∀ v, v < n → -(M : Int) ≤ d v ∧ d v ≤ M
  | 0 => ⟨0, fun v hv => absurd hv (by omega)⟩
  | n + 1 => by
    obtain ⟨M, hM⟩ := bound_ex d n
    refine ⟨M + (d n).natAbs, fun v hv => ?_⟩
    by_cases e : v = n
    · subst e
      omega
    · have := hM v (by omega)
      omega
/-- no move of a set by one is good any more: then these are the layers that are meant -/
theorem lay_local (hin : ∀ a, a < m → up a < n ∧ lo a < n) {y : Nat → Int} (hf : feas n m up lo th y)
    (hup : ∀ S : Nat → Int, (∀ v, S v = 0 ∨ S v = 1) → (∀ a, a < m → th a = 1 → ¬ (S (lo a) - S (up a) < 0 ∧ y (lo a) - y (up a) = 1)) → 0 ≤ len m up lo th S)
    (hdn : ∀ S : Nat → Int, (∀ v, S v = 0 ∨ S v = 1) → (∃ v, v < n ∧ S v = 1) → (∀ v, v < n → S v = 1 → 1 ≤ y v) → (∀ a, a < m → th a = 1 → ¬ (S (up a) - S (lo a) < 0 ∧ y (lo a) - y (up a) = 1)) → len m up lo th S < 0) : isLay n m up lo th y := by
  -- the sets of a feasible z against y
  have hS : ∀ z, feas n m up lo th z → ∀ t : Nat, 0 ≤ len m up lo th (fun v => if (t : Int) + 1 ≤ z v - y v then 1 else 0) := fun z hz t => by
    refine hup _ (fun v => by by_cases q : (t : Int) + 1 ≤ z v - y v <;> simp [q]) (fun a ha h1 h2 => ?_)
    have h3 := hz.2 a ha h1
    have h4 := h2.1
    by_cases q1 : (t : Int) + 1 ≤ z (lo a) - y (lo a) <;> by_cases q2 : (t : Int) + 1 ≤ z (up a) - y (up a) <;> simp [q1, q2] at h4
    omega
  have hT : ∀ z, feas n m up lo th z → ∀ t : Nat, len m up lo th (fun v => if v < n ∧ (t : Int) + 1 ≤ -(z v - y v) then 1 else 0) ≤ 0 ∧ ((∃ v, v < n ∧ (t : Int) + 1 ≤ -(z v - y v)) → len m up lo th (fun v => if v < n ∧ (t : Int) + 1 ≤ -(z v - y v) then 1 else 0) < 0) := fun z hz t => by
    have key : (∃ v, v < n ∧ (t : Int) + 1 ≤ -(z v - y v)) → len m up lo th (fun v => if v < n ∧ (t : Int) + 1 ≤ -(z v - y v) then 1 else 0) < 0 := fun ⟨v, hv, hq⟩ => by
      refine hdn _ (fun v => by by_cases q : v < n ∧ (t : Int) + 1 ≤ -(z v - y v) <;> simp [q]) ⟨v, hv, by rw [if_pos ⟨hv, hq⟩]⟩ (fun v hv h1 => ?_) (fun a ha h1 h2 => ?_)
      · by_cases q : v < n ∧ (t : Int) + 1 ≤ -(z v - y v)
        · have := hz.1 v hv
          omega
        · rw [if_neg q] at h1
          omega
      · have h3 := hz.2 a ha h1
        have h4 := h2.1
        have h5 := hin a ha
        by_cases q1 : (t : Int) + 1 ≤ -(z (lo a) - y (lo a)) <;> by_cases q2 : (t : Int) + 1 ≤ -(z (up a) - y (up a)) <;> simp [q1, q2, h5] at h4
        omega
    refine ⟨?_, key⟩
    by_cases e : ∃ v, v < n ∧ (t : Int) + 1 ≤ -(z v - y v)
    · exact Int.le_of_lt (key e)
    · rw [len_congr hin (z := fun _ => 0) (fun v hv => if_neg (fun q => e ⟨v, hv, q.2⟩))]
      unfold len
      rw [cnt_congr (g := fun _ => 0) (fun a _ => by split <;> rfl), cnt_zero]
      exact Int.le_refl _
  have hdec : ∀ z, feas n m up lo th z → ∃ M : Nat, (∀ v, v < n → -(M : Int) ≤ z v - y v ∧ z v - y v ≤ M) ∧ len m up lo th z - len m up lo th y = cnt (fun t => len m up lo th (fun v => if (t : Int) + 1 ≤ z v - y v then 1 else 0)) M - cnt (fun t => len m up lo th (fun v => if v < n ∧ (t : Int) + 1 ≤ -(z v - y v) then 1 else 0)) M := fun z _ => by
    obtain ⟨M, hM⟩ := bound_ex (fun v => z v - y v) n
    refine ⟨M, hM, ?_⟩
    rw [← len_cnt, ← len_cnt, ← len_sub, ← len_sub]
    refine len_congr hin (fun v hv => ?_)
    have h1 := lev M (z v - y v) (hM v hv).1 (hM v hv).2
    rw [cnt_congr (f := fun t => if v < n ∧ (t : Int) + 1 ≤ -(z v - y v) then 1 else 0) (g := fun t => if (t : Int) + 1 ≤ -(z v - y v) then 1 else 0) (fun t _ => by simp [hv])]
    exact h1.symm
  have hopt : isOpt n m up lo th y := ⟨hf, fun z hz => by
    obtain ⟨M, hM, e⟩ := hdec z hz
    have h1 := cnt_nonneg (m := M) (fun t _ => hS z hz t)
    have h2 := cnt_le (m := M) (g := fun _ => 0) (fun t _ => (hT z hz t).1)
    rw [cnt_zero] at h2
    omega⟩
  refine ⟨hopt, fun z hz v hv => ?_⟩
  have h3 := hz.2 y hf
  obtain ⟨M, hM, e⟩ := hdec z hz.1
  have h1 := cnt_nonneg (m := M) (fun t _ => hS z hz.1 t)
  have hn : ∀ t, t < M → 0 ≤ 0 - len m up lo th (fun v => if v < n ∧ (t : Int) + 1 ≤ -(z v - y v) then 1 else 0) := fun t _ => by have := (hT z hz.1 t).1; omega
  have h4 : cnt (fun t => 0 - len m up lo th (fun v => if v < n ∧ (t : Int) + 1 ≤ -(z v - y v) then 1 else 0)) M ≤ 0 := by
    rw [cnt_sub (f := fun _ => 0), cnt_zero]
    omega
  have h5 := cnt_all0 hn h4
  rcases Int.lt_or_le (z v) (y v) with q | q
  · exfalso
    have hMv := hM v hv
    have h6 := h5 0 (by omega)
    have h7 := (hT z hz.1 0).2 ⟨v, hv, by omega⟩
    omega
  · exact q
/-- a flow with the balance of the arcs, tight where it flows, and y below all that is tight there: the layers that are meant -/
theorem lay_flow {y fl : Nat → Int} (hf : feas n m up lo th y) (h0 : ∀ a, a < m → 0 ≤ fl a) (hfl : ∀ a, a < m → th a ≠ 1 → fl a = 0)
    (hb : ∀ p : Nat → Int, cnt (fun a => fl a * (p (lo a) - p (up a))) m = len m up lo th p)
    (ht : ∀ a, a < m → 0 < fl a → y (lo a) - y (up a) = 1)
    (hl : ∀ z, feas n m up lo th z → (∀ a, a < m → 0 < fl a → z (lo a) - z (up a) = 1) → ∀ v, v < n → y v ≤ z v) : isLay n m up lo th y := by
  have e1 : ∀ z : Nat → Int, len m up lo th z - cnt fl m = cnt (fun a => fl a * (z (lo a) - z (up a) - 1)) m := fun z => by
    rw [← hb z, ← cnt_sub]
    refine cnt_congr (fun a _ => ?_)
    rw [Int.mul_sub (fl a) (z (lo a) - z (up a)) 1, Int.mul_one]
  have hnn : ∀ z, feas n m up lo th z → ∀ a, a < m → 0 ≤ fl a * (z (lo a) - z (up a) - 1) := fun z hz a ha => by
    by_cases q : th a = 1
    · exact Int.mul_nonneg (h0 a ha) (by have := hz.2 a ha q; omega)
    · rw [hfl a ha q, Int.zero_mul]
      exact Int.le_refl _
  have ey : len m up lo th y = cnt fl m := by
    have h1 : cnt (fun a => fl a * (y (lo a) - y (up a) - 1)) m = cnt (fun _ => 0) m := cnt_congr (fun a ha => by
      have h2 := h0 a ha
      rcases Int.lt_or_eq_of_le h2 with q | q
      · rw [ht a ha q]
        simp
      · rw [← q]
        simp)
    have := e1 y
    rw [h1, cnt_zero] at this
    omega
  have hopt : isOpt n m up lo th y := ⟨hf, fun z hz => by
    have := e1 z
    have h2 := cnt_nonneg (hnn z hz)
    omega⟩
  refine ⟨hopt, fun z hz => hl z hz.1 (fun a ha q => ?_)⟩
  have h1 := hz.2 y hf
  have h2 := e1 z
  have h3 := cnt_all0 (hnn z hz.1) (by omega) a ha
  rcases Int.mul_eq_zero.mp h3 with g | g <;> omega
end lay
