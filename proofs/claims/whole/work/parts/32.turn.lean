-- binary numbers, the first digit the highest
def vb (x : Nat → Int) : Nat → Int
  | 0 => 0
  | m + 1 => 2 * vb x m + x m
def is01 (x : Nat → Int) (m : Nat) : Prop := ∀ a, a < m → x a = 0 ∨ x a = 1
theorem is01.le {x : Nat → Int} {m k : Nat} (h : is01 x m) (hk : k ≤ m) : is01 x k := fun a ha => h a (by omega)
theorem vb_inj {x y : Nat → Int} : ∀ {m : Nat}, is01 x m → is01 y m → vb x m = vb y m → ∀ a, a < m → x a = y a
  | 0, _, _, _, a, ha => absurd ha (by omega)
  | m + 1, hx, hy, h, a, ha => by
    have h1 : 2 * vb x m + x m = 2 * vb y m + y m := h
    have h2 := hx m (by omega)
    have h3 := hy m (by omega)
    by_cases e : a = m
    · subst e
      omega
    · exact vb_inj (m := m) (hx.le (by omega)) (hy.le (by omega)) (by omega) a (by omega)
theorem vb_congr {x y : Nat → Int} : ∀ {m : Nat}, (∀ a, a < m → x a = y a) → vb x m = vb y m
  | 0, _ => rfl
  | m + 1, h => by
    show 2 * vb x m + x m = 2 * vb y m + y m
    rw [vb_congr (m := m) (fun a ha => h a (by omega)), h m (by omega)]
theorem vb_lt {x y : Nat → Int} {k : Nat} : ∀ {j : Nat}, is01 x (k + j) → is01 y (k + j) → vb x k < vb y k → vb x (k + j) < vb y (k + j)
  | 0, _, _, h => h
  | j + 1, hx, hy, h => by
    have h1 := vb_lt (k := k) (j := j) (hx.le (by omega)) (hy.le (by omega)) h
    have h2 := hx (k + j) (by omega)
    have h3 := hy (k + j) (by omega)
    show 2 * vb x (k + j) + x (k + j) < 2 * vb y (k + j) + y (k + j)
    omega
/-- the mark of an arc: 2 ^ (23 - a) -/
def mk2 (a : Nat) : Int := 2 ^ (23 - a)
theorem mk2_s {m : Nat} (h : m < 23) : mk2 m = 2 * mk2 (m + 1) := by
  unfold mk2
  rw [show 23 - m = (23 - (m + 1)) + 1 by omega, Int.pow_succ]
  omega
theorem mk2_pos (m : Nat) : 0 < mk2 m := Int.pow_pos (by decide)
/-- the marks of a set as one number, and its digits -/
theorem marks_vb {x : Nat → Int} : ∀ {m : Nat}, m < 24 → cnt (fun a => x a * mk2 a) (m + 1) = vb x (m + 1) * mk2 m
  | 0, _ => by
    show 0 + x 0 * mk2 0 = (2 * 0 + x 0) * mk2 0
    simp
  | m + 1, h => by
    show cnt (fun a => x a * mk2 a) (m + 1) + x (m + 1) * mk2 (m + 1) = (2 * vb x (m + 1) + x (m + 1)) * mk2 (m + 1)
    rw [marks_vb (m := m) (by omega), mk2_s (m := m) (by omega), Int.add_mul]
    congr 1
    rw [Int.mul_left_comm, Int.mul_assoc]
theorem vb_range {x : Nat → Int} : ∀ {m : Nat}, m ≤ 24 → is01 x m → 0 ≤ cnt (fun a => x a * mk2 a) m ∧ cnt (fun a => x a * mk2 a) m < 16777216 ∧ (m < 24 → cnt (fun a => x a * mk2 a) m + 2 * mk2 m ≤ 16777216)
  | 0, _, _ => ⟨by show (0 : Int) ≤ 0; decide, by show (0 : Int) < 16777216; decide, fun _ => by show (0 : Int) + 2 * mk2 0 ≤ 16777216; decide⟩
  | m + 1, hm, hx => by
    have ih := vb_range (m := m) (by omega) (hx.le (by omega))
    have h1 := hx m (by omega)
    have h2 := ih.2.2 (by omega)
    have h3 := mk2_pos m
    have h4 : m + 1 < 24 → mk2 m = 2 * mk2 (m + 1) := fun q => mk2_s (by omega)
    show 0 ≤ cnt (fun a => x a * mk2 a) m + x m * mk2 m ∧ cnt (fun a => x a * mk2 a) m + x m * mk2 m < 16777216 ∧ (m + 1 < 24 → cnt (fun a => x a * mk2 a) m + x m * mk2 m + 2 * mk2 (m + 1) ≤ 16777216)
    rcases h1 with e | e
    · rw [e, Int.zero_mul]
      refine ⟨by omega, by omega, fun q => by have := h4 q; omega⟩
    · rw [e, Int.one_mul]
      refine ⟨by omega, by omega, fun q => by have := h4 q; omega⟩
/-- the weight of an arc: any fewer arcs are cheaper, then those with the lowest numbers -/
def wW (a : Nat) : Int := 16777216 - mk2 a
theorem wW_sum {x : Nat → Int} (m : Nat) : cnt (fun a => x a * wW a) m = 16777216 * cnt x m - cnt (fun a => x a * mk2 a) m := by
  induction m with
  | zero => rfl
  | succ m ih =>
    show cnt (fun a => x a * wW a) m + x m * wW m = 16777216 * (cnt x m + x m) - (cnt (fun a => x a * mk2 a) m + x m * mk2 m)
    rw [ih]
    unfold wW
    rw [Int.mul_sub]
    omega
theorem wW_inj {x y : Nat → Int} {m : Nat} (hm : m ≤ 24) (hx : is01 x m) (hy : is01 y m) (h : cnt (fun a => x a * wW a) m = cnt (fun a => y a * wW a) m) : ∀ a, a < m → x a = y a := by
  rw [wW_sum, wW_sum] at h
  have h1 := vb_range hm hx
  have h2 := vb_range hm hy
  have h3 : cnt (fun a => x a * mk2 a) m = cnt (fun a => y a * mk2 a) m := by omega
  cases m with
  | zero => exact fun a ha => absurd ha (by omega)
  | succ m =>
    rw [marks_vb (by omega), marks_vb (by omega)] at h3
    have h4 := mk2_pos m
    exact vb_inj hx hy (Int.eq_of_mul_eq_mul_right (by omega) h3)
-- TURNED
section turned
variable {n m : Nat} {f t : Nat → Nat} {th : Nat → Int}
def full (n : Nat) (v : Nat) : Bool := decide (v < n)
/-- the arcs that lead back in an order -/
def ind (f t : Nat → Nat) (th : Nat → Int) (l : List Nat) (a : Nat) : Int := if th a = 1 ∧ bk f t l a = true then 1 else 0
theorem ind01 {l : List Nat} : is01 (ind f t th l) m := fun a _ => by
  unfold ind
  split
  · exact Or.inr rfl
  · exact Or.inl rfl
theorem bc_ind {l : List Nat} (h : l.Nodup) (c : Nat → Int) : bc (wt m f t th c) l = cnt (fun a => ind f t th l a * c a) m := by
  rw [bc_wt h]
  refine cnt_congr (fun a _ => ?_)
  unfold ind
  split
  · rw [Int.one_mul]
  · rw [Int.zero_mul]
/-- the first of the smallest sets of arcs that lead back in an order -/
def isTurn (n m : Nat) (f t : Nat → Nat) (th : Nat → Int) (x : Nat → Int) : Prop := ∃ l, ordOf (full n) l ∧ (∀ a, a < m → x a = ind f t th l a) ∧ ∀ l2, ordOf (full n) l2 → bc (wt m f t th wW) l ≤ bc (wt m f t th wW) l2
theorem isTurn_one {x y : Nat → Int} (hm : m ≤ 24) (hx : isTurn n m f t th x) (hy : isTurn n m f t th y) : ∀ a, a < m → x a = y a := by
  obtain ⟨l, h1, h2, h3⟩ := hx
  obtain ⟨l2, g1, g2, g3⟩ := hy
  have e : cnt (fun a => ind f t th l a * wW a) m = cnt (fun a => ind f t th l2 a * wW a) m := by
    rw [← bc_ind h1.1, ← bc_ind g1.1]
    exact Int.le_antisymm (h3 l2 g1) (g3 l h1)
  intro a ha
  rw [h2 a ha, g2 a ha]
  exact wW_inj hm ind01 ind01 e a ha
/-- how far the search arc by arc has come: the choices below k, and that they are the best -/
def grd (n m : Nat) (f t : Nat → Nat) (th : Nat → Int) (x : Nat → Int) (N : Int) (k : Nat) : Prop := (∀ l, ordOf (full n) l → N ≤ cnt (ind f t th l) m) ∧ (∃ l, ordOf (full n) l ∧ cnt (ind f t th l) m = N ∧ ∀ a, a < k → ind f t th l a = x a) ∧ ∀ l, ordOf (full n) l → cnt (ind f t th l) m = N → vb (ind f t th l) k ≤ vb x k
theorem grd_01 {x : Nat → Int} {N : Int} {k : Nat} (h : grd n m f t th x N k) : is01 x k := fun a ha => by
  obtain ⟨-, ⟨l, -, -, h3⟩, -⟩ := h
  rw [← h3 a ha]
  exact ind01 (m := k) a ha
theorem grd_0 {x : Nat → Int} {N : Int} (h : isMin (wt m f t th (fun _ => 1)) (full n) N) : grd n m f t th x N 0 := by
  have e : ∀ l, ordOf (full n) l → bc (wt m f t th (fun _ => 1)) l = cnt (ind f t th l) m := fun l hl => by
    rw [bc_ind hl.1]
    exact cnt_congr (fun a _ => Int.mul_one _)
  obtain ⟨⟨l, h1, h2⟩, h3⟩ := h
  refine ⟨fun l hl => by rw [← e l hl]; exact h3 l hl, ⟨l, h1, by rw [← e l h1]; exact h2, fun a ha => absurd ha (by omega)⟩, fun l _ _ => Int.le_refl _⟩
theorem cnt_split {g : Nat → Int} {k : Nat} : ∀ {m : Nat}, k < m → cnt g m = cnt g k + g k + cnt (fun a => if k < a then g a else 0) m
  | 0, h => absurd h (by omega)
  | m + 1, h => by
    show cnt g m + g m = cnt g k + g k + (cnt (fun a => if k < a then g a else 0) m + if k < m then g m else 0)
    by_cases e : k = m
    · subst e
      rw [if_neg (by omega), cnt_congr (m := k) (f := fun a => if k < a then g a else 0) (g := fun _ => 0) (fun a ha => if_neg (by omega)), cnt_zero]
      omega
    · rw [if_pos (by omega), cnt_split (m := m) (k := k) (by omega)]
      omega
/-- the costs with which arc k is asked for: what was taken 0, what was left 1000, arc k 0, the others 1 -/
def ask (x : Nat → Int) (k a : Nat) : Int := if a < k then (if x a = 1 then 0 else 1000) else if a = k then 0 else 1
theorem ask_sum {x : Nat → Int} {l : List Nat} {k : Nat} (hk : k < m) : cnt (fun a => ind f t th l a * ask x k a) m = 1000 * cnt (fun a => if x a = 1 then 0 else ind f t th l a) k + cnt (fun a => if k < a then ind f t th l a else 0) m := by
  rw [cnt_split hk]
  have e1 : cnt (fun a => ind f t th l a * ask x k a) k = 1000 * cnt (fun a => if x a = 1 then 0 else ind f t th l a) k := by
    have : ∀ j, j ≤ k → cnt (fun a => ind f t th l a * ask x k a) j = 1000 * cnt (fun a => if x a = 1 then 0 else ind f t th l a) j := fun j => by
      induction j with
      | zero => exact fun _ => rfl
      | succ j ih =>
        intro hj
        show cnt (fun a => ind f t th l a * ask x k a) j + ind f t th l j * ask x k j = 1000 * (cnt (fun a => if x a = 1 then 0 else ind f t th l a) j + if x j = 1 then 0 else ind f t th l j)
        rw [ih (by omega)]
        unfold ask
        rw [if_pos (by omega)]
        split <;> omega
    exact this k (Nat.le_refl _)
  have e2 : ind f t th l k * ask x k k = 0 := by
    unfold ask
    rw [if_neg (by omega), if_pos rfl, Int.mul_zero]
  have e3 : cnt (fun a => if k < a then ind f t th l a * ask x k a else 0) m = cnt (fun a => if k < a then ind f t th l a else 0) m := cnt_congr (fun a _ => by
    by_cases q : k < a
    · rw [if_pos q, if_pos q]
      unfold ask
      rw [if_neg (by omega), if_neg (by omega), Int.mul_one]
    · rw [if_neg q, if_neg q])
  rw [e1, e2, e3]
  omega
/-- arc k is there, and asking for it costs c -/
theorem grd_step {x y : Nat → Int} {N c : Int} {k : Nat} (hk : k < m) (hm : m ≤ 24) (h : grd n m f t th x N k) (hc : isMin (wt m f t th (ask x k)) (full n) c) (hy : ∀ a, a < k → y a = x a) (hyk : y k = if c ≤ N - cnt x k - 1 then 1 else 0) : grd n m f t th y N (k + 1) := by
  have h01 := grd_01 h
  obtain ⟨g1, ⟨l0, g2, g3, g4⟩, g5⟩ := h
  obtain ⟨⟨l1, c1, c2⟩, c3⟩ := hc
  have evb : vb y (k + 1) = 2 * vb x k + y k := by
    show 2 * vb y k + y k = _
    rw [vb_congr hy]
  have hxk : cnt x k ≤ N ∧ 0 ≤ cnt x k := by
    have e := cnt_split (g := ind f t th l0) hk
    have e1 := cnt_congr g4
    have e2 := cnt_nonneg (f := fun a => if k < a then ind f t th l0 a else 0) (m := m) (fun a _ => by
      by_cases q : k < a
      · rw [if_pos q]
        rcases ind01 (f := f) (t := t) (th := th) (l := l0) (m := a + 1) a (by omega) with r | r <;> omega
      · rw [if_neg q]
        exact Int.le_refl _)
    have e3 := ind01 (f := f) (t := t) (th := th) (l := l0) (m := k + 1) k (by omega)
    have e4 := cnt_range h01
    omega
  have hN : N ≤ 24 := by
    have := cnt_range (f := ind f t th l0) (m := m) ind01
    omega
  by_cases hq : c ≤ N - cnt x k - 1
  · rw [if_pos hq] at hyk
    rw [bc_ind c1.1, ask_sum hk] at c2
    have hz : cnt (fun a => if x a = 1 then 0 else ind f t th l1 a) k = 0 := by
      have p1 := cnt_nonneg (f := fun a => if x a = 1 then 0 else ind f t th l1 a) (m := k) (fun a _ => by
        by_cases q : x a = 1
        · rw [if_pos q]
          exact Int.le_refl _
        · rw [if_neg q]
          rcases ind01 (f := f) (t := t) (th := th) (l := l1) (m := a + 1) a (by omega) with r | r <;> omega)
      have p2 := cnt_nonneg (f := fun a => if k < a then ind f t th l1 a else 0) (m := m) (fun a _ => by
        by_cases q : k < a
        · rw [if_pos q]
          rcases ind01 (f := f) (t := t) (th := th) (l := l1) (m := a + 1) a (by omega) with r | r <;> omega
        · rw [if_neg q]
          exact Int.le_refl _)
      omega
    have hle : ∀ a, a < k → ind f t th l1 a ≤ x a := fun a ha => by
      have p3 := cnt_all0 (f := fun a => if x a = 1 then 0 else ind f t th l1 a) (m := k) (fun a _ => by
        by_cases q : x a = 1
        · rw [if_pos q]
          exact Int.le_refl _
        · rw [if_neg q]
          rcases ind01 (f := f) (t := t) (th := th) (l := l1) (m := a + 1) a (by omega) with r | r <;> omega) (by omega) a ha
      have p4 := h01 a ha
      have p5 := ind01 (f := f) (t := t) (th := th) (l := l1) (m := a + 1) a (by omega)
      by_cases q : x a = 1
      · omega
      · rw [if_neg q] at p3
        omega
    have hs := cnt_split (g := ind f t th l1) hk
    have hg := g1 l1 c1
    have hk1 := ind01 (f := f) (t := t) (th := th) (l := l1) (m := k + 1) k (by omega)
    have hle2 := cnt_le hle
    have heq : ∀ a, a < k → ind f t th l1 a = x a := fun a ha => by
      have p6 := cnt_all0 (f := fun a => x a - ind f t th l1 a) (m := k) (fun a ha => by have := hle a ha; omega) (by rw [cnt_sub]; omega) a ha
      omega
    refine ⟨g1, ⟨l1, c1, by omega, fun a ha => ?_⟩, fun l hl hN2 => ?_⟩
    · by_cases q : a = k
      · subst q
        rw [hyk]
        omega
      · rw [hy a (by omega)]
        exact heq a (by omega)
    · have := g5 l hl hN2
      have q := ind01 (f := f) (t := t) (th := th) (l := l) (m := k + 1) k (by omega)
      rw [evb, hyk]
      show 2 * vb (ind f t th l) k + ind f t th l k ≤ _
      omega
  · rw [if_neg hq] at hyk
    have hno : ∀ l, ordOf (full n) l → cnt (ind f t th l) m = N → (∀ a, a < k → ind f t th l a = x a) → ind f t th l k = 0 := fun l hl hN2 he => by
      have q := ind01 (f := f) (t := t) (th := th) (l := l) (m := k + 1) k (by omega)
      rcases q with q | q
      · exact q
      · exfalso
        have p1 := c3 l hl
        rw [bc_ind hl.1, ask_sum hk, cnt_congr (f := fun a => if x a = 1 then 0 else ind f t th l a) (g := fun _ => 0) (fun a ha => by
          have := h01 a ha
          rw [he a ha]
          by_cases r : x a = 1
          · rw [if_pos r]
          · rw [if_neg r]
            omega), cnt_zero] at p1
        have hs := cnt_split (g := ind f t th l) hk
        rw [cnt_congr he] at hs
        omega
    refine ⟨g1, ⟨l0, g2, g3, fun a ha => ?_⟩, fun l hl hN2 => ?_⟩
    · by_cases q : a = k
      · subst q
        rw [hyk]
        exact hno l0 g2 g3 g4
      · rw [hy a (by omega)]
        exact g4 a (by omega)
    · have p1 := g5 l hl hN2
      have q := ind01 (f := f) (t := t) (th := th) (l := l) (m := k + 1) k (by omega)
      rw [evb, hyk]
      show 2 * vb (ind f t th l) k + ind f t th l k ≤ _
      rcases Int.lt_or_eq_of_le p1 with r | r
      · omega
      · have p2 := hno l hl hN2 (vb_inj ind01 h01 r)
        omega
/-- arc k isn't there -/
theorem grd_skip {x y : Nat → Int} {N : Int} {k : Nat} (h : grd n m f t th x N k) (hk : th k ≠ 1) (hy : ∀ a, a < k → y a = x a) (hyk : y k = 0) : grd n m f t th y N (k + 1) := by
  obtain ⟨g1, ⟨l0, g2, g3, g4⟩, g5⟩ := h
  have hi : ∀ l, ind f t th l k = 0 := fun l => if_neg (fun q => hk q.1)
  refine ⟨g1, ⟨l0, g2, g3, fun a ha => ?_⟩, fun l hl hN2 => ?_⟩
  · by_cases q : a = k
    · subst q
      rw [hyk]
      exact hi l0
    · rw [hy a (by omega)]
      exact g4 a (by omega)
  · have := g5 l hl hN2
    have e : vb y (k + 1) = 2 * vb x k + y k := by
      show 2 * vb y k + y k = _
      rw [vb_congr hy]
    rw [e, hyk]
    show 2 * vb (ind f t th l) k + ind f t th l k ≤ _
    rw [hi l]
    omega
/-- at the end: the set that is meant -/
theorem grd_end {x : Nat → Int} {N : Int} (hm : m ≤ 24) (h : grd n m f t th x N m) : isTurn n m f t th x := by
  have h01 := grd_01 h
  obtain ⟨g1, ⟨l0, g2, g3, g4⟩, g5⟩ := h
  refine ⟨l0, g2, fun a ha => (g4 a ha).symm, fun l hl => ?_⟩
  rw [bc_ind g2.1, bc_ind hl.1, wW_sum, wW_sum]
  have r1 := vb_range hm (ind01 (f := f) (t := t) (th := th) (l := l0))
  have r2 := vb_range hm (ind01 (f := f) (t := t) (th := th) (l := l))
  have r3 := g1 l hl
  rcases Int.lt_or_eq_of_le r3 with q | q
  · omega
  · have r4 := g5 l hl q.symm
    rw [vb_congr (fun a ha => (g4 a ha).symm)] at r4
    cases m with
    | zero =>
      show _ - (0 : Int) ≤ _ - (0 : Int)
      omega
    | succ m =>
      rw [marks_vb (by omega), marks_vb (by omega)]
      have r5 := mk2_pos m
      have r6 := Int.mul_le_mul_of_nonneg_right r4 (Int.le_of_lt r5)
      omega
end turned
