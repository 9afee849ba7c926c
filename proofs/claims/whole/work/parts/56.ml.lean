-- where a node stands in an order: the last one first in the list
def ps : List Nat → Nat → Nat
  | [], _ => 0
  | u :: l, v => if v = u then l.length else ps l v
theorem ps_lt : ∀ {l : List Nat} {v : Nat}, v ∈ l → ps l v < l.length
  | [], _, h => absurd h (by simp)
  | u :: l, v, h => by
    unfold ps
    by_cases e : v = u
    · rw [if_pos e]
      simp
    · rw [if_neg e]
      have := ps_lt (l := l) (v := v) (by simpa [e] using h)
      simp
      omega
theorem bk_ps {f t : Nat → Nat} {a : Nat} (hne : f a ≠ t a) : ∀ {l : List Nat}, l.Nodup → f a ∈ l → t a ∈ l → (bk f t l a = true → ps l (t a) < ps l (f a)) ∧ (bk f t l a = false → ps l (f a) < ps l (t a))
  | [], _, h, _ => absurd h (by simp)
  | u :: l, hn, hf, ht => by
    have hn2 := List.nodup_cons.mp hn
    by_cases e1 : f a = u
    · have ht2 : t a ∈ l := by
        rcases List.mem_cons.mp ht with r | r
        · exact absurd (e1.trans r.symm) hne
        · exact r
      have e2 : t a ≠ u := fun q => hne (e1.trans q.symm)
      have h1 := ps_lt ht2
      unfold bk ps
      rw [if_pos e1, if_neg e2]
      refine ⟨fun _ => h1, fun h => ?_⟩
      simp [e1, ht2] at h
    · have hf2 : f a ∈ l := by
        rcases List.mem_cons.mp hf with r | r
        · exact absurd r e1
        · exact r
      by_cases e2 : t a = u
      · have h1 := ps_lt hf2
        unfold bk ps
        rw [if_neg e1, if_pos e2]
        refine ⟨fun h => ?_, fun _ => h1⟩
        simp only [e1, decide_false, Bool.false_and, Bool.or_false] at h
        have := (bk_in h).2
        rw [e2] at this
        exact absurd this hn2.1
      · have ht2 : t a ∈ l := by
          rcases List.mem_cons.mp ht with r | r
          · exact absurd r e2
          · exact r
        have ih := bk_ps hne hn2.2 hf2 ht2
        unfold bk ps
        rw [if_neg e1, if_neg e2]
        simp only [e1, decide_false, Bool.false_and, Bool.or_false]
        exact ih
theorem sumL_one : ∀ l : List Nat, sumL (fun _ => 1) l = l.length
  | [] => rfl
  | u :: l => by
    show 1 + sumL (fun _ => 1) l = _
    rw [sumL_one l]
    simp
    omega
theorem ord_len {n : Nat} {l : List Nat} (h : ordOf (full n) l) : l.length ≤ n := by
  have h1 := sumL_cnt (g := fun _ => 1) (N := n) h.1 (fun v hv => by have := (h.2 v).mp hv; simpa [full] using this)
  rw [sumL_one] at h1
  have h2 := cnt_bnd (b := 1) (m := n) (g := fun u => if u ∈ l then (1 : Int) else 0) (fun a _ => by split <;> decide)
  omega
/-- with the turned arcs the other way all arcs lead on -/
theorem turn_pos {n m : Nat} {f t : Nat → Nat} {th x : Nat → Int} (h : isTurn n m f t th x) (ha : ∀ a, a < m → f a < n ∧ t a < n ∧ f a ≠ t a) : ∃ pos : Nat → Nat, (∀ v, v < n → pos v < n) ∧ ∀ a, a < m → th a = 1 → pos (if x a = 1 then t a else f a) < pos (if x a = 1 then f a else t a) := by
  obtain ⟨l, h1, h2, -⟩ := h
  have hm : ∀ v, v < n → v ∈ l := fun v hv => (h1.2 v).mpr (by simpa [full] using hv)
  refine ⟨ps l, fun v hv => ?_, fun a h3 h4 => ?_⟩
  · have := ps_lt (hm v hv)
    have := ord_len h1
    omega
  · obtain ⟨q1, q2, q3⟩ := ha a h3
    have h5 := bk_ps q3 h1.1 (hm _ q1) (hm _ q2)
    rw [h2 a h3]
    unfold ind
    cases e : bk f t l a with
    | false => simpa using h5.2 e
    | true => simpa [h4] using h5.1 e
section lgm
variable {n m : Nat} {up lo : Nat → Nat} {th : Nat → Int} {pos : Nat → Nat}
/-- longest ways: at arc k of pass t -/
def lgI (n m : Nat) (up lo : Nat → Nat) (th : Nat → Int) (pos : Nat → Nat) (t k : Nat) (y : Nat → Int) : Prop := (∀ v, v < n → 0 ≤ y v ∧ y v ≤ pos v) ∧ (∀ a, a < m → th a = 1 → pos (lo a) < t → y (up a) + 1 ≤ y (lo a)) ∧ ∀ a, a < k → th a = 1 → pos (lo a) = t → y (up a) + 1 ≤ y (lo a)
theorem lg_set (hin : ∀ a, a < m → up a < n ∧ lo a < n) (hp : ∀ a, a < m → th a = 1 → pos (up a) < pos (lo a)) {t k : Nat} {y z : Nat → Int} (hk : k < m) (h : lgI n m up lo th pos t k y) (h1 : th k = 1) (h2 : y (lo k) ≤ y (up k)) (hz : ∀ v, z v = if v = lo k then y (up k) + 1 else y v) : lgI n m up lo th pos t (k + 1) z := by
  obtain ⟨i1, i2, i3⟩ := h
  have hpk := hp k hk h1
  have hik := hin k hk
  have ht : t ≤ pos (lo k) := by
    rcases Nat.lt_or_ge (pos (lo k)) t with r | r
    · have := i2 k hk h1 r
      omega
    · exact r
  refine ⟨fun v hv => ?_, fun a b1 b2 b3 => ?_, fun a b1 b2 b3 => ?_⟩
  · rw [hz]
    split
    · rename_i e
      have := i1 (up k) hik.1
      rw [e]
      omega
    · exact i1 v hv
  · have hpa := hp a b1 b2
    rw [hz, hz, if_neg (fun q => by rw [q] at hpa; omega), if_neg (fun q => by rw [q] at b3; omega)]
    exact i2 a b1 b2 b3
  · have hpa := hp a (by omega) b2
    rw [hz, hz, if_neg (fun q => by rw [q] at hpa; omega)]
    by_cases e : a = k
    · rw [e, if_pos rfl]
      omega
    · have h5 := i3 a (by omega) b2 b3
      split
      · rename_i e2
        rw [e2] at h5
        omega
      · exact h5
theorem lg_keep {t k : Nat} {y : Nat → Int} (h : lgI n m up lo th pos t k y) (h1 : th k = 1 → y (up k) + 1 ≤ y (lo k)) : lgI n m up lo th pos t (k + 1) y := by
  refine ⟨h.1, h.2.1, fun a b1 b2 b3 => ?_⟩
  by_cases e : a = k
  · rw [e]
    rw [e] at b2
    exact h1 b2
  · exact h.2.2 a (by omega) b2 b3
theorem lg_pass {t : Nat} {y : Nat → Int} (h : lgI n m up lo th pos t m y) : lgI n m up lo th pos (t + 1) 0 y := by
  refine ⟨h.1, fun a b1 b2 b3 => ?_, fun a b1 => absurd b1 (by omega)⟩
  rcases Nat.lt_or_ge (pos (lo a)) t with r | r
  · exact h.2.1 a b1 b2 r
  · exact h.2.2 a b1 b2 (by omega)
theorem lg_end (hin : ∀ a, a < m → up a < n ∧ lo a < n) (hpn : ∀ v, v < n → pos v < n) {t : Nat} {y : Nat → Int} (ht : n ≤ t) (h : lgI n m up lo th pos t 0 y) : feas n m up lo th y := ⟨fun v hv => (h.1 v hv).1, fun a b1 b2 => h.2.1 a b1 b2 (by have := hpn (lo a) (hin a b1).2; omega)⟩
theorem feas_len {y : Nat → Int} (h : feas n m up lo th y) : 0 ≤ len m up lo th y := cnt_nonneg (fun a ha => by
  split
  · rename_i e
    have := h.2 a ha e
    omega
  · exact Int.le_refl _)
def muL (n m : Nat) (up lo : Nat → Nat) (th : Nat → Int) (y : Nat → Int) : Nat := (len m up lo th y).toNat * 4000 + (cnt y n).toNat
theorem sum_small {y : Nat → Int} (hn : n ≤ 12) (h : ∀ v, v < n → 0 ≤ y v ∧ y v ≤ 300) : 0 ≤ cnt y n ∧ cnt y n ≤ 3600 := by
  have h1 := cnt_bnd (b := 300) (m := n) (g := y) (fun v hv => (h v hv).2)
  exact ⟨cnt_nonneg (fun v hv => (h v hv).1), by omega⟩
theorem mv_up (hin : ∀ a, a < m → up a < n ∧ lo a < n) (hn : n ≤ 12) {y z S : Nat → Int} (hf : feas n m up lo th y) (hB : ∀ v, v < n → y v + len m up lo th y ≤ 300) (hS : ∀ v, S v = 0 ∨ S v = 1) (hb : ∀ a, a < m → th a = 1 → ¬ (S (lo a) - S (up a) < 0 ∧ y (lo a) - y (up a) = 1)) (hl : len m up lo th S < 0) (hz : ∀ v, v < n → z v = y v + S v) : feas n m up lo th z ∧ (∀ v, v < n → z v + len m up lo th z ≤ 300) ∧ muL n m up lo th z < muL n m up lo th y := by
  have hlz : len m up lo th z = len m up lo th y + len m up lo th S := by rw [← len_add]; exact len_congr hin hz
  have hfz : feas n m up lo th z := ⟨fun v hv => by
    rw [hz v hv]
    have := hf.1 v hv
    have := hS v
    omega, fun a h1 h2 => by
    rw [hz _ (hin a h1).1, hz _ (hin a h1).2]
    have := hf.2 a h1 h2
    have := hb a h1 h2
    have := hS (lo a)
    have := hS (up a)
    omega⟩
  have hBz : ∀ v, v < n → z v + len m up lo th z ≤ 300 := fun v hv => by
    rw [hlz, hz v hv]
    have := hB v hv
    have := hS v
    omega
  have l0 := feas_len hfz
  have s1 := sum_small hn (fun v hv => ⟨hfz.1 v hv, by have := hBz v hv; omega⟩)
  refine ⟨hfz, hBz, ?_⟩
  unfold muL
  omega
theorem mv_dn (hin : ∀ a, a < m → up a < n ∧ lo a < n) {y z S : Nat → Int} (hf : feas n m up lo th y) (hB : ∀ v, v < n → y v + len m up lo th y ≤ 300) (hS : ∀ v, S v = 0 ∨ S v = 1) (hb : ∀ a, a < m → th a = 1 → ¬ (S (up a) - S (lo a) < 0 ∧ y (lo a) - y (up a) = 1)) (hab : ∀ v, v < n → S v = 1 → y v ≠ 0) (hex : ∃ v, v < n ∧ S v = 1) (hl : 0 ≤ len m up lo th S) (hz : ∀ v, v < n → z v = y v - S v) : feas n m up lo th z ∧ (∀ v, v < n → z v + len m up lo th z ≤ 300) ∧ muL n m up lo th z < muL n m up lo th y := by
  have hlz : len m up lo th z = len m up lo th y - len m up lo th S := by rw [← len_sub]; exact len_congr hin hz
  have hfz : feas n m up lo th z := ⟨fun v hv => by
    rw [hz v hv]
    have := hf.1 v hv
    have := hS v
    have := hab v hv
    omega, fun a h1 h2 => by
    rw [hz _ (hin a h1).1, hz _ (hin a h1).2]
    have := hf.2 a h1 h2
    have := hb a h1 h2
    have := hS (lo a)
    have := hS (up a)
    omega⟩
  have hBz : ∀ v, v < n → z v + len m up lo th z ≤ 300 := fun v hv => by
    rw [hlz, hz v hv]
    have := hB v hv
    have := hS v
    omega
  have l0 := feas_len hfz
  have s0 : 0 ≤ cnt z n := cnt_nonneg (fun v hv => hfz.1 v hv)
  have s1 : cnt z n = cnt y n - cnt S n := by rw [← cnt_sub]; exact cnt_congr hz
  have s2 : 0 < cnt S n := by
    obtain ⟨v, hv, e⟩ := hex
    have h0 : 0 ≤ cnt S n := cnt_nonneg (fun u _ => by have := hS u; omega)
    rcases Int.lt_or_eq_of_le h0 with r | r
    · exact r
    · have := cnt_all0 (fun u _ => by have := hS u; omega) (Int.le_of_eq r.symm) v hv
      omega
  refine ⟨hfz, hBz, ?_⟩
  unfold muL
  omega
/-- the set of the first n with S -/
def enc (S : Nat → Int) : Nat → Nat
  | 0 => 0
  | k + 1 => enc S k ||| (if S k = 1 then 2 ^ k else 0)
theorem enc_bit (S : Nat → Int) (v : Nat) : ∀ k, (enc S k).testBit v = (decide (v < k) && decide (S v = 1))
  | 0 => by simp [enc]
  | k + 1 => by
    unfold enc
    rw [Nat.testBit_or, enc_bit S v k]
    by_cases e : S k = 1
    · rw [if_pos e, Nat.testBit_two_pow]
      by_cases q : v = k
      · subst q
        simp [e]
      · rw [show decide (k = v) = false by simp; omega, show decide (v < k + 1) = decide (v < k) by simp; omega]
        simp
    · rw [if_neg e, Nat.zero_testBit, Bool.or_false]
      by_cases q : v = k
      · subst q
        simp [e]
      · rw [show decide (v < k + 1) = decide (v < k) by simp; omega]
theorem enc_lt (S : Nat → Int) (n : Nat) : enc S n < 2 ^ n := by
  apply Nat.lt_pow_two_of_testBit
  intro i hi
  rw [enc_bit]
  simp
  omega
theorem sb_ex {s n : Nat} (h1 : s ≠ 0) (h2 : s < 2 ^ n) : ∃ v, v < n ∧ sB s v = 1 := by
  rcases Classical.em (∃ v, v < n ∧ sB s v = 1) with r | r
  · exact r
  · refine absurd (Nat.eq_of_testBit_eq (fun i => ?_)) h1
    rw [Nat.zero_testBit]
    cases e : s.testBit i with
    | false => rfl
    | true =>
      exfalso
      rcases Nat.lt_or_ge i n with q | q
      · exact r ⟨i, q, by unfold sB; rw [if_pos e]⟩
      · have := Nat.testBit_lt_two_pow (x := s) (i := i) (Nat.lt_of_lt_of_le h2 (Nat.pow_le_pow_right (by decide) q))
        rw [this] at e
        exact absurd e (by decide)
theorem lay_bits (hin : ∀ a, a < m → up a < n ∧ lo a < n) {y : Nat → Int} (hf : feas n m up lo th y)
    (hup : ∀ s, s ≠ 0 → s < 2 ^ n → (∀ a, a < m → th a = 1 → ¬ (sB s (lo a) - sB s (up a) < 0 ∧ y (lo a) - y (up a) = 1)) → 0 ≤ len m up lo th (sB s))
    (hdn : ∀ s, s ≠ 0 → s < 2 ^ n → (∀ v, v < n → sB s v = 1 → y v ≠ 0) → (∀ a, a < m → th a = 1 → ¬ (sB s (up a) - sB s (lo a) < 0 ∧ y (lo a) - y (up a) = 1)) → len m up lo th (sB s) < 0) : isLay n m up lo th y := by
  have hS : ∀ S : Nat → Int, (∀ v, S v = 0 ∨ S v = 1) → ∀ v, v < n → S v = sB (enc S n) v := fun S h v hv => by
    unfold sB
    rw [enc_bit]
    have := h v
    by_cases e : S v = 1
    · simp [hv, e]
    · simp [e]
      omega
  refine lay_local hin hf (fun S h1 h2 => ?_) (fun S h1 hx h3 h2 => ?_)
  · have e := len_congr (th := th) hin (hS S h1)
    rw [e]
    rcases Nat.eq_zero_or_pos (enc S n) with r | r
    · rw [r]
      refine cnt_nonneg (fun a _ => ?_)
      simp [sB]
    · refine hup _ (by omega) (enc_lt S n) (fun a h4 h5 => ?_)
      rw [← hS S h1 _ (hin a h4).1, ← hS S h1 _ (hin a h4).2]
      exact h2 a h4 h5
  · have e := len_congr (th := th) hin (hS S h1)
    rw [e]
    refine hdn _ (fun q => ?_) (enc_lt S n) (fun v hv => ?_) (fun a h4 h5 => ?_)
    · obtain ⟨v, hv, e⟩ := hx
      have := hS S h1 v hv
      rw [q, e] at this
      simp [sB] at this
    · rw [← hS S h1 v hv]
      intro q
      have := h3 v hv q
      omega
    · rw [← hS S h1 _ (hin a h4).1, ← hS S h1 _ (hin a h4).2]
      exact h2 a h4 h5
end lgm
