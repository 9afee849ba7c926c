-- the first rows
section w0
variable {n m : Nat} {U L Y : Nat → Nat} {th : Nat → Int}
/-- the layer of an item, 100 for other numbers -/
def wK (n m : Nat) (U L Y : Nat → Nat) (th : Nat → Int) (i : Nat) : Nat := if i < n ∨ (12 ≤ i ∧ i < wF U L Y th m) then wL m U L Y th i else 100
theorem wK_t {i : Nat} (h : wT n m U L Y th i) : wK n m U L Y th i = wL m U L Y th i := if_pos h
theorem wK_f {i : Nat} (h : ¬ wT n m U L Y th i) : wK n m U L Y th i = 100 := if_neg h
theorem wK_it (_h : dr n m U L Y th) {i l : Nat} (hl : l < 100) (e : wK n m U L Y th i = l) : wT n m U L Y th i ∧ wL m U L Y th i = l := by
  rcases Classical.em (wT n m U L Y th i) with q | q
  · rw [wK_t q] at e
    exact ⟨q, e⟩
  · rw [wK_f q] at e
    omega
/-- rows by numbers -/
def rw0 (g : Nat → Nat) (l : Nat) : Nat → Nat → Int
  | 0 => fun _ => 0
  | k + 1 => if g k = l then upf (rw0 g l k) (ctg g l k) (k : Int) else rw0 g l k
theorem rw0_at {g : Nat → Nat} {l i : Nat} : ∀ {k : Nat}, i < k → g i = l → rw0 g l k (ctg g l i) = i
  | 0, h, _ => absurd h (by omega)
  | k + 1, h, e => by
    unfold rw0
    by_cases q : g k = l
    · rw [if_pos q]
      by_cases e2 : i = k
      · rw [e2, upf_s]
      · have := ctg_lt (l := l) (a := i) (b := k) (g := g) (by omega) e
        rw [upf_n (by omega)]
        exact rw0_at (by omega) e
    · rw [if_neg q]
      have : i ≠ k := fun z => q (by rw [← z]; exact e)
      exact rw0_at (by omega) e
/-- how many layers -/
def hY (Y : Nat → Nat) : Nat → Nat
  | 0 => 0
  | k + 1 => if hY Y k < Y k + 1 then Y k + 1 else hY Y k
theorem hY_lt {v : Nat} : ∀ {k : Nat}, v < k → Y v < hY Y k
  | 0, h => absurd h (by omega)
  | k + 1, h => by
    unfold hY
    by_cases e : v = k
    · subst e
      split <;> omega
    · have := hY_lt (k := k) (v := v) (by omega)
      split <;> omega
theorem hY_le {b : Nat} : ∀ {k : Nat}, (∀ v, v < k → Y v < b) → hY Y k ≤ b
  | 0, _ => Nat.zero_le _
  | k + 1, h => by
    have h1 := hY_le (k := k) (fun v hv => h v (by omega))
    have h2 := h k (by omega)
    unfold hY
    split <;> omega
theorem wL_h (h : dr n m U L Y th) {i : Nat} (hi : wT n m U L Y th i) : wL m U L Y th i < hY Y n := by
  obtain ⟨h1, h2, h3, h4, h5⟩ := id h
  rcases hi with q | q
  · unfold wL
    rw [if_pos (by omega)]
    exact hY_lt q
  · obtain ⟨a, k, b1, b2, b3, b4, b5⟩ := wT_bend q.1 q.2
    have e := (wL_bend b1 b2 b3 b4).1
    rw [b5, e]
    have := wS_p h b1 b2
    have := hY_lt (Y := Y) (h3 a b1).2.1
    omega
theorem wG_h (h : dr n m U L Y th) {p : Nat} (hp : p < wB U L Y th m) : wG m U L Y th p < hY Y n - 1 := by
  have h1 := wP_p h hp
  have := wL_h h h1.2.2.2.1
  omega
theorem h_n (h : dr n m U L Y th) : hY Y n ≤ n := hY_le h.2.2.2.1
theorem wK_n (h : dr n m U L Y th) {l : Nat} (hl : l < 100) : ∀ {k : Nat}, k ≤ 12 → ctg (wK n m U L Y th) l k ≤ n
  | 0, _ => Nat.zero_le _
  | k + 1, hk => by
    have ih := wK_n h hl (k := k) (by omega)
    rcases Nat.lt_or_ge k n with q | q
    · have := ctg_le (g := wK n m U L Y th) (l := l) (k + 1)
      omega
    · rw [ctg_n (fun e => ?_)]
      · exact ih
      · have := (wK_it h hl e).1
        rcases this with r | r <;> omega
theorem wK_b (h : dr n m U L Y th) {a l : Nat} (ha : a < m) (ht : th a = 1) : ∀ {j : Nat}, j + 1 ≤ wS U L Y a → ctg (wK n m U L Y th) l (wF U L Y th a + j) ≤ ctg (wK n m U L Y th) l (wF U L Y th a) + (if Y (U a) + 1 ≤ l ∧ l ≤ Y (U a) + j then 1 else 0)
  | 0, _ => Nat.le_add_right _ _
  | j + 1, hj => by
    have ih := wK_b h ha ht (l := l) (j := j) (by omega)
    obtain ⟨b1, b2, b3⟩ := wL_bend (m := m) (U := U) (L := L) (Y := Y) ha ht (k := j + 1) (by omega) (by omega)
    have e : wF U L Y th a + (j + 1) - 1 = wF U L Y th a + j := by omega
    rw [e] at b1 b2 b3
    have e2 : wK n m U L Y th (wF U L Y th a + j) = Y (U a) + (j + 1) := by rw [wK_t (Or.inr ⟨b2, b3⟩), b1]
    rw [show wF U L Y th a + (j + 1) = wF U L Y th a + j + 1 by omega]
    by_cases q : l = Y (U a) + (j + 1)
    · rw [ctg_s (by rw [e2, q]), if_pos (by omega)]
      rw [if_neg (by omega)] at ih
      omega
    · rw [ctg_n (by rw [e2]; omega)]
      refine Nat.le_trans ih ?_
      split <;> split <;> omega
theorem wK_a (h : dr n m U L Y th) {l : Nat} (hl : l < 100) : ∀ {a : Nat}, a ≤ m → ctg (wK n m U L Y th) l (wF U L Y th a) ≤ n + a
  | 0, _ => wK_n h hl (Nat.le_refl _)
  | a + 1, ha => by
    have ih := wK_a h hl (a := a) (by omega)
    rcases Classical.em (th a = 1) with q | q
    · rw [wF_s q]
      have h1 := wS_p h (a := a) (by omega) q
      have := wK_b h (l := l) (by omega : a < m) q (j := wS U L Y a - 1) (by omega)
      have h2 : (if Y (U a) + 1 ≤ l ∧ l ≤ Y (U a) + (wS U L Y a - 1) then 1 else 0) ≤ 1 := by split <;> omega
      omega
    · rw [wF_n q]
      omega
theorem wK_36 (h : dr n m U L Y th) {l a j : Nat} (hl : l < 100) (ha : a < m) (ht : th a = 1) (hj : j + 1 ≤ wS U L Y a) : ctg (wK n m U L Y th) l (wF U L Y th a + j) ≤ 36 := by
  have h1 := wK_b h (l := l) ha ht hj
  have h2 := wK_a h hl (a := a) (by omega)
  have h3 : (if Y (U a) + 1 ≤ l ∧ l ≤ Y (U a) + j then 1 else 0) ≤ 1 := by split <;> omega
  obtain ⟨g1, g2, -⟩ := h
  omega
theorem wK_off (h : dr n m U L Y th) {l : Nat} (hl : l < 100) : ∀ j, ctg (wK n m U L Y th) l (wF U L Y th m + j) = ctg (wK n m U L Y th) l (wF U L Y th m)
  | 0 => rfl
  | j + 1 => by
    refine Eq.trans (ctg_n (k := wF U L Y th m + j) (fun e => ?_)) (wK_off h hl j)
    have h12 := wF_12 (U := U) (L := L) (Y := Y) (th := th) m
    have hn := h.1
    rcases (wK_it h hl e).1 with r | r <;> omega
/-- how many a layer has -/
def wZ (n m : Nat) (U L Y : Nat → Nat) (th : Nat → Int) (l : Nat) : Nat := ctg (wK n m U L Y th) l (wF U L Y th m)
theorem wZ_36 (h : dr n m U L Y th) {l : Nat} (hl : l < 100) : wZ n m U L Y th l ≤ 36 := by
  have := wK_a h hl (Nat.le_refl m)
  obtain ⟨g1, g2, -⟩ := h
  unfold wZ
  omega
theorem wZ_80 (h : dr n m U L Y th) {l : Nat} (hl : l < 100) : ctg (wK n m U L Y th) l 80 = wZ n m U L Y th l := by
  have := wK_off h hl (80 - wF U L Y th m)
  have := h.2.2.2.2
  rwa [show wF U L Y th m + (80 - wF U L Y th m) = 80 by omega] at *
theorem wG_b {a l : Nat} (ha : a < m) (ht : th a = 1) : ∀ {j : Nat}, j ≤ wS U L Y a → ctg (wG m U L Y th) l (wB U L Y th a + j) ≤ ctg (wG m U L Y th) l (wB U L Y th a) + (if Y (U a) ≤ l ∧ l < Y (U a) + j then 1 else 0)
  | 0, _ => Nat.le_add_right _ _
  | j + 1, hj => by
    have ih := wG_b ha ht (l := l) (j := j) (by omega)
    have e2 := wG_at (m := m) (U := U) (L := L) (Y := Y) ha ht (k := j) (by omega)
    rw [show wB U L Y th a + (j + 1) = wB U L Y th a + j + 1 by omega]
    by_cases q : l = Y (U a) + j
    · rw [ctg_s (by rw [e2, q]), if_pos (by omega)]
      rw [if_neg (by omega)] at ih
      omega
    · rw [ctg_n (by rw [e2]; omega)]
      refine Nat.le_trans ih ?_
      split <;> split <;> omega
theorem wG_a {l : Nat} : ∀ {a : Nat}, a ≤ m → ctg (wG m U L Y th) l (wB U L Y th a) ≤ a
  | 0, _ => Nat.zero_le _
  | a + 1, ha => by
    have ih := wG_a (l := l) (a := a) (by omega)
    rcases Classical.em (th a = 1) with q | q
    · rw [wB_s q]
      have := wG_b (m := m) (U := U) (L := L) (Y := Y) (l := l) (by omega : a < m) q (j := wS U L Y a) (Nat.le_refl _)
      have h2 : (if Y (U a) ≤ l ∧ l < Y (U a) + wS U L Y a then 1 else 0) ≤ 1 := by split <;> omega
      omega
    · rw [wB_n q]
      omega
/-- before its piece in a layer, an arc has none there -/
theorem wG_24 (_h : dr n m U L Y th) {a j : Nat} (ha : a < m) (ht : th a = 1) (hj : j ≤ wS U L Y a) : ctg (wG m U L Y th) (Y (U a) + j) (wB U L Y th a + j) ≤ a := by
  have h1 := wG_b (m := m) (l := Y (U a) + j) ha ht hj
  have h2 := wG_a (m := m) (U := U) (L := L) (Y := Y) (th := th) (l := Y (U a) + j) (a := a) (by omega)
  rw [if_neg (by omega)] at h1
  omega
theorem wB_84 (h : dr n m U L Y th) : ∀ {a : Nat}, a ≤ m → wB U L Y th a + 12 ≤ wF U L Y th a + a
  | 0, _ => Nat.le_refl _
  | a + 1, ha => by
    have ih := wB_84 h (a := a) (by omega)
    rcases Classical.em (th a = 1) with q | q
    · have := wS_p h (a := a) (by omega) q
      rw [wB_s q, wF_s q]
      omega
    · rw [wB_n q, wF_n q]
      omega
/-- x is an item of layer l -/
def wQ (n m : Nat) (U L Y : Nat → Nat) (th : Nat → Int) (l : Nat) (x : Int) : Prop := ∃ i : Nat, x = i ∧ wT n m U L Y th i ∧ wL m U L Y th i = l
theorem wQ_one (l k : Nat) (x y : Int) (h1 : wQ n m U L Y th l x) (h2 : wQ n m U L Y th k y) (e : x.toNat = y.toNat) : l = k ∧ x = y := by
  obtain ⟨i, i1, i2, i3⟩ := h1
  obtain ⟨j, j1, j2, j3⟩ := h2
  have : i = j := by omega
  subst this
  exact ⟨by omega, by omega⟩
/-- the first state -/
def wz0 (n m : Nat) (U L Y : Nat → Nat) (th : Nat → Int) : wSt := (fun l => rw0 (wK n m U L Y th) l (wF U L Y th m), fun i => (ctg (wK n m U L Y th) (wK n m U L Y th i) i : Int))
theorem wz0_ok (h : dr n m U L Y th) : wok (wQ n m U L Y th) (wZ n m U L Y th) (hY Y n) (wz0 n m U L Y th) := fun l hl => by
  have hl2 : l < 100 := by
    have := h_n h
    have := h.1
    omega
  have hF := wF_12 (U := U) (L := L) (Y := Y) (th := th) m
  have hn := h.1
  have key : ∀ j, j < wZ n m U L Y th l → ∃ i : Nat, i < wF U L Y th m ∧ wT n m U L Y th i ∧ wL m U L Y th i = l ∧ ctg (wK n m U L Y th) l i = j ∧ (wz0 n m U L Y th).1 l j = i := fun j hj => by
    obtain ⟨i, h1, h2, h3⟩ := ctg_ex hj
    have h4 := wK_it h hl2 h2
    refine ⟨i, h1, h4.1, h4.2, h3, ?_⟩
    rw [← h3]
    exact rw0_at h1 h2
  refine ⟨⟨fun j hj => ?_, fun i j hi hj e => ?_, fun x hx => ?_⟩, fun j hj => ?_⟩
  · obtain ⟨i, h1, h2, h3, h4, h5⟩ := key j hj
    exact ⟨i, h5, h2, h3⟩
  · obtain ⟨i1, a1, a2, a3, a4, a5⟩ := key i hi
    obtain ⟨i2, b1, b2, b3, b4, b5⟩ := key j hj
    rw [a5, b5] at e
    have : i1 = i2 := by omega
    rw [this] at a4
    omega
  · obtain ⟨i, h1, h2, h3⟩ := hx
    have hi : i < wF U L Y th m := by rcases h2 with r | r <;> omega
    have e : wK n m U L Y th i = l := by rw [wK_t h2, h3]
    exact ⟨ctg (wK n m U L Y th) l i, ctg_lt hi e, by rw [h1]; exact rw0_at hi e⟩
  · obtain ⟨i, h1, h2, h3, h4, h5⟩ := key j hj
    rw [h5]
    show ((ctg (wK n m U L Y th) (wK n m U L Y th i) i : Nat) : Int) = j
    rw [wK_t h2, h3, h4]
/-- spots are small -/
theorem wok_s {Q : Nat → Int → Prop} {sz : Nat → Nat} {h : Nat} {z : wSt} (hz : wok Q sz h z) {l : Nat} (hl : l < h) {x : Int} (hx : Q l x) : 0 ≤ z.2 x.toNat ∧ z.2 x.toNat < sz l ∧ z.1 l (z.2 x.toNat).toNat = x := by
  obtain ⟨⟨h1, h2, h3⟩, h4⟩ := hz l hl
  obtain ⟨j, hj, e⟩ := h3 x hx
  have := h4 j hj
  rw [e] at this
  rw [this]
  exact ⟨by omega, by omega, e⟩
end w0
