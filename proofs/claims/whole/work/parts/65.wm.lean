-- no layer is left empty
section lyl
variable {n m : Nat} {up lo : Nat → Nat} {th y : Nat → Int}
theorem lay_occ (hin : ∀ a, a < m → up a < n ∧ lo a < n) (h : isLay n m up lo th y) (g : Nat) {v : Nat} (hv : v < n) (hg : (g : Int) < y v) : ∃ w, w < n ∧ y w = g := by
  rcases Classical.em (∃ w, w < n ∧ y w = g) with e | e
  · exact e
  · exfalso
    obtain ⟨⟨h1, h2⟩, h3⟩ := h
    have hz : isOpt n m up lo th (fun u => if (g : Int) < y u then y u - 1 else y u) := by
      refine ⟨⟨fun u hu => ?_, fun a ha q => ?_⟩, fun z hz => Int.le_trans ?_ (h2 z hz)⟩
      · have := h1.1 u hu
        simp only
        split <;> omega
      · have a1 := h1.2 a ha q
        have a2 : y (up a) ≠ g := fun e2 => e ⟨_, (hin a ha).1, e2⟩
        simp only
        split <;> split <;> omega
      · refine cnt_le (fun a ha => ?_)
        by_cases q : th a = 1
        · rw [if_pos q, if_pos q]
          have a1 := h1.2 a ha q
          simp only
          split <;> split <;> omega
        · rw [if_neg q, if_neg q]
          exact Int.le_refl _
    have := h3 _ hz v hv
    simp only [if_pos hg] at this
    omega
theorem lay_lt (hin : ∀ a, a < m → up a < n ∧ lo a < n) (h : isLay n m up lo th y) : ∀ v, v < n → 0 ≤ y v ∧ y v < n := fun v hv => by
  refine ⟨h.1.1.1 v hv, ?_⟩
  rcases Int.lt_or_le (y v) n with q | q
  · exact q
  · exfalso
    have occ : ∀ g : Nat, g ≤ n → ∃ w, w < n ∧ y w = g := fun g hg => by
      rcases Int.lt_or_le (g : Int) (y v) with r | r
      · exact lay_occ hin h g hv r
      · exact ⟨v, hv, by omega⟩
    obtain ⟨i, j, h1, h2, h3⟩ := pigeon n (fun g => if q : ∃ w, w < n ∧ y w = (g : Nat) then Classical.choose q else 0) (fun k hk => by
      have := occ k hk
      simp only [this, ↓reduceDIte]
      exact (Classical.choose_spec this).1)
    have oi := occ i (by omega)
    have oj := occ j (by omega)
    simp only [oi, oj, ↓reduceDIte] at h3
    have ei := (Classical.choose_spec oi).2
    have ej := (Classical.choose_spec oj).2
    rw [h3] at ei
    omega
end lyl
-- bends, items, pieces: U, L the ends of the arcs, Y the layers
section wsec
variable {n m : Nat} {U L Y : Nat → Nat} {th : Nat → Int}
/-- how many layers an arc spans -/
def wS (U L Y : Nat → Nat) (a : Nat) : Nat := Y (L a) - Y (U a)
/-- the first bend's number -/
def wF (U L Y : Nat → Nat) (th : Nat → Int) : Nat → Nat
  | 0 => 12
  | a + 1 => wF U L Y th a + (if th a = 1 then wS U L Y a - 1 else 0)
/-- the first piece's number -/
def wB (U L Y : Nat → Nat) (th : Nat → Int) : Nat → Nat
  | 0 => 0
  | a + 1 => wB U L Y th a + (if th a = 1 then wS U L Y a else 0)
/-- the item of arc a at step k -/
def wI (U L Y : Nat → Nat) (th : Nat → Int) (a k : Nat) : Nat := if k = 0 then U a else if k = wS U L Y a then L a else wF U L Y th a + k - 1
/-- the arc of a number, by the numbers where the arcs begin -/
def wA (B : Nat → Nat) : Nat → Nat → Nat
  | 0, _ => 0
  | a + 1, p => if B a ≤ p then a else wA B a p
/-- the layer of an item -/
def wL (m : Nat) (U L Y : Nat → Nat) (th : Nat → Int) (i : Nat) : Nat := if i < 12 then Y i else Y (U (wA (wF U L Y th) m i)) + (i - wF U L Y th (wA (wF U L Y th) m i)) + 1
/-- upper item, lower item and layer of piece p -/
def wU (m : Nat) (U L Y : Nat → Nat) (th : Nat → Int) (p : Nat) : Nat := wI U L Y th (wA (wB U L Y th) m p) (p - wB U L Y th (wA (wB U L Y th) m p))
def wD (m : Nat) (U L Y : Nat → Nat) (th : Nat → Int) (p : Nat) : Nat := wI U L Y th (wA (wB U L Y th) m p) (p - wB U L Y th (wA (wB U L Y th) m p) + 1)
def wG (m : Nat) (U L Y : Nat → Nat) (th : Nat → Int) (p : Nat) : Nat := Y (U (wA (wB U L Y th) m p)) + (p - wB U L Y th (wA (wB U L Y th) m p))
/-- the drawing's numbers -/
def dr (n m : Nat) (U L Y : Nat → Nat) (th : Nat → Int) : Prop := n ≤ 12 ∧ m ≤ 24 ∧ (∀ a, a < m → U a < n ∧ L a < n ∧ (th a = 0 ∨ th a = 1) ∧ (th a = 1 → Y (U a) + 1 ≤ Y (L a))) ∧ (∀ v, v < n → Y v < n) ∧ wF U L Y th m ≤ 72
theorem wA_at {B : Nat → Nat} (hB : ∀ a, B a ≤ B (a + 1)) {a p : Nat} : ∀ {m : Nat}, a < m → B a ≤ p → p < B (a + 1) → wA B m p = a
  | 0, h, _, _ => absurd h (by omega)
  | m + 1, h, h1, h2 => by
    unfold wA
    by_cases e : a = m
    · subst e
      rw [if_pos h1]
    · have mono : ∀ j, B (a + 1) ≤ B (a + 1 + j) := fun j => by
        induction j with
        | zero => exact Nat.le_refl _
        | succ j ih => exact Nat.le_trans ih (hB _)
      have := mono (m - (a + 1))
      rw [show a + 1 + (m - (a + 1)) = m by omega] at this
      rw [if_neg (by omega), wA_at hB (by omega) h1 h2]
theorem wA_ex {B : Nat → Nat} {p : Nat} : ∀ {m : Nat}, B 0 ≤ p → p < B m → wA B m p < m ∧ B (wA B m p) ≤ p ∧ p < B (wA B m p + 1)
  | 0, h, h1 => absurd h1 (by omega)
  | m + 1, h, h1 => by
    unfold wA
    by_cases e : B m ≤ p
    · rw [if_pos e]
      exact ⟨by omega, e, h1⟩
    · rw [if_neg e]
      have := wA_ex (m := m) h (by omega)
      exact ⟨by omega, this.2⟩
theorem wF_mono (a : Nat) : wF U L Y th a ≤ wF U L Y th (a + 1) := Nat.le_add_right _ _
theorem wB_mono (a : Nat) : wB U L Y th a ≤ wB U L Y th (a + 1) := Nat.le_add_right _ _
theorem mono_le {B : Nat → Nat} (hB : ∀ a, B a ≤ B (a + 1)) {a m : Nat} (h : a ≤ m) : B a ≤ B m := by
  have mono : ∀ j, B a ≤ B (a + j) := fun j => by
    induction j with
    | zero => exact Nat.le_refl _
    | succ j ih => exact Nat.le_trans ih (hB _)
  have := mono (m - a)
  rwa [show a + (m - a) = m by omega] at this
theorem wF_12 (a : Nat) : 12 ≤ wF U L Y th a := mono_le (B := wF U L Y th) wF_mono (Nat.zero_le a)
theorem wF_s {a : Nat} (h : th a = 1) : wF U L Y th (a + 1) = wF U L Y th a + (wS U L Y a - 1) := by
  show wF U L Y th a + (if th a = 1 then wS U L Y a - 1 else 0) = _
  rw [if_pos h]
theorem wF_n {a : Nat} (h : th a ≠ 1) : wF U L Y th (a + 1) = wF U L Y th a := by
  show wF U L Y th a + (if th a = 1 then wS U L Y a - 1 else 0) = _
  rw [if_neg h]
  rfl
theorem wB_s {a : Nat} (h : th a = 1) : wB U L Y th (a + 1) = wB U L Y th a + wS U L Y a := by
  show wB U L Y th a + (if th a = 1 then wS U L Y a else 0) = _
  rw [if_pos h]
theorem wB_n {a : Nat} (h : th a ≠ 1) : wB U L Y th (a + 1) = wB U L Y th a := by
  show wB U L Y th a + (if th a = 1 then wS U L Y a else 0) = _
  rw [if_neg h]
  rfl
theorem wS_p (h : dr n m U L Y th) {a : Nat} (ha : a < m) (ht : th a = 1) : 1 ≤ wS U L Y a ∧ Y (U a) + wS U L Y a = Y (L a) ∧ Y (L a) < n := by
  obtain ⟨h1, h2, h3, h4, h5⟩ := h
  have := h3 a ha
  have := this.2.2.2 ht
  have := h4 _ (h3 a ha).2.1
  unfold wS
  omega
theorem wA_piece {a k : Nat} (ha : a < m) (ht : th a = 1) (hk : k < wS U L Y a) : wA (wB U L Y th) m (wB U L Y th a + k) = a := wA_at wB_mono ha (by omega) (by rw [wB_s ht]; omega)
theorem wU_at {a k : Nat} (ha : a < m) (ht : th a = 1) (hk : k < wS U L Y a) : wU m U L Y th (wB U L Y th a + k) = wI U L Y th a k := by
  unfold wU
  rw [wA_piece ha ht hk, Nat.add_sub_cancel_left]
theorem wD_at {a k : Nat} (ha : a < m) (ht : th a = 1) (hk : k < wS U L Y a) : wD m U L Y th (wB U L Y th a + k) = wI U L Y th a (k + 1) := by
  unfold wD
  rw [wA_piece ha ht hk, Nat.add_sub_cancel_left]
theorem wG_at {a k : Nat} (ha : a < m) (ht : th a = 1) (hk : k < wS U L Y a) : wG m U L Y th (wB U L Y th a + k) = Y (U a) + k := by
  unfold wG
  rw [wA_piece ha ht hk, Nat.add_sub_cancel_left]
theorem wB_ex {p : Nat} (h : p < wB U L Y th m) : ∃ a k, a < m ∧ th a = 1 ∧ k < wS U L Y a ∧ p = wB U L Y th a + k := by
  obtain ⟨h1, h2, h3⟩ := wA_ex (B := wB U L Y th) (p := p) (m := m) (Nat.zero_le _) h
  refine ⟨wA (wB U L Y th) m p, p - wB U L Y th (wA (wB U L Y th) m p), h1, ?_, ?_, by omega⟩
  · rcases Classical.em (th (wA (wB U L Y th) m p) = 1) with e | e
    · exact e
    · rw [wB_n e] at h3
      omega
  · rcases Classical.em (th (wA (wB U L Y th) m p) = 1) with e | e
    · rw [wB_s e] at h3
      omega
    · rw [wB_n e] at h3
      omega
/-- which numbers are items -/
def wT (n m : Nat) (U L Y : Nat → Nat) (th : Nat → Int) (i : Nat) : Prop := i < n ∨ (12 ≤ i ∧ i < wF U L Y th m)
theorem wL_bend {a k : Nat} (ha : a < m) (ht : th a = 1) (h1 : 1 ≤ k) (hk : k < wS U L Y a) : wL m U L Y th (wF U L Y th a + k - 1) = Y (U a) + k ∧ 12 ≤ wF U L Y th a + k - 1 ∧ wF U L Y th a + k - 1 < wF U L Y th m := by
  have h12 := wF_12 (U := U) (L := L) (Y := Y) (th := th) a
  have e := wA_at (B := wF U L Y th) wF_mono (p := wF U L Y th a + k - 1) ha (by omega) (by rw [wF_s ht]; omega)
  have hm := mono_le (B := wF U L Y th) wF_mono (a := a + 1) (m := m) (by omega)
  rw [wF_s ht] at hm
  refine ⟨?_, by omega, by omega⟩
  unfold wL
  rw [if_neg (by omega), e]
  omega
theorem wI_p (h : dr n m U L Y th) {a k : Nat} (ha : a < m) (ht : th a = 1) (hk : k ≤ wS U L Y a) : wL m U L Y th (wI U L Y th a k) = Y (U a) + k ∧ wT n m U L Y th (wI U L Y th a k) ∧ wI U L Y th a k < 72 := by
  obtain ⟨h1, h2, h3, h4, h5⟩ := id h
  obtain ⟨s1, s2, s3⟩ := wS_p h ha ht
  obtain ⟨q1, q2, -⟩ := h3 a ha
  unfold wI
  by_cases e0 : k = 0
  · rw [if_pos e0]
    refine ⟨?_, Or.inl q1, by omega⟩
    unfold wL
    rw [if_pos (by omega)]
    omega
  · rw [if_neg e0]
    by_cases e1 : k = wS U L Y a
    · rw [if_pos e1]
      refine ⟨?_, Or.inl q2, by omega⟩
      unfold wL
      rw [if_pos (by omega)]
      omega
    · rw [if_neg e1]
      have := wL_bend (m := m) (U := U) (L := L) (Y := Y) ha ht (k := k) (by omega) (by omega)
      exact ⟨this.1, Or.inr this.2, by omega⟩
theorem wP_p (h : dr n m U L Y th) {p : Nat} (hp : p < wB U L Y th m) : wL m U L Y th (wU m U L Y th p) = wG m U L Y th p ∧ wL m U L Y th (wD m U L Y th p) = wG m U L Y th p + 1 ∧ wT n m U L Y th (wU m U L Y th p) ∧ wT n m U L Y th (wD m U L Y th p) ∧ wU m U L Y th p < 72 ∧ wD m U L Y th p < 72 ∧ wG m U L Y th p + 1 < n := by
  obtain ⟨a, k, ha, ht, hk, e⟩ := wB_ex hp
  rw [e, wU_at ha ht hk, wD_at ha ht hk, wG_at ha ht hk]
  have i1 := wI_p h ha ht (k := k) (by omega)
  have i2 := wI_p h ha ht (k := k + 1) (by omega)
  have := wS_p h ha ht
  exact ⟨i1.1, by rw [i2.1]; omega, i1.2.1, i2.2.1, i1.2.2, i2.2.2, by omega⟩
theorem wT_lt (h : dr n m U L Y th) {i : Nat} (hi : wT n m U L Y th i) : i < 72 := by
  obtain ⟨h1, h2, h3, h4, h5⟩ := h
  rcases hi with q | q <;> omega
theorem wT_bend {i : Nat} (h1 : 12 ≤ i) (h2 : i < wF U L Y th m) : ∃ a k, a < m ∧ th a = 1 ∧ 1 ≤ k ∧ k < wS U L Y a ∧ i = wF U L Y th a + k - 1 := by
  obtain ⟨a1, a2, a3⟩ := wA_ex (B := wF U L Y th) (p := i) (m := m) h1 h2
  rcases Classical.em (th (wA (wF U L Y th) m i) = 1) with e | e
  · rw [wF_s e] at a3
    exact ⟨wA (wF U L Y th) m i, i - wF U L Y th (wA (wF U L Y th) m i) + 1, a1, e, by omega, by omega, by omega⟩
  · rw [wF_n e] at a3
    omega
theorem wL_lt (h : dr n m U L Y th) {i : Nat} (hi : wT n m U L Y th i) : wL m U L Y th i < n := by
  obtain ⟨h1, h2, h3, h4, h5⟩ := id h
  rcases hi with q | q
  · unfold wL
    rw [if_pos (by omega)]
    exact h4 i q
  · obtain ⟨a, k, b1, b2, b3, b4, b5⟩ := wT_bend q.1 q.2
    have e := (wL_bend b1 b2 b3 b4).1
    rw [b5, e]
    have := wS_p h b1 b2
    omega
end wsec
-- counting those of a sort before
def ctg (g : Nat → Nat) (l : Nat) : Nat → Nat
  | 0 => 0
  | k + 1 => ctg g l k + (if g k = l then 1 else 0)
theorem ctg_s {g : Nat → Nat} {l k : Nat} (h : g k = l) : ctg g l (k + 1) = ctg g l k + 1 := by
  show ctg g l k + (if g k = l then 1 else 0) = _
  rw [if_pos h]
theorem ctg_n {g : Nat → Nat} {l k : Nat} (h : g k ≠ l) : ctg g l (k + 1) = ctg g l k := by
  show ctg g l k + (if g k = l then 1 else 0) = _
  rw [if_neg h]
  rfl
theorem ctg_mono {g : Nat → Nat} {l a b : Nat} (h : a ≤ b) : ctg g l a ≤ ctg g l b := mono_le (B := ctg g l) (fun _ => Nat.le_add_right _ _) h
theorem ctg_le {g : Nat → Nat} {l : Nat} : ∀ k, ctg g l k ≤ k
  | 0 => Nat.le_refl _
  | k + 1 => by
    have := ctg_le (g := g) (l := l) k
    show ctg g l k + (if g k = l then 1 else 0) ≤ _
    split <;> omega
theorem ctg_lt {g : Nat → Nat} {l a b : Nat} (h : a < b) (e : g a = l) : ctg g l a < ctg g l b := by
  have := ctg_mono (g := g) (l := l) (a := a + 1) (b := b) h
  rw [ctg_s e] at this
  omega
theorem ctg_ex {g : Nat → Nat} {l : Nat} : ∀ {k j : Nat}, j < ctg g l k → ∃ i, i < k ∧ g i = l ∧ ctg g l i = j
  | 0, j, h => absurd h (by show ¬ j < 0; omega)
  | k + 1, j, h => by
    by_cases e : g k = l
    · rw [ctg_s e] at h
      by_cases q : j = ctg g l k
      · exact ⟨k, by omega, e, q.symm⟩
      · obtain ⟨i, h1, h2⟩ := ctg_ex (g := g) (l := l) (k := k) (j := j) (by omega)
        exact ⟨i, by omega, h2⟩
    · rw [ctg_n e] at h
      obtain ⟨i, h1, h2⟩ := ctg_ex (k := k) (j := j) h
      exact ⟨i, by omega, h2⟩
/-- a sum over those of a sort -/
theorem ctg_sum {g : Nat → Nat} {l : Nat} {H F : Nat → Int} : ∀ {N : Nat}, (∀ p, p < N → g p = l → H (ctg g l p) = F p) → cnt H (ctg g l N) = cnt (fun p => if g p = l then F p else 0) N
  | 0, _ => rfl
  | N + 1, h => by
    have ih := ctg_sum (N := N) (fun p hp => h p (by omega))
    show _ = cnt (fun p => if g p = l then F p else 0) N + (if g N = l then F N else 0)
    by_cases e : g N = l
    · rw [ctg_s e, if_pos e]
      show cnt H (ctg g l N) + H (ctg g l N) = _
      rw [ih, h N (by omega) e]
    · rw [ctg_n e, if_neg e, ih]
      omega
/-- one for each pair -/
theorem cnt_sym {G : Nat → Nat → Int} : ∀ {N : Nat}, (∀ p, p < N → G p p = 0) → cnt (fun p => cnt (fun q => G p q) N) N = cnt (fun p => cnt (fun q => G p q + G q p) p) N
  | 0, _ => rfl
  | N + 1, h => by
    have ih := cnt_sym (N := N) (fun p hp => h p (by omega))
    show cnt (fun p => cnt (fun q => G p q) N + G p N) N + (cnt (fun q => G N q) N + G N N) = cnt (fun p => cnt (fun q => G p q + G q p) p) N + cnt (fun q => G N q + G q N) N
    rw [cnt_add, ih, cnt_add, h N (by omega)]
    have e : cnt (fun q => G N q) N = cnt (G N) N := rfl
    omega
theorem cnt_ite0 {P : Prop} [Decidable P] {f : Nat → Int} {m : Nat} : cnt (fun a => if P then f a else 0) m = if P then cnt f m else 0 := by
  by_cases h : P
  · simp only [if_pos h]
  · simp only [if_neg h]
    exact cnt_zero m
/-- a sum sort by sort -/
theorem cnt_sorts {g : Nat → Nat} {F : Nat → Int} {N M : Nat} (h : ∀ p, p < N → g p < M) : cnt (fun l => cnt (fun p => if g p = l then F p else 0) N) M = cnt F N := by
  rw [cnt_swap]
  refine cnt_congr (fun p hp => ?_)
  rw [cnt_one (h p hp) (fun a _ q => if_neg (fun e => q e.symm)), if_pos rfl]
/-- crossings: of pieces of the same layer whose items stand the other way round below -/
def crX (g pu pd : Nat → Nat) (s : Nat → Int) (p q : Nat) : Int := if g p = g q ∧ s (pu p) < s (pu q) ∧ s (pd q) < s (pd p) then 1 else 0
def crV (g pu pd : Nat → Nat) (s : Nat → Int) (N : Nat) : Int := cnt (fun p => cnt (fun q => crX g pu pd s p q) N) N
theorem crV_gaps {g pu pd : Nat → Nat} {s : Nat → Int} {N M : Nat} (h : ∀ p, p < N → g p < M) : crV g pu pd s N = cnt (fun l => cnt (fun p => if g p = l then cnt (fun q => if g q = l then crX g pu pd s p q + crX g pu pd s q p else 0) p else 0) N) M := by
  unfold crV
  rw [cnt_sym (fun p _ => if_neg (fun q => by omega))]
  rw [← cnt_sorts (g := g) (M := M) h]
  refine cnt_congr (fun l _ => cnt_congr (fun p _ => ?_))
  by_cases e : g p = l
  · rw [if_pos e, if_pos e]
    refine cnt_congr (fun q _ => ?_)
    by_cases e2 : g q = l
    · rw [if_pos e2]
    · rw [if_neg e2]
      unfold crX
      rw [if_neg (fun z => e2 (by omega)), if_neg (fun z => e2 (by omega))]
      rfl
  · rw [if_neg e, if_neg e]
