section turned3
variable {n m : Nat} {f t : Nat → Nat} {th : Nat → Int}
theorem cnt_mono {g : Nat → Int} {k : Nat} : ∀ {j : Nat}, (∀ a, a < k + j → 0 ≤ g a) → cnt g k ≤ cnt g (k + j)
  | 0, _ => Int.le_refl _
  | j + 1, h => by
    have h1 := cnt_mono (g := g) (k := k) (j := j) (fun a ha => h a (by omega))
    have h2 := h (k + j) (by omega)
    show cnt g k ≤ cnt g (k + j) + g (k + j)
    omega
/-- where the sum of the first k is all, the others are 0 -/
theorem cnt_tail {g : Nat → Int} {k m : Nat} (hk : k ≤ m) (h : is01 g m) (e : cnt g m ≤ cnt g k) : ∀ a, k ≤ a → a < m → g a = 0 := fun a h1 h2 => by
  have e1 : cnt g (a + 1) = cnt g a + g a := rfl
  have e2 := cnt_mono (g := g) (k := k) (j := a - k) (fun b hb => by have := h b (by omega); omega)
  have e3 := cnt_mono (g := g) (k := a + 1) (j := m - (a + 1)) (fun b hb => by have := h b (by omega); omega)
  rw [show k + (a - k) = a by omega] at e2
  rw [show a + 1 + (m - (a + 1)) = m by omega] at e3
  have e4 := h a h2
  omega
/-- nothing is left to be turned -/
theorem grd_rest {x y : Nat → Int} {N : Int} {k : Nat} (hk : k ≤ m) (h : grd n m f t th x N k) (hr : cnt x k = N) (hy : ∀ a, a < k → y a = x a) (hy0 : ∀ a, k ≤ a → a < m → y a = 0) : grd n m f t th y N m := by
  have h01 := grd_01 h
  obtain ⟨g1, ⟨l0, g2, g3, g4⟩, g5⟩ := h
  have hall : ∀ l, cnt (ind f t th l) m = N → (∀ a, a < k → ind f t th l a = x a) → ∀ a, a < m → ind f t th l a = y a := fun l hN he a ha => by
    by_cases q : a < k
    · rw [he a q, hy a q]
    · rw [hy0 a (by omega) ha]
      refine cnt_tail hk ind01 ?_ a (by omega) ha
      rw [hN, cnt_congr he]
      omega
  have y01 : is01 y m := fun a ha => by
    by_cases q : a < k
    · rw [hy a q]
      exact h01 a q
    · exact Or.inl (hy0 a (by omega) ha)
  refine ⟨g1, ⟨l0, g2, g3, hall l0 g3 g4⟩, fun l hl hN => ?_⟩
  have p1 := g5 l hl hN
  rcases Int.lt_or_eq_of_le p1 with q | q
  · rw [← vb_congr hy] at q
    have hj : k + (m - k) = m := by omega
    have := vb_lt (x := ind f t th l) (y := y) (k := k) (j := m - k) (by rw [hj]; exact ind01) (by rw [hj]; exact y01) q
    rw [hj] at this
    exact Int.le_of_lt this
  · rw [vb_congr (hall l hN (vb_inj ind01 h01 q))]
    exact Int.le_refl _
-- nodes on no way round
theorem sumL_0 {g : Nat → Int} : ∀ {l : List Nat}, (∀ u, u ∈ l → g u = 0) → sumL g l = 0
  | [], _ => rfl
  | x :: l, h => by
    show g x + sumL g l = 0
    rw [h x List.mem_cons_self, sumL_0 (fun u hu => h u (List.mem_cons_of_mem _ hu))]
    rfl
theorem sumL_app {g : Nat → Int} : ∀ {k l : List Nat}, sumL g (k ++ l) = sumL g k + sumL g l
  | [], l => by
    show sumL g l = 0 + sumL g l
    omega
  | x :: k, l => by
    show g x + sumL g (k ++ l) = g x + sumL g k + sumL g l
    rw [sumL_app]
    omega
theorem bc_last {w : Nat → Nat → Int} {l : List Nat} : ∀ {k : List Nat}, (∀ v, v ∈ k → ∀ u, u ∈ k ++ l → w v u = 0) → bc w (k ++ l) = bc w l
  | [], _ => rfl
  | x :: k, h => by
    show bc w (k ++ l) + sumL (w x) (k ++ l) = bc w l
    rw [bc_last (fun v hv u hu => h v (List.mem_cons_of_mem _ hv) u (List.mem_cons_of_mem _ hu)), sumL_0 (l := k ++ l) (fun u hu => h x List.mem_cons_self u (List.mem_cons_of_mem _ hu))]
    omega
theorem bc_0 {w : Nat → Nat → Int} : ∀ {k : List Nat}, (∀ v, v ∈ k → ∀ u, u ∈ k → w v u = 0) → bc w k = 0
  | [], _ => rfl
  | x :: k, h => by
    show bc w k + sumL (w x) k = 0
    rw [bc_0 (fun v hv u hu => h v (List.mem_cons_of_mem _ hv) u (List.mem_cons_of_mem _ hu)), sumL_0 (fun u hu => h x List.mem_cons_self u (List.mem_cons_of_mem _ hu))]
    rfl
theorem bc_first {w : Nat → Nat → Int} {k : List Nat} : ∀ {l : List Nat}, (∀ v, v ∈ l ++ k → ∀ u, u ∈ k → w v u = 0) → bc w (l ++ k) = bc w l
  | [], h => bc_0 h
  | x :: l, h => by
    show bc w (l ++ k) + sumL (w x) (l ++ k) = bc w l + sumL (w x) l
    rw [bc_first (fun v hv u hu => h v (List.mem_cons_of_mem _ hv) u hu), sumL_app, sumL_0 (l := k) (fun u hu => h x List.mem_cons_self u hu)]
    omega
theorem sumL_filter {g : Nat → Int} {p : Nat → Bool} : ∀ {l : List Nat}, (∀ u, u ∈ l → 0 ≤ g u) → sumL g (l.filter p) ≤ sumL g l
  | [], _ => Int.le_refl _
  | x :: l, h => by
    have ih := sumL_filter (g := g) (p := p) (l := l) (fun u hu => h u (List.mem_cons_of_mem _ hu))
    have hx := h x List.mem_cons_self
    by_cases e : p x = true
    · rw [List.filter_cons_of_pos e]
      show g x + sumL g (l.filter p) ≤ g x + sumL g l
      omega
    · rw [List.filter_cons_of_neg e]
      show sumL g (l.filter p) ≤ g x + sumL g l
      omega
theorem sumL_nonneg {g : Nat → Int} : ∀ {l : List Nat}, (∀ u, u ∈ l → 0 ≤ g u) → 0 ≤ sumL g l
  | [], _ => Int.le_refl _
  | x :: l, h => by
    have ih := sumL_nonneg (g := g) (l := l) (fun u hu => h u (List.mem_cons_of_mem _ hu))
    have hx := h x List.mem_cons_self
    show 0 ≤ g x + sumL g l
    omega
theorem bc_filter {w : Nat → Nat → Int} {p : Nat → Bool} (hw : ∀ v u, 0 ≤ w v u) : ∀ {l : List Nat}, bc w (l.filter p) ≤ bc w l
  | [] => Int.le_refl _
  | x :: l => by
    have ih := bc_filter (p := p) hw (l := l)
    have h2 := sumL_filter (g := w x) (p := p) (l := l) (fun u _ => hw x u)
    have h3 := sumL_nonneg (g := w x) (l := l) (fun u _ => hw x u)
    by_cases e : p x = true
    · rw [List.filter_cons_of_pos e]
      show bc w (l.filter p) + sumL (w x) (l.filter p) ≤ bc w l + sumL (w x) l
      omega
    · rw [List.filter_cons_of_neg e]
      show bc w (l.filter p) ≤ bc w l + sumL (w x) l
      omega
theorem wt_nonneg {c : Nat → Int} (hc : ∀ a, a < m → 0 ≤ c a) (v u : Nat) : 0 ≤ wt m f t th c v u := cnt_nonneg (fun a ha => by
  by_cases q : th a = 1 ∧ f a = v ∧ t a = u
  · rw [if_pos q]
    exact hc a ha
  · rw [if_neg q]
    exact Int.le_refl _)
/-- nodes that nothing leads to, or from, cost nothing -/
theorem isMin_peel {w : Nat → Nat → Int} (hw : ∀ v u, 0 ≤ w v u) {s s2 : Nat → Bool} {N : Nat} (hN : ∀ v, s v = true → v < N) (hs : ∀ v, s2 v = true → s v = true)
    (hp : ∀ v, s v = true → s2 v = false → (∀ u, s u = true → w v u = 0) ∨ (∀ u, s u = true → w u v = 0)) {c : Int} (h : isMin w s2 c) : isMin w s c := by
  obtain ⟨⟨l, h1, h2⟩, h3⟩ := h
  refine ⟨?_, fun l2 hl2 => ?_⟩
  · -- last those from which nothing leads, first the others
    have hdec : ∀ v, s v = true → s2 v = false → ¬ (∀ u, u < N → s u = true → w v u = 0) → ∀ u, s u = true → w u v = 0 := fun v a1 a2 a3 u hu => by
      rcases hp v a1 a2 with q | q
      · exact absurd (fun u _ hu => q u hu) a3
      · exact q u hu
    let A : List Nat := (List.range N).filter (fun v => s v && (!s2 v && decide (∀ u, u < N → s u = true → w v u = 0)))
    let B : List Nat := (List.range N).filter (fun v => s v && (!s2 v && decide (¬ ∀ u, u < N → s u = true → w v u = 0)))
    have mA : ∀ v, v ∈ A ↔ (s v = true ∧ s2 v = false ∧ ∀ u, u < N → s u = true → w v u = 0) := fun v => by
      simp only [A, List.mem_filter, List.mem_range, Bool.and_eq_true, Bool.not_eq_true', decide_eq_true_eq]
      exact ⟨fun q => q.2, fun q => ⟨hN v q.1, q⟩⟩
    have mB : ∀ v, v ∈ B ↔ (s v = true ∧ s2 v = false ∧ ¬ ∀ u, u < N → s u = true → w v u = 0) := fun v => by
      simp only [B, List.mem_filter, List.mem_range, Bool.and_eq_true, Bool.not_eq_true', decide_eq_true_eq]
      exact ⟨fun q => q.2, fun q => ⟨hN v q.1, q⟩⟩
    have hin : ∀ v, v ∈ A ++ (l ++ B) ↔ s v = true := fun v => by
      rw [List.mem_append, List.mem_append, mA, mB, h1.2 v]
      constructor
      · rintro (q | q | q)
        · exact q.1
        · exact hs v q
        · exact q.1
      · intro q
        by_cases e : s2 v = true
        · exact Or.inr (Or.inl e)
        · have e2 : s2 v = false := by simpa using e
          by_cases e3 : ∀ u, u < N → s u = true → w v u = 0
          · exact Or.inl ⟨q, e2, e3⟩
          · exact Or.inr (Or.inr ⟨q, e2, e3⟩)
    refine ⟨A ++ (l ++ B), ⟨?_, hin⟩, ?_⟩
    · have nA : A.Nodup := List.Pairwise.filter _ List.nodup_range
      have nB : B.Nodup := List.Pairwise.filter _ List.nodup_range
      rw [List.nodup_append]
      refine ⟨nA, ?_, fun x hx y hy e => ?_⟩
      · rw [List.nodup_append]
        refine ⟨h1.1, nB, fun x hx y hy e => ?_⟩
        subst e
        have a1 := (h1.2 x).mp hx
        have a2 := ((mB x).mp hy).2.1
        rw [a1] at a2
        cases a2
      · subst e
        have a1 := (mA x).mp hx
        rcases List.mem_append.mp hy with q | q
        · have a2 := (h1.2 x).mp q
          rw [a1.2.1] at a2
          cases a2
        · exact ((mB x).mp q).2.2 a1.2.2
    · rw [bc_last, bc_first, h2]
      · intro v hv u hu
        have a1 := (mB u).mp hu
        have a2 : s v = true := (hin v).mp (List.mem_append.mpr (Or.inr hv))
        exact hdec u a1.1 a1.2.1 a1.2.2 v a2
      · intro v hv u hu
        have a1 := (mA v).mp hv
        have a2 : s u = true := (hin u).mp hu
        exact a1.2.2 u (hN u a2) a2
  · have h4 := h3 (l2.filter s2) ⟨List.Pairwise.filter _ hl2.1, fun v => by
      rw [List.mem_filter, hl2.2 v]
      exact ⟨fun q => q.2, fun q => ⟨hs v q, q⟩⟩⟩
    have h5 := bc_filter (p := s2) hw (l := l2)
    omega
end turned3
