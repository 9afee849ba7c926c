-- ORDERS of nodes: lists without repeats, the last one first
def sumL (g : Nat → Int) : List Nat → Int
  | [] => 0
  | u :: l => g u + sumL g l
/-- what it costs that later ones lead back to earlier ones -/
def bc (w : Nat → Nat → Int) : List Nat → Int
  | [] => 0
  | v :: l => bc w l + sumL (w v) l
def ordOf (s : Nat → Bool) (l : List Nat) : Prop := l.Nodup ∧ ∀ v, v ∈ l ↔ s v = true
def isMin (w : Nat → Nat → Int) (s : Nat → Bool) (c : Int) : Prop := (∃ l, ordOf s l ∧ bc w l = c) ∧ ∀ l, ordOf s l → c ≤ bc w l
theorem isMin_one {w : Nat → Nat → Int} {s : Nat → Bool} {c c2 : Int} (h : isMin w s c) (h2 : isMin w s c2) : c = c2 := by
  obtain ⟨⟨l, a, b⟩, d⟩ := h
  obtain ⟨⟨l2, a2, b2⟩, d2⟩ := h2
  have := d l2 a2
  have := d2 l a
  omega
theorem isMin_congr {w w2 : Nat → Nat → Int} {s s2 : Nat → Bool} {c : Int} (hs : ∀ v, s v = s2 v) (hw : ∀ l, ordOf s l → bc w l = bc w2 l) (h : isMin w s c) : isMin w2 s2 c := by
  have ho : ∀ l, ordOf s l ↔ ordOf s2 l := fun l => ⟨fun q => ⟨q.1, fun v => by rw [← hs v]; exact q.2 v⟩, fun q => ⟨q.1, fun v => by rw [hs v]; exact q.2 v⟩⟩
  obtain ⟨⟨l, a, b⟩, d⟩ := h
  exact ⟨⟨l, (ho l).mp a, by rw [← hw l a]; exact b⟩, fun l2 q => by rw [← hw l2 ((ho l2).mpr q)]; exact d l2 ((ho l2).mpr q)⟩
theorem isMin_nil {w : Nat → Nat → Int} {s : Nat → Bool} (h : ∀ v, ¬ s v = true) : isMin w s 0 := by
  refine ⟨⟨[], ⟨List.nodup_nil, fun v => ⟨fun q => (by cases q), fun q => absurd q (h v)⟩⟩, rfl⟩, fun l hl => ?_⟩
  cases l with
  | nil => exact Int.le_refl _
  | cons x l => exact absurd ((hl.2 x).mp List.mem_cons_self) (h x)
/-- a sum over a list without repeats is the sum over the numbers in it -/
theorem sumL_cnt {g : Nat → Int} {N : Nat} : ∀ {l : List Nat}, l.Nodup → (∀ v, v ∈ l → v < N) → sumL g l = cnt (fun u => if u ∈ l then g u else 0) N
  | [], _, _ => by
    show (0 : Int) = _
    rw [cnt_congr (g := fun _ => 0) (fun a _ => by simp), cnt_zero]
  | x :: l, hn, hN => by
    have hx := List.nodup_cons.mp hn
    show g x + sumL g l = _
    rw [sumL_cnt hx.2 (fun v hv => hN v (List.mem_cons_of_mem _ hv))]
    have h1 := cnt_put (f := fun u => if u ∈ l then g u else 0) (k := x) (v := g x) (m := N) (hN x List.mem_cons_self)
    rw [if_neg hx.1] at h1
    have h2 : cnt (fun u => if u ∈ x :: l then g u else 0) N = cnt (fun a => if a = x then g x else if a ∈ l then g a else 0) N := cnt_congr (fun a _ => by
      by_cases e : a = x
      · subst e
        rw [if_pos List.mem_cons_self, if_pos rfl]
      · rw [if_neg e]
        by_cases e2 : a ∈ l
        · rw [if_pos (List.mem_cons_of_mem _ e2), if_pos e2]
        · rw [if_neg (fun q => (List.mem_cons.mp q).elim e e2), if_neg e2])
    rw [h2]
    omega
/-- the least cost of a set out of the least costs of the sets that lack one -/
theorem isMin_step {w : Nat → Nat → Int} {s : Nat → Bool} {N : Nat} (hN : ∀ v, s v = true → v < N) {cv : Nat → Int} {c : Int} (hc : ∀ v, s v = true → isMin w (fun u => s u && decide (u ≠ v)) (cv v)) (hex : ∃ v, s v = true ∧ c = cv v + cnt (fun u => if s u = true ∧ u ≠ v then w v u else 0) N)
    (hle : ∀ v, s v = true → c ≤ cv v + cnt (fun u => if s u = true ∧ u ≠ v then w v u else 0) N) : isMin w s c := by
  have hm : ∀ v l, ordOf (fun u => s u && decide (u ≠ v)) l → ∀ u, u ∈ l ↔ (s u = true ∧ u ≠ v) := fun v l hl u => by
    rw [hl.2 u]
    simp
  have hsum : ∀ v l, s v = true → ordOf (fun u => s u && decide (u ≠ v)) l → sumL (w v) l = cnt (fun u => if s u = true ∧ u ≠ v then w v u else 0) N := fun v l hv hl => by
    rw [sumL_cnt hl.1 (fun u hu => hN u ((hm v l hl u).mp hu).1)]
    refine cnt_congr (fun a _ => ?_)
    by_cases e : a ∈ l
    · rw [if_pos e, if_pos ((hm v l hl a).mp e)]
    · rw [if_neg e, if_neg (fun q => e ((hm v l hl a).mpr q))]
  refine ⟨?_, fun l hl => ?_⟩
  · obtain ⟨v, hv, e⟩ := hex
    obtain ⟨⟨l, hl, hb⟩, -⟩ := hc v hv
    refine ⟨v :: l, ⟨List.nodup_cons.mpr ⟨fun q => ((hm v l hl v).mp q).2 rfl, hl.1⟩, fun u => ?_⟩, ?_⟩
    · rw [List.mem_cons]
      constructor
      · rintro (rfl | q)
        · exact hv
        · exact ((hm v l hl u).mp q).1
      · intro q
        by_cases e : u = v
        · exact Or.inl e
        · exact Or.inr ((hm v l hl u).mpr ⟨q, e⟩)
    · show bc w l + sumL (w v) l = c
      rw [hb, hsum v l hv hl, e]
  · cases l with
    | nil =>
      obtain ⟨v, hv, -⟩ := hex
      exact absurd ((hl.2 v).mpr hv) (by simp)
    | cons v l =>
      have hv : s v = true := (hl.2 v).mp List.mem_cons_self
      have hn := List.nodup_cons.mp hl.1
      have hl2 : ordOf (fun u => s u && decide (u ≠ v)) l := ⟨hn.2, fun u => by
        rw [Bool.and_eq_true, decide_eq_true_eq]
        constructor
        · intro q
          exact ⟨(hl.2 u).mp (List.mem_cons_of_mem _ q), fun e => hn.1 (e ▸ q)⟩
        · intro q
          rcases List.mem_cons.mp ((hl.2 u).mpr q.1) with e | e
          · exact absurd e q.2
          · exact e⟩
      have h1 := (hc v hv).2 l hl2
      have h2 := hle v hv
      show c ≤ bc w l + sumL (w v) l
      rw [hsum v l hv hl2]
      omega
-- arcs: f a -> t a, cost c a, there if th a = 1
/-- the weight between two nodes -/
def wt (m : Nat) (f t : Nat → Nat) (th c : Nat → Int) (v u : Nat) : Int := cnt (fun a => if th a = 1 ∧ f a = v ∧ t a = u then c a else 0) m
/-- arc a leads back in the order l -/
def bk (f t : Nat → Nat) : List Nat → Nat → Bool
  | [], _ => false
  | v :: l, a => bk f t l a || (decide (f a = v) && decide (t a ∈ l))
theorem bk_in {f t : Nat → Nat} : ∀ {l : List Nat} {a : Nat}, bk f t l a = true → f a ∈ l ∧ t a ∈ l
  | [], _, h => by simp [bk] at h
  | v :: l, a, h => by
    simp only [bk, Bool.or_eq_true, Bool.and_eq_true, decide_eq_true_eq] at h
    rcases h with h | ⟨rfl, h⟩
    · have := bk_in h
      exact ⟨List.mem_cons_of_mem _ this.1, List.mem_cons_of_mem _ this.2⟩
    · exact ⟨List.mem_cons_self, List.mem_cons_of_mem _ h⟩
theorem sumL_wt {m : Nat} {f t : Nat → Nat} {th c : Nat → Int} {v : Nat} : ∀ {l : List Nat}, l.Nodup → sumL (wt m f t th c v) l = cnt (fun a => if th a = 1 ∧ f a = v ∧ t a ∈ l then c a else 0) m
  | [], _ => by
    show (0 : Int) = _
    rw [cnt_congr (g := fun _ => 0) (fun a _ => by simp), cnt_zero]
  | x :: l, hn => by
    have hx := List.nodup_cons.mp hn
    show wt m f t th c v x + sumL (wt m f t th c v) l = _
    rw [sumL_wt hx.2]
    unfold wt
    rw [← cnt_add]
    refine cnt_congr (fun a _ => ?_)
    by_cases e : th a = 1 ∧ f a = v
    · by_cases e2 : t a = x
      · have : t a ∉ l := by rw [e2]; exact hx.1
        simp [e, e2, hx.1]
      · simp [e, e2]
    · have h1 : ¬ (th a = 1 ∧ f a = v ∧ t a = x) := fun q => e ⟨q.1, q.2.1⟩
      have h2 : ¬ (th a = 1 ∧ f a = v ∧ t a ∈ l) := fun q => e ⟨q.1, q.2.1⟩
      have h3 : ¬ (th a = 1 ∧ f a = v ∧ t a ∈ x :: l) := fun q => e ⟨q.1, q.2.1⟩
      rw [if_neg h1, if_neg h2, if_neg h3]
      rfl
theorem bc_wt {m : Nat} {f t : Nat → Nat} {th c : Nat → Int} : ∀ {l : List Nat}, l.Nodup → bc (wt m f t th c) l = cnt (fun a => if th a = 1 ∧ bk f t l a = true then c a else 0) m
  | [], _ => by
    show (0 : Int) = _
    rw [cnt_congr (g := fun _ => 0) (fun a _ => by simp [bk]), cnt_zero]
  | v :: l, hn => by
    have hx := List.nodup_cons.mp hn
    show bc (wt m f t th c) l + sumL (wt m f t th c v) l = _
    rw [bc_wt hx.2, sumL_wt hx.2, ← cnt_add]
    refine cnt_congr (fun a _ => ?_)
    by_cases e : th a = 1
    · by_cases e2 : bk f t l a = true
      · have h1 : f a ≠ v := fun q => hx.1 (q ▸ (bk_in e2).1)
        simp [e, e2, h1, bk]
      · by_cases e3 : f a = v ∧ t a ∈ l
        · simp [e, e2, e3, bk]
        · have h4 : ¬ bk f t (v :: l) a = true := by
            simp only [bk, Bool.or_eq_true, Bool.and_eq_true, decide_eq_true_eq]
            exact fun q => q.elim e2 e3
          rw [if_neg (fun q => e2 q.2), if_neg (fun q => e3 q.2), if_neg (fun q => h4 q.2)]
          rfl
    · rw [if_neg (fun q => e q.1), if_neg (fun q => e q.1), if_neg (fun q => e q.1)]
      rfl
