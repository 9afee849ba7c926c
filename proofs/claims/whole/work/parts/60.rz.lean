-- raising by rules: rule c asks y (S c) + W c ≤ y (G c) where O c
section rzs
variable {n : Nat} {S G : Nat → Nat} {W : Nat → Int} {O : Nat → Prop}
/-- pass p, with the rules dn already looked at in it; D: the pass of a node's last raise, T: when it was -/
def rz (n : Nat) (S G : Nat → Nat) (W : Nat → Int) (O dn : Nat → Prop) (p τ : Nat) (y r : Nat → Int) (x : Int) : Prop := ∃ D T : Nat → Nat,
  (∀ v, v < n → 0 ≤ y v ∧ y v ≤ τ ∧ T v ≤ τ ∧ D v ≤ p + 1) ∧
  (∀ v, v < n → (D v = 0 ∧ r v = -1) ∨ (0 < D v ∧ ∃ c : Nat, O c ∧ G c = v ∧ r v = c ∧ D v ≤ D (S c) + 1 ∧ ((T v < T (S c) ∧ y v + 1 ≤ y (S c) + W c) ∨ (T (S c) < T v ∧ y v ≤ y (S c) + W c)))) ∧
  (∀ c, O c → y (G c) < y (S c) + W c → p ≤ D (S c) ∧ (dn c → p + 1 ≤ D (S c))) ∧
  (∀ z : Nat → Int, (∀ v, v < n → 0 ≤ z v) → (∀ c, O c → z (S c) + W c ≤ z (G c)) → ∀ v, v < n → y v ≤ z v) ∧
  ((x = -1 ∧ ∀ c, O c → dn c → y (S c) + W c ≤ y (G c)) ∨ (∃ v, v < n ∧ x = (v : Nat) ∧ D v = p + 1))
theorem rz_0 {y r : Nat → Int} (hy : ∀ v, v < n → y v = 0) (hr : ∀ v, v < n → r v = -1) : rz n S G W O (fun _ => False) 0 0 y r (-1) :=
  ⟨fun _ => 0, fun _ => 0, fun v hv => by rw [hy v hv]; simp, fun v hv => Or.inl ⟨rfl, hr v hv⟩, fun _ _ _ => ⟨Nat.le_refl _, fun q => q.elim⟩, fun z hz _ v hv => by rw [hy v hv]; exact hz v hv, Or.inl ⟨rfl, fun _ _ q => q.elim⟩⟩
theorem rz_mono {dn dn2 : Nat → Prop} {p τ τ2 : Nat} {y r : Nat → Int} {x : Int} (h : rz n S G W O dn p τ y r x) (hd : ∀ c, O c → dn2 c → dn c) (ht : τ ≤ τ2) : rz n S G W O dn2 p τ2 y r x := by
  obtain ⟨D, T, h1, h2, h3, h4, h5⟩ := h
  refine ⟨D, T, fun v hv => ?_, h2, fun c hc q => ?_, h4, ?_⟩
  · have := h1 v hv
    omega
  · have := h3 c hc q
    exact ⟨this.1, fun q2 => this.2 (hd c hc q2)⟩
  · rcases h5 with q | q
    · exact Or.inl ⟨q.1, fun c hc q2 => q.2 c hc (hd c hc q2)⟩
    · exact Or.inr q
theorem rz_skip {dn : Nat → Prop} {p τ : Nat} {y r : Nat → Int} {x : Int} {c : Nat} (h : rz n S G W O dn p τ y r x) (hk : O c → y (S c) + W c ≤ y (G c)) : rz n S G W O (fun e => dn e ∨ e = c) p τ y r x := by
  obtain ⟨D, T, h1, h2, h3, h4, h5⟩ := h
  refine ⟨D, T, h1, h2, fun e he q => ?_, h4, ?_⟩
  · have := h3 e he q
    refine ⟨this.1, fun q2 => ?_⟩
    rcases q2 with q2 | q2
    · exact this.2 q2
    · rw [q2] at he q
      have := hk he
      omega
  · rcases h5 with q | q
    · refine Or.inl ⟨q.1, fun e he q2 => ?_⟩
      rcases q2 with q2 | q2
      · exact q.2 e he q2
      · rw [q2] at he ⊢
        exact hk he
    · exact Or.inr q
theorem rz_up (hS : ∀ c, O c → S c < n ∧ G c < n ∧ S c ≠ G c) {dn : Nat → Prop} {p τ : Nat} {y r y2 r2 : Nat → Int} {x x2 : Int} {c : Nat} (h : rz n S G W O dn p τ y r x) (hc : O c) (hw : W c ≤ 1) (hv : y (G c) < y (S c) + W c) (hy : ∀ v, v < n → y2 v = if v = G c then y (S c) + W c else y v) (hr : ∀ v, v < n → r2 v = if v = G c then (c : Int) else r v) (hx : x2 = if x < (G c : Int) then (G c : Int) else x) : rz n S G W O (fun e => dn e ∨ e = c) p (τ + 1) y2 r2 x2 := by
  obtain ⟨D, T, h1, h2, h3, h4, h5⟩ := h
  obtain ⟨s1, s2, s3⟩ := hS c hc
  have yS : y2 (S c) = y (S c) := by rw [hy _ s1, if_neg s3]
  have yG : y2 (G c) = y (S c) + W c := by rw [hy _ s2, if_pos rfl]
  have ge : ∀ v, v < n → y v ≤ y2 v := fun v q => by
    rw [hy v q]
    split
    · rename_i e
      rw [e]
      omega
    · exact Int.le_refl _
  refine ⟨fun v => if v = G c then p + 1 else D v, fun v => if v = G c then τ + 1 else T v, fun v q => ?_, fun v q => ?_, fun e he q => ?_, fun z hz hk v q => ?_, ?_⟩
  · have a1 := h1 v q
    have a2 := ge v q
    have a3 := h1 _ s1
    have a4 := hy v q
    simp only
    by_cases e : v = G c
    · rw [if_pos e] at a4
      simp only [if_pos e]
      omega
    · rw [if_neg e] at a4
      simp only [if_neg e]
      omega
  · have a3 := h3 c hc hv
    have a1 := h1 _ s1
    by_cases e : v = G c
    · right
      subst e
      refine ⟨by simp, c, hc, rfl, by rw [hr _ s2, if_pos rfl], ?_, Or.inr ⟨?_, ?_⟩⟩
      · simp only [if_neg s3, if_true]
        omega
      · simp only [if_neg s3, if_true]
        omega
      · rw [yS, yG]
        exact Int.le_refl _
    · rcases h2 v q with b | ⟨b1, e0, b2, b3, b4, b5, b6⟩
      · left
        refine ⟨by simp only [if_neg e]; exact b.1, by rw [hr v q, if_neg e]; exact b.2⟩
      · right
        refine ⟨by simp only [if_neg e]; exact b1, e0, b2, b3, by rw [hr v q, if_neg e]; exact b4, ?_, ?_⟩
        · simp only [if_neg e]
          split
          · have := (h1 v q).2.2.2
            omega
          · exact b5
        · have hv1 := h1 v q
          have gS := ge (S e0) (hS e0 b2).1
          rw [hy v q, if_neg e]
          simp only [if_neg e]
          by_cases e2 : S e0 = G c
          · simp only [if_pos e2]
            left
            have : y (S e0) + 1 ≤ y2 (S e0) := by rw [e2, yG]; omega
            rcases b6 with b6 | b6 <;> omega
          · simp only [if_neg e2]
            rw [hy _ (hS e0 b2).1, if_neg e2]
            exact b6
  · have t1 := hS e he
    by_cases e2 : S e = G c
    · simp only [if_pos e2]
      omega
    · simp only [if_neg e2]
      have g1 := ge (G e) t1.2.1
      rw [hy _ t1.1, if_neg e2] at q
      have a1 := h3 e he (by omega)
      refine ⟨a1.1, fun q2 => ?_⟩
      rcases q2 with q2 | q2
      · exact a1.2 q2
      · rw [q2, yG] at q
        omega
  · have := h4 z hz hk
    rw [hy v q]
    split
    · rename_i e
      have a1 := this _ s1
      have a2 := hk c hc
      rw [e]
      omega
    · exact this v q
  · right
    rcases h5 with q | ⟨v, q1, q2, q3⟩
    · refine ⟨G c, s2, ?_, by simp⟩
      rw [hx, if_pos (by omega)]
    · by_cases e : x < (G c : Int)
      · exact ⟨G c, s2, by rw [hx, if_pos e], by simp⟩
      · exact ⟨v, q1, by rw [hx, if_neg e]; exact q2, by simp only [q3]; split <;> rfl⟩
theorem rz_pass {dn : Nat → Prop} {p τ : Nat} {y r : Nat → Int} {x : Int} (h : rz n S G W O dn p τ y r x) (hd : ∀ c, O c → dn c) : rz n S G W O (fun _ => False) (p + 1) τ y r (-1) := by
  obtain ⟨D, T, h1, h2, h3, h4, h5⟩ := h
  exact ⟨D, T, fun v hv => by have := h1 v hv; omega, h2, fun c hc q => ⟨(h3 c hc q).2 (hd c hc), fun q => q.elim⟩, h4, Or.inl ⟨rfl, fun _ _ q => q.elim⟩⟩
theorem rz_end {dn : Nat → Prop} {p τ : Nat} {y r : Nat → Int} (h : rz n S G W O dn p τ y r (-1)) (hd : ∀ c, O c → dn c) : (∀ v, v < n → 0 ≤ y v ∧ y v ≤ τ) ∧ (∀ c, O c → y (S c) + W c ≤ y (G c)) ∧ ∀ z : Nat → Int, (∀ v, v < n → 0 ≤ z v) → (∀ c, O c → z (S c) + W c ≤ z (G c)) → ∀ v, v < n → y v ≤ z v := by
  obtain ⟨D, T, h1, h2, h3, h4, h5⟩ := h
  refine ⟨fun v hv => ⟨(h1 v hv).1, (h1 v hv).2.1⟩, fun c hc => ?_, h4⟩
  rcases h5 with q | ⟨v, _, q, _⟩
  · exact q.2 c hc (hd c hc)
  · omega
theorem rz_rng {dn : Nat → Prop} {p τ : Nat} {y r : Nat → Int} {x : Int} (h : rz n S G W O dn p τ y r x) : (∀ v, v < n → 0 ≤ y v ∧ y v ≤ τ) ∧ (x = -1 ∨ 0 ≤ x ∧ x < n) := by
  obtain ⟨D, T, h1, h2, h3, h4, h5⟩ := h
  refine ⟨fun v hv => ⟨(h1 v hv).1, (h1 v hv).2.1⟩, ?_⟩
  rcases h5 with q | ⟨v, q1, q, _⟩
  · exact Or.inl q.1
  · omega
-- going back along the rules
def itr (g : Nat → Nat) (x : Nat) : Nat → Nat
  | 0 => x
  | k + 1 => g (itr g x k)
theorem itr_add {g : Nat → Nat} {x : Nat} (i : Nat) : ∀ k, itr g x (i + k) = itr g (itr g x i) k
  | 0 => rfl
  | k + 1 => by
    show g (itr g x (i + k)) = g (itr g (itr g x i) k)
    rw [itr_add i k]
theorem pigeon : ∀ (n : Nat) (f : Nat → Nat), (∀ k, k ≤ n → f k < n) → ∃ i j, i < j ∧ j ≤ n ∧ f i = f j
  | 0, f, h => absurd (h 0 (Nat.le_refl _)) (by omega)
  | n + 1, f, h => by
    rcases Classical.em (∃ i, i ≤ n ∧ f i = f (n + 1)) with ⟨i, h1, h2⟩ | q
    · exact ⟨i, n + 1, by omega, by omega, h2⟩
    · have hl := h (n + 1) (by omega)
      obtain ⟨i, j, h1, h2, h3⟩ := pigeon n (fun k => if f k = n then f (n + 1) else f k) (fun k hk => by
        have h4 := h k (by omega)
        have h5 : f k ≠ f (n + 1) := fun e => q ⟨k, hk, e⟩
        show (if f k = n then f (n + 1) else f k) < n
        split <;> omega)
      have hi : f i ≠ f (n + 1) := fun e => q ⟨i, by omega, e⟩
      have hj : f j ≠ f (n + 1) := fun e => q ⟨j, by omega, e⟩
      refine ⟨i, j, h1, by omega, ?_⟩
      have h6 : (if f i = n then f (n + 1) else f i) = (if f j = n then f (n + 1) else f j) := h3
      split at h6 <;> split at h6 <;> omega
/-- what raised a node -/
def rsr (S : Nat → Nat) (r : Nat → Int) (v : Nat) : Nat := if r v = -1 then v else S (r v).toNat
/-- the round way found -/
def rway (n : Nat) (S G : Nat → Nat) (W : Nat → Int) (O : Nat → Prop) (r : Nat → Int) (s q : Nat) : Prop :=
  1 ≤ q ∧ q ≤ n ∧ itr (rsr S r) s q = s ∧ (∀ i j, i < j → j < q → itr (rsr S r) s i ≠ itr (rsr S r) s j) ∧
  (∀ i, itr (rsr S r) s i < n ∧ 0 ≤ r (itr (rsr S r) s i) ∧ O (r (itr (rsr S r) s i)).toNat ∧ G (r (itr (rsr S r) s i)).toNat = itr (rsr S r) s i ∧ itr (rsr S r) s (i + 1) = S (r (itr (rsr S r) s i)).toNat) ∧
  1 ≤ cnt (fun i => W (r (itr (rsr S r) s i)).toNat) q
theorem least_ex {P : Nat → Prop} (q : Nat) : P q → ∃ k, k ≤ q ∧ P k ∧ ∀ i, i < k → ¬ P i := by
  induction q using Nat.strongRecOn with
  | ind q ih =>
    intro h
    rcases Classical.em (∃ i, i < q ∧ P i) with ⟨i, h1, h2⟩ | e
    · obtain ⟨k, k1, k2⟩ := ih i h1 h2
      exact ⟨k, by omega, k2⟩
    · exact ⟨q, Nat.le_refl _, h, fun i h1 h2 => e ⟨i, h1, h2⟩⟩
theorem rz_way (hS : ∀ c, O c → S c < n ∧ G c < n ∧ S c ≠ G c) {dn : Nat → Prop} {τ : Nat} {y r : Nat → Int} {x : Int} (h : rz n S G W O dn n τ y r x) (hx : x ≠ -1) : ∃ q, rway n S G W O r (itr (rsr S r) x.toNat n) q := by
  obtain ⟨D, T, h1, h2, h3, h4, h5⟩ := h
  rcases h5 with q | ⟨v, v1, v2, v3⟩
  · exact absurd q.1 hx
  have ex : x.toNat = v := by omega
  rw [ex]
  obtain ⟨g, hg⟩ : ∃ g, g = rsr S r := ⟨_, rfl⟩
  have hgl : ∀ u, u < n → 0 < D u → g u < n ∧ 0 ≤ r u ∧ O (r u).toNat ∧ G (r u).toNat = u ∧ g u = S (r u).toNat ∧ D u ≤ D (g u) + 1 ∧ ((T u < T (g u) ∧ y u + 1 ≤ y (g u) + W (r u).toNat) ∨ (T (g u) < T u ∧ y u ≤ y (g u) + W (r u).toNat)) := fun u hu hD => by
    rcases h2 u hu with b | ⟨b1, c, b2, b3, b4, b5, b6⟩
    · omega
    · have e1 : (r u).toNat = c := by omega
      have e2 : g u = S c := by
        rw [hg]
        unfold rsr
        rw [if_neg (by omega), e1]
      rw [e1, e2]
      exact ⟨(hS c b2).1, by omega, b2, b3, rfl, b5, b6⟩
  -- the first n + 1 of the way
  have hfirst : ∀ k, k ≤ n → itr g v k < n ∧ n + 1 ≤ D (itr g v k) + k := fun k => by
    induction k with
    | zero => intro _; exact ⟨v1, by show n + 1 ≤ D v + 0; omega⟩
    | succ k ih =>
      intro hk
      obtain ⟨i1, i2⟩ := ih (by omega)
      have := hgl _ i1 (by omega)
      exact ⟨this.1, by show n + 1 ≤ D (g (itr g v k)) + (k + 1); omega⟩
  obtain ⟨i, j, p1, p2, p3⟩ := pigeon n (itr g v) (fun k hk => (hfirst k hk).1)
  have hper : ∀ k, itr g v (j + k) = itr g v (i + k) := fun k => by rw [itr_add, itr_add, p3]
  have hall : ∀ k, ∃ l, l ≤ n ∧ itr g v k = itr g v l := fun k => by
    induction k using Nat.strongRecOn with
    | ind k ih =>
      rcases Nat.lt_or_ge k j with e | e
      · exact ⟨k, by omega, rfl⟩
      · obtain ⟨l, l1, l2⟩ := ih (i + (k - j)) (by omega)
        refine ⟨l, l1, ?_⟩
        rw [← l2, ← hper, show j + (k - j) = k by omega]
  have hD : ∀ k, itr g v k < n ∧ 0 < D (itr g v k) := fun k => by
    obtain ⟨l, l1, l2⟩ := hall k
    have := hfirst l l1
    rw [l2]
    exact ⟨this.1, by omega⟩
  obtain ⟨s, hs⟩ : ∃ s, s = itr g v n := ⟨_, rfl⟩
  have hsk : ∀ k, itr g s k = itr g v (n + k) := fun k => by rw [hs, ← itr_add]
  have hret : itr g s (j - i) = s := by
    rw [hsk, hs, show n + (j - i) = j + (n - i) by omega, hper, show i + (n - i) = n by omega]
  obtain ⟨q, q1, q2, q3⟩ := least_ex (P := fun k => 1 ≤ k ∧ itr g s k = s) (j - i) ⟨by omega, hret⟩
  have hnode : ∀ i, itr g s i < n ∧ 0 < D (itr g s i) := fun i => by rw [hsk]; exact hD _
  have hup : ∀ k, y s ≤ y (itr g s k) + cnt (fun i => W (r (itr g s i)).toNat) k ∧ ((T (itr g s k) < T s ∨ k = 0) ∨ y s + 1 ≤ y (itr g s k) + cnt (fun i => W (r (itr g s i)).toNat) k) := fun k => by
    induction k with
    | zero => exact ⟨by show y s ≤ y s + 0; omega, Or.inl (Or.inr rfl)⟩
    | succ k ih =>
      have a1 := hgl _ (hnode k).1 (hnode k).2
      have a2 := a1.2.2.2.2.2.2
      have e0 : itr g s (k + 1) = g (itr g s k) := rfl
      have e1 : cnt (fun i => W (r (itr g s i)).toNat) (k + 1) = cnt (fun i => W (r (itr g s i)).toNat) k + W (r (itr g s k)).toNat := rfl
      rw [e0, e1]
      obtain ⟨i1, i2⟩ := ih
      rcases i2 with (i2 | i2) | i2
      · rcases a2 with a2 | a2 <;> omega
      · subst i2
        have e2 : itr g s 0 = s := rfl
        rw [e2] at a2 i1 ⊢
        rcases a2 with a2 | a2 <;> omega
      · rcases a2 with a2 | a2 <;> omega
  rw [← hg, ← hs]
  refine ⟨q, q2.1, by omega, by rw [← hg]; exact q2.2, ?_, ?_, ?_⟩
  · rw [← hg]
    intro a b ab bq e
    refine q3 (a + (q - b)) (by omega) ⟨by omega, ?_⟩
    rw [itr_add, e, ← itr_add, show b + (q - b) = q by omega]
    exact q2.2
  · rw [← hg]
    intro k
    have a1 := hgl _ (hnode k).1 (hnode k).2
    exact ⟨(hnode k).1, a1.2.1, a1.2.2.1, a1.2.2.2.1, a1.2.2.2.2.1⟩
  · rw [← hg]
    have a1 := (hup q).2
    rw [q2.2] at a1
    rcases a1 with (a1 | a1) | a1 <;> omega
end rzs
