theorem pk_0 {s : Nat} (h : s ≤ 6) {i : Nat} (hi : i < s) : pk s 0 i = i := by
  have h1 := pChk_6 h
  unfold pChk at h1
  simp only [Bool.and_eq_true, List.all_eq_true, decide_eq_true_eq, List.mem_range] at h1
  have h2 := h1.2.2.1 i hi
  unfold pk
  rw [show (lexp s (List.range s)).getD 0 [] = (lexp s (List.range s)).headD [] by cases lexp s (List.range s) <;> rfl]
  exact h2
theorem pk_next {s k : Nat} (h : s ≤ 6) (hk : k + 1 < pF s) : ∃ t o, nxP s (pk s k) t o ∧ ∀ j, j < s → pk s (k + 1) j = nxF s (pk s k) t o j := by
  have h1 := pChk_6 h
  unfold pChk at h1
  simp only [Bool.and_eq_true] at h1
  exact nxC_ex (chn_at h1.1 hk)
theorem pF_pos {s : Nat} (h : s ≤ 6) : 1 ≤ pF s := by
  have := pF6
  rcases (show s = 0 ∨ s = 1 ∨ s = 2 ∨ s = 3 ∨ s = 4 ∨ s = 5 ∨ s = 6 by omega) with e | e | e | e | e | e | e <;> rw [e] <;> omega
theorem getLastD_get {α : Type} {d : α} : ∀ {l : List α}, l.getLastD d = l.getD (l.length - 1) d
  | [] => rfl
  | [a] => rfl
  | a :: b :: r => by
    have := getLastD_get (d := d) (l := b :: r)
    simp only [List.length_cons] at this ⊢
    rw [show r.length + 1 + 1 - 1 = (r.length + 1 - 1) + 1 by omega]
    simp only [List.getD_cons_succ]
    rw [← this]
    simp [List.getLastD]
theorem pk_last {s : Nat} (h : s ≤ 6) {i : Nat} (hi : i + 1 < s) : pk s (pF s - 1) (i + 1) < pk s (pF s - 1) i := by
  have h1 := pChk_6 h
  unfold pChk at h1
  simp only [Bool.and_eq_true] at h1
  have h2 := h1.2.1
  rw [getLastD_get] at h2
  unfold lastC at h2
  simp only [List.all_eq_true, Bool.or_eq_true, Bool.not_eq_true', decide_eq_true_eq, decide_eq_false_iff_not, List.mem_range] at h2
  rcases h2 i (by omega) with q | q
  · exact absurd hi q
  · exact q
theorem pk_perm {s k : Nat} (h : s ≤ 6) (hk : k < pF s) : (∀ i, i < s → pk s k i < s) ∧ ∀ i j, i < s → j < s → pk s k i = pk s k j → i = j := by
  have h1 := pChk_6 h
  unfold pChk at h1
  simp only [Bool.and_eq_true] at h1
  have h2 := h1.2.2.2
  simp only [List.all_eq_true, Bool.or_eq_true, Bool.and_eq_true, Bool.not_eq_true', decide_eq_true_eq, decide_eq_false_iff_not, List.mem_range] at h2
  have h3 := h2 ((lexp s (List.range s)).getD k []) (by
    rw [List.getD_eq_getElem?_getD, List.getElem?_eq_getElem hk]
    exact List.getElem_mem hk)
  refine ⟨fun i hi => (h3 i hi).1, fun i j hi hj e => ?_⟩
  rcases Nat.lt_trichotomy i j with q | q | q
  · rcases (h3 j hj).2 i hi with r | r
    · omega
    · exact absurd e.symm r
  · exact q
  · rcases (h3 i hi).2 j hj with r | r
    · omega
    · exact absurd e r
theorem pk_all {s : Nat} {f : Nat → Nat} (h1 : ∀ i, i < s → f i < s) (h2 : ∀ i j, i < s → j < s → f i = f j → i = j) : ∃ k, k < pF s ∧ ∀ i, i < s → pk s k i = f i := by
  have h3 := lexp_mem s (List.range s) f List.nodup_range (fun i hi => List.mem_range.mpr (h1 i hi)) h2
  obtain ⟨k, hk, e⟩ := List.getElem_of_mem h3
  refine ⟨k, hk, fun i hi => ?_⟩
  unfold pk
  rw [List.getD_eq_getElem?_getD, List.getD_eq_getElem?_getD, List.getElem?_eq_getElem hk, Option.getD_some, e]
  simp [hi]
theorem nxP_one {s : Nat} {f : Nat → Int} {t o t2 o2 : Nat} (h : nxP s f t o) (h2 : nxP s f t2 o2) : t = t2 ∧ o = o2 := by
  obtain ⟨a1, a2, a3, a4, a5, a6⟩ := h
  obtain ⟨b1, b2, b3, b4, b5, b6⟩ := h2
  have e : t = t2 := by
    rcases Nat.lt_trichotomy t t2 with q | q | q
    · have := a4 t2 q (by omega)
      omega
    · exact q
    · have := b4 t q (by omega)
      omega
  subst e
  refine ⟨rfl, ?_⟩
  rcases Nat.lt_trichotomy o o2 with q | q | q
  · have := a6 o2 q b2
    omega
  · exact q
  · have := b6 o q a2
    omega
/-- rows over a row b that grows: the k-th order of it -/
theorem nx_mono {s : Nat} {b : Nat → Int} {σ : Nat → Nat} (hb : ∀ i j, i < j → j < s → b i < b j) (hσ : ∀ i, i < s → σ i < s) {t o : Nat} : nxP s σ t o → nxP s (fun j => b (σ j)) t o := fun h => by
  obtain ⟨a1, a2, a3, a4, a5, a6⟩ := h
  exact ⟨a1, a2, hb _ _ a3 (hσ _ (by omega)), fun i h1 h2 => hb _ _ (a4 i h1 h2) (hσ _ (by omega)), hb _ _ a5 (hσ _ a2), fun i h1 h2 => hb _ _ (a6 i h1 h2) (hσ _ (by omega))⟩
theorem nxF_map {α : Type} {s : Nat} {b : Nat → α} {σ : Nat → Nat} {t o j : Nat} : nxF s (fun j => b (σ j)) t o j = b (nxF s σ t o j) := by
  unfold nxF
  split
  · rfl
  · split
    · rfl
    · split <;> rfl
/-- the next order is found -/
theorem row_next {s k : Nat} (h6 : s ≤ 6) (hk : k < pF s) {b : Nat → Int} (hb : ∀ i j, i < j → j < s → b i < b j) {t o : Nat} (h : nxP s (fun j => b (pk s k j)) t o) : k + 1 < pF s ∧ ∀ j, j < s → nxF s (fun j => b (pk s k j)) t o j = b (pk s (k + 1) j) := by
  have hp := pk_perm h6 hk
  rcases Nat.lt_or_ge (k + 1) (pF s) with q | q
  · refine ⟨q, fun j hj => ?_⟩
    obtain ⟨t2, o2, h1, h2⟩ := pk_next h6 q
    have h3 := nx_mono hb hp.1 h1
    obtain ⟨e1, e2⟩ := nxP_one h h3
    rw [nxF_map, h2 j hj, e1, e2]
  · exfalso
    have e : k = pF s - 1 := by omega
    obtain ⟨a1, a2, a3, -⟩ := h
    have h4 := pk_last h6 (i := t) (by omega)
    rw [← e] at h4
    have := hb _ _ h4 (hp.1 t (by omega))
    simp only at a3
    omega
/-- there is no next order -/
theorem row_last {s k : Nat} (h6 : s ≤ 6) (hk : k < pF s) {b : Nat → Int} (hb : ∀ i j, i < j → j < s → b i < b j) (h : ∀ i, i + 1 < s → b (pk s k (i + 1)) < b (pk s k i)) : k + 1 = pF s := by
  rcases Nat.lt_or_ge (k + 1) (pF s) with q | q
  · exfalso
    have hp := pk_perm h6 hk
    obtain ⟨t, o, ⟨a1, a2, a3, -⟩, -⟩ := pk_next h6 q
    have h1 := hb _ _ a3 (hp.1 _ (by omega))
    have h2 := h t (by omega)
    omega
  · omega
-- counting over several wheels
def oW (F : Nat → Nat) : Nat → Nat
  | 0 => 1
  | l + 1 => oW F l * F l
def oV (F κ : Nat → Nat) : Nat → Nat
  | 0 => 0
  | l + 1 => oV F κ l + κ l * oW F l
theorem oV_lt {F κ : Nat → Nat} : ∀ {h : Nat}, (∀ l, l < h → κ l < F l) → oV F κ h + 1 ≤ oW F h
  | 0, _ => Nat.le_refl _
  | h + 1, hk => by
    have ih := oV_lt (h := h) (fun l hl => hk l (by omega))
    have h1 := hk h (by omega)
    show oV F κ h + κ h * oW F h + 1 ≤ oW F h * F h
    have h2 := Nat.mul_le_mul_left (oW F h) (show κ h + 1 ≤ F h by omega)
    rw [Nat.mul_add, Nat.mul_one, Nat.mul_comm (oW F h) (κ h)] at h2
    omega
theorem oV_inj {F κ κ2 : Nat → Nat} : ∀ {h : Nat}, (∀ l, l < h → κ l < F l) → (∀ l, l < h → κ2 l < F l) → oV F κ h = oV F κ2 h → ∀ l, l < h → κ l = κ2 l
  | 0, _, _, _, l, hl => absurd hl (by omega)
  | h + 1, hk, hk2, e, l, hl => by
    have a1 := oV_lt (h := h) (κ := κ) (fun l hl => hk l (by omega))
    have a2 := oV_lt (h := h) (κ := κ2) (fun l hl => hk2 l (by omega))
    have e1 : oV F κ h + κ h * oW F h = oV F κ2 h + κ2 h * oW F h := e
    have e2 : κ h = κ2 h := by
      rcases Nat.lt_trichotomy (κ h) (κ2 h) with q | q | q
      · exfalso
        have h2 := Nat.mul_le_mul_right (oW F h) (show κ h + 1 ≤ κ2 h from q)
        rw [Nat.add_mul, Nat.one_mul] at h2
        omega
      · exact q
      · exfalso
        have h2 := Nat.mul_le_mul_right (oW F h) (show κ2 h + 1 ≤ κ h from q)
        rw [Nat.add_mul, Nat.one_mul] at h2
        omega
    by_cases q : l = h
    · rw [q]
      exact e2
    · refine oV_inj (h := h) (fun l hl => hk l (by omega)) (fun l hl => hk2 l (by omega)) ?_ l (by omega)
      rw [e2] at e1
      omega
theorem oV_max {F κ : Nat → Nat} : ∀ {h : Nat}, (∀ l, l < h → κ l + 1 = F l) → oV F κ h + 1 = oW F h
  | 0, _ => rfl
  | h + 1, hk => by
    have ih := oV_max (h := h) (fun l hl => hk l (by omega))
    have h1 := hk h (by omega)
    show oV F κ h + κ h * oW F h + 1 = oW F h * F h
    rw [← h1, Nat.mul_add, Nat.mul_one, Nat.mul_comm (oW F h) (κ h)]
    omega
theorem oV_zero {F κ : Nat → Nat} : ∀ {h : Nat}, (∀ l, l < h → κ l = 0) → oV F κ h = 0
  | 0, _ => rfl
  | h + 1, hk => by
    show oV F κ h + κ h * oW F h = 0
    rw [oV_zero (fun l hl => hk l (by omega)), hk h (by omega)]
    simp
theorem oV_from {F κ κ2 : Nat → Nat} {l d : Nat} : ∀ {j : Nat}, (∀ k, l ≤ k → k < l + j → κ k = κ2 k) → oV F κ2 l = oV F κ l + d → oV F κ2 (l + j) = oV F κ (l + j) + d
  | 0, _, h => h
  | j + 1, h1, h => by
    have ih := oV_from (j := j) (fun k a b => h1 k a (by omega)) h
    have := h1 (l + j) (by omega) (by omega)
    show oV F κ2 (l + j) + κ2 (l + j) * oW F (l + j) = oV F κ (l + j) + κ (l + j) * oW F (l + j) + d
    rw [ih, this]
    omega
/-- one step on -/
theorem oV_step {F κ κ2 : Nat → Nat} {h l : Nat} (hl : l < h) (h0 : ∀ k, k < l → κ k + 1 = F k ∧ κ2 k = 0) (h1 : κ2 l = κ l + 1) (h2 : ∀ k, l < k → k < h → κ2 k = κ k) : oV F κ2 h = oV F κ h + 1 := by
  have e1 := oV_max (F := F) (κ := κ) (h := l) (fun k hk => (h0 k hk).1)
  have e2 := oV_zero (F := F) (κ := κ2) (h := l) (fun k hk => (h0 k hk).2)
  have e3 : oV F κ2 (l + 1) = oV F κ (l + 1) + 1 := by
    show oV F κ2 l + κ2 l * oW F l = oV F κ l + κ l * oW F l + 1
    rw [e2, h1, Nat.add_mul, Nat.one_mul]
    omega
  have := oV_from (F := F) (κ := κ) (κ2 := κ2) (l := l + 1) (d := 1) (j := h - (l + 1)) (fun k a b => (h2 k (by omega) (by omega)).symm) e3
  rwa [show l + 1 + (h - (l + 1)) = h by omega] at this
