-- sorted rows
def ltI (x y : Int) : Bool := decide (x < y)
theorem shf_srt {x : Int} : ∀ {j K : Nat} {f : Nat → Int}, j ≤ K → (∀ a b, a < b → b ≤ K → a ≠ j → b ≠ j → f a ≤ f b) → (∀ b, j < b → b ≤ K → x ≤ f b) → ∀ a b, a < b → b ≤ K → shf ltI x j f a ≤ shf ltI x j f b
  | 0, K, f, _, h1, h2, a, b, hab, hb => by
    show upf f 0 x a ≤ upf f 0 x b
    rw [upf_n (j := b) (by omega)]
    by_cases e : a = 0
    · rw [e, upf_s]
      exact h2 b (by omega) hb
    · rw [upf_n e]
      exact h1 a b hab hb e (by omega)
  | j + 1, K, f, hj, h1, h2, a, b, hab, hb => by
    unfold shf
    by_cases q : ltI x (f j) = true
    · rw [if_pos q]
      have q2 : x < f j := of_decide_eq_true q
      refine shf_srt (by omega) (fun c d hcd hd nc nd => ?_) (fun d hd1 hd2 => ?_) a b hab hb
      · by_cases e1 : c = j + 1
        · rw [e1, upf_s, upf_n (by omega)]
          exact h1 j d (by omega) hd (by omega) (by omega)
        · rw [upf_n e1]
          by_cases e2 : d = j + 1
          · rw [e2, upf_s]
            exact h1 c j (by omega) (by omega) (by omega) (by omega)
          · rw [upf_n e2]
            exact h1 c d hcd hd e1 e2
      · by_cases e2 : d = j + 1
        · rw [e2, upf_s]
          omega
        · rw [upf_n e2]
          exact h2 d (by omega) hd2
    · rw [if_neg q]
      have q2 : f j ≤ x := by
        unfold ltI at q
        simp at q
        exact q
      by_cases e1 : a = j + 1
      · rw [e1, upf_s, upf_n (by omega)]
        exact h2 b (by omega) hb
      · rw [upf_n e1]
        by_cases e2 : b = j + 1
        · rw [e2, upf_s]
          by_cases e3 : a = j
          · rw [e3]
            exact q2
          · have := h1 a j (by omega) (by omega) (by omega) (by omega)
            omega
        · rw [upf_n e2]
          exact h1 a b hab hb e1 e2
theorem isr_srt {f : Nat → Int} : ∀ k a b, a < b → b ≤ k → isr ltI k f a ≤ isr ltI k f b
  | 0, a, b, h1, h2 => absurd h1 (by omega)
  | k + 1, a, b, h1, h2 => by
    refine shf_srt (Nat.le_refl _) (fun c d hcd hd nc nd => isr_srt k c d hcd (by omega)) (fun d hd1 hd2 => absurd hd1 (by omega)) a b h1 h2
theorem srt_one {P : Int → Prop} {s : Nat} {f g : Nat → Int} (hf : prw P s f) (hg : prw P s g) (sf : ∀ a b, a < b → b < s → f a ≤ f b) (sg : ∀ a b, a < b → b < s → g a ≤ g b) (j : Nat) : j < s → f j = g j := by
  induction j using Nat.strongRecOn with
  | ind j ih =>
    intro hj
    have half : ∀ {f g : Nat → Int}, prw P s f → prw P s g → (∀ a b, a < b → b < s → g a ≤ g b) → (∀ i, i < j → f i = g i) → g j ≤ f j := fun {f g} hf hg sg ih => by
      obtain ⟨i, hi, e⟩ := hg.2.2 _ (hf.1 j hj)
      rcases Nat.lt_trichotomy i j with q | q | q
      · have h1 := ih i q
        rw [e] at h1
        have := hf.2.1 i j hi hj h1
        omega
      · rw [← e, q]
        exact Int.le_refl _
      · have := sg j i q hi
        omega
    have h1 := half hf hg sg (fun i hi => ih i hi (by omega))
    have h2 := half hg hf sf (fun i hi => (ih i hi (by omega)).symm)
    omega
theorem srt_lt {P : Int → Prop} {s : Nat} {f : Nat → Int} (hf : prw P s f) (sf : ∀ a b, a < b → b < s → f a ≤ f b) : ∀ i j, i < j → j < s → f i < f j := fun i j h1 h2 => by
  have := sf i j h1 h2
  have : f i ≠ f j := fun e => by have := hf.2.1 i j (by omega) h2 e; omega
  omega
theorem inj_surj {s : Nat} {f : Nat → Nat} (h1 : ∀ i, i < s → f i < s) (h2 : ∀ i j, i < s → j < s → f i = f j → i = j) {y : Nat} (hy : y < s) : ∃ i, i < s ∧ f i = y := by
  obtain ⟨i, j, a1, a2, a3⟩ := pigeon s (fun k => if k < s then f k else y) (fun k _ => by
    show (if k < s then f k else y) < s
    split
    · rename_i e
      exact h1 k e
    · exact hy)
  have a4 : (if i < s then f i else y) = (if j < s then f j else y) := a3
  rw [if_pos (by omega)] at a4
  by_cases e : j < s
  · rw [if_pos e] at a4
    have := h2 i j (by omega) e a4
    omega
  · rw [if_neg e] at a4
    exact ⟨i, by omega, a4⟩
theorem row_prw {P : Int → Prop} {s k : Nat} {b : Nat → Int} (h6 : s ≤ 6) (hk : k < pF s) (hb : prw P s b) : prw P s (fun j => b (pk s k j)) := by
  obtain ⟨p1, p2⟩ := pk_perm h6 hk
  refine ⟨fun j hj => hb.1 _ (p1 j hj), fun i j hi hj e => p2 i j hi hj (hb.2.1 _ _ (p1 i hi) (p1 j hj) e), fun x hx => ?_⟩
  obtain ⟨y, hy, e⟩ := hb.2.2 x hx
  obtain ⟨i, hi, e2⟩ := inj_surj p1 p2 hy
  exact ⟨i, hi, by show b (pk s k i) = x; rw [e2]; exact e⟩
theorem row_ex {P : Int → Prop} {s : Nat} {b f : Nat → Int} (hb : prw P s b) (hf : prw P s f) : ∃ k, k < pF s ∧ ∀ j, j < s → f j = b (pk s k j) := by
  have hex : ∀ j, ∃ i, j < s → i < s ∧ b i = f j := fun j => by
    by_cases e : j < s
    · obtain ⟨i, h1, h2⟩ := hb.2.2 _ (hf.1 j e)
      exact ⟨i, fun _ => ⟨h1, h2⟩⟩
    · exact ⟨0, fun q => absurd q e⟩
  obtain ⟨σ, hσ⟩ : ∃ σ : Nat → Nat, ∀ j, j < s → σ j < s ∧ b (σ j) = f j := ⟨fun j => Classical.choose (hex j), fun j => Classical.choose_spec (hex j)⟩
  obtain ⟨k, hk, e⟩ := pk_all (s := s) (f := σ) (fun i hi => (hσ i hi).1) (fun i j hi hj q => hf.2.1 i j hi hj (by rw [← (hσ i hi).2, ← (hσ j hj).2, q]))
  exact ⟨k, hk, fun j hj => by rw [e j hj]; exact (hσ j hj).2.symm⟩
section mnm
variable {Q : Nat → Int → Prop} {sz : Nat → Nat} {h N : Nat} {g pu pd : Nat → Nat}
theorem wok_rows {z z2 : wSt} (h1 : wok Q sz h z) (h2 : wok Q sz h z2) {l : Nat} (hl : l < h) (e : ∀ j, j < sz l → z.1 l j = z2.1 l j) {x : Nat} (hx : Q l (x : Nat)) : z.2 x = z2.2 x := by
  obtain ⟨j, hj, q⟩ := (h1 l hl).1.2.2 _ hx
  have a1 := (h1 l hl).2 j hj
  have a2 := (h2 l hl).2 j hj
  rw [← e j hj, q] at a2
  rw [q] at a1
  have e2 : ((x : Int)).toNat = x := by omega
  rw [e2] at a1 a2
  omega
theorem wok_set {z : wSt} (hQ : ∀ l k x y, Q l x → Q k y → x.toNat = y.toNat → l = k ∧ x = y) (hz : wok Q sz h z) {l : Nat} {f : Nat → Int} (hf : prw (Q l) (sz l) f) : wok Q sz h (upf z.1 l f, nbr f z.2 (sz l)) := fun k hk => by
  by_cases e : k = l
  · subst e
    have e1 : (upf z.1 k f, nbr f z.2 (sz k)).1 k = f := upf_s
    rw [e1]
    exact ⟨hf, fun j hj => nbr_at (fun a b ha hb q => hf.2.1 a b ha hb (hQ _ _ _ _ (hf.1 a ha) (hf.1 b hb) q).2) hj⟩
  · have e1 : (upf z.1 l f, nbr f z.2 (sz l)).1 k = z.1 k := upf_n e
    rw [e1]
    refine ⟨(hz k hk).1, fun j hj => ?_⟩
    refine Eq.trans (nbr_in (fun i hi q => ?_)) ((hz k hk).2 j hj)
    exact e (hQ _ _ _ _ (hf.1 i hi) ((hz k hk).1.1 j hj) q).1.symm
theorem crX_congr {s s2 : Nat → Int} {p q : Nat} (h1 : s (pu p) = s2 (pu p)) (h2 : s (pu q) = s2 (pu q)) (h3 : s (pd p) = s2 (pd p)) (h4 : s (pd q) = s2 (pd q)) : crX g pu pd s p q = crX g pu pd s2 p q := by
  unfold crX
  rw [h1, h2, h3, h4]
theorem crV_congr {s s2 : Nat → Int} (e : ∀ p, p < N → s (pu p) = s2 (pu p) ∧ s (pd p) = s2 (pd p)) : crV g pu pd s N = crV g pu pd s2 N := cnt_congr (fun p hp => cnt_congr (fun q hq => crX_congr (e p hp).1 (e q hq).1 (e p hp).2 (e q hq).2))
theorem crV_rows (hp : pcOK Q h N g pu pd) {z z2 : wSt} (h1 : wok Q sz h z) (h2 : wok Q sz h z2) (e : ∀ l, l < h → ∀ j, j < sz l → z.1 l j = z2.1 l j) : crV g pu pd z.2 N = crV g pu pd z2.2 N := crV_congr (fun p hp2 => by
  obtain ⟨a1, a2, a3⟩ := hp p hp2
  exact ⟨wok_rows h1 h2 (by omega) (e _ (by omega)) a1, wok_rows h1 h2 (by omega) (e _ (by omega)) a2⟩)
/-- the fewest crossings of all orders -/
def mnV (Q : Nat → Int → Prop) (sz : Nat → Nat) (h N : Nat) (g pu pd : Nat → Nat) (v : Int) : Prop := (∃ z, wok Q sz h z ∧ crV g pu pd z.2 N = v) ∧ ∀ z, wok Q sz h z → v ≤ crV g pu pd z.2 N
theorem mnV_one {v w : Int} (h1 : mnV Q sz h N g pu pd v) (h2 : mnV Q sz h N g pu pd w) : v = w := by
  obtain ⟨⟨z, z1, z2⟩, a⟩ := h1
  obtain ⟨⟨z', z1', z2'⟩, b⟩ := h2
  have := a z' z1'
  have := b z z1
  omega
/-- the crossings between layer l and the next -/
def crG (g pu pd : Nat → Nat) (N : Nat) (s : Nat → Int) (l : Nat) : Int := cnt (fun p => if g p = l then cnt (fun q => crX g pu pd s p q) N else 0) N
theorem crG_sum (hp : pcOK Q h N g pu pd) (s : Nat → Int) : cnt (crG g pu pd N s) (h - 1) = crV g pu pd s N := cnt_sorts (fun p hp2 => by have := (hp p hp2).2.2; omega)
theorem crG_congr {s s2 : Nat → Int} {l : Nat} (e : ∀ p, p < N → g p = l → s (pu p) = s2 (pu p) ∧ s (pd p) = s2 (pd p)) : crG g pu pd N s l = crG g pu pd N s2 l := cnt_congr (fun p hp => by
  by_cases q : g p = l
  · rw [if_pos q, if_pos q]
    refine cnt_congr (fun r hr => ?_)
    by_cases q2 : g r = l
    · exact crX_congr (e p hp q).1 (e r hr q2).1 (e p hp q).2 (e r hr q2).2
    · unfold crX
      rw [if_neg (fun z => q2 (by omega)), if_neg (fun z => q2 (by omega))]
  · rw [if_neg q, if_neg q])
theorem crG_rows (hp : pcOK Q h N g pu pd) {z z2 : wSt} (h1 : wok Q sz h z) (h2 : wok Q sz h z2) {l : Nat} (e : ∀ k, k = l ∨ k = l + 1 → k < h → ∀ j, j < sz k → z.1 k j = z2.1 k j) : crG g pu pd N z.2 l = crG g pu pd N z2.2 l := crG_congr (fun p hp2 q => by
  obtain ⟨a1, a2, a3⟩ := hp p hp2
  rw [q] at a1 a2
  exact ⟨wok_rows h1 h2 (by omega) (e _ (Or.inl rfl) (by omega)) a1, wok_rows h1 h2 (by omega) (e _ (Or.inr rfl) (by omega)) a2⟩)
variable {M : Nat → Nat → Int}
/-- row l stands in the k-th order over M -/
def stands (sz : Nat → Nat) (M : Nat → Nat → Int) (z : wSt) (l k : Nat) : Prop := ∀ j, j < sz l → z.1 l j = M l (pk (sz l) k j)
/-- the least sums down to layer l -/
def dpB (Q : Nat → Int → Prop) (sz : Nat → Nat) (h N : Nat) (g pu pd : Nat → Nat) (M : Nat → Nat → Int) (l : Nat) (best : Nat → Int) : Prop := ∀ q, q < pF (sz l) → (∀ z, wok Q sz h z → stands sz M z l q → best q ≤ cnt (crG g pu pd N z.2) l) ∧ ∃ z, wok Q sz h z ∧ stands sz M z l q ∧ best q = cnt (crG g pu pd N z.2) l
theorem stands_set {z : wSt} {l k : Nat} {f : Nat → Int} {s : Nat → Int} (hf : ∀ j, j < sz l → f j = M l (pk (sz l) k j)) : stands sz M (upf z.1 l f, s) l k := fun j hj => by
  show upf z.1 l f l j = _
  rw [upf_s]
  exact hf j hj
theorem dpB_0 (hQ : ∀ l k x y, Q l x → Q k y → x.toNat = y.toNat → l = k ∧ x = y) {z0 : wSt} (hz : wok Q sz h z0) (hM : ∀ l, l < h → prw (Q l) (sz l) (M l)) (h0 : 0 < h) (h6 : sz 0 ≤ 6) {best : Nat → Int} (hb : ∀ q, q < pF (sz 0) → best q = 0) : dpB Q sz h N g pu pd M 0 best := fun q hq => by
  refine ⟨fun z _ _ => by rw [hb q hq]; exact Int.le_refl _, _, wok_set hQ hz (row_prw h6 hq (hM 0 h0)), stands_set (fun _ _ => rfl), by rw [hb q hq]; rfl⟩
theorem dpB_s (hQ : ∀ l k x y, Q l x → Q k y → x.toNat = y.toNat → l = k ∧ x = y) (hp : pcOK Q h N g pu pd) (hM : ∀ l, l < h → prw (Q l) (sz l) (M l)) {l : Nat} (hl : l + 1 < h) (h6 : sz (l + 1) ≤ 6) {best next : Nat → Int} {pr : Nat → Nat → Int} (hb : dpB Q sz h N g pu pd M l best) (hpr : ∀ q q2 z, q < pF (sz l) → q2 < pF (sz (l + 1)) → wok Q sz h z → stands sz M z l q → stands sz M z (l + 1) q2 → pr q q2 = crG g pu pd N z.2 l)
    (hn : ∀ q2, q2 < pF (sz (l + 1)) → (∀ q, q < pF (sz l) → next q2 ≤ best q + pr q q2) ∧ ∃ q, q < pF (sz l) ∧ next q2 = best q + pr q q2) : dpB Q sz h N g pu pd M (l + 1) next := fun q2 hq2 => by
  obtain ⟨n1, q, hq, n2⟩ := hn q2 hq2
  refine ⟨fun z hz hs => ?_, ?_⟩
  · obtain ⟨k, hk, e⟩ := row_ex (hM l (by omega)) (hz l (by omega)).1
    have h1 := (hb k hk).1 z hz e
    have h2 := hpr k q2 z hk hq2 hz e hs
    have h3 := n1 k hk
    show _ ≤ cnt (crG g pu pd N z.2) l + crG g pu pd N z.2 l
    omega
  · obtain ⟨-, z, hz, hs, e⟩ := hb q hq
    have hz2 := wok_set hQ hz (row_prw h6 hq2 (hM (l + 1) hl))
    have hs2 : stands sz M (upf z.1 (l + 1) (fun j => M (l + 1) (pk (sz (l + 1)) q2 j)), nbr (fun j => M (l + 1) (pk (sz (l + 1)) q2 j)) z.2 (sz (l + 1))) l q := fun j hj => by
      show upf z.1 (l + 1) _ l j = _
      rw [upf_n (by omega)]
      exact hs j hj
    refine ⟨_, hz2, stands_set (fun _ _ => rfl), ?_⟩
    have h2 := hpr q q2 _ hq hq2 hz2 hs2 (stands_set (fun _ _ => rfl))
    show next q2 = cnt (crG g pu pd N _) l + crG g pu pd N _ l
    rw [← h2, n2, e]
    congr 1
    refine cnt_congr (fun k hk => crG_rows hp hz hz2 (fun i hi hih j hj => ?_))
    show z.1 i j = upf z.1 (l + 1) _ i j
    rw [upf_n (by omega)]
theorem dpB_end (hp : pcOK Q h N g pu pd) (hM : ∀ l, l < h → prw (Q l) (sz l) (M l)) (h0 : 0 < h) {best : Nat → Int} (hb : dpB Q sz h N g pu pd M (h - 1) best) {v : Int} (hv : (∀ q, q < pF (sz (h - 1)) → v ≤ best q) ∧ ∃ q, q < pF (sz (h - 1)) ∧ v = best q) : mnV Q sz h N g pu pd v := by
  obtain ⟨v1, q, hq, v2⟩ := hv
  refine ⟨?_, fun z hz => ?_⟩
  · obtain ⟨-, z, hz, hs, e⟩ := hb q hq
    exact ⟨z, hz, by rw [← crG_sum hp, v2, e]⟩
  · obtain ⟨k, hk, e⟩ := row_ex (hM (h - 1) (by omega)) (hz (h - 1) (by omega)).1
    have h1 := (hb k hk).1 z hz e
    have h2 := v1 k hk
    rw [← crG_sum hp]
    omega
end mnm
