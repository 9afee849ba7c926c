-- the rules of the flow: c < 24 down arc c, 24 + a up arc a
section efl
variable {n m : Nat} {up lo pos : Nat → Nat} {th F : Nat → Int}
def eS (up lo : Nat → Nat) (c : Nat) : Nat := if c < 24 then up c else lo (c - 24)
def eG (up lo : Nat → Nat) (c : Nat) : Nat := if c < 24 then lo c else up (c - 24)
def eW (c : Nat) : Int := if c < 24 then 1 else -1
def eO (m : Nat) (th F : Nat → Int) (c : Nat) : Prop := if c < 24 then c < m ∧ th c = 1 else c - 24 < m ∧ th (c - 24) = 1 ∧ 0 < F (c - 24)
/-- the arc of a rule -/
def eA (c : Nat) : Nat := if c < 24 then c else c - 24
def fz (th F : Nat → Int) (a : Nat) : Int := if th a = 1 then F a else 0
/-- the flow gives each node what one unit on every arc gives it -/
def flB (m : Nat) (up lo : Nat → Nat) (th F : Nat → Int) : Prop := (∀ a, a < m → th a = 1 → 0 ≤ F a) ∧ ∀ p : Nat → Int, cnt (fun a => fz th F a * (p (lo a) - p (up a))) m = len m up lo th p
theorem eO_in (hin : ∀ a, a < m → up a < n ∧ lo a < n) (hp : ∀ a, a < m → th a = 1 → pos (up a) < pos (lo a)) (c : Nat) (h : eO m th F c) : eS up lo c < n ∧ eG up lo c < n ∧ eS up lo c ≠ eG up lo c := by
  unfold eO at h
  unfold eS eG
  split at h
  · rename_i e
    rw [if_pos e, if_pos e]
    have h1 := hin c h.1
    have h2 := hp c h.1 h.2
    exact ⟨h1.1, h1.2, fun q => by rw [q] at h2; omega⟩
  · rename_i e
    rw [if_neg e, if_neg e]
    have h1 := hin _ h.1
    have h2 := hp _ h.1 h.2.1
    exact ⟨h1.2, h1.1, fun q => by rw [q] at h2; omega⟩
theorem eS_dn {c : Nat} (h : c < 24) : eS up lo c = up c := if_pos h
theorem eG_dn {c : Nat} (h : c < 24) : eG up lo c = lo c := if_pos h
theorem eS_ub {c : Nat} (h : ¬ c < 24) : eS up lo c = lo (c - 24) := if_neg h
theorem eG_ub {c : Nat} (h : ¬ c < 24) : eG up lo c = up (c - 24) := if_neg h
theorem eW_le (c : Nat) : eW c ≤ 1 := by unfold eW; split <;> decide
theorem eA_p {c : Nat} (h : eO m th F c) : eA c < m ∧ th (eA c) = 1 := by
  unfold eO at h
  unfold eA
  split at h
  · rename_i e
    rw [if_pos e]
    exact h
  · rename_i e
    rw [if_neg e]
    exact ⟨h.1, h.2.1⟩
theorem eW_tel (p : Nat → Int) (c : Nat) : eW c * (p (lo (eA c)) - p (up (eA c))) = p (eG up lo c) - p (eS up lo c) := by
  unfold eW eA eS eG
  split <;> omega
theorem flB_0 (h : ∀ a, a < m → F a = 1) : flB m up lo th F := by
  refine ⟨fun a ha _ => by rw [h a ha]; decide, fun p => ?_⟩
  unfold len
  refine cnt_congr (fun a ha => ?_)
  unfold fz
  rw [h a ha]
  split <;> omega
theorem fz_nn (h : flB m up lo th F) : ∀ a, a < m → 0 ≤ fz th F a := fun a ha => by
  unfold fz
  split
  · rename_i e
    exact h.1 a ha e
  · exact Int.le_refl _
theorem fz_bnd (h : flB m up lo th F) (hin : ∀ a, a < m → up a < n ∧ lo a < n) (hp : ∀ a, a < m → th a = 1 → pos (up a) < pos (lo a)) (hn : n ≤ 12) (hpn : ∀ v, v < n → pos v < n) (hm : m ≤ 24) : cnt (fz th F) m ≤ 264 := by
  have h1 := h.2 (fun v => (pos v : Int))
  have h2 : cnt (fz th F) m ≤ cnt (fun a => fz th F a * ((pos (lo a) : Int) - (pos (up a) : Int))) m := cnt_le (fun a ha => by
    have h3 := fz_nn h a ha
    by_cases e : th a = 1
    · have h4 := hp a ha e
      have h5 := Int.mul_le_mul_of_nonneg_left (a := 1) (b := (pos (lo a) : Int) - (pos (up a) : Int)) (by omega) h3
      rw [Int.mul_one] at h5
      exact h5
    · unfold fz
      rw [if_neg e]
      omega)
  have h3 : len m up lo th (fun v => (pos v : Int)) ≤ 11 * m := cnt_bnd (fun a ha => by
    have := hpn _ (hin a ha).2
    simp only
    split <;> omega)
  have h4 : cnt (fun a => fz th F a * ((pos (lo a) : Int) - (pos (up a) : Int))) m = len m up lo th (fun v => (pos v : Int)) := h1
  omega
theorem cnt_ge {f : Nat → Int} : ∀ {m : Nat}, (∀ a, a < m → 0 ≤ f a) → ∀ a, a < m → f a ≤ cnt f m
  | 0, _, a, ha => absurd ha (by omega)
  | m + 1, h, a, ha => by
    have h1 := cnt_nonneg (f := f) (m := m) (fun a ha => h a (by omega))
    have h2 := h m (by omega)
    show f a ≤ cnt f m + f m
    by_cases e : a = m
    · subst e
      omega
    · have := cnt_ge (m := m) (fun a ha => h a (by omega)) a (by omega)
      omega
theorem fl_264 (h : flB m up lo th F) (hb : cnt (fz th F) m ≤ 264) : ∀ a, a < m → th a = 1 → 0 ≤ F a ∧ F a ≤ 264 := fun a ha e => by
  have h1 := cnt_ge (fz_nn h) a ha
  have h2 := h.1 a ha e
  unfold fz at h1 hb
  rw [if_pos e] at h1
  omega
/-- the layers came to rest -/
theorem fl_lay (hm : m ≤ 24) (h : flB m up lo th F) {y : Nat → Int} (h0 : ∀ v, v < n → 0 ≤ y v) (hk : ∀ c, eO m th F c → y (eS up lo c) + eW c ≤ y (eG up lo c)) (hl : ∀ z : Nat → Int, (∀ v, v < n → 0 ≤ z v) → (∀ c, eO m th F c → z (eS up lo c) + eW c ≤ z (eG up lo c)) → ∀ v, v < n → y v ≤ z v) : isLay n m up lo th y := by
  have dn : ∀ a, a < m → th a = 1 → eO m th F a ∧ eS up lo a = up a ∧ eG up lo a = lo a ∧ eW a = 1 := fun a ha e => by
    have q : a < 24 := by omega
    unfold eO eS eG eW
    rw [if_pos q, if_pos q, if_pos q, if_pos q]
    exact ⟨⟨ha, e⟩, rfl, rfl, rfl⟩
  have ub : ∀ a, a < m → th a = 1 → 0 < F a → eO m th F (24 + a) ∧ eS up lo (24 + a) = lo a ∧ eG up lo (24 + a) = up a ∧ eW (24 + a) = -1 := fun a ha e e2 => by
    have q : ¬ 24 + a < 24 := by omega
    unfold eO eS eG eW
    rw [if_neg q, if_neg q, if_neg q, if_neg q, show 24 + a - 24 = a by omega]
    exact ⟨⟨ha, e, e2⟩, rfl, rfl, rfl⟩
  have pz : ∀ a, a < m → 0 < fz th F a → th a = 1 ∧ 0 < F a := fun a ha q => by
    unfold fz at q
    split at q
    · exact ⟨by assumption, q⟩
    · omega
  have hf : feas n m up lo th y := ⟨h0, fun a ha e => by
    obtain ⟨d1, d2, d3, d4⟩ := dn a ha e
    have := hk a d1
    rw [d2, d3, d4] at this
    exact this⟩
  refine lay_flow (fl := fz th F) hf (fz_nn h) (fun a ha e => if_neg e) h.2 (fun a ha q => ?_) (fun z hz ht => hl z hz.1 (fun c hc => ?_))
  · obtain ⟨e, e2⟩ := pz a ha q
    obtain ⟨d1, d2, d3, d4⟩ := ub a ha e e2
    have h1 := hk _ d1
    rw [d2, d3, d4] at h1
    have h2 := hf.2 a ha e
    omega
  · have hc2 := hc
    unfold eO at hc
    split at hc
    · rename_i q
      obtain ⟨d1, d2, d3, d4⟩ := dn c hc.1 hc.2
      rw [d2, d3, d4]
      exact hz.2 c hc.1 hc.2
    · rename_i q
      obtain ⟨d1, d2, d3, d4⟩ := ub (c - 24) hc.1 hc.2.1 hc.2.2
      rw [show 24 + (c - 24) = c by omega] at d2 d3 d4
      rw [d2, d3, d4]
      have := ht (c - 24) hc.1 (by unfold fz; rw [if_pos hc.2.1]; exact hc.2.2)
      omega
/-- what a rule c on the round way gives arc a -/
def pd (c : Int) (δ : Int) (a : Nat) : Int := if c = a then δ else if c = 24 + a then -δ else 0
theorem pd_rng {c δ : Int} {a : Nat} (h : 0 ≤ δ) : -δ ≤ pd c δ a ∧ pd c δ a ≤ δ := by
  unfold pd
  split
  · omega
  · split <;> omega
theorem cnt_one {f : Nat → Int} {k : Nat} {m : Nat} (hk : k < m) (h : ∀ a, a < m → a ≠ k → f a = 0) : cnt f m = f k := by
  have h1 := cnt_put (f := fun _ => 0) (v := f k) hk
  rw [cnt_zero] at h1
  rw [cnt_congr (g := fun a => if a = k then f k else 0) (fun a ha => by
    by_cases e : a = k
    · rw [if_pos e, e]
    · rw [if_neg e, h a ha e]), h1]
  omega
theorem pd_sum (hm : m ≤ 24) {c : Nat} {δ : Int} (h : eO m th F c) (g : Nat → Int) : cnt (fun a => (if th a = 1 then pd c δ a else 0) * g a) m = δ * (eW c * g (eA c)) := by
  have h1 := eA_p h
  rw [cnt_one h1.1 (fun a ha e => ?_)]
  · rw [if_pos h1.2]
    unfold pd eW
    unfold eA at h1 ⊢
    by_cases q : c < 24
    · simp only [if_pos q]
      rw [if_pos trivial]
      simp
    · simp only [if_neg q] at h1 ⊢
      rw [if_neg (by omega), if_pos (by omega)]
      simp [Int.mul_neg, Int.neg_mul]
  · unfold pd
    unfold eA at e
    by_cases q : c < 24
    · rw [if_pos q] at e
      rw [if_neg (c := (c : Int) = (a : Int)) (by omega), if_neg (c := (c : Int) = 24 + (a : Int)) (by omega)]
      simp
    · rw [if_neg q] at e
      rw [if_neg (c := (c : Int) = (a : Int)) (by omega), if_neg (c := (c : Int) = 24 + (a : Int)) (by omega)]
      simp
theorem cnt_tel {f : Nat → Int} : ∀ q : Nat, cnt (fun i => f i - f (i + 1)) q = f 0 - f q
  | 0 => by show (0 : Int) = _; omega
  | q + 1 => by
    show cnt (fun i => f i - f (i + 1)) q + (f q - f (q + 1)) = _
    rw [cnt_tel q]
    omega
variable {r : Nat → Int} {s q : Nat}
theorem way_back (hp : ∀ a, a < m → th a = 1 → pos (up a) < pos (lo a)) (h : rway n (eS up lo) (eG up lo) eW (eO m th F) r s q) : ∃ i, i < q ∧ 24 ≤ r (itr (rsr (eS up lo) r) s i) := by
  rcases Classical.em (∃ i, i < q ∧ 24 ≤ r (itr (rsr (eS up lo) r) s i)) with e | e
  · exact e
  · exfalso
    obtain ⟨h1, h2, h3, h4, h5, h6⟩ := h
    have key : ∀ k, k ≤ q → pos (itr (rsr (eS up lo) r) s k) + k ≤ pos s := fun k => by
      induction k with
      | zero => intro _; exact Nat.le_refl _
      | succ k ih =>
        intro hk
        have i1 := ih (by omega)
        obtain ⟨a1, a2, a3, a4, a5⟩ := h5 k
        have a6 : ¬ 24 ≤ r (itr (rsr (eS up lo) r) s k) := fun z => e ⟨k, by omega, z⟩
        have a7 : (r (itr (rsr (eS up lo) r) s k)).toNat < 24 := by omega
        have a8 : itr (rsr (eS up lo) r) s (k + 1) = up (r (itr (rsr (eS up lo) r) s k)).toNat := by
          exact a5.trans (eS_dn a7)
        have a9 : lo (r (itr (rsr (eS up lo) r) s k)).toNat = itr (rsr (eS up lo) r) s k := by
          exact (eG_dn a7).symm.trans a4
        unfold eO at a3
        rw [if_pos a7] at a3
        have := hp _ a3.1 a3.2
        rw [a9] at this
        rw [a8]
        omega
    have := key q (Nat.le_refl _)
    rw [h3] at this
    omega
theorem push_ok (hm : m ≤ 24) (h : rway n (eS up lo) (eG up lo) eW (eO m th F) r s q) (hB : flB m up lo th F) {δ : Int} (hd : 1 ≤ δ) (hdb : ∀ i, i < q → ∀ a : Nat, r (itr (rsr (eS up lo) r) s i) = 24 + a → δ ≤ F a) {F2 : Nat → Int} (hF : ∀ a, a < m → F2 a = F a + cnt (fun i => pd (r (itr (rsr (eS up lo) r) s i)) δ a) q) : flB m up lo th F2 ∧ cnt (fz th F) m + 1 ≤ cnt (fz th F2) m := by
  obtain ⟨h1, h2, h3, h4, h5, h6⟩ := h
  have hsum : ∀ g : Nat → Int, cnt (fun a => fz th F2 a * g a) m = cnt (fun a => fz th F a * g a) m + cnt (fun i => δ * (eW (r (itr (rsr (eS up lo) r) s i)).toNat * g (eA (r (itr (rsr (eS up lo) r) s i)).toNat))) q := fun g => by
    rw [cnt_congr (m := m) (g := fun a => fz th F a * g a + cnt (fun i => (if th a = 1 then pd (r (itr (rsr (eS up lo) r) s i)) δ a else 0) * g a) q) (fun a ha => ?_)]
    · rw [cnt_add]
      congr 1
      rw [cnt_swap]
      refine cnt_congr (fun i _ => ?_)
      obtain ⟨a1, a2, a3, a4, a5⟩ := h5 i
      have := pd_sum (δ := δ) hm a3 g
      rw [← this]
      refine cnt_congr (fun a _ => ?_)
      rw [Int.toNat_of_nonneg a2]
    · unfold fz
      by_cases e : th a = 1
      · simp only [if_pos e]
        rw [hF a ha, Int.add_mul]
        congr 1
        rw [cnt_congr (m := q) (g := fun i => g a * pd (r (itr (rsr (eS up lo) r) s i)) δ a) (fun i _ => Int.mul_comm _ _), cnt_mul, Int.mul_comm]
      · simp only [if_neg e]
        rw [cnt_congr (m := q) (g := fun _ => 0) (fun i _ => Int.zero_mul _), cnt_zero]
        omega
  refine ⟨⟨fun a ha e => ?_, fun p => ?_⟩, ?_⟩
  · rw [hF a ha]
    have h0 := hB.1 a ha e
    have key : ∀ k, k ≤ q → ((∀ i, i < k → r (itr (rsr (eS up lo) r) s i) ≠ 24 + (a : Int)) ∧ 0 ≤ cnt (fun i => pd (r (itr (rsr (eS up lo) r) s i)) δ a) k) ∨ ((∃ i, i < k ∧ r (itr (rsr (eS up lo) r) s i) = 24 + (a : Int)) ∧ -δ ≤ cnt (fun i => pd (r (itr (rsr (eS up lo) r) s i)) δ a) k) := fun k => by
      induction k with
      | zero => intro _; exact Or.inl ⟨fun i hi => absurd hi (by omega), Int.le_refl _⟩
      | succ k ih =>
        intro hk
        have e1 : cnt (fun i => pd (r (itr (rsr (eS up lo) r) s i)) δ a) (k + 1) = cnt (fun i => pd (r (itr (rsr (eS up lo) r) s i)) δ a) k + pd (r (itr (rsr (eS up lo) r) s k)) δ a := rfl
        rw [e1]
        have e2 : pd (r (itr (rsr (eS up lo) r) s k)) δ a = if r (itr (rsr (eS up lo) r) s k) = a then δ else if r (itr (rsr (eS up lo) r) s k) = 24 + a then -δ else 0 := rfl
        by_cases e3 : r (itr (rsr (eS up lo) r) s k) = 24 + (a : Int)
        · right
          rw [if_neg (by omega), if_pos e3] at e2
          refine ⟨⟨k, by omega, e3⟩, ?_⟩
          rcases ih (by omega) with i1 | ⟨⟨j, j1, j2⟩, i2⟩
          · omega
          · exfalso
            refine h4 j k j1 (by omega) ?_
            rw [← (h5 j).2.2.2.1, ← (h5 k).2.2.2.1]
            show eG up lo (r (itr (rsr (eS up lo) r) s j)).toNat = eG up lo (r (itr (rsr (eS up lo) r) s k)).toNat
            rw [j2, e3]
        · have e4 : 0 ≤ pd (r (itr (rsr (eS up lo) r) s k)) δ a := by
            rw [e2, if_neg e3]
            split <;> omega
          rcases ih (by omega) with i1 | ⟨⟨j, j1, j2⟩, i2⟩
          · left
            refine ⟨fun i hi => ?_, by omega⟩
            by_cases e5 : i = k
            · rw [e5]
              exact e3
            · exact i1.1 i (by omega)
          · right
            exact ⟨⟨j, by omega, j2⟩, by omega⟩
    rcases key q (Nat.le_refl _) with i1 | ⟨⟨j, j1, j2⟩, i2⟩
    · omega
    · have := hdb j j1 a j2
      omega
  · rw [hsum (fun a => p (lo a) - p (up a)), hB.2 p]
    rw [cnt_congr (m := q) (g := fun i => δ * (p (itr (rsr (eS up lo) r) s i) - p (itr (rsr (eS up lo) r) s (i + 1)))) (fun i _ => ?_), cnt_mul, cnt_tel (f := fun i => p (itr (rsr (eS up lo) r) s i))]
    · have e1 : itr (rsr (eS up lo) r) s q = s := h3
      have e0 : itr (rsr (eS up lo) r) s 0 = s := rfl
      simp only [e1, e0]
      simp
    · obtain ⟨a1, a2, a3, a4, a5⟩ := h5 i
      have := eW_tel (up := up) (lo := lo) p (r (itr (rsr (eS up lo) r) s i)).toNat
      have a6 : eG up lo (r (itr (rsr (eS up lo) r) s i)).toNat = itr (rsr (eS up lo) r) s i := a4
      have a7 : itr (rsr (eS up lo) r) s (i + 1) = eS up lo (r (itr (rsr (eS up lo) r) s i)).toNat := a5
      rw [a6, ← a7] at this
      rw [this]
  · have := hsum (fun _ => 1)
    simp only [Int.mul_one] at this
    have e : cnt (fun a => fz th F2 a) m = cnt (fz th F2) m := rfl
    have e2 : cnt (fun a => fz th F a) m = cnt (fz th F) m := rfl
    rw [e, e2, cnt_mul] at this
    have h7 := Int.mul_le_mul_of_nonneg_left (a := 1) (b := cnt (fun i => eW (r (itr (rsr (eS up lo) r) s i)).toNat) q) h6 (show 0 ≤ δ by omega)
    rw [Int.mul_one] at h7
    omega
theorem pd_cnt_rng {δ : Int} (hd : 0 ≤ δ) {g : Nat → Int} {a : Nat} : ∀ k : Nat, -(δ * k) ≤ cnt (fun i => pd (g i) δ a) k ∧ cnt (fun i => pd (g i) δ a) k ≤ δ * k
  | 0 => by constructor <;> (show _ ≤ _; simp [cnt])
  | k + 1 => by
    have h1 := pd_cnt_rng hd (g := g) (a := a) k
    have h2 := pd_rng (c := g k) (a := a) hd
    have e : cnt (fun i => pd (g i) δ a) (k + 1) = cnt (fun i => pd (g i) δ a) k + pd (g k) δ a := rfl
    rw [e, Int.natCast_add, Int.mul_add]
    omega
end efl
