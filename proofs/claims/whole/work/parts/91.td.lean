theorem sB_or {a b u : Nat} : sB (a ||| b) u = 1 ↔ sB a u = 1 ∨ sB b u = 1 := by
  unfold sB
  rw [Nat.testBit_or]
  cases a.testBit u <;> cases b.testBit u <;> simp
theorem sB_0 {u : Nat} : sB 0 u = 0 := by
  unfold sB
  simp
theorem sB_pow {v u : Nat} : sB (2 ^ v) u = 1 ↔ u = v := by
  unfold sB
  rw [Nat.testBit_two_pow]
  by_cases e : v = u
  · simp [e]
  · simp [e]
    omega
section tdi
variable {n m : Nat} {fr to : Nat → Nat} {th w pr : Nat → Int} {pos : Nat → Nat}
def trOK (n m : Nat) (fr to : Nat → Nat) (th w pr : Nat → Int) (pos : Nat → Nat) : Prop := n ≤ 12 ∧ tpOK n pr pos ∧ (∀ a, a < m → th a = 1 → fr a < n ∧ to a < n ∧ pr (to a) = fr a) ∧ (∀ a b, a < m → b < m → th a = 1 → th b = 1 → to a = to b → a = b) ∧ (∀ v, v < n → 0 ≤ pr v → ∃ a, a < m ∧ th a = 1 ∧ to a = v ∧ (fr a : Int) = pr v) ∧ ∀ v, v < n → 1 ≤ w v ∧ w v ≤ 9
/-- the nodes put so far, at node v of depth d -/
def dnA (pr : Nat → Int) (d v u : Nat) : Prop := d < dpV pr u ∨ (dpV pr u = d ∧ u < v)
/-- put, and not below another one that is put -/
def acA (pr : Nat → Int) (d v x : Nat) : Prop := dnA pr d v x ∧ (pr x = -1 ∨ ¬ dnA pr d v (pr x).toNat)
/-- the one of depth d above u -/
def ancA (pr : Nat → Int) (u d : Nat) : Nat := itr (fun y => (pr y).toNat) u (dpV pr u - d)
def eV (n : Nat) (pr : Nat → Int) (x : Nat) : Int := eL n pr (n - 1 - dpV pr x) x
def ptI (n : Nat) (w pr : Nat → Int) (d v : Nat) (z : (Nat → Int) × (Nat → Nat)) : Prop :=
  (∀ x, x < n → acA pr d v x → (sB (z.2 x) x = 1 ∧ z.2 x < 2 ^ n) ∧ ∀ u, sB (z.2 x) u = 1 → u < n ∧ dnA pr d v u ∧ dpV pr x ≤ dpV pr u ∧ ancA pr u (dpV pr x) = x ∧ -4 ≤ z.1 u ∧ z.1 u + w u + 5 ≤ eV n pr x) ∧
  (∀ u, u < n → dnA pr d v u → ∃ x, x < n ∧ acA pr d v x ∧ sB (z.2 x) u = 1) ∧
  ∀ u, u < n → ¬ dnA pr d v u → z.1 u = 0
/-- the room of the children so far -/
def xA (n : Nat) (fr to : Nat → Nat) (th pr : Nat → Int) (v a : Nat) : Int := cnt (fun b => if th b = 1 ∧ fr b = v then eV n pr (to b) else 0) a
/-- at arc a of node v -/
def jI (n : Nat) (fr to : Nat → Nat) (th w pr : Nat → Int) (d v : Nat) (z : (Nat → Int) × (Nat → Nat)) (a : Nat) (q : (Nat → Int) × Nat × Int × Int) : Prop :=
  (∀ u, sB q.2.1 u = 1 → u < n ∧ dnA pr d v u ∧ d + 1 ≤ dpV pr u ∧ (∃ b, b < a ∧ th b = 1 ∧ fr b = v ∧ to b = ancA pr u (d + 1)) ∧ 0 ≤ q.1 u ∧ q.1 u + w u ≤ xA n fr to th pr v a) ∧
  (∀ u, sB q.2.1 u ≠ 1 → q.1 u = z.1 u) ∧ q.2.1 < 2 ^ n ∧
  (∀ b, b < a → th b = 1 → fr b = v → ∀ u, sB (z.2 (to b)) u = 1 → sB q.2.1 u = 1) ∧
  ((q.2.2.1 = -1 ∧ q.2.2.2 = -1 ∧ q.2.1 = 0) ∨ ∃ f l : Nat, q.2.2.1 = f ∧ q.2.2.2 = l ∧ f < n ∧ l < n ∧ sB q.2.1 f = 1 ∧ sB q.2.1 l = 1)
theorem jI_0 {d v : Nat} {z : (Nat → Int) × (Nat → Nat)} : jI n fr to th w pr d v z 0 (z.1, 0, -1, -1) := ⟨fun u h => absurd h (by show sB 0 u ≠ 1; rw [sB_0]; decide), fun _ _ => rfl, Nat.two_pow_pos n, fun b hb => absurd hb (by omega), Or.inl ⟨rfl, rfl, rfl⟩⟩
theorem xA_nn {v : Nat} : ∀ {a : Nat}, 0 ≤ xA n fr to th pr v a := cnt_nonneg (fun b _ => by
  split
  · have := eL_p (n := n) (pr := pr) (n - 1 - dpV pr (to b)) (to b)
    unfold eV
    omega
  · exact Int.le_refl _)
theorem jI_skip {d v a : Nat} {z : (Nat → Int) × (Nat → Nat)} {q : (Nat → Int) × Nat × Int × Int} (h : jI n fr to th w pr d v z a q) (e : ¬ (th a = 1 ∧ fr a = v)) : jI n fr to th w pr d v z (a + 1) q := by
  obtain ⟨h1, h2, h3, h4, h5⟩ := h
  have ex : xA n fr to th pr v (a + 1) = xA n fr to th pr v a := by
    show xA n fr to th pr v a + (if th a = 1 ∧ fr a = v then eV n pr (to a) else 0) = _
    rw [if_neg e]
    omega
  refine ⟨fun u hu => ?_, h2, h3, fun b hb tb fb => ?_, h5⟩
  · obtain ⟨a1, a2, a3, ⟨b, b1, b2⟩, a5, a6⟩ := h1 u hu
    exact ⟨a1, a2, a3, ⟨b, by omega, b2⟩, a5, by rw [ex]; exact a6⟩
  · rcases Nat.lt_or_ge b a with r | r
    · exact h4 b r tb fb
    · have : b = a := by omega
      subst this
      exact absurd ⟨tb, fb⟩ e
/-- the child of arc a is put beside -/
theorem jI_child (ht : trOK n m fr to th w pr pos) {d v : Nat} (hd : dpV pr v = d) {a : Nat} (ha : a < m) (e : th a = 1 ∧ fr a = v) : to a < n ∧ acA pr d v (to a) ∧ dpV pr (to a) = d + 1 := by
  obtain ⟨t1, t2, t3, t4, t5, t6⟩ := ht
  obtain ⟨c1, c2, c3⟩ := t3 a ha e.1
  have h1 := dpV_s t2 t1 c2 (by omega)
  have h2 : (pr (to a)).toNat = v := by omega
  rw [h2, hd] at h1
  refine ⟨c2, ⟨Or.inl (by omega), Or.inr ?_⟩, h1⟩
  rw [h2]
  unfold dnA
  omega
theorem jI_s (ht : trOK n m fr to th w pr pos) {d v : Nat} (hd : dpV pr v = d) {z : (Nat → Int) × (Nat → Nat)} (hz : ptI n w pr d v z) {a : Nat} (ha : a < m) (e : th a = 1 ∧ fr a = v) {q : (Nat → Int) × Nat × Int × Int} (h : jI n fr to th w pr d v z a q) {r : Int} (hr : rmX n w (dpV pr) q.1 q.2.1 (z.2 (to a)) r) : jI n fr to th w pr d v z (a + 1) (shT q.1 (z.2 (to a)) r, q.2.1 ||| z.2 (to a), (if q.2.2.1 < 0 then ((to a : Nat) : Int) else q.2.2.1), ((to a : Nat) : Int)) ∧ -300 ≤ r ∧ r ≤ xA n fr to th pr v a + 5 := by
  obtain ⟨h1, h2, h3, h4, h5⟩ := h
  obtain ⟨c1, c2, c3⟩ := jI_child ht hd ha e
  obtain ⟨⟨p1, p2⟩, p3⟩ := hz.1 _ c1 c2
  have ex : xA n fr to th pr v (a + 1) = xA n fr to th pr v a + eV n pr (to a) := by
    show xA n fr to th pr v a + (if th a = 1 ∧ fr a = v then eV n pr (to a) else 0) = _
    rw [if_pos e]
  have x0 := xA_nn (n := n) (fr := fr) (to := to) (th := th) (pr := pr) (v := v) (a := a)
  have dis : ∀ u, sB (z.2 (to a)) u = 1 → sB q.2.1 u = 1 → False := fun u a1 a2 => by
    obtain ⟨-, -, -, b4, -⟩ := p3 u a1
    obtain ⟨-, -, -, ⟨b, d1, d2, d3, d4⟩, -⟩ := h1 u a2
    rw [c3] at b4
    have := ht.2.2.2.1 b a (by omega) ha d2 e.1 (by rw [d4, b4])
    omega
  have onC : ∀ u, sB (z.2 (to a)) u = 1 → q.1 u = z.1 u := fun u a1 => h2 u (fun a2 => dis u a1 a2)
  have e228 : eV n pr (to a) ≤ 228 := eL_228 ht.2.1 ht.1 c1
  have r1 : ∀ u, u < n → sB (z.2 (to a)) u = 1 → -q.1 u ≤ r := hr.1
  have rlo : -300 ≤ r := by
    have := r1 _ c1 p1
    have := p3 _ p1
    have := ht.2.2.2.2.2 _ c1
    rw [onC _ p1] at *
    omega
  have rup : r ≤ xA n fr to th pr v a + 5 := by
    rcases hr.2.2 with ⟨u, a1, a2, a3⟩ | ⟨x, y, a1, a2, a3, a4, a5, a6⟩
    · have := p3 u a2
      rw [onC u a2] at a3
      omega
    · have := p3 y a4
      have := h1 x a3
      rw [onC y a4] at a6
      omega
  refine ⟨⟨fun u hu => ?_, fun u hu => ?_, Nat.or_lt_two_pow h3 p2, fun b hb tb fb u hu => ?_, ?_⟩, rlo, rup⟩
  · have hu2 := sB_or.mp hu
    by_cases q1 : sB (z.2 (to a)) u = 1
    · obtain ⟨b1, b2, b3, b4, b5, b6⟩ := p3 u q1
      have eT : shT q.1 (z.2 (to a)) r u = z.1 u + r := by
        unfold shT
        rw [if_pos q1, onC u q1]
      have := r1 u b1 q1
      rw [onC u q1] at this
      rw [c3] at b3 b4
      refine ⟨b1, b2, b3, ⟨a, by omega, e.1, e.2, b4.symm⟩, ?_, ?_⟩
      · show 0 ≤ shT q.1 (z.2 (to a)) r u
        rw [eT]
        omega
      · show shT q.1 (z.2 (to a)) r u + w u ≤ _
        rw [eT, ex]
        omega
    · have q2 : sB q.2.1 u = 1 := by
        rcases hu2 with y | y
        · exact y
        · exact absurd y q1
      obtain ⟨b1, b2, b3, ⟨b, d1, d2⟩, b5, b6⟩ := h1 u q2
      have eT : shT q.1 (z.2 (to a)) r u = q.1 u := by
        unfold shT
        rw [if_neg q1]
        omega
      have eg := eL_p (n := n) (pr := pr) (n - 1 - dpV pr (to a)) (to a)
      refine ⟨b1, b2, b3, ⟨b, by omega, d2⟩, ?_, ?_⟩
      · show 0 ≤ shT q.1 (z.2 (to a)) r u
        rw [eT]
        exact b5
      · show shT q.1 (z.2 (to a)) r u + w u ≤ _
        rw [eT, ex]
        unfold eV
        omega
  · have n1 : sB q.2.1 u ≠ 1 := fun y => hu (sB_or.mpr (Or.inl y))
    have n2 : sB (z.2 (to a)) u ≠ 1 := fun y => hu (sB_or.mpr (Or.inr y))
    show shT q.1 (z.2 (to a)) r u = _
    unfold shT
    rw [if_neg n2, h2 u n1]
    omega
  · refine sB_or.mpr ?_
    rcases Nat.lt_or_ge b a with y | y
    · exact Or.inl (h4 b y tb fb u hu)
    · have : b = a := by omega
      subst this
      exact Or.inr hu
  · right
    rcases h5 with y | ⟨f, l, y1, y2, y3, y4, y5, y6⟩
    · refine ⟨to a, to a, ?_, rfl, c1, c1, sB_or.mpr (Or.inr p1), sB_or.mpr (Or.inr p1)⟩
      show (if q.2.2.1 < 0 then ((to a : Nat) : Int) else q.2.2.1) = _
      rw [if_pos (by omega)]
    · refine ⟨f, to a, ?_, rfl, y3, c1, sB_or.mpr (Or.inl y5), sB_or.mpr (Or.inr p1)⟩
      show (if q.2.2.1 < 0 then ((to a : Nat) : Int) else q.2.2.1) = _
      rw [if_neg (by omega)]
      exact y1
theorem cnt_uniq {P : Nat → Prop} [DecidablePred P] {m : Nat} (h : ∀ a b, a < m → b < m → P a → P b → a = b) : cnt (fun b => if P b then 1 else 0) m ≤ 1 := by
  rcases Classical.em (∃ a, a < m ∧ P a) with ⟨a, ha, hP⟩ | q
  · rw [cnt_one ha (fun b hb z => if_neg (fun y => z (h b a hb ha y hP))), if_pos hP]
    exact Int.le_refl _
  · rw [cnt_congr (g := fun _ => 0) (fun b hb => if_neg (fun y => q ⟨b, hb, y⟩)), cnt_zero]
    decide
/-- the children's room is within the node's -/
theorem xA_le (ht : trOK n m fr to th w pr pos) {v : Nat} (hv : v < n) : xA n fr to th pr v m + 19 ≤ eV n pr v := by
  obtain ⟨t1, t2, t3, t4, t5, t6⟩ := id ht
  have hdv := dpV_lt t2 hv
  rcases Classical.em (∃ a, a < m ∧ th a = 1 ∧ fr a = v) with ⟨a, ha, e1, e2⟩ | q
  · obtain ⟨c1, c2, c3⟩ := t3 a ha e1
    have h1 := dpV_s t2 t1 c2 (by omega)
    have h2 := dpV_lt t2 c2
    rw [show (pr (to a)).toNat = v by omega] at h1
    obtain ⟨k, hk⟩ : ∃ k, n - 1 - dpV pr v = k + 1 := ⟨n - 1 - dpV pr v - 1, by omega⟩
    have e : eV n pr v = 19 + cnt (fun c => if pr c = v then eL n pr k c else 0) n := by
      unfold eV
      rw [hk]
      rfl
    have hx : xA n fr to th pr v m = cnt (fun b => cnt (fun c => if (th b = 1 ∧ fr b = v) ∧ to b = c then eL n pr k c else 0) n) m := by
      refine cnt_congr (fun b hb => ?_)
      by_cases y : th b = 1 ∧ fr b = v
      · obtain ⟨d1, d2, d3⟩ := t3 b hb y.1
        have g1 := dpV_s t2 t1 d2 (by omega)
        rw [show (pr (to b)).toNat = v by omega] at g1
        rw [if_pos y, cnt_one (k := to b) d2 (fun c _ z => if_neg (fun x => z x.2.symm)), if_pos ⟨y, rfl⟩]
        unfold eV
        rw [show n - 1 - dpV pr (to b) = k by omega]
      · rw [if_neg y, cnt_congr (g := fun _ => 0) (fun c _ => if_neg (fun x => y x.1)), cnt_zero]
    have hle : cnt (fun b => cnt (fun c => if (th b = 1 ∧ fr b = v) ∧ to b = c then eL n pr k c else 0) n) m ≤ cnt (fun c => if pr c = v then eL n pr k c else 0) n := by
      rw [cnt_swap]
      refine cnt_le (fun c hc => ?_)
      have g0 := eL_p (n := n) (pr := pr) k c
      rw [cnt_congr (g := fun b => eL n pr k c * (if (th b = 1 ∧ fr b = v) ∧ to b = c then 1 else 0)) (fun b _ => by split <;> omega), cnt_mul]
      by_cases y : pr c = v
      · rw [if_pos y]
        have := cnt_uniq (P := fun b => (th b = 1 ∧ fr b = v) ∧ to b = c) (m := m) (fun a b ha hb x1 x2 => t4 a b ha hb x1.1.1 x2.1.1 (by rw [x1.2, x2.2]))
        have g1 := Int.mul_le_mul_of_nonneg_left this (show 0 ≤ eL n pr k c by omega)
        rwa [Int.mul_one] at g1
      · rw [if_neg y, cnt_congr (m := m) (g := fun _ => 0) (fun b hb => if_neg (fun x => by
          have := t3 b hb x.1.1
          rw [x.2, x.1.2] at this
          exact y this.2.2)), cnt_zero, Int.mul_zero]
        exact Int.le_refl _
    omega
  · have : xA n fr to th pr v m = 0 := by
      unfold xA
      rw [cnt_congr (g := fun _ => 0) (fun b hb => if_neg (fun x => q ⟨b, hb, x⟩)), cnt_zero]
    have := eL_p (n := n) (pr := pr) (n - 1 - dpV pr v) v
    unfold eV
    omega
end tdi
