section tdn
variable {n m : Nat} {fr to : Nat → Nat} {th w pr : Nat → Int} {pos : Nat → Nat}
theorem anc_up (ht : trOK n m fr to th w pr pos) {u d b : Nat} (hd : d + 1 ≤ dpV pr u) (hb : b < m) (h1 : th b = 1) (e : to b = ancA pr u (d + 1)) : ancA pr u d = fr b := by
  obtain ⟨t1, t2, t3, -⟩ := ht
  obtain ⟨c1, c2, c3⟩ := t3 b hb h1
  unfold ancA at e ⊢
  rw [show dpV pr u - d = dpV pr u - (d + 1) + 1 by omega]
  show (pr (itr (fun y => (pr y).toNat) u (dpV pr u - (d + 1)))).toNat = fr b
  rw [← e, c3]
  omega
theorem dnA_s {d v u : Nat} (hd : dpV pr v = d) : dnA pr d (v + 1) u ↔ dnA pr d v u ∨ u = v := by
  unfold dnA
  constructor
  · intro h
    by_cases e : u = v
    · exact Or.inr e
    · left
      omega
  · intro h
    rcases h with h | h
    · omega
    · subst h
      omega
theorem dnA_k {d v u : Nat} (hd : dpV pr v ≠ d) : dnA pr d (v + 1) u ↔ dnA pr d v u := by
  unfold dnA
  constructor
  · intro h
    have : dpV pr u = d → u ≠ v := fun e q => hd (by rw [← q]; exact e)
    rcases h with h | h
    · exact Or.inl h
    · exact Or.inr ⟨h.1, by have := this h.1; omega⟩
  · intro h
    omega
theorem ptI_k {d v : Nat} {z : (Nat → Int) × (Nat → Nat)} (hd : dpV pr v ≠ d) (h : ptI n w pr d v z) : ptI n w pr d (v + 1) z := by
  have e : dnA pr d (v + 1) = dnA pr d v := funext (fun u => propext (dnA_k hd))
  have e2 : acA pr d (v + 1) = acA pr d v := by
    funext x
    unfold acA
    rw [e]
  unfold ptI
  rw [e, e2]
  exact h
theorem ptI_up {d : Nat} {z : (Nat → Int) × (Nat → Nat)} (hp : tpOK n pr pos) (h : ptI n w pr (d + 1) n z) : ptI n w pr d 0 z := by
  have e : ∀ u, u < n → (dnA pr d 0 u ↔ dnA pr (d + 1) n u) := fun u hu => by
    unfold dnA
    omega
  have e2 : ∀ x, x < n → (acA pr d 0 x ↔ acA pr (d + 1) n x) := fun x hx => by
    unfold acA
    rw [e x hx]
    rcases (hp x hx).2 with q | q
    · simp [q]
    · rw [e _ (show (pr x).toNat < n by omega)]
  obtain ⟨h1, h2, h3⟩ := h
  refine ⟨fun x hx ax => ?_, fun u hu du => ?_, fun u hu du => h3 u hu (fun q => du ((e u hu).mpr q))⟩
  · obtain ⟨a1, a2⟩ := h1 x hx ((e2 x hx).mp ax)
    refine ⟨a1, fun u hu => ?_⟩
    obtain ⟨b1, b2, b3⟩ := a2 u hu
    exact ⟨b1, (e u b1).mpr b2, b3⟩
  · obtain ⟨x, a1, a2, a3⟩ := h2 u hu ((e u hu).mp du)
    exact ⟨x, a1, (e2 x a1).mpr a2, a3⟩
theorem ptI_0 (hp : tpOK n pr pos) {z : (Nat → Int) × (Nat → Nat)} (hz : ∀ u, u < n → z.1 u = 0) : ptI n w pr (n - 1) 0 z := by
  have e : ∀ u, u < n → ¬ dnA pr (n - 1) 0 u := fun u hu q => by
    have := dpV_lt hp hu
    unfold dnA at q
    omega
  exact ⟨fun x hx ax => absurd ax.1 (e x hx), fun u hu du => absurd du (e u hu), fun u hu _ => hz u hu⟩
/-- the node's own place -/
theorem jN_v (ht : trOK n m fr to th w pr pos) {d v : Nat} (hv : v < n) {z : (Nat → Int) × (Nat → Nat)} {q : (Nat → Int) × Nat × Int × Int} (h : jI n fr to th w pr d v z m q) : -4 ≤ (if q.2.2.1 < 0 then 0 else (2 * q.1 q.2.2.1.toNat + w q.2.2.1.toNat + 2 * q.1 q.2.2.2.toNat + w q.2.2.2.toNat) / 4 - w v / 2) ∧ (if q.2.2.1 < 0 then 0 else (2 * q.1 q.2.2.1.toNat + w q.2.2.1.toNat + 2 * q.1 q.2.2.2.toNat + w q.2.2.2.toNat) / 4 - w v / 2) + w v + 5 ≤ eV n pr v := by
  have hx := xA_le ht hv
  have x0 := xA_nn (n := n) (fr := fr) (to := to) (th := th) (pr := pr) (v := v) (a := m)
  have hw := ht.2.2.2.2.2
  have wv := hw v hv
  rcases h.2.2.2.2 with y | ⟨f, l, y1, y2, y3, y4, y5, y6⟩
  · rw [if_pos (by omega)]
    omega
  · rw [if_neg (by omega)]
    have ef : q.2.2.1.toNat = f := by omega
    have el : q.2.2.2.toNat = l := by omega
    rw [ef, el]
    have a1 := h.1 f y5
    have a2 := h.1 l y6
    have w1 := hw f y3
    have w2 := hw l y4
    omega
theorem jN_ok (ht : trOK n m fr to th w pr pos) {d v : Nat} (hv : v < n) (hd : dpV pr v = d) {z : (Nat → Int) × (Nat → Nat)} (hz : ptI n w pr d v z) {q : (Nat → Int) × Nat × Int × Int} (h : jI n fr to th w pr d v z m q) : ptI n w pr d (v + 1) (upf q.1 v (if q.2.2.1 < 0 then 0 else (2 * q.1 q.2.2.1.toNat + w q.2.2.1.toNat + 2 * q.1 q.2.2.2.toNat + w q.2.2.2.toNat) / 4 - w v / 2), upf z.2 v (q.2.1 ||| 2 ^ v)) := by
  obtain ⟨t1, t2, t3, t4, t5, t6⟩ := id ht
  have hT := jN_v ht hv h
  obtain ⟨Tv, eT⟩ : ∃ Tv, Tv = (if q.2.2.1 < 0 then 0 else (2 * q.1 q.2.2.1.toNat + w q.2.2.1.toNat + 2 * q.1 q.2.2.2.toNat + w q.2.2.2.toNat) / 4 - w v / 2) := ⟨_, rfl⟩
  rw [← eT] at hT ⊢
  obtain ⟨h1, h2, h3, h4, h5⟩ := h
  have hx := xA_le ht hv
  have nv : ¬ dnA pr d v v := by
    unfold dnA
    omega
  have vall : sB q.2.1 v ≠ 1 := fun y => by
    have := (h1 v y).2.2.1
    omega
  have lift : ∀ u, dnA pr d v u → dnA pr d (v + 1) u := fun u y => (dnA_s hd).mpr (Or.inl y)
  have anv : ∀ u, sB q.2.1 u = 1 → ancA pr u d = v := fun u y => by
    obtain ⟨-, -, a3, ⟨b, b1, b2, b3, b4⟩, -⟩ := h1 u y
    rw [anc_up ht a3 b1 b2 b4, b3]
  have par : ∀ x, x < n → dnA pr d v x → pr x ≠ -1 → dpV pr x = dpV pr (pr x).toNat + 1 := fun x hx _ y => by
    rcases (t2 x hx).2 with r | r
    · exact absurd r y
    · exact dpV_s t2 t1 hx r.1
  refine ⟨fun x hx ax => ?_, fun u hu du => ?_, fun u hu du => ?_⟩
  · by_cases e : x = v
    · subst e
      refine ⟨⟨?_, ?_⟩, fun u hu => ?_⟩
      · show sB (upf z.2 x (q.2.1 ||| 2 ^ x) x) x = 1
        rw [upf_s]
        exact sB_or.mpr (Or.inr (sB_pow.mpr rfl))
      · show upf z.2 x (q.2.1 ||| 2 ^ x) x < 2 ^ n
        rw [upf_s]
        exact Nat.or_lt_two_pow h3 (Nat.pow_lt_pow_right (by decide) hv)
      · have hu2 : sB (upf z.2 x (q.2.1 ||| 2 ^ x) x) u = 1 := hu
        rw [upf_s] at hu2
        show u < n ∧ dnA pr d (x + 1) u ∧ dpV pr x ≤ dpV pr u ∧ ancA pr u (dpV pr x) = x ∧ -4 ≤ upf q.1 x Tv u ∧ upf q.1 x Tv u + w u + 5 ≤ eV n pr x
        rcases sB_or.mp hu2 with y | y
        · obtain ⟨a1, a2, a3, a4, a5, a6⟩ := h1 u y
          have ne : u ≠ x := fun r => by rw [r] at a3; omega
          rw [upf_n ne, hd]
          exact ⟨a1, lift u a2, by omega, anv u y, by omega, by omega⟩
        · have : u = x := sB_pow.mp y
          subst this
          rw [upf_s]
          refine ⟨hv, (dnA_s hd).mpr (Or.inr rfl), Nat.le_refl _, ?_, hT.1, hT.2⟩
          unfold ancA
          rw [Nat.sub_self]
          rfl
    · have dx : dnA pr d v x := by
        rcases (dnA_s hd).mp ax.1 with r | r
        · exact r
        · exact absurd r e
      have ax2 : acA pr d v x := ⟨dx, by
        rcases ax.2 with r | r
        · exact Or.inl r
        · exact Or.inr (fun y => r (lift _ y))⟩
      have hpx : pr x = -1 ∨ (pr x).toNat ≠ v := by
        rcases ax.2 with r | r
        · exact Or.inl r
        · exact Or.inr (fun y => r ((dnA_s hd).mpr (Or.inr y)))
      obtain ⟨a1, a2⟩ := hz.1 x hx ax2
      have ez : upf z.2 v (q.2.1 ||| 2 ^ v) x = z.2 x := upf_n e
      show (sB (upf z.2 v (q.2.1 ||| 2 ^ v) x) x = 1 ∧ upf z.2 v (q.2.1 ||| 2 ^ v) x < 2 ^ n) ∧ ∀ u, sB (upf z.2 v (q.2.1 ||| 2 ^ v) x) u = 1 → u < n ∧ dnA pr d (v + 1) u ∧ dpV pr x ≤ dpV pr u ∧ ancA pr u (dpV pr x) = x ∧ -4 ≤ upf q.1 v Tv u ∧ upf q.1 v Tv u + w u + 5 ≤ eV n pr x
      rw [ez]
      refine ⟨a1, fun u hu => ?_⟩
      obtain ⟨b1, b2, b3, b4, b5, b6⟩ := a2 u hu
      have ne : u ≠ v := fun r => nv (r ▸ b2)
      have na : sB q.2.1 u ≠ 1 := fun y => by
        have k1 := anv u y
        obtain ⟨-, -, c3, ⟨b, g1, g2, g3, g4⟩, -⟩ := h1 u y
        have k2 := t3 b g1 g2
        have dxx : dpV pr x = d ∨ dpV pr x = d + 1 := by
          rcases ax2.2 with r | r
          · have : dpV pr x = 0 := dpV_0 (by omega)
            unfold dnA at dx
            omega
          · by_cases r2 : pr x = -1
            · have : dpV pr x = 0 := dpV_0 (by omega)
              unfold dnA at dx
              omega
            · have := par x hx dx r2
              unfold dnA at dx r
              omega
        rcases dxx with r | r
        · rw [r, k1] at b4
          exact e b4.symm
        · rw [r] at b4
          rw [b4] at g4
          rw [g4] at k2
          omega
      rw [upf_n ne, h2 u na]
      exact ⟨b1, lift u b2, b3, b4, b5, b6⟩
  · rcases (dnA_s hd).mp du with r | r
    · obtain ⟨x, x1, x2, x3⟩ := hz.2.1 u hu r
      have e : x ≠ v := fun y => nv (y ▸ x2.1)
      by_cases y : pr x = v
      · obtain ⟨b, b1, b2, b3, b4⟩ := t5 x x1 (by omega)
        have hall := h4 b b1 b2 (by omega) u (by rw [b3]; exact x3)
        refine ⟨v, hv, ⟨(dnA_s hd).mpr (Or.inr rfl), ?_⟩, ?_⟩
        · rcases (t2 v hv).2 with k | k
          · exact Or.inl k
          · right
            have := dpV_s t2 t1 hv k.1
            unfold dnA
            omega
        · show sB (upf z.2 v (q.2.1 ||| 2 ^ v) v) u = 1
          rw [upf_s]
          exact sB_or.mpr (Or.inl hall)
      · refine ⟨x, x1, ⟨lift x x2.1, ?_⟩, ?_⟩
        · rcases (t2 x x1).2 with k | k
          · exact Or.inl k
          · rcases x2.2 with k2 | k2
            · omega
            · right
              intro k3
              rcases (dnA_s hd).mp k3 with k4 | k4
              · exact k2 k4
              · omega
        · show sB (upf z.2 v (q.2.1 ||| 2 ^ v) x) u = 1
          rw [upf_n e]
          exact x3
    · subst r
      refine ⟨u, hv, ⟨(dnA_s hd).mpr (Or.inr rfl), ?_⟩, ?_⟩
      · rcases (t2 u hv).2 with k | k
        · exact Or.inl k
        · right
          have := dpV_s t2 t1 hv k.1
          unfold dnA
          omega
      · show sB (upf z.2 u (q.2.1 ||| 2 ^ u) u) u = 1
        rw [upf_s]
        exact sB_or.mpr (Or.inr (sB_pow.mpr rfl))
  · have ne : u ≠ v := fun r => du ((dnA_s hd).mpr (Or.inr r))
    have nd : ¬ dnA pr d v u := fun y => du (lift u y)
    have na : sB q.2.1 u ≠ 1 := fun y => nd (h1 u y).2.1
    show upf q.1 v Tv u = 0
    rw [upf_n ne, h2 u na]
    exact hz.2.2 u hu nd
theorem ptI_end (ht : trOK n m fr to th w pr pos) {z : (Nat → Int) × (Nat → Nat)} (hz : ptI n w pr 0 n z) : ∀ u, u < n → -4 ≤ z.1 u ∧ z.1 u ≤ 300 := fun u hu => by
  have du : dnA pr 0 n u := by
    unfold dnA
    omega
  obtain ⟨x, x1, x2, x3⟩ := hz.2.1 u hu du
  have a := (hz.1 x x1 x2).2 u x3
  have := ht.2.2.2.2.2 u hu
  have : eV n pr x ≤ 228 := eL_228 ht.2.1 ht.1 x1
  omega
end tdn
