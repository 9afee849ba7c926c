section odo
variable {Q : Nat → Int → Prop} {sz : Nat → Nat} {h N : Nat} {g pu pd : Nat → Nat} {M : Nat → Nat → Int}
/-- all orders up to the wheels κ have been looked at -/
def odI (Q : Nat → Int → Prop) (sz : Nat → Nat) (h N : Nat) (g pu pd : Nat → Nat) (M : Nat → Nat → Int) (κ : Nat → Nat) (v : Int) : Prop := (∃ z, wok Q sz h z ∧ crV g pu pd z.2 N = v) ∧ ∀ κ2 z, (∀ l, l < h → κ2 l < pF (sz l)) → wok Q sz h z → (∀ l, l < h → stands sz M z l (κ2 l)) → oV (fun l => pF (sz l)) κ2 h ≤ oV (fun l => pF (sz l)) κ h → v ≤ crV g pu pd z.2 N
theorem stands_cr (hp : pcOK Q h N g pu pd) {κ κ2 : Nat → Nat} {z z2 : wSt} (h1 : wok Q sz h z) (h2 : wok Q sz h z2) (s1 : ∀ l, l < h → stands sz M z l (κ l)) (s2 : ∀ l, l < h → stands sz M z2 l (κ2 l)) (e : ∀ l, l < h → κ l = κ2 l) : crV g pu pd z.2 N = crV g pu pd z2.2 N := crV_rows hp h1 h2 (fun l hl j hj => by rw [s1 l hl j hj, s2 l hl j hj, e l hl])
theorem odI_0 (hp : pcOK Q h N g pu pd) (h6 : ∀ l, l < h → sz l ≤ 6) {z : wSt} {κ : Nat → Nat} (hκ : ∀ l, l < h → κ l = 0) (hz : wok Q sz h z) (hs : ∀ l, l < h → stands sz M z l (κ l)) : odI Q sz h N g pu pd M κ (crV g pu pd z.2 N) := by
  refine ⟨⟨z, hz, rfl⟩, fun κ2 z2 k2 hz2 hs2 e => ?_⟩
  have e1 := oV_zero (F := fun l => pF (sz l)) (κ := κ) (h := h) hκ
  have e2 := oV_inj (F := fun l => pF (sz l)) (κ := κ2) (κ2 := κ) (h := h) k2 (fun l hl => by have := pF_pos (h6 l hl); rw [hκ l hl]; exact this) (by omega)
  rw [stands_cr hp hz hz2 hs hs2 (fun l hl => (e2 l hl).symm)]
  exact Int.le_refl _
theorem odI_s (hp : pcOK Q h N g pu pd) {z : wSt} {κ κ2 : Nat → Nat} {v w : Int} (ho : odI Q sz h N g pu pd M κ v) (hk : ∀ l, l < h → κ2 l < pF (sz l)) (e : oV (fun l => pF (sz l)) κ2 h = oV (fun l => pF (sz l)) κ h + 1) (hz : wok Q sz h z) (hs : ∀ l, l < h → stands sz M z l (κ2 l)) (hw : w = if crV g pu pd z.2 N < v then crV g pu pd z.2 N else v) : odI Q sz h N g pu pd M κ2 w := by
  obtain ⟨o1, o2⟩ := ho
  refine ⟨?_, fun κ3 z3 k3 hz3 hs3 e3 => ?_⟩
  · rw [hw]
    split
    · exact ⟨z, hz, rfl⟩
    · exact o1
  · rcases Nat.lt_or_ge (oV (fun l => pF (sz l)) κ3 h) (oV (fun l => pF (sz l)) κ2 h) with q | q
    · have := o2 κ3 z3 k3 hz3 hs3 (by omega)
      rw [hw]
      split <;> omega
    · have e4 := oV_inj (F := fun l => pF (sz l)) (κ := κ3) (κ2 := κ2) (h := h) k3 hk (by omega)
      rw [stands_cr hp hz3 hz hs3 hs e4, hw]
      split <;> omega
theorem odI_end (hM : ∀ l, l < h → prw (Q l) (sz l) (M l)) {κ : Nat → Nat} {v : Int} (ho : odI Q sz h N g pu pd M κ v) (hk : ∀ l, l < h → κ l + 1 = pF (sz l)) : mnV Q sz h N g pu pd v := by
  refine ⟨ho.1, fun z hz => ?_⟩
  have hex : ∀ l, ∃ k, l < h → k < pF (sz l) ∧ stands sz M z l k := fun l => by
    by_cases e : l < h
    · obtain ⟨k, hk, q⟩ := row_ex (hM l e) (hz l e).1
      exact ⟨k, fun _ => ⟨hk, q⟩⟩
    · exact ⟨0, fun q => absurd q e⟩
  have hsp : ∀ l, l < h → Classical.choose (hex l) < pF (sz l) ∧ stands sz M z l (Classical.choose (hex l)) := fun l => Classical.choose_spec (hex l)
  refine ho.2 (fun l => Classical.choose (hex l)) z (fun l hl => (hsp l hl).1) hz (fun l hl => (hsp l hl).2) ?_
  have e1 := oV_max (F := fun l => pF (sz l)) (κ := κ) (h := h) hk
  have e2 := oV_lt (F := fun l => pF (sz l)) (κ := fun l => Classical.choose (hex l)) (h := h) (fun l hl => (hsp l hl).1)
  omega
end odo
theorem cnt_swap4 {F : Nat → Nat → Nat → Nat → Int} {a b c d : Nat} : cnt (fun i => cnt (fun j => cnt (fun p => cnt (fun q => F i j p q) d) c) b) a = cnt (fun p => cnt (fun q => cnt (fun i => cnt (fun j => F i j p q) b) a) d) c := by
  rw [cnt_congr (m := a) (g := fun i => cnt (fun p => cnt (fun q => cnt (fun j => F i j p q) b) d) c) (fun i _ => by
    rw [cnt_swap c b]
    exact cnt_congr (fun p _ => by rw [cnt_swap d b])), cnt_swap c a]
  exact cnt_congr (fun p _ => by rw [cnt_swap d a])
section prc
variable {Q : Nat → Int → Prop} {sz : Nat → Nat} {h N : Nat} {g pu pd : Nat → Nat} {M : Nat → Nat → Int} {at0 ua : Nat → Int}
/-- how many crossings two lower items i, j have (told by where they stand in M) if i stands before j -/
def prI (g pu pd : Nat → Nat) (N l : Nat) (at0 ua : Nat → Int) (i j : Int) : Int := cnt (fun p => cnt (fun q => if (g p = l ∧ g q = l) ∧ ua (at0 (pu q)).toNat < ua (at0 (pu p)).toNat ∧ at0 (pd p) = i ∧ at0 (pd q) = j then 1 else 0) N) N
theorem cnt_pair {s : Nat} {x y : Int} (hx : 0 ≤ x ∧ x < s) (hy : 0 ≤ y ∧ y < s) : cnt (fun i => cnt (fun j => if (i : Int) < j ∧ x = i ∧ y = j then 1 else 0) s) s = if x < y then 1 else 0 := by
  rw [cnt_one (k := x.toNat) (by omega) (fun a _ q => ?_)]
  · rw [cnt_one (k := y.toNat) (by omega) (fun a _ q => if_neg (fun z => by omega))]
    by_cases e : x < y
    · rw [if_pos e, if_pos (by omega)]
    · rw [if_neg e, if_neg (by omega)]
  · rw [cnt_congr (g := fun _ => 0) (fun b _ => if_neg (fun z => by omega)), cnt_zero]
theorem price_eq (hp : pcOK Q h N g pu pd) (hM : ∀ k, k < h → prw (Q k) (sz k) (M k)) (ha : ∀ k, k < h → ∀ j, j < sz k → at0 (M k j).toNat = j) {l q q2 : Nat} (hl : l + 1 < h) (h6 : sz l ≤ 6) (h7 : sz (l + 1) ≤ 6) (hq : q < pF (sz l)) (hq2 : q2 < pF (sz (l + 1))) (hu : ∀ i, i < sz l → ua (pk (sz l) q i) = i) {z : wSt} (hz : wok Q sz h z) (s1 : stands sz M z l q) (s2 : stands sz M z (l + 1) q2) : cnt (fun i => cnt (fun j => if i < j then prI g pu pd N l at0 ua (pk (sz (l + 1)) q2 i : Nat) (pk (sz (l + 1)) q2 j : Nat) else 0) (sz (l + 1))) (sz (l + 1)) = crG g pu pd N z.2 l := by
  have p1 := pk_perm h6 hq
  have p2 := pk_perm h7 hq2
  have up : ∀ x : Nat, Q l x → ua (at0 x).toNat = z.2 x := fun x hx => by
    obtain ⟨j, hj, e⟩ := (hM l (by omega)).2.2 _ hx
    obtain ⟨i, hi, e2⟩ := inj_surj p1.1 p1.2 hj
    have a1 := ha l (by omega) j hj
    rw [e] at a1
    have a2 := (hz l (by omega)).2 i hi
    rw [s1 i hi, e2, e] at a2
    have e3 : ((x : Int)).toNat = x := by omega
    rw [e3] at a1 a2
    have e4 : (at0 x).toNat = j := by omega
    rw [a2, e4, ← e2, hu i hi]
  have dn : ∀ x : Nat, Q (l + 1) x → (0 ≤ z.2 x ∧ z.2 x < sz (l + 1)) ∧ ∀ i, i < sz (l + 1) → (at0 x = (pk (sz (l + 1)) q2 i : Nat) ↔ z.2 x = i) := fun x hx => by
    obtain ⟨j, hj, e⟩ := (hM (l + 1) hl).2.2 _ hx
    obtain ⟨i, hi, e2⟩ := inj_surj p2.1 p2.2 hj
    have a1 := ha (l + 1) hl j hj
    rw [e] at a1
    have a2 := (hz (l + 1) hl).2 i hi
    rw [s2 i hi, e2, e] at a2
    have e3 : ((x : Int)).toNat = x := by omega
    rw [e3] at a1 a2
    refine ⟨by omega, fun k hk => ?_⟩
    rw [a1, a2]
    constructor
    · intro r
      have : i = k := p2.2 i k hi hk (by omega)
      omega
    · intro r
      have : i = k := by omega
      rw [← this, e2]
  have e1 : cnt (fun i => cnt (fun j => if i < j then prI g pu pd N l at0 ua (pk (sz (l + 1)) q2 i : Nat) (pk (sz (l + 1)) q2 j : Nat) else 0) (sz (l + 1))) (sz (l + 1)) = cnt (fun i => cnt (fun j => cnt (fun p => cnt (fun r => if (g p = l ∧ g r = l ∧ z.2 (pu r) < z.2 (pu p)) ∧ (i : Int) < j ∧ z.2 (pd p) = i ∧ z.2 (pd r) = j then 1 else 0) N) N) (sz (l + 1))) (sz (l + 1)) := by
    refine cnt_congr (fun i hi => cnt_congr (fun j hj => ?_))
    by_cases e : i < j
    · rw [if_pos e]
      refine cnt_congr (fun p hp2 => cnt_congr (fun r hr => ?_))
      by_cases c1 : g p = l ∧ g r = l
      · obtain ⟨b1, b2, -⟩ := hp p hp2
        obtain ⟨d1, d2, -⟩ := hp r hr
        rw [c1.1] at b1 b2
        rw [c1.2] at d1 d2
        have x1 := up _ b1
        have x2 := up _ d1
        have x3 := (dn _ b2).2 i hi
        have x4 := (dn _ d2).2 j hj
        rw [x1, x2]
        by_cases c2 : z.2 (pu r) < z.2 (pu p) ∧ z.2 (pd p) = i ∧ z.2 (pd r) = j
        · rw [if_pos ⟨c1, c2.1, x3.mpr c2.2.1, x4.mpr c2.2.2⟩, if_pos ⟨⟨c1.1, c1.2, c2.1⟩, by omega, c2.2⟩]
        · rw [if_neg (fun w => c2 ⟨w.2.1, x3.mp w.2.2.1, x4.mp w.2.2.2⟩), if_neg (fun w => c2 ⟨w.1.2.2, w.2.2⟩)]
      · rw [if_neg (fun w => c1 w.1), if_neg (fun w => c1 ⟨w.1.1, w.1.2.1⟩)]
    · rw [if_neg e, cnt_congr (g := fun _ => 0) (fun p _ => by rw [cnt_congr (g := fun _ => 0) (fun r _ => if_neg (fun w => by omega)), cnt_zero]), cnt_zero]
  rw [e1, cnt_swap4, cnt_swap N N]
  unfold crG
  refine cnt_congr (fun p hp2 => ?_)
  by_cases c1 : g p = l
  · rw [if_pos c1]
    refine cnt_congr (fun r hr => ?_)
    by_cases c2 : g r = l
    · obtain ⟨b1, b2, -⟩ := hp p hp2
      obtain ⟨d1, d2, -⟩ := hp r hr
      rw [c1] at b1 b2
      rw [c2] at d1 d2
      unfold crX
      by_cases c3 : z.2 (pu p) < z.2 (pu r)
      · rw [cnt_congr (g := fun i => cnt (fun j => if (i : Int) < j ∧ z.2 (pd r) = i ∧ z.2 (pd p) = j then 1 else 0) (sz (l + 1))) (fun i _ => cnt_congr (fun j _ => ?_)), cnt_pair (dn _ d2).1 (dn _ b2).1]
        · by_cases c4 : z.2 (pd r) < z.2 (pd p)
          · rw [if_pos c4, if_pos ⟨by omega, c3, c4⟩]
          · rw [if_neg c4, if_neg (fun w => c4 w.2.2)]
        · by_cases c5 : (i : Int) < j ∧ z.2 (pd r) = i ∧ z.2 (pd p) = j
          · rw [if_pos c5, if_pos ⟨⟨c2, c1, c3⟩, c5⟩]
          · rw [if_neg c5, if_neg (fun w => c5 w.2)]
      · rw [if_neg (fun w => c3 w.2.1), cnt_congr (g := fun _ => 0) (fun i _ => by rw [cnt_congr (g := fun _ => 0) (fun j _ => if_neg (fun w => c3 w.1.2.2)), cnt_zero]), cnt_zero]
    · unfold crX
      rw [if_neg (fun w => c2 (by omega)), cnt_congr (g := fun _ => 0) (fun i _ => by rw [cnt_congr (g := fun _ => 0) (fun j _ => if_neg (fun w => c2 w.1.1)), cnt_zero]), cnt_zero]
  · rw [if_neg c1, cnt_congr (g := fun _ => 0) (fun r _ => by rw [cnt_congr (g := fun _ => 0) (fun i _ => by rw [cnt_congr (g := fun _ => 0) (fun j _ => if_neg (fun w => c1 w.1.2.1)), cnt_zero]), cnt_zero]), cnt_zero]
end prc
