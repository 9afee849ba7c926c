theorem cnt_bound2 {g : Nat → Int} : ∀ {m : Nat}, (∀ a, a < m → g a ≤ 1000) → cnt g m ≤ 1000 * m
  | 0, _ => Int.le_refl _
  | m + 1, h => by
    have h1 := cnt_bound2 (m := m) (fun a ha => h a (by omega))
    have h2 := h m (by omega)
    show cnt g m + g m ≤ 1000 * ((m + 1 : Nat) : Int)
    omega
section sp_lb6
variable {d : Nat} {post : Option mj_V → mj_H → Prop} {K : Nat → Nat × Nat} {ρ : Nat → Nat → Option Nat}
/-- the model's weights -/
def mW (A : Nat → Nat → Int) (c : Nat → Int) : Nat → Nat → Int := wt (A 93 1).toNat (fun a => (A 95 a).toNat) (fun a => (A 96 a).toNat) (A 97) c
theorem lbT_wt {A : Nat → Nat → Int} {v u : Nat} : cnt (lbT A v u) (A 93 1).toNat = mW A (A 102) v u := rfl
theorem mW_b {A : Nat → Nat → Int} (hm : 0 ≤ A 93 1 ∧ A 93 1 ≤ 24) (hc : ∀ a : Nat, (a : Int) < A 93 1 → 0 ≤ A 102 a ∧ A 102 a ≤ 1000) {l : List Nat} (hl : l.Nodup) : 0 ≤ bc (mW A (A 102)) l ∧ bc (mW A (A 102)) l ≤ 24000 := by
  unfold mW
  rw [bc_wt hl]
  refine ⟨cnt_nonneg (fun a ha => ?_), Int.le_trans (cnt_bound2 (fun a ha => ?_)) (by omega)⟩
  · split
    · exact (hc a (by omega)).1
    · exact Int.le_refl _
  · split
    · exact (hc a (by omega)).2
    · decide
theorem mW_s {A : Nat → Nat → Int} (hm : 0 ≤ A 93 1 ∧ A 93 1 ≤ 24) (hc : ∀ a : Nat, (a : Int) < A 93 1 → 0 ≤ A 102 a ∧ A 102 a ≤ 1000) (r v : Nat) : 0 ≤ lbS (mW A (A 102)) r v ∧ lbS (mW A (A 102)) r v ≤ 24000 := by
  have e : lbS (mW A (A 102)) r v = sumL (wt (A 93 1).toNat (fun a => (A 95 a).toNat) (fun a => (A 96 a).toNat) (A 97) (A 102) v) ((List.range 12).filter (fun u => r.testBit u)) := by
    rw [sumL_cnt (N := 12) (List.Pairwise.filter _ List.nodup_range) (fun u hu => List.mem_range.mp (List.mem_filter.mp hu).1)]
    refine cnt_congr (fun u hu => ?_)
    by_cases q : r.testBit u = true
    · rw [if_pos q, if_pos (List.mem_filter.mpr ⟨List.mem_range.mpr hu, q⟩)]
      rfl
    · rw [if_neg q, if_neg (fun z => q (List.mem_filter.mp z).2)]
  rw [e, sumL_wt (List.Pairwise.filter _ List.nodup_range)]
  refine ⟨cnt_nonneg (fun a ha => ?_), Int.le_trans (cnt_bound2 (fun a ha => ?_)) (by omega)⟩
  · split
    · exact (hc a (by omega)).1
    · exact Int.le_refl _
  · split
    · exact (hc a (by omega)).2
    · decide
set_option maxRecDepth 100000 in
theorem s_leastBack (L : Lay K ρ) {A : Nat → Nat → Int} (hn : 0 ≤ A 93 0 ∧ A 93 0 ≤ 12) (hm : 0 ≤ A 93 1 ∧ A 93 1 ≤ 24) (ha : ∀ a : Nat, (a : Int) < A 93 1 → (0 ≤ A 95 a ∧ A 95 a < 12) ∧ (0 ≤ A 96 a ∧ A 96 a < 12) ∧ (A 97 a = 0 ∨ A 97 a = 1)) (hne : ∀ a : Nat, (a : Int) < A 93 1 → A 95 a ≠ A 96 a) (hc : ∀ a : Nat, (a : Int) < A 93 1 → 0 ≤ A 102 a ∧ A 102 a ≤ 1000)
    (k : ∀ A2 c, (∀ x y, x ≠ 103 → x ≠ 104 → x ≠ 105 → A2 x y = A x y) → isMin (mW A (A 102)) (full (A 93 0).toNat) c → post (some (.inl (iZ c))) (123, K, zs A2, ρ)) : mj_lv (d + 1) m_Mod_leastBack [.inr (.inl (some 93))] (123, K, zs A, ρ) post := by
  show mj_W (mj_lv d) prog_11_method_10_code 9 1 0 0 post 0 [some (.inr (.inl (some 93))), none, none, none, none, none] [] (123, K, zs A, ρ) 0 0
  have hp := Nat.two_pow_pos (A 93 0).toNat
  have hp2 : 2 ^ (A 93 0).toNat ≤ 2 ^ 12 := Nat.pow_le_pow_right (by decide) (by omega)
  obtain ⟨M, hM⟩ : ∃ M, M = 2 ^ (A 93 0).toNat - 1 := ⟨_, rfl⟩
  have hM2 : M < 4096 := by omega
  refine zq_iconst d34_0 ?_
  refine mq_aload_n d34_1 rfl rfl ?_
  refine zg_getI L d34_2 rfl rfl (by decide) rfl ?_
  refine zn_shl1 d34_5 (by omega) ?_
  refine zq_iconst d34_6 ?_
  refine zq_isub d34_7 ?_
  rw [show ((2 ^ (A 93 0).toNat : Nat) : Int) - 1 = (M : Int) by omega]
  refine mq_istore_n d34_8 rfl (Nat.le_of_ble_eq_true rfl) rfl ?_
  refine zq_iconst d34_9 ?_
  refine mq_istore_n d34_10 rfl (Nat.le_of_ble_eq_true rfl) rfl ?_
  have key := lb_loop1 (d := d) (post := post) L (A := A) (al := some (.inl (iZ (M : Int)))) (x3 := none) (x4 := none) (x5 := none) rfl ?_ 145 0 (by omega) (by omega)
  · rw [fl_0] at key
    exact key
  refine zq_iconst d34_31 ?_
  refine mq_istore_n d34_32 rfl (Nat.le_of_ble_eq_true rfl) rfl ?_
  refine lb_loop2 L hm ha rfl (fun A2 hI => ?_) ((A 93 1).toNat + 1) 0 _ (by omega) (by omega) ⟨fun c k hc => by simp [fl, hc], fun v u hv hu => by unfold fl; rw [if_pos (by omega)]; rfl⟩
  obtain ⟨j1, j2⟩ := hI
  refine mq_aload_n d34_90 rfl rfl ?_
  refine zg_getR L 103 d34_91 rfl rfl (by decide) rfl (by decide) rfl ?_
  refine zq_iconst d34_94 ?_
  refine zq_iconst d34_95 ?_
  refine zg_iast L d34_96 (by decide) rfl (by omega) ?_
  refine zq_iconst d34_97 ?_
  refine mq_istore_n d34_98 rfl (Nat.le_of_ble_eq_true rfl) rfl ?_
  obtain ⟨A3, hA3⟩ : ∃ A3, A3 = mj_u2 A2 103 0 0 := ⟨_, rfl⟩
  have e93 : A3 93 0 = A 93 0 := by
    rw [hA3, u2_c (by decide)]
    exact j1 93 0 (by decide)
  show mj_W (mj_lv d) prog_11_method_10_code 9 1 0 0 post 99 _ [] (123, K, zs (mj_u2 A2 103 0 0), ρ) 0 0
  rw [← hA3]
  have key3 := lb_loop3 (d := d) (post := post) L (A := A3) (by rw [e93]; exact hn) (al := some (.inl (iZ (M : Int)))) (x3 := none) (x4 := none) (x5 := none) rfl ?_ ((A3 93 0).toNat + 1) 0 (by omega) (by omega)
  · rw [fl_0] at key3
    exact key3
  refine zq_iconst d34_120 ?_
  refine mq_istore_n d34_121 rfl (Nat.le_of_ble_eq_true rfl) rfl ?_
  have e2n : A2 93 0 = A 93 0 := j1 93 0 (by decide)
  refine lb_loop4 L (A := A2) (by rw [e2n]; exact hn) hM2 (fun A5 x3 x4 x5 h4 => ?_) (M + 2) 1 _ none none none (by omega) (by omega) (by omega) ⟨fun c k hc hc2 => ?_, ?_, fun T h1 h2 => by omega, fun T hT v hv => ?_⟩
  · obtain ⟨f1, f2, f3, f4⟩ := h4
    have e5n : A5 93 0 = A 93 0 := by rw [f1 93 0 (by decide) (by decide)]; exact e2n
    refine zq_iconst d34_220 ?_
    refine mq_istore_n d34_221 rfl (Nat.le_of_ble_eq_true rfl) rfl ?_
    refine lb_out5 L (A := A5) (pw := mW A (A 102)) (by rw [e5n]; exact hn) (by rw [e5n]; exact hM) hM2 (fun s hs v hv => ?_) (mW_s hm hc) (fun A6 h6 => ?_) (M + 1) 0 A5 x3 x4 x5 (by omega) (by omega) ⟨fun _ _ _ => rfl, f2, fun T hT => ?_, fun T hT h0 => ⟨Or.inl (f3 T (by omega) (by omega)), fun v _ hq => by unfold lbP at hq; omega⟩⟩
    · rw [f4 s (by omega) v (by rw [e2n, ← e5n]; exact hv)]
      refine cnt_congr (fun w hw => ?_)
      rw [j2 v w (by omega) hw]
      rfl
    · have hmin := lbF_end hM2 h6.2 (fun v => ?_) (fun l hl _ => (mW_b hm hc hl).2) (fun r v => (mW_s hm hc r v).2) M (Nat.le_refl M)
      · refine k A6 _ (fun x y h3 h4 h5 => ?_) (isMin_congr (fun v => ?_) (fun _ _ => rfl) hmin)
        · rw [h6.1 x y h3, f1 x y h3 h5]
          exact j1 x y h4
        · rw [hM, Nat.testBit_two_pow_sub_one]
          rfl
      · show cnt _ _ = 0
        rw [cnt_congr (g := fun _ => 0) (fun a ha2 => if_neg (fun q => ?_)), cnt_zero]
        have q1 := hne a (by omega)
        have q2 := ha a (by omega)
        have q3 := q.2.1
        have q4 := q.2.2
        dsimp only at q3 q4
        omega
    · by_cases h0 : T = 0
      · subst h0
        omega
      · have := f3 T (by omega) (by omega)
        omega
  · rw [hA3]
    unfold fl
    rw [if_neg (fun q => hc2 q.1), u2_c hc]
  · rw [hA3]
    unfold fl
    rw [if_neg (fun q => absurd q.1 (by decide)), u2_self]
  · have e : T = 0 := by omega
    subst e
    unfold fl
    rw [if_pos (by omega), cnt_congr (g := fun _ => 0) (fun w _ => by simp), cnt_zero]
end sp_lb6
