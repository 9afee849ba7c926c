theorem wt_congr {m : Nat} {f t : Nat → Nat} {th c c2 : Nat → Int} (h : ∀ a, a < m → th a = 1 → c a = c2 a) (v u : Nat) : wt m f t th c v u = wt m f t th c2 v u := cnt_congr (fun a ha => by
  by_cases q : th a = 1 ∧ f a = v ∧ t a = u
  · rw [if_pos q, if_pos q, h a ha q.1]
  · rw [if_neg q, if_neg q])
theorem grd_le {n m : Nat} {f t : Nat → Nat} {th x : Nat → Int} {N : Int} {k : Nat} (hk : k ≤ m) (h : grd n m f t th x N k) : cnt x k ≤ N := by
  obtain ⟨-, ⟨l, -, h2, h3⟩, -⟩ := h
  have h4 := cnt_mono (g := ind f t th l) (k := k) (j := m - k) (fun a _ => by
    have := ind01 (f := f) (t := t) (th := th) (l := l) (m := a + 1) a (by omega)
    omega)
  rw [show k + (m - k) = m by omega, h2, cnt_congr h3] at h4
  exact h4
section sp_ft
variable {d : Nat} {post : Option mj_V → mj_H → Prop} {K : Nat → Nat × Nat} {ρ : Nat → Nat → Option Nat}
theorem fl2_s {A : Nat → Nat → Int} {i : Nat} : mj_u2 (mj_u2 (fl (fl A 102 i 1) 98 i 0) 102 i 1) 98 i 0 = fl (fl A 102 (i + 1) 1) 98 (i + 1) 0 := by
  funext c k
  simp only [u2_at]
  unfold fl
  by_cases h1 : c = 98
  · subst h1
    by_cases h2 : k = i
    · simp [h2]
    · by_cases h3 : k < i
      · simp [h2, h3, show k < i + 1 by omega]
      · simp [h2, h3, show ¬ k < i + 1 by omega]
  · by_cases h4 : c = 102
    · subst h4
      by_cases h2 : k = i
      · simp [h2]
      · by_cases h3 : k < i
        · simp [h2, h3, show k < i + 1 by omega]
        · simp [h2, h3, show ¬ k < i + 1 by omega]
    · simp [h1, h4]
set_option maxRecDepth 100000 in
theorem ft_loopA (L : Lay K ρ) {A : Nat → Nat → Int} (hm : 0 ≤ A 93 1 ∧ A 93 1 ≤ 24) {x2 : Option mj_V}
    (kk : mj_W (mj_lv d) prog_11_method_11_code 9 0 0 0 post 30 [some (.inr (.inl (some 93))), some (.inl (iZ (A 93 1))), x2] [] (123, K, zs (fl (fl A 102 (A 93 1).toNat 1) 98 (A 93 1).toNat 0), ρ) 0 0) : ∀ (j i : Nat), (A 93 1).toNat - i < j → i ≤ (A 93 1).toNat → mj_W (mj_lv d) prog_11_method_11_code 9 0 0 0 post 2 [some (.inr (.inl (some 93))), some (.inl (iZ (i : Int))), x2] [] (123, K, zs (fl (fl A 102 i 1) 98 i 0), ρ) 0 0
  | 0, i, h, _ => absurd h (by omega)
  | j + 1, i, h, hi => by
    refine mq_iload_n d35_2 rfl rfl ?_
    refine mq_aload_n d35_3 rfl rfl ?_
    refine zg_getIe L (A 93 1) d35_4 rfl rfl (by decide) rfl (by simp [fl]) ?_
    refine zq_icmp_ge (tgt := 30) d35_7 (by decide) (by omega) (by omega) (fun g => ?_) (fun g => ?_)
    · have e : (i : Int) = A 93 1 := by omega
      have e2 : i = (A 93 1).toNat := by omega
      rw [e]
      rw [← e2] at kk
      exact kk
    · refine mq_aload_n d35_10 rfl rfl ?_
      refine zg_getR L 102 d35_11 rfl rfl (by decide) rfl (by decide) rfl ?_
      refine mq_iload_n d35_14 rfl rfl ?_
      refine zq_iconst d35_15 ?_
      refine zg_iast L d35_16 (by decide) rfl (by omega) ?_
      rw [Int.toNat_natCast]
      refine mq_aload_n d35_17 rfl rfl ?_
      refine zg_getR L 98 d35_18 rfl rfl (by decide) rfl (by decide) rfl ?_
      refine mq_iload_n d35_21 rfl rfl ?_
      refine zq_iconst d35_22 ?_
      refine zg_zast L d35_23 (by decide) rfl (by omega) (by decide) ?_
      rw [Int.toNat_natCast, fl2_s]
      refine zq_iinc d35_24 rfl rfl ?_
      refine mq_goto (tgt := 2) d35_27 (by decide) ?_
      exact ft_loopA L hm kk j (i + 1) (by omega) (by omega)
/-- the search arc by arc, at arc i: N is the least number of arcs -/
def ftI (A A2 : Nat → Nat → Int) (N : Int) (i : Nat) : Prop := (∀ c k, c ≠ 98 → c ≠ 102 → c ≠ 103 → c ≠ 104 → c ≠ 105 → A2 c k = A c k) ∧ grd (A 93 0).toNat (A 93 1).toNat (fun a => (A 95 a).toNat) (fun a => (A 96 a).toNat) (A 97) (A2 98) N i ∧ (∀ a, i ≤ a → a < (A 93 1).toNat → A2 98 a = 0 ∧ A2 102 a = 1) ∧ (∀ a, a < i → 0 ≤ A2 102 a ∧ A2 102 a ≤ 1000) ∧ ∀ a, a < i → A 97 a = 1 → A2 102 a = if A2 98 a = 1 then 0 else 1000
set_option maxRecDepth 100000 in
theorem ft_loopB (L : Lay K ρ) {A : Nat → Nat → Int} (hn : 0 ≤ A 93 0 ∧ A 93 0 ≤ 12) (hm : 0 ≤ A 93 1 ∧ A 93 1 ≤ 24) (ha : ∀ a : Nat, (a : Int) < A 93 1 → (0 ≤ A 95 a ∧ A 95 a < 12) ∧ (0 ≤ A 96 a ∧ A 96 a < 12) ∧ (A 97 a = 0 ∨ A 97 a = 1)) (hne : ∀ a : Nat, (a : Int) < A 93 1 → A 95 a ≠ A 96 a) {N : Int} (hN : 0 ≤ N ∧ N ≤ 24)
    (kk : ∀ A2 x1 x2, (∀ c k, c ≠ 98 → c ≠ 102 → c ≠ 103 → c ≠ 104 → c ≠ 105 → A2 c k = A c k) → isTurn (A 93 0).toNat (A 93 1).toNat (fun a => (A 95 a).toNat) (fun a => (A 96 a).toNat) (A 97) (A2 98) → mj_W (mj_lv (d + 1)) prog_11_method_11_code 9 0 0 0 post 106 [some (.inr (.inl (some 93))), some (.inl x1), some (.inl x2)] [] (123, K, zs A2, ρ) 0 0) : ∀ (j i : Nat) (A2 : Nat → Nat → Int) (w : Int), (A 93 1).toNat - i < j → i ≤ (A 93 1).toNat → w = N - cnt (A2 98) i → ftI A A2 N i → mj_W (mj_lv (d + 1)) prog_11_method_11_code 9 0 0 0 post 37 [some (.inr (.inl (some 93))), some (.inl (iZ w)), some (.inl (iZ (i : Int)))] [] (123, K, zs A2, ρ) 0 0
  | 0, i, _, _, h, _, _, _ => absurd h (by omega)
  | j + 1, i, A2, w, h, hi, hw, hI => by
    obtain ⟨i1, i2, i3, i4, i5⟩ := id hI
    have hle := grd_le hi i2
    have h01 := grd_01 i2
    have hc0 := cnt_range h01
    refine mq_iload_n d35_37 rfl rfl ?_
    refine mq_aload_n d35_38 rfl rfl ?_
    refine zg_getIe L (A 93 1) d35_39 rfl rfl (by decide) rfl (i1 93 1 (by decide) (by decide) (by decide) (by decide) (by decide)) ?_
    refine zq_icmp_ge (tgt := 106) d35_42 (by decide) (by omega) (by omega) (fun g => ?_) (fun g => ?_)
    · have e2 : i = (A 93 1).toNat := by omega
      rw [e2] at i2
      exact kk A2 _ _ i1 (grd_end (by omega) i2)
    · refine mq_iload_n d35_45 rfl rfl ?_
      refine zq_if_le (tgt := 106) d35_46 (by decide) (by omega) (fun g1 => ?_) (fun g1 => ?_)
      · exact kk A2 _ _ i1 (grd_end (by omega) (grd_rest hi i2 (by omega) (fun _ _ => rfl) (fun a h1 h2 => (i3 a h1 h2).1)))
      · have hz := ha i g
        have next : ∀ (A3 : Nat → Nat → Int) (w2 : Int), w2 = N - cnt (A3 98) (i + 1) → ftI A A3 N (i + 1) → mj_W (mj_lv (d + 1)) prog_11_method_11_code 9 0 0 0 post 100 [some (.inr (.inl (some 93))), some (.inl (iZ w2)), some (.inl (iZ (i : Int)))] [] (123, K, zs A3, ρ) 0 0 := fun A3 w2 hw2 hI3 => by
          refine zq_iinc d35_100 rfl rfl ?_
          refine mq_goto (tgt := 37) d35_103 (by decide) ?_
          exact ft_loopB L hn hm ha hne hN kk j (i + 1) A3 w2 (by omega) (by omega) hw2 hI3
        have i3i := i3 i (by omega) (by omega)
        refine mq_aload_n d35_49 rfl rfl ?_
        refine zg_getR L 97 d35_50 rfl rfl (by decide) rfl (by decide) rfl ?_
        refine mq_iload_n d35_53 rfl rfl ?_
        refine zg_zalde L (A 97 i) d35_54 (by decide) rfl (by omega) (by rw [Int.toNat_natCast, i1 97 i (by decide) (by decide) (by decide) (by decide) (by decide)]) ?_
        refine zq_if_ne (tgt := 61) d35_55 (by decide) (by omega) (fun g2 => ?_) (fun g2 => ?_)
        · refine mq_aload_n d35_61 rfl rfl ?_
          refine zg_getR L 102 d35_62 rfl rfl (by decide) rfl (by decide) rfl ?_
          refine mq_iload_n d35_65 rfl rfl ?_
          refine zq_iconst d35_66 ?_
          refine zg_iast L d35_67 (by decide) rfl (by omega) ?_
          rw [Int.toNat_natCast]
          obtain ⟨A3, hA3⟩ : ∃ A3, A3 = mj_u2 A2 102 i 0 := ⟨_, rfl⟩
          rw [← hA3]
          have e3 : ∀ c k, c ≠ 98 → c ≠ 102 → c ≠ 103 → c ≠ 104 → c ≠ 105 → A3 c k = A c k := fun c k a1 a2 a3 a4 a5 => by rw [hA3, u2_c a2]; exact i1 c k a1 a2 a3 a4 a5
          have e98 : ∀ k, A3 98 k = A2 98 k := fun k => by rw [hA3, u2_c (by decide)]
          have e102 : ∀ a, A3 102 a = if a = i then 0 else A2 102 a := fun a => by rw [hA3, u2_at]; simp
          have ex : ∀ c k, c = 93 ∨ c = 95 ∨ c = 96 ∨ c = 97 → A3 c k = A c k := fun c k hc => e3 c k (by omega) (by omega) (by omega) (by omega) (by omega)
          refine mq_aload_n d35_68 rfl rfl ?_
          refine zg_callV (c := 93) L [] d35_69 rfl rfl ⟨rfl, rfl⟩ rfl ⟨rfl, rfl⟩ ⟨by decide, by decide⟩ (by decide) rfl ?_
          refine s_leastBack L (by rw [ex 93 0 (by decide)]; exact hn) (by rw [ex 93 1 (by decide)]; exact hm) (fun a h9 => by rw [ex 93 1 (by decide)] at h9; rw [ex 95 a (by decide), ex 96 a (by decide), ex 97 a (by decide)]; exact ha a h9) (fun a h9 => by rw [ex 93 1 (by decide)] at h9; rw [ex 95 a (by decide), ex 96 a (by decide)]; exact hne a h9) (fun a h9 => ?_) (fun A4 c h4 hc => ?_)
          · rw [ex 93 1 (by decide)] at h9
            rw [e102]
            by_cases q : a = i
            · rw [if_pos q]
              decide
            · rw [if_neg q]
              rcases Nat.lt_or_ge a i with r | r
              · exact i4 a r
              · have := i3 a r (by omega)
                omega
          · have hc2 : isMin (wt (A 93 1).toNat (fun a => (A 95 a).toNat) (fun a => (A 96 a).toNat) (A 97) (ask (A2 98) i)) (full (A 93 0).toNat) c := by
              rw [ex 93 0 (by decide)] at hc
              refine isMin_congr (fun _ => rfl) (fun l _ => bc_congr (fun v _ u _ => ?_)) hc
              unfold mW
              rw [ex 93 1 (by decide), show A3 95 = A 95 from funext (fun a => ex 95 a (by decide)), show A3 96 = A 96 from funext (fun a => ex 96 a (by decide)), show A3 97 = A 97 from funext (fun a => ex 97 a (by decide))]
              refine wt_congr (fun a h8 h9 => ?_) v u
              rw [e102]
              unfold ask
              by_cases q : a = i
              · rw [if_pos q, if_neg (by omega), if_pos q]
              · rw [if_neg q]
                rcases Nat.lt_or_ge a i with r | r
                · rw [if_pos r, i5 a r h9]
                · rw [if_neg (by omega), if_neg q]
                  exact (i3 a r h8).2
            have hcr : 0 ≤ c ∧ c ≤ 24000 := by
              obtain ⟨⟨l, hl, e⟩, -⟩ := hc2
              rw [← e, bc_wt hl.1]
              have hask : ∀ a, 0 ≤ ask (A2 98) i a ∧ ask (A2 98) i a ≤ 1000 := fun a => by
                unfold ask
                split
                · split <;> decide
                · split <;> decide
              refine ⟨cnt_nonneg (fun a _ => ?_), Int.le_trans (cnt_bound2 (fun a _ => ?_)) (by omega)⟩
              · split
                · exact (hask a).1
                · exact Int.le_refl _
              · split
                · exact (hask a).2
                · decide
            have g98 : ∀ k, A4 98 k = A2 98 k := fun k => by rw [h4 98 k (by decide) (by decide) (by decide), e98]
            have g102 : ∀ a, A4 102 a = if a = i then 0 else A2 102 a := fun a => by rw [h4 102 a (by decide) (by decide) (by decide), e102]
            have gA : ∀ c k, c ≠ 98 → c ≠ 102 → c ≠ 103 → c ≠ 104 → c ≠ 105 → A4 c k = A c k := fun c k a1 a2 a3 a4 a5 => by rw [h4 c k a3 a4 a5]; exact e3 c k a1 a2 a3 a4 a5
            refine mq_iload_n d35_72 rfl rfl ?_
            refine zq_iconst d35_73 ?_
            refine zq_isub d35_74 ?_
            refine zq_icmp_gt (tgt := 91) d35_75 (by decide) (by omega) (by omega) (fun g3 => ?_) (fun g3 => ?_)
            · refine mq_aload_n d35_91 rfl rfl ?_
              refine zg_getR L 102 d35_92 rfl rfl (by decide) rfl (by decide) rfl ?_
              refine mq_iload_n d35_95 rfl rfl ?_
              refine zq_sipush d35_96 rfl ?_
              refine zg_iast L d35_99 (by decide) rfl (by omega) ?_
              rw [Int.toNat_natCast]
              have y98 : ∀ k, mj_u2 A4 102 i 1000 98 k = A2 98 k := fun k => by rw [u2_c (by decide)]; exact g98 k
              refine next _ w ?_ ⟨fun c k a1 a2 a3 a4 a5 => by rw [u2_c a2]; exact gA c k a1 a2 a3 a4 a5, grd_step (by omega) (by omega) i2 hc2 (fun a _ => y98 a) (by rw [y98, if_neg (by omega)]; exact i3i.1), fun a b1 b2 => ?_, fun a b1 => ?_, fun a b1 b2 => ?_⟩
              · show w = N - (cnt (mj_u2 A4 102 i 1000 98) i + mj_u2 A4 102 i 1000 98 i)
                rw [cnt_congr (fun a _ => y98 a), y98, i3i.1]
                omega
              · rw [y98, u2_k (by omega), g102, if_neg (by omega)]
                exact i3 a (by omega) b2
              · rw [u2_at, g102]
                by_cases q : a = i
                · rw [if_pos ⟨rfl, q⟩]
                  decide
                · rw [if_neg (fun r => q r.2), if_neg q]
                  exact i4 a (by omega)
              · rw [u2_at, g102, y98]
                by_cases q : a = i
                · rw [if_pos ⟨rfl, q⟩, q, i3i.1]
                  rfl
                · rw [if_neg (fun r => q r.2), if_neg q]
                  exact i5 a (by omega) b2
            · refine mq_aload_n d35_78 rfl rfl ?_
              refine zg_getR L 98 d35_79 rfl rfl (by decide) rfl (by decide) rfl ?_
              refine mq_iload_n d35_82 rfl rfl ?_
              refine zq_iconst d35_83 ?_
              refine zg_zast L d35_84 (by decide) rfl (by omega) (by decide) ?_
              rw [Int.toNat_natCast]
              refine zq_iinc d35_85 rfl rfl ?_
              refine mq_goto (tgt := 100) d35_88 (by decide) ?_
              have y98 : ∀ k, k ≠ i → mj_u2 A4 98 i 1 98 k = A2 98 k := fun k hk => by rw [u2_k hk]; exact g98 k
              refine next _ _ ?_ ⟨fun c k a1 a2 a3 a4 a5 => by rw [u2_c a1]; exact gA c k a1 a2 a3 a4 a5, grd_step (by omega) (by omega) i2 hc2 (fun a h9 => y98 a (by omega)) (by rw [u2_self, if_pos (by omega)]), fun a b1 b2 => ?_, fun a b1 => ?_, fun a b1 b2 => ?_⟩
              · show _ = N - (cnt (mj_u2 A4 98 i 1 98) i + mj_u2 A4 98 i 1 98 i)
                rw [cnt_congr (fun a h9 => y98 a (by omega)), u2_self]
                omega
              · rw [y98 a (by omega), u2_c (by decide), g102, if_neg (by omega)]
                exact i3 a (by omega) b2
              · rw [u2_c (by decide), g102]
                by_cases q : a = i
                · rw [if_pos q]
                  decide
                · rw [if_neg q]
                  exact i4 a (by omega)
              · rw [u2_c (by decide), g102]
                by_cases q : a = i
                · rw [if_pos q, q, u2_self]
                  rfl
                · rw [if_neg q, y98 a q]
                  exact i5 a (by omega) b2
        · refine mq_goto (tgt := 100) d35_58 (by decide) ?_
          refine next A2 w ?_ ⟨i1, grd_skip i2 (by omega) (fun _ _ => rfl) i3i.1, fun a b1 b2 => i3 a (by omega) b2, fun a b1 => ?_, fun a b1 b2 => ?_⟩
          · show w = N - (cnt (A2 98) i + A2 98 i)
            rw [i3i.1]
            omega
          · by_cases q : a = i
            · rw [q, i3i.2]
              decide
            · exact i4 a (by omega)
          · by_cases q : a = i
            · rw [q] at b2
              omega
            · exact i5 a (by omega) b2
end sp_ft
