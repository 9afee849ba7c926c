section tot
variable {sz : Nat → Nat} {h : Nat}
def totF (sz : Nat → Nat) : Nat → Nat
  | 0 => 1
  | l + 1 => totF sz l * fct (sz l)
theorem fct_pos : ∀ k, 1 ≤ fct k
  | 0 => Nat.le_refl _
  | k + 1 => Nat.mul_le_mul (fct_pos k) (by omega : 1 ≤ k + 1)
theorem fct_mono {a b : Nat} (h : a ≤ b) : fct a ≤ fct b := mono_le (B := fct) (fun k => by
  show fct k ≤ fct k * (k + 1)
  exact Nat.le_mul_of_pos_right _ (by omega)) h
theorem tot_pos : ∀ l, 1 ≤ totF sz l
  | 0 => Nat.le_refl _
  | l + 1 => Nat.mul_le_mul (tot_pos l) (fct_pos (sz l))
theorem tot_mono {a b : Nat} (h : a ≤ b) : totF sz a ≤ totF sz b := mono_le (B := totF sz) (fun k => by
  show totF sz k ≤ totF sz k * fct (sz k)
  exact Nat.le_mul_of_pos_right _ (fct_pos _)) h
theorem tot_part {l k : Nat} (hl : l < h) (hk : k ≤ sz l) : totF sz l * fct k ≤ totF sz h := Nat.le_trans (Nat.mul_le_mul_left _ (fct_mono hk)) (tot_mono (a := l + 1) (by omega))
theorem tot_6 (ht : totF sz h ≤ 5000) {l : Nat} (hl : l < h) : sz l ≤ 6 := by
  rcases Nat.lt_or_ge (sz l) 7 with q | q
  · omega
  · exfalso
    have h1 := tot_part (sz := sz) hl q
    have h2 := tot_pos (sz := sz) l
    have h3 : fct 7 = 5040 := by decide
    rw [h3] at h1
    have := Nat.mul_le_mul_right 5040 h2
    omega
end tot
section sp_pr
variable {d : Nat} {post : Option mj_V → mj_H → Prop} {K : Nat → Nat × Nat} {ρ : Nat → Nat → Option Nat} {A : Nat → Nat → Int}
section tm
variable {sz : Nat → Nat} {h : Nat}
set_option maxRecDepth 100000 in
theorem tm_1 (L : Lay K ρ) (h47 : ∀ l, l < h → A 47 l = (sz l : Nat) ∧ sz l ≤ 36) {l : Nat} (hl : l < h) (h12 : h ≤ 12) (k1 : 5000 < totF sz h → post (some (.inl (iZ 1))) (123, K, zs (A), ρ))
    (kk : ∀ x3, totF sz (l + 1) ≤ 5000 → mj_W (mj_lv d) prog_5_method_3_code 3 2 0 0 post 43 [some (.inr (.inl (some 46))), some (.inl (iZ ((totF sz (l + 1) : Nat)))), some (.inl (iZ ((l : Nat)))), some (.inl x3)] [] (123, K, zs (A), ρ) 0 0) : ∀ (j k : Nat), sz l - k < j → 1 ≤ k → (k ≤ sz l ∨ k = 1) → totF sz l * fct k ≤ 5000 → mj_W (mj_lv d) prog_5_method_3_code 3 2 0 0 post 14 [some (.inr (.inl (some 46))), some (.inl (iZ ((totF sz l * fct k : Nat)))), some (.inl (iZ ((l : Nat)))), some (.inl (iZ ((k + 1 : Nat))))] [] (123, K, zs (A), ρ) 0 0
  | 0, k, hj, _, _, _ => absurd hj (by omega)
  | j + 1, k, hj, hk1, hk, h5 => by
    obtain ⟨s1, s2⟩ := h47 l hl
    refine mq_iload_n d104_14 rfl rfl ?_
    refine mq_aload_n d104_15 rfl rfl ?_
    refine zg_getR L 47 d104_16 rfl rfl (by decide) rfl (by decide) rfl ?_
    refine mq_iload_n d104_19 rfl rfl ?_
    refine zr_ialdV L ((sz l : Nat)) d104_20 (by decide) rfl (by omega) (s1) ?_
    refine zq_icmp_gt (tgt := 43) d104_21 (by decide) (by omega) (by omega) (fun g1 => ?_) (fun g1 => ?_)
    · have e : totF sz l * fct k = totF sz (l + 1) := by
        show _ = totF sz l * fct (sz l)
        by_cases q : sz l = 0
        · have : k = 1 := by omega
          rw [this, q]
          rfl
        · rw [show k = sz l by omega]
      rw [e] at h5 ⊢
      exact kk _ h5
    · have e2 : ((totF sz l * fct k : Nat) : Int) * ((k + 1 : Nat) : Int) = ((totF sz l * fct (k + 1) : Nat) : Int) := by
        show _ = ((totF sz l * (fct k * (k + 1)) : Nat) : Int)
        rw [← Int.natCast_mul, Nat.mul_assoc]
      have b1 : totF sz l * fct (k + 1) ≤ 5000 * 37 := by
        show totF sz l * (fct k * (k + 1)) ≤ _
        rw [← Nat.mul_assoc]
        exact Nat.mul_le_mul h5 (by omega)
      have e3 : ((k + 1 : Nat) : Int) + 1 = ((k + 1 + 1 : Nat) : Int) := by omega
      refine mq_iload_n d104_24 rfl rfl ?_
      refine mq_iload_n d104_25 rfl rfl ?_
      refine zq_imul d104_26 ?_
      rw [e2]
      refine mq_istore_n d104_27 rfl (Nat.le_of_ble_eq_true rfl) rfl ?_
      refine mq_iload_n d104_28 rfl rfl ?_
      refine zq_sipush d104_29 rfl ?_
      refine zq_icmp_le (tgt := 37) d104_32 (by decide) (by omega) (by omega) (fun g2 => ?_) (fun g2 => ?_)
      · refine zq_iinc d104_37 rfl rfl ?_
        refine mq_goto (tgt := 14) d104_40 (by decide) ?_
        rw [e3]
        exact tm_1 L h47 hl h12 k1 kk j (k + 1) (by omega) (by omega) (by omega) (by omega)
      · refine zq_iconst d104_35 ?_
        refine zg_retz d104_36 rfl (by first | decide | omega) ?_
        refine k1 ?_
        have := tot_part (sz := sz) hl (show k + 1 ≤ sz l by omega)
        omega
set_option maxRecDepth 100000 in
theorem tm_2 (L : Lay K ρ) (h46 : A 46 6 = (h : Nat)) (h47 : ∀ l, l < h → A 47 l = (sz l : Nat) ∧ sz l ≤ 36) (h12 : h ≤ 12) (k1 : 5000 < totF sz h → post (some (.inl (iZ 1))) (123, K, zs (A), ρ)) (k0 : totF sz h ≤ 5000 → post (some (.inl (iZ 0))) (123, K, zs (A), ρ)) : ∀ (j l : Nat) (x3 : Option mj_V), h - l < j → l ≤ h → (∀ y, x3 = some y → ∃ w, y = .inl w) → totF sz l ≤ 5000 → mj_W (mj_lv d) prog_5_method_3_code 3 2 0 0 post 4 [some (.inr (.inl (some 46))), some (.inl (iZ ((totF sz l : Nat)))), some (.inl (iZ ((l : Nat)))), x3] [] (123, K, zs (A), ρ) 0 0
  | 0, l, _, hj, _, _, _ => absurd hj (by omega)
  | j + 1, l, x3, hj, hl, hx3, h5 => by
    refine mq_iload_n d104_4 rfl rfl ?_
    refine mq_aload_n d104_5 rfl rfl ?_
    refine zg_getIe L ((h : Nat)) d104_6 rfl rfl (by decide) rfl (h46) ?_
    refine zq_icmp_ge (tgt := 49) d104_9 (by decide) (by omega) (by omega) (fun g1 => ?_) (fun g1 => ?_)
    · have e : l = h := by omega
      subst e
      refine zq_iconst d104_49 ?_
      refine zg_retz d104_50 rfl (by first | decide | omega) ?_
      exact k0 h5
    · have st3 : mj_ok [some (.inr (.inl (some 46))), some (.inl (iZ ((totF sz l : Nat)))), some (.inl (iZ ((l : Nat)))), x3] 3 = true := by
        cases x3 with
        | none => rfl
        | some y =>
          obtain ⟨w, rfl⟩ := hx3 y rfl
          rfl
      refine zq_iconst d104_12 ?_
      refine mq_istore_n d104_13 rfl (Nat.le_of_ble_eq_true rfl) st3 ?_
      have e1 : totF sz l * fct 1 = totF sz l := by
        show totF sz l * (1 * 1) = _
        omega
      have fin := tm_1 (d := d) (post := post) L h47 (show l < h by omega) h12 k1 (fun x3 h6 => by
        refine zq_iinc d104_43 rfl rfl ?_
        refine mq_goto (tgt := 4) d104_46 (by decide) ?_
        exact tm_2 L h46 h47 h12 k1 k0 j (l + 1) _ (by omega) (by omega) (fun y e => ⟨_, (Option.some.inj e).symm⟩) h6) (sz l + 1) 1 (by omega) (by omega) (by omega) (by rw [e1]; exact h5)
      rw [e1] at fin
      exact fin
set_option maxRecDepth 100000 in
theorem s_hasTooMany (L : Lay K ρ) (h46 : A 46 6 = (h : Nat)) (h47 : ∀ l, l < h → A 47 l = (sz l : Nat) ∧ sz l ≤ 36) (h12 : h ≤ 12) (k1 : 5000 < totF sz h → post (some (.inl (iZ 1))) (123, K, zs (A), ρ)) (k0 : totF sz h ≤ 5000 → post (some (.inl (iZ 0))) (123, K, zs (A), ρ)) : mj_lv (d + 1) m_Permuting_hasTooMany [.inr (.inl (some 46))] (123, K, zs (A), ρ) post := by
  show mj_W (mj_lv d) prog_5_method_3_code 3 2 0 0 post 0 [some (.inr (.inl (some 46))), none, none, none] [] (123, K, zs (A), ρ) 0 0
  refine zq_iconst d104_0 ?_
  refine mq_istore_n d104_1 rfl (Nat.le_of_ble_eq_true rfl) rfl ?_
  refine zq_iconst d104_2 ?_
  refine mq_istore_n d104_3 rfl (Nat.le_of_ble_eq_true rfl) rfl ?_
  exact tm_2 L h46 h47 h12 k1 k0 (h + 1) 0 _ (by omega) (by omega) (fun y e => absurd e (by simp)) (by show 1 ≤ 5000; decide)
end tm
set_option maxRecDepth 100000 in
theorem le_1 (L : Lay K ρ) {F : Nat} (hF : F ≤ 720) (hb : ∀ q, q < F → 0 ≤ A 78 q ∧ A 78 q ≤ 1000000) (kk : ∀ v, (∀ q, q < F → v ≤ A 78 q) → (∃ q, q < F ∧ v = A 78 q) → post (some (.inl (iZ v))) (123, K, zs (A), ρ)) : ∀ (j p : Nat) (v : Int), F - p < j → 1 ≤ p → p ≤ F → (∀ q, q < p → v ≤ A 78 q) → (∃ q, q < p ∧ v = A 78 q) → mj_W (mj_lv d) prog_5_method_5_code 3 1 0 0 post 9 [some (.inr (.inl (some 77))), some (.inl (iZ ((F : Nat)))), some (.inl (iZ (v))), some (.inl (iZ ((p : Nat))))] [] (123, K, zs (A), ρ) 0 0
  | 0, p, _, hj, _, _, _, _ => absurd hj (by omega)
  | j + 1, p, v, hj, p1, hp, hv, hx => by
    have rv : 0 ≤ v ∧ v ≤ 1000000 := by
      obtain ⟨q, q1, q2⟩ := hx
      have := hb q (by omega)
      omega
    have m0 : p < F → F - (p + 1) < j := by omega
    refine mq_iload_n d106_9 rfl rfl ?_
    refine mq_iload_n d106_10 rfl rfl ?_
    refine zq_icmp_ge (tgt := 31) d106_11 (by decide) (by omega) (by omega) (fun g1 => ?_) (fun g1 => ?_)
    · have e : p = F := by omega
      subst e
      refine mq_iload_n d106_31 rfl rfl ?_
      refine zg_reti d106_32 rfl ?_
      exact kk v hv hx
    · have hpF : p < F := by omega
      have rp := hb p hpF
      refine mq_iload_n d106_14 rfl rfl ?_
      refine mq_aload_n d106_15 rfl rfl ?_
      refine zg_getR L 78 d106_16 rfl rfl (by decide) rfl (by decide) rfl ?_
      refine mq_iload_n d106_19 rfl rfl ?_
      refine zg_ialdN L d106_20 (by decide) rfl (by omega) ?_
      refine zr_min d106_21 rfl rfl (by omega) (by omega) ?_
      refine mq_istore_n d106_24 rfl (Nat.le_of_ble_eq_true rfl) rfl ?_
      refine zq_iinc d106_25 rfl rfl ?_
      refine mq_goto (tgt := 9) d106_28 (by decide) ?_
      refine le_1 L hF hb kk j (p + 1) _ (m0 hpF) (by omega) hpF (fun q hq => ?_) ?_
      · by_cases e : q = p
        · rw [e]
          split <;> omega
        · have := hv q (by omega)
          split <;> omega
      · by_cases e : A 78 p < v
        · rw [if_pos e]
          exact ⟨p, by omega, rfl⟩
        · rw [if_neg e]
          obtain ⟨q, q1, q2⟩ := hx
          exact ⟨q, by omega, q2⟩
set_option maxRecDepth 100000 in
theorem s_least (L : Lay K ρ) {F : Nat} (hF : F ≤ 720) (hF1 : 1 ≤ F) (hb : ∀ q, q < F → 0 ≤ A 78 q ∧ A 78 q ≤ 1000000) (kk : ∀ v, (∀ q, q < F → v ≤ A 78 q) → (∃ q, q < F ∧ v = A 78 q) → post (some (.inl (iZ v))) (123, K, zs (A), ρ)) : mj_lv (d + 1) m_Permuting_least [.inr (.inl (some 77)), .inl (iZ (F : Nat))] (123, K, zs (A), ρ) post := by
  show mj_W (mj_lv d) prog_5_method_5_code 3 1 0 0 post 0 [some (.inr (.inl (some 77))), some (.inl (iZ ((F : Nat)))), none, none] [] (123, K, zs (A), ρ) 0 0
  refine mq_aload_n d106_0 rfl rfl ?_
  refine zg_getR L 78 d106_1 rfl rfl (by decide) rfl (by decide) rfl ?_
  refine zq_iconst d106_4 ?_
  refine zg_iald L d106_5 (by decide) rfl (by omega) ?_
  refine mq_istore_n d106_6 rfl (Nat.le_of_ble_eq_true rfl) rfl ?_
  refine zq_iconst d106_7 ?_
  refine mq_istore_n d106_8 rfl (Nat.le_of_ble_eq_true rfl) rfl ?_
  exact le_1 L hF hb kk (F + 1) 1 _ (by omega) (by omega) hF1 (fun q hq => by rw [show q = 0 by omega]; exact Int.le_refl _) ⟨0, by omega, rfl⟩
end sp_pr
