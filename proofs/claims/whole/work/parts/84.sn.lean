-- turning round what stands behind t
def exF (f : Nat → Int) (t o j : Nat) : Int := if j = o then f t else if j = t then f o else f j
def rvF (s t i : Nat) (f : Nat → Int) (j : Nat) : Int := if t < j ∧ j < s ∧ (j < t + 1 + i ∨ s < j + i + 1) then f (s + t - j) else f j
theorem rv_0 {s t : Nat} {f : Nat → Int} {j : Nat} : rvF s t 0 f j = f j := if_neg (by omega)
theorem rv_s {s t i : Nat} {f : Nat → Int} (h : t + 1 + i < s - 1 - i) (j : Nat) : exF (rvF s t i f) (t + 1 + i) (s - 1 - i) j = rvF s t (i + 1) f j := by
  unfold exF rvF
  by_cases e1 : j = s - 1 - i
  · rw [if_pos e1, if_neg (by omega), if_pos (by omega)]
    congr 1
    omega
  · rw [if_neg e1]
    by_cases e2 : j = t + 1 + i
    · rw [if_pos e2, if_neg (by omega), if_pos (by omega)]
      congr 1
      omega
    · rw [if_neg e2]
      by_cases e3 : t < j ∧ j < s ∧ (j < t + 1 + i ∨ s < j + i + 1)
      · rw [if_pos e3, if_pos (by omega)]
      · rw [if_neg e3, if_neg (by omega)]
theorem rv_end {s t o i : Nat} {f : Nat → Int} (ht : t < o) (ho : o < s) (h : s - 1 - t ≤ 2 * i + 1) (hi : 2 * i ≤ s - 1 - t) {j : Nat} (hj : j < s) : rvF s t i (exF f t o) j = nxF s f t o j := by
  unfold rvF nxF exF
  by_cases e1 : j < t
  · rw [if_neg (by omega), if_neg (by omega), if_neg (by omega), if_pos e1]
  · rw [if_neg e1]
    by_cases e2 : j = t
    · rw [if_neg (by omega), if_neg (by omega), if_pos e2, if_pos e2]
    · by_cases e3 : t < j ∧ j < s ∧ (j < t + 1 + i ∨ s < j + i + 1)
      · rw [if_pos e3]
        have e5 : ¬ s + t - j = t := by omega
        by_cases e4 : s + t - j = o
        · simp [e2, e4]
        · simp [e2, e4, e5]
      · rw [if_neg e3]
        have ej : s + t - j = j := by omega
        rw [ej]
        simp [e2]
def fct : Nat → Nat
  | 0 => 1
  | k + 1 => fct k * (k + 1)
theorem fct_pF {s : Nat} (h : s ≤ 6) : fct s = pF s := by
  have := pF6
  rcases (show s = 0 ∨ s = 1 ∨ s = 2 ∨ s = 3 ∨ s = 4 ∨ s = 5 ∨ s = 6 by omega) with e | e | e | e | e | e | e <;> rw [e] <;> simp only [fct] <;> omega
section sp_nx
variable {d : Nat} {post : Option mj_V → mj_H → Prop} {K : Nat → Nat × Nat} {ρ : Nat → Nat → Option Nat} {A : Nat → Nat → Int}
set_option maxRecDepth 100000 in
theorem pr_1 {s : Nat} (hs : s ≤ 6) (kk : post (some (.inl (iZ (pF s : Nat)))) (123, K, zs (A), ρ)) : ∀ (j k : Nat), s - k < j → 1 ≤ k → (k ≤ s ∨ k = 1) → mj_W (mj_lv d) prog_5_method_4_code 3 1 0 0 post 4 [some (.inl (iZ ((s : Nat)))), some (.inl (iZ ((fct k : Nat)))), some (.inl (iZ ((k + 1 : Nat))))] [] (123, K, zs (A), ρ) 0 0
  | 0, k, hj, _, _ => absurd hj (by omega)
  | j + 1, k, hj, k1, hk => by
    refine mq_iload_n d105_4 rfl rfl ?_
    refine mq_iload_n d105_5 rfl rfl ?_
    refine zq_icmp_gt (tgt := 19) d105_6 (by decide) (by omega) (by omega) (fun g => ?_) (fun g => ?_)
    · have e : fct k = pF s := by
        by_cases q : s = 0
        · have : k = 1 := by omega
          rw [this, q, ← fct_pF (by omega)]
          rfl
        · rw [show k = s by omega, fct_pF hs]
      refine mq_iload_n d105_19 rfl rfl ?_
      refine zg_reti d105_20 rfl ?_
      rw [e]
      exact kk
    · have e2 : ((fct k : Nat) : Int) * ((k + 1 : Nat) : Int) = ((fct (k + 1) : Nat) : Int) := by
        show _ = ((fct k * (k + 1) : Nat) : Int)
        rw [Int.natCast_mul]
      have e3 : ((k + 1 : Nat) : Int) + 1 = ((k + 1 + 1 : Nat) : Int) := by omega
      have fin := pr_1 hs kk j (k + 1) (by omega) (by omega) (by omega)
      rw [← e2, ← e3] at fin
      refine mq_iload_n d105_9 rfl rfl ?_
      refine mq_iload_n d105_10 rfl rfl ?_
      refine zq_imul d105_11 ?_
      refine mq_istore_n d105_12 rfl (Nat.le_of_ble_eq_true rfl) rfl ?_
      refine zq_iinc d105_13 rfl rfl ?_
      refine mq_goto (tgt := 4) d105_16 (by decide) ?_
      exact fin
set_option maxRecDepth 100000 in
theorem s_permutations {s : Nat} (hs : s ≤ 6) (kk : post (some (.inl (iZ (pF s : Nat)))) (123, K, zs (A), ρ)) : mj_lv (d + 1) m_Permuting_permutations [.inl (iZ (s : Nat))] (123, K, zs (A), ρ) post := by
  show mj_W (mj_lv d) prog_5_method_4_code 3 1 0 0 post 0 [some (.inl (iZ ((s : Nat)))), none, none] [] (123, K, zs (A), ρ) 0 0
  refine zq_iconst d105_0 ?_
  refine mq_istore_n d105_1 rfl (Nat.le_of_ble_eq_true rfl) rfl ?_
  refine zq_iconst d105_2 ?_
  refine mq_istore_n d105_3 rfl (Nat.le_of_ble_eq_true rfl) rfl ?_
  exact pr_1 hs kk (s + 1) 1 (by omega) (by omega) (by omega)
set_option maxRecDepth 100000 in
theorem sf_1 (L : Lay K ρ) {c : Nat} (hc : c < 123) (hk : ly_kd c = (1, 6)) (kk : ∀ A2, eo [c] A A2 → (∀ j, j < 6 → A2 c j = (j : Nat)) → post none (123, K, zs (A2), ρ)) : ∀ (j i : Nat) (A2 : Nat → Nat → Int), 6 - i < j → i ≤ 6 → eo [c] A A2 → (∀ j, j < i → A2 c j = (j : Nat)) → mj_W (mj_lv d) prog_5_method_9_code 3 0 0 0 post 2 [some (.inr (.inl (some c))), some (.inl (iZ ((i : Nat))))] [] (123, K, zs (A2), ρ) 0 0
  | 0, i, _, hj, _, _, _ => absurd hj (by omega)
  | j + 1, i, A2, hj, hi, hE, hI => by
    refine mq_iload_n d110_2 rfl rfl ?_
    refine zq_bipush d110_3 rfl ?_
    refine zq_icmp_ge (tgt := 18) d110_5 (by decide) (by omega) (by omega) (fun g => ?_) (fun g => ?_)
    · have e : i = 6 := by omega
      subst e
      refine zg_retv d110_18 (by decide) ?_
      exact kk A2 hE hI
    · refine mq_aload_n d110_8 rfl rfl ?_
      refine mq_iload_n d110_9 rfl rfl ?_
      refine mq_iload_n d110_10 rfl rfl ?_
      refine zg_iastN L d110_11 (by omega) (hk) (by omega) ?_
      refine zq_iinc d110_12 rfl rfl ?_
      refine mq_goto (tgt := 2) d110_15 (by decide) ?_
      refine sf_1 L hc hk kk j (i + 1) _ (by omega) (by omega) (eo_u2 (by simp) hE) (fun q hq => ?_)
      by_cases e : q = i
      · rw [e, u2_self]
      · rw [u2_k e]
        exact hI q (by omega)
set_option maxRecDepth 100000 in
theorem s_standFirst (L : Lay K ρ) {c : Nat} (hc : c < 123) (hk : ly_kd c = (1, 6)) (kk : ∀ A2, eo [c] A A2 → (∀ j, j < 6 → A2 c j = (j : Nat)) → post none (123, K, zs (A2), ρ)) : mj_lv (d + 1) m_Permuting_standFirst [.inr (.inl (some c))] (123, K, zs (A), ρ) post := by
  show mj_W (mj_lv d) prog_5_method_9_code 3 0 0 0 post 0 [some (.inr (.inl (some c))), none] [] (123, K, zs (A), ρ) 0 0
  refine zq_iconst d110_0 ?_
  refine mq_istore_n d110_1 rfl (Nat.le_of_ble_eq_true rfl) rfl ?_
  exact sf_1 L hc hk kk 7 0 A (by omega) (by omega) eo_refl (fun j hj => absurd hj (by omega))
set_option maxRecDepth 100000 in
theorem s_exchange (L : Lay K ρ) {c t o : Nat} (hc : c < 123) (hk : ly_kd c = (1, 6)) (ht : t < 6) (ho : o < 6) (kk : ∀ A2, eo [c] A A2 → (∀ j, A2 c j = exF (A c) t o j) → post none (123, K, zs (A2), ρ)) : mj_lv (d + 1) m_Permuting_exchange [.inr (.inl (some c)), .inl (iZ (t : Nat)), .inl (iZ (o : Nat))] (123, K, zs (A), ρ) post := by
  show mj_W (mj_lv d) prog_5_method_11_code 3 0 0 0 post 0 [some (.inr (.inl (some c))), some (.inl (iZ ((t : Nat)))), some (.inl (iZ ((o : Nat)))), none] [] (123, K, zs (A), ρ) 0 0
  refine mq_aload_n d112_0 rfl rfl ?_
  refine mq_iload_n d112_1 rfl rfl ?_
  refine zg_ialdN L d112_2 (by omega) (hk) (by omega) ?_
  refine mq_istore_n d112_3 rfl (Nat.le_of_ble_eq_true rfl) rfl ?_
  refine mq_aload_n d112_4 rfl rfl ?_
  refine mq_iload_n d112_5 rfl rfl ?_
  refine mq_aload_n d112_6 rfl rfl ?_
  refine mq_iload_n d112_7 rfl rfl ?_
  refine zg_ialdN L d112_8 (by omega) (hk) (by omega) ?_
  refine zg_iastN L d112_9 (by omega) (hk) (by omega) ?_
  refine mq_aload_n d112_10 rfl rfl ?_
  refine mq_iload_n d112_11 rfl rfl ?_
  refine mq_iload_n d112_12 rfl rfl ?_
  refine zg_iastN L d112_13 (by omega) (hk) (by omega) ?_
  refine zg_retv d112_14 (by decide) ?_
  refine kk _ (eo_u2 (by simp) (eo_u2 (by simp) eo_refl)) (fun j => ?_)
  rw [u2_at, u2_at]
  unfold exF
  simp
section sn
variable {c s : Nat} {x3 x4 x5 : Option mj_V}
set_option maxRecDepth 100000 in
theorem sn_1 (L : Lay K ρ) (hc : c < 123) (hk : ly_kd c = (1, 6)) (hs : s ≤ 6) (hr : ∀ j, j < s → 0 ≤ A c j ∧ A c j < 100) (hinj : ∀ i j, i < s → j < s → A c i = A c j → i = j)
    (kn : (∀ i, i + 1 < s → A c (i + 1) < A c i) → mj_W (mj_lv (d + 1)) prog_5_method_10_code 3 0 0 0 post 25 [some (.inr (.inl (some c))), some (.inl (iZ ((s : Nat)))), some (.inl (iZ (-1))), x3, x4, x5] [] (123, K, zs (A), ρ) 0 0 ∧ mj_W (mj_lv (d + 1)) prog_5_method_10_code 3 0 0 0 post 25 [some (.inr (.inl (some c))), some (.inl (iZ ((s : Nat)))), some (.inl (iZ (-2))), x3, x4, x5] [] (123, K, zs (A), ρ) 0 0)
    (kk : ∀ t, t + 1 < s → A c t < A c (t + 1) → (∀ i, t < i → i + 1 < s → A c (i + 1) < A c i) → mj_W (mj_lv (d + 1)) prog_5_method_10_code 3 0 0 0 post 25 [some (.inr (.inl (some c))), some (.inl (iZ ((s : Nat)))), some (.inl (iZ ((t : Nat)))), x3, x4, x5] [] (123, K, zs (A), ρ) 0 0) : ∀ (j : Nat) (x : Int), (x + 1).toNat < j → -2 ≤ x → x ≤ (s : Int) - 2 → (x = -2 → s = 0) → (∀ i, x < (i : Nat) → i + 1 < s → A c (i + 1) < A c i) → mj_W (mj_lv (d + 1)) prog_5_method_10_code 3 0 0 0 post 4 [some (.inr (.inl (some c))), some (.inl (iZ ((s : Nat)))), some (.inl (iZ (x))), x3, x4, x5] [] (123, K, zs (A), ρ) 0 0
  | 0, x, hj, _, _, _, _ => absurd hj (by omega)
  | j + 1, x, hj, x1, x2, x3', hI => by
    refine mq_iload_n d111_4 rfl rfl ?_
    refine zq_if_lt (tgt := 25) d111_5 (by decide) (by omega) (fun g1 => ?_) (fun g1 => ?_)
    · have := kn (fun i hi => hI i (by omega) hi)
      by_cases e : x = -1
      · rw [e]
        exact this.1
      · rw [show x = -2 by omega]
        exact this.2
    · obtain ⟨t, ht⟩ : ∃ t : Nat, x = t := ⟨x.toNat, by omega⟩
      subst ht
      have hts : t + 1 < s := by omega
      have r1 := hr t (by omega)
      have r2 := hr (t + 1) hts
      have e1 : ((t : Int) + 1) = ((t + 1 : Nat) : Int) := by omega
      refine mq_aload_n d111_8 rfl rfl ?_
      refine mq_iload_n d111_9 rfl rfl ?_
      refine zg_ialdN L d111_10 (by omega) (hk) (by omega) ?_
      refine mq_aload_n d111_11 rfl rfl ?_
      refine mq_iload_n d111_12 rfl rfl ?_
      refine zq_iconst d111_13 ?_
      refine zq_iadd d111_14 ?_
      rw [e1]
      refine zg_ialdN L d111_15 (by omega) (hk) (by omega) ?_
      refine zq_icmp_le (tgt := 25) d111_16 (by decide) (by omega) (by omega) (fun g2 => ?_) (fun g2 => ?_)
      · refine kk t hts ?_ (fun i hi => hI i (by omega))
        have : A c t ≠ A c (t + 1) := fun e => by have := hinj t (t + 1) (by omega) hts e; omega
        omega
      · refine zq_iinc d111_19 rfl rfl ?_
        refine mq_goto (tgt := 4) d111_22 (by decide) ?_
        refine sn_1 L hc hk hs hr hinj kn kk j _ (by omega) (by omega) (by omega) (by omega) (fun i hi his => ?_)
        by_cases e : i = t
        · rw [e]
          exact g2
        · exact hI i (by omega) his
set_option maxRecDepth 100000 in
theorem sn_2 (L : Lay K ρ) (hc : c < 123) (hk : ly_kd c = (1, 6)) (hs : s ≤ 6) (hr : ∀ j, j < s → 0 ≤ A c j ∧ A c j < 100) (hinj : ∀ i j, i < s → j < s → A c i = A c j → i = j) {t : Nat} (ht : t + 1 < s) (h1 : A c t < A c (t + 1))
    (kk : ∀ o, t < o → o < s → A c t < A c o → (∀ i, o < i → i < s → A c i < A c t) → mj_W (mj_lv (d + 1)) prog_5_method_10_code 3 0 0 0 post 54 [some (.inr (.inl (some c))), some (.inl (iZ ((s : Nat)))), some (.inl (iZ ((t : Nat)))), some (.inl (iZ ((o : Nat)))), x4, x5] [] (123, K, zs (A), ρ) 0 0) : ∀ (j o : Nat), o < j → t < o → o < s → (∀ i, o < i → i < s → A c i < A c t) → mj_W (mj_lv (d + 1)) prog_5_method_10_code 3 0 0 0 post 34 [some (.inr (.inl (some c))), some (.inl (iZ ((s : Nat)))), some (.inl (iZ ((t : Nat)))), some (.inl (iZ ((o : Nat)))), x4, x5] [] (123, K, zs (A), ρ) 0 0
  | 0, o, hj, _, _, _ => absurd hj (by omega)
  | j + 1, o, hj, ho, hos, hI => by
    have r1 := hr t (by omega)
    have r2 := hr o hos
    refine mq_iload_n d111_34 rfl rfl ?_
    refine mq_iload_n d111_35 rfl rfl ?_
    refine zq_icmp_le (tgt := 54) d111_36 (by decide) (by omega) (by omega) (fun g1 => ?_) (fun g1 => ?_)
    · omega
    · refine mq_aload_n d111_39 rfl rfl ?_
      refine mq_iload_n d111_40 rfl rfl ?_
      refine zg_ialdN L d111_41 (by omega) (hk) (by omega) ?_
      refine mq_aload_n d111_42 rfl rfl ?_
      refine mq_iload_n d111_43 rfl rfl ?_
      refine zg_ialdN L d111_44 (by omega) (hk) (by omega) ?_
      refine zq_icmp_ge (tgt := 54) d111_45 (by decide) (by omega) (by omega) (fun g2 => ?_) (fun g2 => ?_)
      · refine kk o ho hos ?_ hI
        have : A c t ≠ A c o := fun e => by have := hinj t o (by omega) hos e; omega
        omega
      · have ne : o ≠ t + 1 := fun e => by rw [e] at g2; omega
        have e1 : ((o : Nat) : Int) + -1 = ((o - 1 : Nat) : Int) := by omega
        refine zq_iinc d111_48 rfl rfl ?_
        refine mq_goto (tgt := 34) d111_51 (by decide) ?_
        rw [e1]
        refine sn_2 L hc hk hs hr hinj ht h1 kk j (o - 1) (by omega) (by omega) (by omega) (fun i hi his => ?_)
        by_cases e : i = o
        · rw [e]
          exact g2
        · exact hI i (by omega) his
set_option maxRecDepth 100000 in
theorem sn_3 (L : Lay K ρ) (hc : c < 123) (hk : ly_kd c = (1, 6)) (hs : s ≤ 6) {t : Nat} (ht : t + 1 < s) {o : Int32} {f : Nat → Int}
    (kk : ∀ A2, eo [c] A A2 → (∀ j, A2 c j = rvF s t ((s - 1 - t) / 2) f j) → post none (123, K, zs (A2), ρ)) : ∀ (j i : Nat) (A2 : Nat → Nat → Int), (s - 1 - t) / 2 - i < j → i ≤ (s - 1 - t) / 2 → eo [c] A A2 → (∀ j, A2 c j = rvF s t i f j) → mj_W (mj_lv (d + 1)) prog_5_method_10_code 3 0 0 0 post 70 [some (.inr (.inl (some c))), some (.inl (iZ ((s : Nat)))), some (.inl (iZ ((t : Nat)))), some (.inl o), some (.inl (iZ ((s - 1 - t : Nat)))), some (.inl (iZ ((i : Nat))))] [] (123, K, zs (A2), ρ) 0 0
  | 0, i, _, hj, _, _, _ => absurd hj (by omega)
  | j + 1, i, A2, hj, hi, hE, hI => by
    refine mq_iload d111_70 rfl ?_
    refine mq_iload d111_72 rfl ?_
    refine zq_iconst d111_74 ?_
    refine zr_idiv d111_75 (by omega) (by omega) ?_
    refine zq_icmp_ge (tgt := 101) d111_76 (by decide) (by omega) (by omega) (fun g1 => ?_) (fun g1 => ?_)
    · have e : i = (s - 1 - t) / 2 := by omega
      subst e
      refine zg_retv d111_101 (by decide) ?_
      exact kk A2 hE hI
    · have e1 : (t : Int) + 1 + (i : Int) = ((t + 1 + i : Nat) : Int) := by omega
      have e2 : (s : Int) - 1 - (i : Int) = ((s - 1 - i : Nat) : Int) := by omega
      refine mq_aload_n d111_79 rfl rfl ?_
      refine mq_iload_n d111_80 rfl rfl ?_
      refine zq_iconst d111_81 ?_
      refine zq_iadd d111_82 ?_
      refine mq_iload d111_83 rfl ?_
      refine zq_iadd d111_85 ?_
      rw [e1]
      refine mq_iload_n d111_86 rfl rfl ?_
      refine zq_iconst d111_87 ?_
      refine zq_isub d111_88 ?_
      refine mq_iload d111_89 rfl ?_
      refine zq_isub d111_91 ?_
      rw [e2]
      refine zg_callS [_, _, _] d111_92 rfl rfl ⟨rfl, rfl⟩ rfl ⟨rfl, rfl⟩ ⟨by decide, by decide⟩ ?_
      refine s_exchange (A := A2) (d := d) L hc hk (by omega) (by omega) (fun A3 e3 h3 => ?_)
      refine zq_iinc d111_95 rfl rfl ?_
      refine mq_goto (tgt := 70) d111_98 (by decide) ?_
      refine sn_3 L hc hk hs ht kk j (i + 1) A3 (by omega) (by omega) (eo_trans hE e3) (fun q => ?_)
      rw [h3 q, show A2 c = rvF s t i f from funext hI]
      exact rv_s (by omega) q
set_option maxRecDepth 100000 in
theorem s_standNext (L : Lay K ρ) (hc : c < 123) (hk : ly_kd c = (1, 6)) (hs : s ≤ 6) {k : Nat} (hkp : k < pF s) (hA : ∀ j, j < s → A c j = (pk s k j : Nat)) (h6 : ∀ j, s ≤ j → j < 6 → A c j = (j : Nat))
    (kk : ∀ A2, eo [c] A A2 → (∀ j, j < s → A2 c j = (pk s (if k + 1 < pF s then k + 1 else k) j : Nat)) → (∀ j, s ≤ j → j < 6 → A2 c j = (j : Nat)) → post none (123, K, zs (A2), ρ)) : mj_lv (d + 2) m_Permuting_standNext [.inr (.inl (some c)), .inl (iZ (s : Nat))] (123, K, zs (A), ρ) post := by
  have hp := pk_perm hs hkp
  have hr : ∀ j, j < s → 0 ≤ A c j ∧ A c j < 100 := fun j hj => by
    rw [hA j hj]
    have := hp.1 j hj
    omega
  have hinj : ∀ i j, i < s → j < s → A c i = A c j → i = j := fun i j hi hj e => by
    rw [hA i hi, hA j hj] at e
    exact hp.2 i j hi hj (by omega)
  have hb : ∀ i j, i < j → j < s → (fun i : Nat => ((i : Nat) : Int)) i < (fun i : Nat => ((i : Nat) : Int)) j := fun i j h1 _ => by
    show (i : Int) < (j : Int)
    omega
  show mj_W (mj_lv (d + 1)) prog_5_method_10_code 3 0 0 0 post 0 [some (.inr (.inl (some c))), some (.inl (iZ ((s : Nat)))), none, none, none, none] [] (123, K, zs (A), ρ) 0 0
  refine mq_iload_n d111_0 rfl rfl ?_
  refine zq_iconst d111_1 ?_
  refine zq_isub d111_2 ?_
  refine mq_istore_n d111_3 rfl (Nat.le_of_ble_eq_true rfl) rfl ?_
  refine sn_1 L hc hk hs hr hinj (fun hl => ?_) (fun t ht h1 h2 => ?_) (s + 1) _ (by omega) (by omega) (by omega) (by omega) (fun i hi his => by omega)
  · have e := row_last hs hkp hb (fun i hi => by
      have := hl i hi
      rw [hA i (by omega), hA (i + 1) hi] at this
      exact this)
    have fin : post none (123, K, zs (A), ρ) := kk A eo_refl (fun j hj => by rw [if_neg (by omega)]; exact hA j hj) h6
    refine ⟨?_, ?_⟩
    · refine mq_iload_n d111_25 rfl rfl ?_
      refine zq_if_ge (tgt := 30) d111_26 (by decide) (by omega) (fun g1 => ?_) (fun g1 => ?_)
      · exact absurd g1 (by decide)
      · refine zg_retv d111_29 (by decide) ?_
        exact fin
    · refine mq_iload_n d111_25 rfl rfl ?_
      refine zq_if_ge (tgt := 30) d111_26 (by decide) (by omega) (fun g1 => ?_) (fun g1 => ?_)
      · exact absurd g1 (by decide)
      · refine zg_retv d111_29 (by decide) ?_
        exact fin
  · refine mq_iload_n d111_25 rfl rfl ?_
    refine zq_if_ge (tgt := 30) d111_26 (by decide) (by omega) (fun g1 => ?_) (fun g1 => ?_)
    · have e1 : (s : Int) - 1 = ((s - 1 : Nat) : Int) := by omega
      refine mq_iload_n d111_30 rfl rfl ?_
      refine zq_iconst d111_31 ?_
      refine zq_isub d111_32 ?_
      rw [e1]
      refine mq_istore_n d111_33 rfl (Nat.le_of_ble_eq_true rfl) rfl ?_
      refine sn_2 L hc hk hs hr hinj ht h1 (fun o ho hos h3 h4 => ?_) s (s - 1) (by omega) (by omega) (by omega) (fun i hi his => by omega)
      have hnx : nxP s (fun j => (fun i : Nat => ((i : Nat) : Int)) (pk s k j)) t o := by
        refine ⟨ho, hos, ?_, fun i a b => ?_, ?_, fun i a b => ?_⟩
        · show ((pk s k t : Nat) : Int) < ((pk s k (t + 1) : Nat) : Int)
          rw [← hA t (by omega), ← hA (t + 1) ht]
          exact h1
        · show ((pk s k (i + 1) : Nat) : Int) < ((pk s k i : Nat) : Int)
          rw [← hA i (by omega), ← hA (i + 1) b]
          exact h2 i a b
        · show ((pk s k t : Nat) : Int) < ((pk s k o : Nat) : Int)
          rw [← hA t (by omega), ← hA o hos]
          exact h3
        · show ((pk s k i : Nat) : Int) < ((pk s k t : Nat) : Int)
          rw [← hA t (by omega), ← hA i b]
          exact h4 i a b
      have hrow := row_next hs hkp hb hnx
      refine mq_aload_n d111_54 rfl rfl ?_
      refine mq_iload_n d111_55 rfl rfl ?_
      refine mq_iload_n d111_56 rfl rfl ?_
      refine zg_callS [_, _, _] d111_57 rfl rfl ⟨rfl, rfl⟩ rfl ⟨rfl, rfl⟩ ⟨by decide, by decide⟩ ?_
      refine s_exchange (d := d) L hc hk (by omega) (by omega) (fun A2 e2 hx2 => ?_)
      have e3 : (s : Int) - 1 - (t : Int) = ((s - 1 - t : Nat) : Int) := by omega
      refine mq_iload_n d111_60 rfl rfl ?_
      refine zq_iconst d111_61 ?_
      refine zq_isub d111_62 ?_
      refine mq_iload_n d111_63 rfl rfl ?_
      refine zq_isub d111_64 ?_
      rw [e3]
      refine mq_istore d111_65 (Nat.le_of_ble_eq_true rfl) rfl ?_
      refine zq_iconst d111_67 ?_
      refine mq_istore d111_68 (Nat.le_of_ble_eq_true rfl) rfl ?_
      refine sn_3 (A := A2) (f := exF (A c) t o) L hc hk hs ht (fun A3 e3 hx3 => ?_) (s + 1) 0 A2 (by omega) (by omega) eo_refl (fun j => by rw [rv_0]; exact hx2 j)
      refine kk A3 (eo_trans e2 e3) (fun j hj => ?_) (fun j h7 h8 => ?_)
      · rw [hx3 j, rv_end ho hos (by omega) (by omega) hj, if_pos hrow.1]
        have := hrow.2 j hj
        rw [← this]
        unfold nxF
        by_cases q1 : j < t
        · rw [if_pos q1, if_pos q1, hA j hj]
        · rw [if_neg q1, if_neg q1]
          by_cases q2 : j = t
          · rw [if_pos q2, if_pos q2, hA o hos]
          · rw [if_neg q2, if_neg q2]
            by_cases q3 : s + t - j = o
            · rw [if_pos q3, if_pos q3, hA t (by omega)]
            · rw [if_neg q3, if_neg q3, hA _ (by omega)]
      · rw [hx3 j]
        unfold rvF exF
        rw [if_neg (by omega), if_neg (by omega), if_neg (by omega)]
        exact h6 j h7 h8
    · omega
end sn
end sp_nx
