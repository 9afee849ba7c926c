section sp_tm
variable {d : Nat} {post : Option mj_V → mj_H → Prop} {K : Nat → Nat × Nat} {ρ : Nat → Nat → Option Nat} {A : Nat → Nat → Int} {n m : Nat} {fr to : Nat → Nat} {th w pr : Nat → Int} {pos dp : Nat → Nat}
/-- the model's graph for trees -/
def tgM (A : Nat → Nat → Int) (n m : Nat) (fr to : Nat → Nat) (th w : Nat → Int) : Prop := A 93 0 = (n : Nat) ∧ A 93 1 = (m : Nat) ∧ n ≤ 12 ∧ m ≤ 24 ∧ (∀ a, a < m → (A 95 a = (fr a : Nat) ∧ A 96 a = (to a : Nat)) ∧ (fr a < n ∧ to a < n) ∧ A 97 a = th a ∧ (th a = 0 ∨ th a = 1)) ∧ ∀ v, v < n → A 94 v = w v ∧ 1 ≤ w v ∧ w v ≤ 9
theorem tgM_eo {B : Nat → Nat → Int} (h : tgM A n m fr to th w) (e : ∀ c, 93 ≤ c → c ≤ 97 → B c = A c) : tgM B n m fr to th w := by
  unfold tgM at *
  rw [e 93 (by decide) (by decide), e 94 (by decide) (by decide), e 95 (by decide) (by decide), e 96 (by decide) (by decide), e 97 (by decide) (by decide)]
  exact h
section rm
variable {O S : Nat}
set_option maxRecDepth 100000 in
theorem ro_1 (L : Lay K ρ) (hG : tgM A n m fr to th w) (hS : S < 2147483648) (rS : ∀ u, u < n → sB S u = 1 → -1000 ≤ A 121 u ∧ A 121 u ≤ 1000) {x5 x6 : Option mj_V}
    (kk : ∀ x, (∀ u, u < n → sB S u = 1 → -A 121 u ≤ x) → (x = -10000 ∨ ∃ u, u < n ∧ sB S u = 1 ∧ x = -A 121 u) → mj_W (mj_lv d) prog_11_method_48_code 9 1 0 0 post 57 [some (.inr (.inl (some 93))), some (.inl (iZ ((O : Nat)))), some (.inl (iZ ((S : Nat)))), some (.inl (iZ (x))), some (.inl (iZ ((n : Nat)))), x5, x6] [] (123, K, zs (A), ρ) 0 0) : ∀ (j i : Nat) (x : Int), n - i < j → i ≤ n → (∀ u, u < i → sB S u = 1 → -A 121 u ≤ x) → (x = -10000 ∨ ∃ u, u < i ∧ sB S u = 1 ∧ x = -A 121 u) → (-10000 ≤ x ∧ x ≤ 1000) → mj_W (mj_lv d) prog_11_method_48_code 9 1 0 0 post 7 [some (.inr (.inl (some 93))), some (.inl (iZ ((O : Nat)))), some (.inl (iZ ((S : Nat)))), some (.inl (iZ (x))), some (.inl (iZ ((i : Nat)))), x5, x6] [] (123, K, zs (A), ρ) 0 0
  | 0, i, _, hj, _, _, _, _ => absurd hj (by omega)
  | j + 1, i, x, hj, hi, h1, h2, rx => by
    obtain ⟨q1, q2, q3, q4, q5, q6⟩ := id hG
    have m0 : i < n → n - (i + 1) < j := by omega
    have sb := sB01 S i
    have h2' : hideQ (x = -10000 ∨ ∃ u, u < i ∧ sB S u = 1 ∧ x = -A 121 u) := ⟨trivial, h2⟩
    clear h2
    refine mq_iload d72_7 rfl ?_
    refine mq_aload_n d72_9 rfl rfl ?_
    refine zg_getIe L ((n : Nat)) d72_10 rfl rfl (by decide) rfl (q1) ?_
    refine zq_icmp_ge (tgt := 57) d72_13 (by decide) (by omega) (by omega) (fun g1 => ?_) (fun g1 => ?_)
    · have e : i = n := by omega
      subst e
      exact kk x h1 h2'.2
    · have hin : i < n := by omega
      have keep : (sB S i = 1 → -A 121 i ≤ x) → mj_W (mj_lv d) prog_11_method_48_code 9 1 0 0 post 49 [some (.inr (.inl (some 93))), some (.inl (iZ ((O : Nat)))), some (.inl (iZ ((S : Nat)))), some (.inl (iZ (x))), some (.inl (iZ ((i : Nat)))), x5, x6] [] (123, K, zs (A), ρ) 0 0 := fun q => by
        refine mq_iload_n d72_49 rfl rfl ?_
        refine mq_istore_n d72_50 rfl (Nat.le_of_ble_eq_true rfl) rfl ?_
        refine zq_iinc d72_51 rfl rfl ?_
        refine mq_goto (tgt := 7) d72_54 (by decide) ?_
        refine ro_1 L hG hS rS kk j (i + 1) x (m0 hin) hin (fun u hu s => ?_) ?_ rx
        · by_cases e : u = i
          · rw [e] at s ⊢
            exact q s
          · exact h1 u (by omega) s
        · rcases h2'.2 with y | ⟨u, y1, y2⟩
          · exact Or.inl y
          · exact Or.inr ⟨u, by omega, y2⟩
      refine mq_iload_n d72_16 rfl rfl ?_
      refine mq_iload d72_17 rfl ?_
      refine zr_sb d72_19 d72_20 d72_21 (by omega) ?_
      refine zq_iconst d72_22 ?_
      refine zq_icmp_ne (tgt := 49) d72_23 (by decide) (by omega) (by omega) (fun g2 => ?_) (fun g2 => ?_)
      · exact keep (fun q => absurd q g2)
      · have rT := rS i hin g2
        refine mq_aload_n d72_26 rfl rfl ?_
        refine zg_getR L 121 d72_27 rfl rfl (by decide) rfl (by decide) rfl ?_
        refine mq_iload d72_30 rfl ?_
        refine zg_ialdN L d72_32 (by decide) rfl (by omega) ?_
        refine zq_ineg d72_33 ?_
        refine mq_iload_n d72_34 rfl rfl ?_
        refine zq_icmp_le (tgt := 49) d72_35 (by decide) (by omega) (by omega) (fun g3 => ?_) (fun g3 => ?_)
        · exact keep (fun _ => g3)
        · refine mq_aload_n d72_38 rfl rfl ?_
          refine zg_getR L 121 d72_39 rfl rfl (by decide) rfl (by decide) rfl ?_
          refine mq_iload d72_42 rfl ?_
          refine zg_ialdN L d72_44 (by decide) rfl (by omega) ?_
          refine zq_ineg d72_45 ?_
          refine mq_goto (tgt := 50) d72_46 (by decide) ?_
          refine mq_istore_n d72_50 rfl (Nat.le_of_ble_eq_true rfl) rfl ?_
          refine zq_iinc d72_51 rfl rfl ?_
          refine mq_goto (tgt := 7) d72_54 (by decide) ?_
          refine ro_1 L hG hS rS kk j (i + 1) _ (m0 hin) hin (fun u hu s => ?_) (Or.inr ⟨i, by omega, g2, rfl⟩) (by omega)
          by_cases e : u = i
          · rw [e]
            exact Int.le_refl _
          · have := h1 u (by omega) s
            omega
set_option maxRecDepth 100000 in
theorem ro_2 (L : Lay K ρ) (hG : tgM A n m fr to th w) (h119 : ∀ u, u < n → A 119 u = (dp u : Nat) ∧ dp u < 12) (hO : O < 2147483648) (hS : S < 2147483648) (rS : ∀ u, u < n → sB S u = 1 → -1000 ≤ A 121 u ∧ A 121 u ≤ 1000) (rO : ∀ u, u < n → sB O u = 1 → -1000 ≤ A 121 u ∧ A 121 u ≤ 1000) {a : Nat} (ha : a < n)
    (kk : ∀ x x5 x6, sbI n w dp (A 121) O S (fun a' _ => a' < a + 1) x → (∀ y, x6 = some y → ∃ w, y = .inl w) → mj_W (mj_lv d) prog_11_method_48_code 9 1 0 0 post 164 [some (.inr (.inl (some 93))), some (.inl (iZ ((O : Nat)))), some (.inl (iZ ((S : Nat)))), some (.inl (iZ (x))), some (.inl (iZ ((a : Nat)))), some (.inl x5), x6] [] (123, K, zs (A), ρ) 0 0) : ∀ (j b : Nat) (x : Int) (x6 : Option mj_V), n - b < j → b ≤ n → (∀ y, x6 = some y → ∃ w, y = .inl w) → sbI n w dp (A 121) O S (fun a' b' => a' < a ∨ (a' = a ∧ b' < b)) x → mj_W (mj_lv d) prog_11_method_48_code 9 1 0 0 post 72 [some (.inr (.inl (some 93))), some (.inl (iZ ((O : Nat)))), some (.inl (iZ ((S : Nat)))), some (.inl (iZ (x))), some (.inl (iZ ((a : Nat)))), some (.inl (iZ ((b : Nat)))), x6] [] (123, K, zs (A), ρ) 0 0
  | 0, b, _, _, hj, _, _, _ => absurd hj (by omega)
  | j + 1, b, x, x6, hj, hb, hx6, hI => by
    obtain ⟨q1, q2, q3, q4, q5, q6⟩ := id hG
    have rx := sbI_rng hI rS rO (fun u hu => (q6 u hu).2)
    have m0 : b < n → n - (b + 1) < j := by omega
    have hI' : hideQ (sbI n w dp (A 121) O S (fun a' b' => a' < a ∨ (a' = a ∧ b' < b)) x) := ⟨trivial, hI⟩
    clear hI
    refine mq_iload d72_72 rfl ?_
    refine mq_aload_n d72_74 rfl rfl ?_
    refine zg_getIe L ((n : Nat)) d72_75 rfl rfl (by decide) rfl (q1) ?_
    refine zq_icmp_ge (tgt := 164) d72_78 (by decide) (by omega) (by omega) (fun g1 => ?_) (fun g1 => ?_)
    · have e : b = n := by omega
      subst e
      exact kk x _ x6 ⟨hI'.2.1, fun a' b' h1 h2 h3 h4 h5 h6 => hI'.2.2.1 a' b' h1 h2 (by omega) h4 h5 h6, hI'.2.2.2⟩ hx6
    · have hbn : b < n := by omega
      obtain ⟨d1, d2⟩ := h119 a ha
      obtain ⟨d3, d4⟩ := h119 b hbn
      obtain ⟨w1, w2, w3⟩ := q6 a ha
      have st6 : mj_ok [some (.inr (.inl (some 93))), some (.inl (iZ ((O : Nat)))), some (.inl (iZ ((S : Nat)))), some (.inl (iZ (x))), some (.inl (iZ ((a : Nat)))), some (.inl (iZ ((b : Nat)))), x6] 6 = true := by
        cases x6 with
        | none => rfl
        | some y =>
          obtain ⟨w, rfl⟩ := hx6 y rfl
          rfl
      have s1 := sB01 S b
      have s2 := sB01 O a
      have no : ¬ (sB O a = 1 ∧ sB S b = 1 ∧ dp a = dp b) → mj_W (mj_lv d) prog_11_method_48_code 9 1 0 0 post 158 [some (.inr (.inl (some 93))), some (.inl (iZ ((O : Nat)))), some (.inl (iZ ((S : Nat)))), some (.inl (iZ (x))), some (.inl (iZ ((a : Nat)))), some (.inl (iZ ((b : Nat)))), x6] [] (123, K, zs (A), ρ) 0 0 := fun q => by
        refine zq_iinc d72_158 rfl rfl ?_
        refine mq_goto (tgt := 72) d72_161 (by decide) ?_
        refine ro_2 L hG h119 hO hS rS rO ha kk j (b + 1) x x6 (m0 hbn) hbn hx6 (sbI_no hI'.2 (fun a' b' h => ?_))
        by_cases e : a' = a ∧ b' = b
        · right
          rw [e.1, e.2]
          exact q
        · left
          omega
      refine mq_iload_n d72_81 rfl rfl ?_
      refine mq_iload d72_82 rfl ?_
      refine zr_sb d72_84 d72_85 d72_86 (by omega) ?_
      refine zq_iconst d72_87 ?_
      refine zq_icmp_ne (tgt := 158) d72_88 (by decide) (by omega) (by omega) (fun g2 => ?_) (fun g2 => ?_)
      · exact no (fun q => g2 q.1)
      · refine mq_iload_n d72_91 rfl rfl ?_
        refine mq_iload d72_92 rfl ?_
        refine zr_sb d72_94 d72_95 d72_96 (by omega) ?_
        refine zq_iconst d72_97 ?_
        refine zq_icmp_ne (tgt := 158) d72_98 (by decide) (by omega) (by omega) (fun g3 => ?_) (fun g3 => ?_)
        · exact no (fun q => g3 q.2.1)
        · refine mq_aload_n d72_101 rfl rfl ?_
          refine zg_getR L 119 d72_102 rfl rfl (by decide) rfl (by decide) rfl ?_
          refine mq_iload d72_105 rfl ?_
          refine zr_ialdV L ((dp a : Nat)) d72_107 (by decide) rfl (by omega) (d1) ?_
          refine mq_aload_n d72_108 rfl rfl ?_
          refine zg_getR L 119 d72_109 rfl rfl (by decide) rfl (by decide) rfl ?_
          refine mq_iload d72_112 rfl ?_
          refine zr_ialdV L ((dp b : Nat)) d72_114 (by decide) rfl (by omega) (d3) ?_
          refine zq_icmp_ne (tgt := 158) d72_115 (by decide) (by omega) (by omega) (fun g4 => ?_) (fun g4 => ?_)
          · exact no (fun q => by omega)
          · have ra := rO a ha g2
            have rb := rS b hbn g3
            have yes : ∀ x2, x2 = (if x < A 121 a + w a + 1 - A 121 b then A 121 a + w a + 1 - A 121 b else x) → sbI n w dp (A 121) O S (fun a' b' => a' < a ∨ (a' = a ∧ b' < b + 1)) x2 := fun x2 hx2 => sbI_yes ha hbn g2 g3 (by omega) hI'.2 (fun a' b' h => by
              by_cases e : a' = a ∧ b' = b
              · exact Or.inr e
              · left
                omega) hx2
            refine mq_aload_n d72_118 rfl rfl ?_
            refine zg_getR L 121 d72_119 rfl rfl (by decide) rfl (by decide) rfl ?_
            refine mq_iload d72_122 rfl ?_
            refine zg_ialdN L d72_124 (by decide) rfl (by omega) ?_
            refine mq_aload_n d72_125 rfl rfl ?_
            refine zg_getR L 94 d72_126 rfl rfl (by decide) rfl (by decide) rfl ?_
            refine mq_iload d72_129 rfl ?_
            refine zr_ialdV L (w a) d72_131 (by decide) rfl (by omega) (w1) ?_
            refine zq_iadd d72_132 ?_
            refine zq_iconst d72_133 ?_
            refine zq_iadd d72_134 ?_
            refine mq_aload_n d72_135 rfl rfl ?_
            refine zg_getR L 121 d72_136 rfl rfl (by decide) rfl (by decide) rfl ?_
            refine mq_iload d72_139 rfl ?_
            refine zg_ialdN L d72_141 (by decide) rfl (by omega) ?_
            refine zq_isub d72_142 ?_
            refine mq_istore d72_143 (Nat.le_of_ble_eq_true rfl) st6 ?_
            refine mq_iload d72_145 rfl ?_
            refine mq_iload_n d72_147 rfl rfl ?_
            refine zq_icmp_le (tgt := 156) d72_148 (by decide) (by omega) (by omega) (fun g5 => ?_) (fun g5 => ?_)
            · refine mq_iload_n d72_156 rfl rfl ?_
              refine mq_istore_n d72_157 rfl (Nat.le_of_ble_eq_true rfl) rfl ?_
              refine zq_iinc d72_158 rfl rfl ?_
              refine mq_goto (tgt := 72) d72_161 (by decide) ?_
              exact ro_2 L hG h119 hO hS rS rO ha kk j (b + 1) x _ (m0 hbn) hbn (fun y e => ⟨_, (Option.some.inj e).symm⟩) (yes x (by rw [if_neg (by omega)]))
            · refine mq_iload d72_151 rfl ?_
              refine mq_goto (tgt := 157) d72_153 (by decide) ?_
              refine mq_istore_n d72_157 rfl (Nat.le_of_ble_eq_true rfl) rfl ?_
              refine zq_iinc d72_158 rfl rfl ?_
              refine mq_goto (tgt := 72) d72_161 (by decide) ?_
              exact ro_2 L hG h119 hO hS rS rO ha kk j (b + 1) _ _ (m0 hbn) hbn (fun y e => ⟨_, (Option.some.inj e).symm⟩) (yes _ (by rw [if_pos (by omega)]))
set_option maxRecDepth 100000 in
theorem ro_3 (L : Lay K ρ) (hG : tgM A n m fr to th w) (h119 : ∀ u, u < n → A 119 u = (dp u : Nat) ∧ dp u < 12) (hO : O < 2147483648) (hS : S < 2147483648) (rS : ∀ u, u < n → sB S u = 1 → -1000 ≤ A 121 u ∧ A 121 u ≤ 1000) (rO : ∀ u, u < n → sB O u = 1 → -1000 ≤ A 121 u ∧ A 121 u ≤ 1000)
    (kk : ∀ x, rmX n w dp (A 121) O S x → post (some (.inl (iZ x))) (123, K, zs (A), ρ)) : ∀ (j a : Nat) (x : Int) (x5 x6 : Option mj_V), n - a < j → a ≤ n → (∀ y, x5 = some y → ∃ w, y = .inl w) → (∀ y, x6 = some y → ∃ w, y = .inl w) → sbI n w dp (A 121) O S (fun a' _ => a' < a) x → mj_W (mj_lv d) prog_11_method_48_code 9 1 0 0 post 60 [some (.inr (.inl (some 93))), some (.inl (iZ ((O : Nat)))), some (.inl (iZ ((S : Nat)))), some (.inl (iZ (x))), some (.inl (iZ ((a : Nat)))), x5, x6] [] (123, K, zs (A), ρ) 0 0
  | 0, a, _, _, _, hj, _, _, _, _ => absurd hj (by omega)
  | j + 1, a, x, x5, x6, hj, ha, hx5, hx6, hI => by
    have q1 := hG.1
    have q3 := hG.2.2.1
    have m0 : a < n → n - (a + 1) < j := by omega
    have hI' : hideQ (sbI n w dp (A 121) O S (fun a' _ => a' < a) x) := ⟨trivial, hI⟩
    clear hI
    refine mq_iload d72_60 rfl ?_
    refine mq_aload_n d72_62 rfl rfl ?_
    refine zg_getIe L ((n : Nat)) d72_63 rfl rfl (by decide) rfl (q1) ?_
    refine zq_icmp_ge (tgt := 170) d72_66 (by decide) (by omega) (by omega) (fun g1 => ?_) (fun g1 => ?_)
    · have e : a = n := by omega
      subst e
      refine mq_iload_n d72_170 rfl rfl ?_
      refine zg_reti d72_171 rfl ?_
      exact kk x ⟨hI'.2.1, fun a b h1 h2 h4 h5 h6 => hI'.2.2.1 a b h1 h2 h1 h4 h5 h6, hI'.2.2.2⟩
    · have han : a < n := by omega
      have st5 : mj_ok [some (.inr (.inl (some 93))), some (.inl (iZ ((O : Nat)))), some (.inl (iZ ((S : Nat)))), some (.inl (iZ (x))), some (.inl (iZ ((a : Nat)))), x5, x6] 5 = true := by
        cases x5 with
        | none => rfl
        | some y =>
          obtain ⟨w, rfl⟩ := hx5 y rfl
          rfl
      refine zq_iconst d72_69 ?_
      refine mq_istore d72_70 (Nat.le_of_ble_eq_true rfl) st5 ?_
      refine ro_2 L hG h119 hO hS rS rO han (fun x2 y5 y6 h2 hy6 => ?_) (n + 1) 0 x x6 (by omega) (by omega) hx6 (sbI_no hI'.2 (fun a' b' h => Or.inl (by omega)))
      refine zq_iinc d72_164 rfl rfl ?_
      refine mq_goto (tgt := 60) d72_167 (by decide) ?_
      exact ro_3 L hG h119 hO hS rS rO kk j (a + 1) x2 _ _ (m0 han) han (fun y e => ⟨_, (Option.some.inj e).symm⟩) hy6 h2
set_option maxRecDepth 100000 in
theorem s_room (L : Lay K ρ) (hG : tgM A n m fr to th w) (h119 : ∀ u, u < n → A 119 u = (dp u : Nat) ∧ dp u < 12) (hO : O < 2147483648) (hS : S < 2147483648) (rS : ∀ u, u < n → sB S u = 1 → -1000 ≤ A 121 u ∧ A 121 u ≤ 1000) (rO : ∀ u, u < n → sB O u = 1 → -1000 ≤ A 121 u ∧ A 121 u ≤ 1000) {u0 : Nat} (hu0 : u0 < n) (hs0 : sB S u0 = 1)
    (kk : ∀ x, rmX n w dp (A 121) O S x → post (some (.inl (iZ x))) (123, K, zs (A), ρ)) : mj_lv (d + 1) m_Mod_room [.inr (.inl (some 93)), .inl (iZ (O : Nat)), .inl (iZ (S : Nat))] (123, K, zs (A), ρ) post := by
  have q1 := hG.1
  have q3 := hG.2.2.1
  show mj_W (mj_lv d) prog_11_method_48_code 9 1 0 0 post 0 [some (.inr (.inl (some 93))), some (.inl (iZ ((O : Nat)))), some (.inl (iZ ((S : Nat)))), none, none, none, none] [] (123, K, zs (A), ρ) 0 0
  refine zq_sipush d72_0 rfl ?_
  refine mq_istore_n d72_3 rfl (Nat.le_of_ble_eq_true rfl) rfl ?_
  refine zq_iconst d72_4 ?_
  refine mq_istore d72_5 (Nat.le_of_ble_eq_true rfl) rfl ?_
  refine ro_1 (O := O) L hG hS rS (fun x h1 h2 => ?_) (n + 1) 0 _ (by omega) (by omega) (fun u hu => absurd hu (by omega)) (Or.inl rfl) (by decide)
  obtain ⟨u, u1, u2, u3⟩ : ∃ u, u < n ∧ sB S u = 1 ∧ x = -A 121 u := by
    rcases h2 with q | q
    · have a1 := h1 u0 hu0 hs0
      have a2 := rS u0 hu0 hs0
      omega
    · exact q
  clear h2
  refine zq_iconst d72_57 ?_
  refine mq_istore d72_58 (Nat.le_of_ble_eq_true rfl) rfl ?_
  exact ro_3 L hG h119 hO hS rS rO kk (n + 1) 0 _ _ _ (by omega) (by omega) (fun y e => absurd e (by simp)) (fun y e => absurd e (by simp)) ⟨h1, fun a b _ _ q => absurd q (by omega), Or.inl ⟨u, u1, u2, u3⟩⟩
end rm
set_option maxRecDepth 100000 in
theorem sh_1 (L : Lay K ρ) (hG : tgM A n m fr to th w) {S : Nat} (hS : S < 2147483648) {r : Int} (kk : ∀ A2, eo [121] A A2 → (∀ u, u < n → A2 121 u = shT (A 121) S r u) → post none (123, K, zs (A2), ρ)) : ∀ (j i : Nat) (A2 : Nat → Nat → Int), n - i < j → i ≤ n → eo [121] A A2 → (∀ u, u < i → A2 121 u = shT (A 121) S r u) → (∀ u, i ≤ u → A2 121 u = A 121 u) → mj_W (mj_lv d) prog_11_method_47_code 9 0 0 0 post 2 [some (.inr (.inl (some 93))), some (.inl (iZ ((S : Nat)))), some (.inl (iZ (r))), some (.inl (iZ ((i : Nat))))] [] (123, K, zs (A2), ρ) 0 0
  | 0, i, _, hj, _, _, _, _ => absurd hj (by omega)
  | j + 1, i, A2, hj, hi, hE, h1, h2 => by
    have q1 := hG.1
    have q3 := hG.2.2.1
    have sb := sB01 S i
    refine mq_iload_n d71_2 rfl rfl ?_
    refine mq_aload_n d71_3 rfl rfl ?_
    refine zg_getIe L ((n : Nat)) d71_4 rfl rfl (by decide) rfl ((by rw [hE 93 rfl]; exact q1)) ?_
    refine zq_icmp_ge (tgt := 39) d71_7 (by decide) (by omega) (by omega) (fun g1 => ?_) (fun g1 => ?_)
    · have e : i = n := by omega
      subst e
      refine zg_retv d71_39 (by decide) ?_
      exact kk A2 hE h1
    · have eS : shT (A 121) S r i = A 121 i + (if sB S i = 1 then r else 0) := rfl
      have fin : ∀ y, y = shT (A 121) S r i → mj_W (mj_lv d) prog_11_method_47_code 9 0 0 0 post 33 [some (.inr (.inl (some 93))), some (.inl (iZ ((S : Nat)))), some (.inl (iZ (r))), some (.inl (iZ ((i : Nat))))] [] (123, K, zs (mj_u2 A2 121 i y), ρ) 0 0 := fun y hy => by
        refine zq_iinc d71_33 rfl rfl ?_
        refine mq_goto (tgt := 2) d71_36 (by decide) ?_
        refine sh_1 L hG hS kk j (i + 1) _ (by omega) (by omega) (eo_u2 rfl hE) (fun u hu => ?_) (fun u hu => by rw [u2_k (by omega)]; exact h2 u (by omega))
        by_cases e : u = i
        · rw [e, u2_self]
          exact hy
        · rw [u2_k e]
          exact h1 u (by omega)
      refine mq_aload_n d71_10 rfl rfl ?_
      refine zg_getR L 121 d71_11 rfl rfl (by decide) rfl (by decide) rfl ?_
      refine mq_iload_n d71_14 rfl rfl ?_
      refine mq_dup2 d71_15 rfl rfl ?_
      refine zg_ialdN L d71_16 (by decide) rfl (by omega) ?_
      refine mq_iload_n d71_17 rfl rfl ?_
      refine mq_iload_n d71_18 rfl rfl ?_
      refine zr_sb d71_19 d71_20 d71_21 (by omega) ?_
      refine zq_iconst d71_22 ?_
      refine zq_icmp_ne (tgt := 30) d71_23 (by decide) (by omega) (by omega) (fun g2 => ?_) (fun g2 => ?_)
      · refine zq_iconst d71_30 ?_
        refine zq_iadd d71_31 ?_
        refine zg_iastN L d71_32 (by decide) rfl (by omega) ?_
        exact fin _ (by rw [eS, if_neg g2, h2 i (by omega)])
      · refine mq_iload_n d71_26 rfl rfl ?_
        refine mq_goto (tgt := 31) d71_27 (by decide) ?_
        refine zq_iadd d71_31 ?_
        refine zg_iastN L d71_32 (by decide) rfl (by omega) ?_
        exact fin _ (by rw [eS, if_pos g2, h2 i (by omega)])
set_option maxRecDepth 100000 in
theorem s_shift (L : Lay K ρ) (hG : tgM A n m fr to th w) {S : Nat} (hS : S < 2147483648) {r : Int} (kk : ∀ A2, eo [121] A A2 → (∀ u, u < n → A2 121 u = shT (A 121) S r u) → post none (123, K, zs (A2), ρ)) : mj_lv (d + 1) m_Mod_shift [.inr (.inl (some 93)), .inl (iZ (S : Nat)), .inl (iZ r)] (123, K, zs (A), ρ) post := by
  show mj_W (mj_lv d) prog_11_method_47_code 9 0 0 0 post 0 [some (.inr (.inl (some 93))), some (.inl (iZ ((S : Nat)))), some (.inl (iZ (r))), none] [] (123, K, zs (A), ρ) 0 0
  refine zq_iconst d71_0 ?_
  refine mq_istore_n d71_1 rfl (Nat.le_of_ble_eq_true rfl) rfl ?_
  exact sh_1 L hG hS kk (n + 1) 0 A (by omega) (by omega) eo_refl (fun u hu => absurd hu (by omega)) (fun u _ => rfl)
/-- the model's places and parts -/
def tvM (A : Nat → Nat → Int) (n : Nat) (pr : Nat → Int) (dd v : Nat) (T : Nat → Int) (B : Nat → Nat) : Prop := ∀ u, u < n → A 121 u = T u ∧ (dnA pr dd v u → A 120 u = (B u : Nat)) ∧ (¬ dnA pr dd v u → A 120 u = (2 ^ u : Nat))
def mjI (A : Nat → Nat → Int) (n : Nat) (fr to : Nat → Nat) (th w pr : Nat → Int) (dd v : Nat) (z : (Nat → Int) × (Nat → Nat)) (a : Nat) (A2 : Nat → Nat → Int) : Prop := eo [121] A A2 ∧ jI n fr to th w pr dd v z a (jAq n fr to th w pr v z a) ∧ ∀ u, u < n → A2 121 u = (jAq n fr to th w pr v z a).1 u
set_option maxRecDepth 100000 in
theorem jo_1 (L : Lay K ρ) (hG : tgM A n m fr to th w) (ht : trOK n m fr to th w pr pos) (h119 : ∀ u, u < n → A 119 u = (dpV pr u : Nat) ∧ dpV pr u < 12) {dd v : Nat} (hv : v < n) (hd : dpV pr v = dd) {z : (Nat → Int) × (Nat → Nat)} (hz : ptI n w pr dd v z) (hC : tvM A n pr dd v z.1 z.2)
    (kk : ∀ A2 x5 x6, mjI A n fr to th w pr dd v z m A2 → mj_W (mj_lv (d + 2)) prog_11_method_46_code 9 0 0 0 post 108 [some (.inr (.inl (some 93))), some (.inl (iZ ((v : Nat)))), some (.inl (iZ ((jAq n fr to th w pr v z m).2.2.1))), some (.inl (iZ ((jAq n fr to th w pr v z m).2.2.2))), some (.inl (iZ (((jAq n fr to th w pr v z m).2.1 : Nat)))), some (.inl x5), x6] [] (123, K, zs (A2), ρ) 0 0) : ∀ (j a : Nat) (A2 : Nat → Nat → Int) (x6 : Option mj_V), m - a < j → a ≤ m → (∀ y, x6 = some y → ∃ w, y = .inl w) → mjI A n fr to th w pr dd v z a A2 → mj_W (mj_lv (d + 2)) prog_11_method_46_code 9 0 0 0 post 10 [some (.inr (.inl (some 93))), some (.inl (iZ ((v : Nat)))), some (.inl (iZ ((jAq n fr to th w pr v z a).2.2.1))), some (.inl (iZ ((jAq n fr to th w pr v z a).2.2.2))), some (.inl (iZ (((jAq n fr to th w pr v z a).2.1 : Nat)))), some (.inl (iZ ((a : Nat)))), x6] [] (123, K, zs (A2), ρ) 0 0
  | 0, a, _, _, hj, _, _, _ => absurd hj (by omega)
  | j + 1, a, A2, x6, hj, ha, hx6, hI => by
    obtain ⟨q1, q2, q3, q4, q5, q6⟩ := id hG
    obtain ⟨hE, hJ, hA⟩ := id hI
    refine mq_iload d70_10 rfl ?_
    refine mq_aload_n d70_12 rfl rfl ?_
    refine zg_getIe L ((m : Nat)) d70_13 rfl rfl (by decide) rfl ((by rw [hE 93 rfl]; exact q2)) ?_
    refine zq_icmp_ge (tgt := 108) d70_16 (by decide) (by omega) (by omega) (fun g1 => ?_) (fun g1 => ?_)
    · have e : a = m := by omega
      subst e
      exact kk A2 _ x6 hI
    · have ham : a < m := by omega
      obtain ⟨⟨a1, a2⟩, ⟨a3, a4⟩, a5, a6⟩ := q5 a ham
      have m0 : m - (a + 1) < j := by omega
      have st6 : mj_ok [some (.inr (.inl (some 93))), some (.inl (iZ ((v : Nat)))), some (.inl (iZ ((jAq n fr to th w pr v z a).2.2.1))), some (.inl (iZ ((jAq n fr to th w pr v z a).2.2.2))), some (.inl (iZ (((jAq n fr to th w pr v z a).2.1 : Nat)))), some (.inl (iZ ((a : Nat)))), x6] 6 = true := by
        cases x6 with
        | none => rfl
        | some y =>
          obtain ⟨w, rfl⟩ := hx6 y rfl
          rfl
      have skip : ¬ (th a = 1 ∧ fr a = v) → mj_W (mj_lv (d + 2)) prog_11_method_46_code 9 0 0 0 post 102 [some (.inr (.inl (some 93))), some (.inl (iZ ((v : Nat)))), some (.inl (iZ ((jAq n fr to th w pr v z a).2.2.1))), some (.inl (iZ ((jAq n fr to th w pr v z a).2.2.2))), some (.inl (iZ (((jAq n fr to th w pr v z a).2.1 : Nat)))), some (.inl (iZ ((a : Nat)))), x6] [] (123, K, zs (A2), ρ) 0 0 := fun e => by
        have fin := jo_1 L hG ht h119 hv hd hz hC kk j (a + 1) A2 x6 m0 ham hx6 ⟨hE, by rw [jA_no e]; exact jI_skip hJ e, by rw [jA_no e]; exact hA⟩
        rw [jA_no e] at fin
        refine zq_iinc d70_102 rfl rfl ?_
        refine mq_goto (tgt := 10) d70_105 (by decide) ?_
        exact fin
      refine mq_aload_n d70_19 rfl rfl ?_
      refine zg_getR L 97 d70_20 rfl rfl (by decide) rfl (by decide) rfl ?_
      refine mq_iload d70_23 rfl ?_
      refine zr_zaldV L (th a) d70_25 (by decide) rfl (by omega) ((by rw [hE 97 rfl]; exact a5)) ?_
      refine zq_if_eq (tgt := 102) d70_26 (by decide) (by omega) (fun g2 => ?_) (fun g2 => ?_)
      · exact skip (by omega)
      · refine mq_aload_n d70_29 rfl rfl ?_
        refine zg_getR L 95 d70_30 rfl rfl (by decide) rfl (by decide) rfl ?_
        refine mq_iload d70_33 rfl ?_
        refine zr_ialdV L ((fr a : Nat)) d70_35 (by decide) rfl (by omega) ((by rw [hE 95 rfl]; exact a1)) ?_
        refine mq_iload_n d70_36 rfl rfl ?_
        refine zq_icmp_eq (tgt := 43) d70_37 (by decide) (by omega) (by omega) (fun g3 => ?_) (fun g3 => ?_)
        · have e : th a = 1 ∧ fr a = v := by omega
          obtain ⟨c1, c2, c3⟩ := jI_child ht hd ham e
          obtain ⟨⟨p1, p2⟩, p3⟩ := hz.1 _ c1 c2
          have hn12 : 2 ^ n ≤ 4096 := Nat.pow_le_pow_right (by decide) (show n ≤ 12 by omega)
          have b92 : A2 120 (to a) = (z.2 (to a) : Nat) := by rw [hE 120 rfl]; exact (hC _ c1).2.1 c2.1
          obtain ⟨j1, j2, j3, j4, j5⟩ := id hJ
          have x0 := xA_nn (n := n) (fr := fr) (to := to) (th := th) (pr := pr) (v := v) (a := a)
          have xm := xA_le ht hv
          have e228 : eV n pr v ≤ 228 := eL_228 ht.2.1 ht.1 hv
          have xle : xA n fr to th pr v a ≤ xA n fr to th pr v m := cnt_mono2 (fun b => by
            split
            · have := eL_p (n := n) (pr := pr) (n - 1 - dpV pr (to b)) (to b)
              unfold eV
              omega
            · exact Int.le_refl _) (by omega)
          have ec : eV n pr (to a) ≤ 228 := eL_228 ht.2.1 ht.1 c1
          have hT : ∀ u, sB (z.2 (to a)) u = 1 → u < n ∧ A2 121 u = (jAq n fr to th w pr v z a).1 u ∧ -4 ≤ A2 121 u ∧ A2 121 u ≤ 1000 := fun u hu => by
            obtain ⟨b1, b2, b3, b4, b5, b6⟩ := p3 u hu
            have hw := q6 u b1
            have hAu := hA u b1
            by_cases q : sB (jAq n fr to th w pr v z a).2.1 u = 1
            · have := j1 u q
              exact ⟨b1, hAu, by omega, by omega⟩
            · have := j2 u q
              exact ⟨b1, hAu, by omega, by omega⟩
          have hO : ∀ u, sB (jAq n fr to th w pr v z a).2.1 u = 1 → u < n ∧ A2 121 u = (jAq n fr to th w pr v z a).1 u ∧ -4 ≤ A2 121 u ∧ A2 121 u ≤ 1000 := fun u hu => by
            obtain ⟨b1, b2, b3, b4, b5, b6⟩ := j1 u hu
            have hw := q6 u b1
            have hAu := hA u b1
            exact ⟨b1, hAu, by omega, by omega⟩
          have hfl : -1 ≤ (jAq n fr to th w pr v z a).2.2.1 ∧ (jAq n fr to th w pr v z a).2.2.1 < 100 := by
            rcases j5 with y | ⟨f, l, y1, y2, y3, y4, -⟩
            · omega
            · omega
          clear j5
          refine mq_aload_n d70_43 rfl rfl ?_
          refine zg_getR L 96 d70_44 rfl rfl (by decide) rfl (by decide) rfl ?_
          refine mq_iload d70_47 rfl ?_
          refine zr_ialdV L ((to a : Nat)) d70_49 (by decide) rfl (by omega) ((by rw [hE 96 rfl]; exact a2)) ?_
          refine mq_istore d70_50 (Nat.le_of_ble_eq_true rfl) st6 ?_
          refine mq_aload_n d70_52 rfl rfl ?_
          refine mq_aload_n d70_53 rfl rfl ?_
          refine zg_getR L 120 d70_54 rfl rfl (by decide) rfl (by decide) rfl ?_
          refine mq_iload d70_57 rfl ?_
          refine zr_ialdV L ((z.2 (to a) : Nat)) d70_59 (by decide) rfl (by omega) (b92) ?_
          refine mq_aload_n d70_60 rfl rfl ?_
          refine mq_iload d70_61 rfl ?_
          refine mq_aload_n d70_63 rfl rfl ?_
          refine zg_getR L 120 d70_64 rfl rfl (by decide) rfl (by decide) rfl ?_
          refine mq_iload d70_67 rfl ?_
          refine zr_ialdV L ((z.2 (to a) : Nat)) d70_69 (by decide) rfl (by omega) (b92) ?_
          refine zg_callV (c := 93) L [_, _] d70_70 rfl rfl ⟨rfl, rfl⟩ rfl ⟨rfl, rfl⟩ ⟨by decide, by decide⟩ (by decide) rfl ?_
          refine s_room (d := d + 1) (dp := dpV pr) L (tgM_eo hG (fun c h1 h2 => hE c (by simp; omega))) (fun u hu => by rw [hE 119 rfl]; exact h119 u hu) (by omega) (by omega) (fun u h1 h2 => by have := hT u h2; omega) (fun u h1 h2 => by have := hO u h2; omega) c1 p1 (fun r hr => ?_)
          have hr2 : rmX n w (dpV pr) (jAq n fr to th w pr v z a).1 (jAq n fr to th w pr v z a).2.1 (z.2 (to a)) r := rmX_congr (fun u _ h2 => (hT u h2).2.1) (fun u _ h2 => (hO u h2).2.1) (fun u _ => rfl) hr
          refine zg_callV (c := 93) L [_, _] d70_73 rfl rfl ⟨rfl, rfl⟩ rfl ⟨rfl, rfl⟩ ⟨by decide, by decide⟩ (by decide) rfl ?_
          refine s_shift (d := d + 1) L (tgM_eo hG (fun c h1 h2 => hE c (by simp; omega))) (by omega) (fun A3 e3 h3 => ?_)
          have hJ2 := (jI_s ht hd hz ham e hJ hr2).1
          have eJ := jA_yes e hr2
          have go : ∀ F : Int, F = (if (jAq n fr to th w pr v z a).2.2.1 < 0 then ((to a : Nat) : Int) else (jAq n fr to th w pr v z a).2.2.1) → mj_W (mj_lv (d + 2)) prog_11_method_46_code 9 0 0 0 post 86 [some (.inr (.inl (some 93))), some (.inl (iZ ((v : Nat)))), some (.inl (iZ ((jAq n fr to th w pr v z a).2.2.1))), some (.inl (iZ ((jAq n fr to th w pr v z a).2.2.2))), some (.inl (iZ (((jAq n fr to th w pr v z a).2.1 : Nat)))), some (.inl (iZ ((a : Nat)))), some (.inl (iZ ((to a : Nat))))] [.inl (iZ F)] (123, K, zs (A3), ρ) 0 0 := fun F hF => by
            rw [← hF] at eJ hJ2
            have fin := jo_1 L hG ht h119 hv hd hz hC kk j (a + 1) A3 (some (.inl (iZ (to a : Nat)))) m0 ham (fun y e => ⟨_, (Option.some.inj e).symm⟩) ⟨eo_trans hE e3, by rw [eJ]; exact hJ2, fun u h1 => by
              rw [eJ, h3 u h1]
              show A2 121 u + (if sB (z.2 (to a)) u = 1 then r else 0) = (jAq n fr to th w pr v z a).1 u + (if sB (z.2 (to a)) u = 1 then r else 0)
              rw [hA u h1]⟩
            rw [eJ] at fin
            refine mq_istore_n d70_86 rfl (Nat.le_of_ble_eq_true rfl) rfl ?_
            refine mq_iload d70_87 rfl ?_
            refine mq_istore_n d70_89 rfl (Nat.le_of_ble_eq_true rfl) rfl ?_
            refine mq_iload d70_90 rfl ?_
            refine mq_aload_n d70_92 rfl rfl ?_
            refine zg_getR L 120 d70_93 rfl rfl (by decide) rfl (by decide) rfl ?_
            refine mq_iload d70_96 rfl ?_
            refine zr_ialdV L ((z.2 (to a) : Nat)) d70_98 (by decide) rfl (by omega) ((by rw [e3 120 rfl]; exact b92)) ?_
            refine zn_ior d70_99 ?_
            refine mq_istore d70_100 (Nat.le_of_ble_eq_true rfl) rfl ?_
            refine zq_iinc d70_102 rfl rfl ?_
            refine mq_goto (tgt := 10) d70_105 (by decide) ?_
            exact fin
          refine mq_iload_n d70_76 rfl rfl ?_
          refine zq_if_ge (tgt := 85) d70_77 (by decide) (by omega) (fun g4 => ?_) (fun g4 => ?_)
          · refine mq_iload_n d70_85 rfl rfl ?_
            exact go _ (by rw [if_neg (by omega)])
          · refine mq_iload d70_80 rfl ?_
            refine mq_goto (tgt := 86) d70_82 (by decide) ?_
            exact go _ (by rw [if_pos (by omega)])
        · refine mq_goto (tgt := 102) d70_40 (by decide) ?_
          exact skip (by omega)
set_option maxRecDepth 100000 in
theorem s_join (L : Lay K ρ) (hG : tgM A n m fr to th w) (ht : trOK n m fr to th w pr pos) (h119 : ∀ u, u < n → A 119 u = (dpV pr u : Nat) ∧ dpV pr u < 12) {dd v : Nat} (hv : v < n) (hd : dpV pr v = dd) {z : (Nat → Int) × (Nat → Nat)} (hz : ptI n w pr dd v z) (hC : tvM A n pr dd v z.1 z.2)
    (kk : ∀ A2, eo [120, 121] A A2 → ptI n w pr dd (v + 1) (jN n m fr to th w (dpV pr) v z) → tvM A2 n pr dd (v + 1) (jN n m fr to th w (dpV pr) v z).1 (jN n m fr to th w (dpV pr) v z).2 → post none (123, K, zs (A2), ρ)) : mj_lv (d + 3) m_Mod_join [.inr (.inl (some 93)), .inl (iZ (v : Nat))] (123, K, zs (A), ρ) post := by
  obtain ⟨q1, q2, q3, q4, q5, q6⟩ := id hG
  show mj_W (mj_lv (d + 2)) prog_11_method_46_code 9 0 0 0 post 0 [some (.inr (.inl (some 93))), some (.inl (iZ ((v : Nat)))), none, none, none, none, none] [] (123, K, zs (A), ρ) 0 0
  refine zq_iconst d70_0 ?_
  refine mq_istore_n d70_1 rfl (Nat.le_of_ble_eq_true rfl) rfl ?_
  refine zq_iconst d70_2 ?_
  refine mq_istore_n d70_3 rfl (Nat.le_of_ble_eq_true rfl) rfl ?_
  refine zq_iconst d70_4 ?_
  refine mq_istore d70_5 (Nat.le_of_ble_eq_true rfl) rfl ?_
  refine zq_iconst d70_7 ?_
  refine mq_istore d70_8 (Nat.le_of_ble_eq_true rfl) rfl ?_
  refine jo_1 L hG ht h119 hv hd hz hC (fun A2 x5 x6 hI => ?_) (m + 1) 0 A _ (by omega) (by omega) (fun y e => absurd e (by simp)) ⟨eo_refl, jI_0, fun u h1 => (hC u h1).1⟩
  obtain ⟨hE, hJ, hA⟩ := hI
  have hok := jN_ok ht hv hd hz hJ
  have hTv := jN_v ht hv hJ
  obtain ⟨q, hq⟩ : ∃ q, q = jAq n fr to th w pr v z m := ⟨_, rfl⟩
  have eN : jN n m fr to th w (dpV pr) v z = (upf q.1 v (if q.2.2.1 < 0 then 0 else (2 * q.1 q.2.2.1.toNat + w q.2.2.1.toNat + 2 * q.1 q.2.2.2.toNat + w q.2.2.2.toNat) / 4 - w v / 2), upf z.2 v (q.2.1 ||| 2 ^ v)) := by
    rw [hq]
    rfl
  rw [← hq] at hJ hA hok hTv ⊢
  obtain ⟨j1, j2, j3, j4, j5⟩ := id hJ
  have hn12 : 2 ^ n ≤ 4096 := Nat.pow_le_pow_right (by decide) (show n ≤ 12 by omega)
  have xm := xA_le ht hv
  have e228 : eV n pr v ≤ 228 := eL_228 ht.2.1 ht.1 hv
  have nv : ¬ dnA pr dd v v := by
    unfold dnA
    omega
  have nall : sB q.2.1 v ≠ 1 := fun y => nv (j1 v y).2.1
  have qv : q.1 v = 0 := by
    rw [j2 v nall]
    exact hz.2.2 v hv nv
  have pv : A2 120 v = (2 ^ v : Nat) := by rw [hE 120 rfl]; exact (hC v hv).2.2 nv
  refine mq_aload_n d70_108 rfl rfl ?_
  refine zg_getR L 120 d70_109 rfl rfl (by decide) rfl (by decide) rfl ?_
  refine mq_iload_n d70_112 rfl rfl ?_
  refine mq_dup2 d70_113 rfl rfl ?_
  refine zr_ialdV L ((2 ^ v : Nat)) d70_114 (by decide) rfl (by omega) (pv) ?_
  refine mq_iload d70_115 rfl ?_
  refine zn_ior d70_117 ?_
  rw [Nat.or_comm (2 ^ v) q.2.1]
  refine zg_iastN L d70_118 (by decide) rfl (by omega) ?_
  obtain ⟨C, hC2⟩ : ∃ C, C = mj_u2 A2 120 v ((q.2.1 ||| 2 ^ v : Nat) : Int) := ⟨_, rfl⟩
  rw [← hC2]
  have cc : ∀ c, c ≠ 120 → C c = A2 c := fun c h1 => by rw [hC2, u2_cell h1]
  have c120 : ∀ u, C 120 u = if u = v then ((q.2.1 ||| 2 ^ v : Nat) : Int) else A2 120 u := fun u => by
    rw [hC2, u2_at]
    simp
  have EC : eo [120, 121] A C := fun c hc => by
    simp at hc
    rw [cc c (by omega)]
    exact hE c (by simp; omega)
  have fin : ∀ A9, eo [120, 121] A A9 → A9 120 = C 120 → (∀ u, u ≠ v → A9 121 u = C 121 u) → A9 121 v = (if q.2.2.1 < 0 then 0 else (2 * q.1 q.2.2.1.toNat + w q.2.2.1.toNat + 2 * q.1 q.2.2.2.toNat + w q.2.2.2.toNat) / 4 - w v / 2) → post none (123, K, zs (A9), ρ) := fun A9 e9 f120 f121 fv => by
    refine kk A9 e9 (by rw [eN]; exact hok) (fun u hu => ?_)
    rw [eN]
    show A9 121 u = upf q.1 v _ u ∧ (dnA pr dd (v + 1) u → A9 120 u = ((upf z.2 v (q.2.1 ||| 2 ^ v) u : Nat) : Int)) ∧ (¬ dnA pr dd (v + 1) u → A9 120 u = (2 ^ u : Nat))
    by_cases y : u = v
    · subst y
      rw [upf_s, upf_s, fv, f120, c120, if_pos rfl]
      exact ⟨rfl, fun _ => rfl, fun q => absurd ((dnA_s hd).mpr (Or.inr rfl)) q⟩
    · rw [upf_n y, upf_n y, f121 u y, cc 121 (by decide), f120, c120, if_neg y, hE 120 rfl]
      refine ⟨hA u hu, fun du => (hC u hu).2.1 ?_, fun du => (hC u hu).2.2 (fun q => du ((dnA_s hd).mpr (Or.inl q)))⟩
      rcases (dnA_s hd).mp du with r | r
      · exact r
      · exact absurd r y
  have rf : -1 ≤ q.2.2.1 ∧ q.2.2.1 < 100 := by
    rcases j5 with y | ⟨f, l, y1, y2, y3, y4, -⟩
    · omega
    · omega
  by_cases hf : q.2.2.1 < 0
  · rw [if_pos hf] at fin
    have j5h : hideQ True := ⟨trivial, trivial⟩
    clear j5
    refine mq_iload_n d70_119 rfl rfl ?_
    refine zq_if_lt (tgt := 173) d70_120 (by decide) (by omega) (fun g1 => ?_) (fun g1 => ?_)
    · refine zg_retv d70_173 (by decide) ?_
      exact fin C EC rfl (fun _ _ => rfl) (by rw [cc 121 (by decide), hA v hv]; exact qv)
    · omega
  · obtain ⟨f, l, y1, y2, y3, y4, y5, y6⟩ : ∃ f l : Nat, q.2.2.1 = f ∧ q.2.2.2 = l ∧ f < n ∧ l < n ∧ sB q.2.1 f = 1 ∧ sB q.2.1 l = 1 := by
      rcases j5 with y | y
      · omega
      · exact y
    clear j5
    rw [if_neg hf] at fin hTv
    have b1 := j1 f y5
    have b2 := j1 l y6
    have t1 : C 121 f = q.1 f := by rw [cc 121 (by decide)]; exact hA f y3
    have t2 : C 121 l = q.1 l := by rw [cc 121 (by decide)]; exact hA l y4
    have wf := q6 f y3
    have wl := q6 l y4
    have wv := q6 v hv
    have ef : q.2.2.1.toNat = f := by omega
    have el : q.2.2.2.toNat = l := by omega
    rw [ef, el] at fin hTv
    have GC := tgM_eo hG (B := C) (fun c h1 h2 => EC c (by simp; omega))
    rw [y1, y2]
    refine mq_iload_n d70_119 rfl rfl ?_
    refine zq_if_lt (tgt := 173) d70_120 (by decide) (by omega) (fun g1 => ?_) (fun g1 => ?_)
    · omega
    · refine mq_aload_n d70_123 rfl rfl ?_
      refine zg_getR L 121 d70_124 rfl rfl (by decide) rfl (by decide) rfl ?_
      refine mq_iload_n d70_127 rfl rfl ?_
      refine zq_iconst d70_128 ?_
      refine mq_aload_n d70_129 rfl rfl ?_
      refine zg_getR L 121 d70_130 rfl rfl (by decide) rfl (by decide) rfl ?_
      refine mq_iload_n d70_133 rfl rfl ?_
      refine zr_ialdV L (q.1 f) d70_134 (by decide) rfl (by omega) (t1) ?_
      refine zq_imul d70_135 ?_
      refine mq_aload_n d70_136 rfl rfl ?_
      refine zg_getR L 94 d70_137 rfl rfl (by decide) rfl (by decide) rfl ?_
      refine mq_iload_n d70_140 rfl rfl ?_
      refine zr_ialdV L (w f) d70_141 (by decide) rfl (by omega) ((GC.2.2.2.2.2 f y3).1) ?_
      refine zq_iadd d70_142 ?_
      refine zq_iconst d70_143 ?_
      refine mq_aload_n d70_144 rfl rfl ?_
      refine zg_getR L 121 d70_145 rfl rfl (by decide) rfl (by decide) rfl ?_
      refine mq_iload_n d70_148 rfl rfl ?_
      refine zr_ialdV L (q.1 l) d70_149 (by decide) rfl (by omega) (t2) ?_
      refine zq_imul d70_150 ?_
      refine zq_iadd d70_151 ?_
      refine mq_aload_n d70_152 rfl rfl ?_
      refine zg_getR L 94 d70_153 rfl rfl (by decide) rfl (by decide) rfl ?_
      refine mq_iload_n d70_156 rfl rfl ?_
      refine zr_ialdV L (w l) d70_157 (by decide) rfl (by omega) ((GC.2.2.2.2.2 l y4).1) ?_
      refine zq_iadd d70_158 ?_
      refine zq_iconst d70_159 ?_
      refine zg_callS [_, _] d70_160 rfl rfl ⟨rfl, rfl⟩ rfl ⟨rfl, rfl⟩ ⟨by decide, by decide⟩ ?_
      refine s_floor (d := d + 1) (by omega) (by decide) ?_
      refine mq_aload_n d70_163 rfl rfl ?_
      refine zg_getR L 94 d70_164 rfl rfl (by decide) rfl (by decide) rfl ?_
      refine mq_iload_n d70_167 rfl rfl ?_
      refine zr_ialdV L (w v) d70_168 (by decide) rfl (by omega) ((GC.2.2.2.2.2 v hv).1) ?_
      refine zq_iconst d70_169 ?_
      refine zr_idiv d70_170 (by omega) (by omega) ?_
      refine zq_isub d70_171 ?_
      refine zg_iastN L d70_172 (by decide) rfl (by omega) ?_
      refine zg_retv d70_173 (by decide) ?_
      refine fin _ (eo_u2 rfl EC) ?_ (fun u hu => u2_k hu) ?_
      · rw [u2_cell (by decide)]
      · rw [u2_self]
end sp_tm
