section sp_leaf
variable {d : Nat} {post : Option mj_V → mj_H → Prop} {K : Nat → Nat × Nat} {A : Nat → Nat → Int} {ρ : Nat → Nat → Option Nat}
set_option maxRecDepth 100000 in
theorem s_isWidth (L : Lay K ρ) {x : Int} (rx : -2147483648 ≤ x ∧ x < 2147483648)  (k1 : (1 ≤ x ∧ x ≤ 9) → post (some (.inl (iZ 1))) (123, K, zs A, ρ)) (k0 : ¬ (1 ≤ x ∧ x ≤ 9) → post (some (.inl (iZ 0))) (123, K, zs A, ρ)) : mj_lv (d + 1) m_Main_isWidth [.inl (iZ x)] (123, K, zs A, ρ) post := by
  show mj_W (mj_lv d) prog_1_method_22_code 8 2 0 0 post 0 [some (.inl (iZ x))] [] (123, K, zs A, ρ) 0 0
  refine mq_iload_n d21_0 rfl rfl ?_
  refine zq_iconst d21_1 ?_
  refine zq_icmp_lt (tgt := 15) d21_2 (by decide) (by omega) (by omega) (fun g1 => ?_) (fun g1 => ?_)
  · refine zq_iconst d21_15 ?_
    refine zg_retz d21_16 rfl (by first | decide | omega) ?_
    first | exact k1 (by omega) | exact k0 (by omega)
  · refine mq_iload_n d21_5 rfl rfl ?_
    refine zq_bipush d21_6 rfl ?_
    refine zq_icmp_gt (tgt := 15) d21_8 (by decide) (by omega) (by omega) (fun g2 => ?_) (fun g2 => ?_)
    · refine zq_iconst d21_15 ?_
      refine zg_retz d21_16 rfl (by first | decide | omega) ?_
      first | exact k1 (by omega) | exact k0 (by omega)
    · refine zq_iconst d21_11 ?_
      refine mq_goto (tgt := 16) d21_12 (by decide) ?_
      refine zg_retz d21_16 rfl (by first | decide | omega) ?_
      first | exact k1 (by omega) | exact k0 (by omega)
set_option maxRecDepth 100000 in
theorem s_hasNode (L : Lay K ρ) {x : Int} (rx : -2147483648 ≤ x ∧ x < 2147483648) (rn : 0 ≤ A 1 4 ∧ A 1 4 ≤ 12) (k1 : (0 ≤ x ∧ x < A 1 4) → post (some (.inl (iZ 1))) (123, K, zs A, ρ)) (k0 : ¬ (0 ≤ x ∧ x < A 1 4) → post (some (.inl (iZ 0))) (123, K, zs A, ρ)) : mj_lv (d + 1) m_Graph_hasNode [.inr (.inl (some 1)), .inl (iZ x)] (123, K, zs A, ρ) post := by
  show mj_W (mj_lv d) prog_2_method_2_code 0 2 0 0 post 0 [some (.inr (.inl (some 1))), some (.inl (iZ x))] [] (123, K, zs A, ρ) 0 0
  refine mq_iload_n d74_0 rfl rfl ?_
  refine zq_if_lt (tgt := 16) d74_1 (by decide) (by omega) (fun g1 => ?_) (fun g1 => ?_)
  · refine zq_iconst d74_16 ?_
    refine zg_retz d74_17 rfl (by first | decide | omega) ?_
    first | exact k1 (by omega) | exact k0 (by omega)
  · refine mq_iload_n d74_4 rfl rfl ?_
    refine mq_aload_n d74_5 rfl rfl ?_
    refine zg_getI L d74_6 rfl rfl (by decide) rfl ?_
    refine zq_icmp_ge (tgt := 16) d74_9 (by decide) (by omega) (by omega) (fun g2 => ?_) (fun g2 => ?_)
    · refine zq_iconst d74_16 ?_
      refine zg_retz d74_17 rfl (by first | decide | omega) ?_
      first | exact k1 (by omega) | exact k0 (by omega)
    · refine zq_iconst d74_12 ?_
      refine mq_goto (tgt := 17) d74_13 (by decide) ?_
      refine zg_retz d74_17 rfl (by first | decide | omega) ?_
      first | exact k1 (by omega) | exact k0 (by omega)
set_option maxRecDepth 100000 in
theorem s_hasArc (L : Lay K ρ) {x : Int} (rx : -2147483648 ≤ x ∧ x < 2147483648) (rm : 0 ≤ A 1 5 ∧ A 1 5 ≤ 24) (rt : ∀ a : Nat, (a : Int) < A 1 5 → A 5 a = 0 ∨ A 5 a = 1) (k1 : (0 ≤ x ∧ x < A 1 5 ∧ A 5 x.toNat = 1) → post (some (.inl (iZ 1))) (123, K, zs A, ρ)) (k0 : ¬ (0 ≤ x ∧ x < A 1 5 ∧ A 5 x.toNat = 1) → post (some (.inl (iZ 0))) (123, K, zs A, ρ)) : mj_lv (d + 1) m_Graph_hasArc [.inr (.inl (some 1)), .inl (iZ x)] (123, K, zs A, ρ) post := by
  show mj_W (mj_lv d) prog_2_method_3_code 0 2 0 0 post 0 [some (.inr (.inl (some 1))), some (.inl (iZ x))] [] (123, K, zs A, ρ) 0 0
  refine mq_iload_n d75_0 rfl rfl ?_
  refine zq_if_lt (tgt := 25) d75_1 (by decide) (by omega) (fun g1 => ?_) (fun g1 => ?_)
  · refine zq_iconst d75_25 ?_
    refine zg_retz d75_26 rfl (by first | decide | omega) ?_
    first | exact k1 (by omega) | exact k0 (by omega)
  · refine mq_iload_n d75_4 rfl rfl ?_
    refine mq_aload_n d75_5 rfl rfl ?_
    refine zg_getI L d75_6 rfl rfl (by decide) rfl ?_
    refine zq_icmp_ge (tgt := 25) d75_9 (by decide) (by omega) (by omega) (fun g2 => ?_) (fun g2 => ?_)
    · refine zq_iconst d75_25 ?_
      refine zg_retz d75_26 rfl (by first | decide | omega) ?_
      first | exact k1 (by omega) | exact k0 (by omega)
    · refine mq_aload_n d75_12 rfl rfl ?_
      refine zg_getR L 5 d75_13 rfl rfl (by decide) rfl (by decide) rfl ?_
      refine mq_iload_n d75_16 rfl rfl ?_
      refine zg_zald L d75_17 (by decide) rfl (by omega) ?_
      have q0 := rt x.toNat (by omega)
      refine zq_if_eq (tgt := 25) d75_18 (by decide) (by omega) (fun g3 => ?_) (fun g3 => ?_)
      · refine zq_iconst d75_25 ?_
        refine zg_retz d75_26 rfl (by first | decide | omega) ?_
        first | exact k1 (by omega) | exact k0 (by omega)
      · refine zq_iconst d75_21 ?_
        refine mq_goto (tgt := 26) d75_22 (by decide) ?_
        refine zg_retz d75_26 rfl (by first | decide | omega) ?_
        first | exact k1 (by omega) | exact k0 (by omega)
set_option maxRecDepth 100000 in
theorem s_isNode (L : Lay K ρ) {x : Int} (rx : -2147483648 ≤ x ∧ x < 2147483648) (rn : 0 ≤ A 93 0 ∧ A 93 0 ≤ 12) (k1 : (0 ≤ x ∧ x < A 93 0) → post (some (.inl (iZ 1))) (123, K, zs A, ρ)) (k0 : ¬ (0 ≤ x ∧ x < A 93 0) → post (some (.inl (iZ 0))) (123, K, zs A, ρ)) : mj_lv (d + 1) m_Mod_isNode [.inr (.inl (some 93)), .inl (iZ x)] (123, K, zs A, ρ) post := by
  show mj_W (mj_lv d) prog_11_method_3_code 9 2 0 0 post 0 [some (.inr (.inl (some 93))), some (.inl (iZ x))] [] (123, K, zs A, ρ) 0 0
  refine mq_iload_n d27_0 rfl rfl ?_
  refine zq_if_lt (tgt := 16) d27_1 (by decide) (by omega) (fun g1 => ?_) (fun g1 => ?_)
  · refine zq_iconst d27_16 ?_
    refine zg_retz d27_17 rfl (by first | decide | omega) ?_
    first | exact k1 (by omega) | exact k0 (by omega)
  · refine mq_iload_n d27_4 rfl rfl ?_
    refine mq_aload_n d27_5 rfl rfl ?_
    refine zg_getI L d27_6 rfl rfl (by decide) rfl ?_
    refine zq_icmp_ge (tgt := 16) d27_9 (by decide) (by omega) (by omega) (fun g2 => ?_) (fun g2 => ?_)
    · refine zq_iconst d27_16 ?_
      refine zg_retz d27_17 rfl (by first | decide | omega) ?_
      first | exact k1 (by omega) | exact k0 (by omega)
    · refine zq_iconst d27_12 ?_
      refine mq_goto (tgt := 17) d27_13 (by decide) ?_
      refine zg_retz d27_17 rfl (by first | decide | omega) ?_
      first | exact k1 (by omega) | exact k0 (by omega)
set_option maxRecDepth 100000 in
theorem s_isArc (L : Lay K ρ) {x : Int} (rx : -2147483648 ≤ x ∧ x < 2147483648) (rm : 0 ≤ A 93 1 ∧ A 93 1 ≤ 24) (rt : ∀ a : Nat, (a : Int) < A 93 1 → A 97 a = 0 ∨ A 97 a = 1) (k1 : (0 ≤ x ∧ x < A 93 1 ∧ A 97 x.toNat = 1) → post (some (.inl (iZ 1))) (123, K, zs A, ρ)) (k0 : ¬ (0 ≤ x ∧ x < A 93 1 ∧ A 97 x.toNat = 1) → post (some (.inl (iZ 0))) (123, K, zs A, ρ)) : mj_lv (d + 1) m_Mod_isArc [.inr (.inl (some 93)), .inl (iZ x)] (123, K, zs A, ρ) post := by
  show mj_W (mj_lv d) prog_11_method_4_code 9 2 0 0 post 0 [some (.inr (.inl (some 93))), some (.inl (iZ x))] [] (123, K, zs A, ρ) 0 0
  refine mq_iload_n d28_0 rfl rfl ?_
  refine zq_if_lt (tgt := 25) d28_1 (by decide) (by omega) (fun g1 => ?_) (fun g1 => ?_)
  · refine zq_iconst d28_25 ?_
    refine zg_retz d28_26 rfl (by first | decide | omega) ?_
    first | exact k1 (by omega) | exact k0 (by omega)
  · refine mq_iload_n d28_4 rfl rfl ?_
    refine mq_aload_n d28_5 rfl rfl ?_
    refine zg_getI L d28_6 rfl rfl (by decide) rfl ?_
    refine zq_icmp_ge (tgt := 25) d28_9 (by decide) (by omega) (by omega) (fun g2 => ?_) (fun g2 => ?_)
    · refine zq_iconst d28_25 ?_
      refine zg_retz d28_26 rfl (by first | decide | omega) ?_
      first | exact k1 (by omega) | exact k0 (by omega)
    · refine mq_aload_n d28_12 rfl rfl ?_
      refine zg_getR L 97 d28_13 rfl rfl (by decide) rfl (by decide) rfl ?_
      refine mq_iload_n d28_16 rfl rfl ?_
      refine zg_zald L d28_17 (by decide) rfl (by omega) ?_
      have q0 := rt x.toNat (by omega)
      refine zq_if_eq (tgt := 25) d28_18 (by decide) (by omega) (fun g3 => ?_) (fun g3 => ?_)
      · refine zq_iconst d28_25 ?_
        refine zg_retz d28_26 rfl (by first | decide | omega) ?_
        first | exact k1 (by omega) | exact k0 (by omega)
      · refine zq_iconst d28_21 ?_
        refine mq_goto (tgt := 26) d28_22 (by decide) ?_
        refine zg_retz d28_26 rfl (by first | decide | omega) ?_
        first | exact k1 (by omega) | exact k0 (by omega)
set_option maxRecDepth 100000 in
theorem s_forgetDrawings (L : Lay K ρ)   (k : post none (123, K, zs (mj_u2 (mj_u2 (mj_u2 A 0 9 0) 0 10 0) 0 11 0), ρ)) : mj_lv (d + 1) m_Main_forgetDrawings [.inr (.inl (some 0))] (123, K, zs A, ρ) post := by
  show mj_W (mj_lv d) prog_1_method_24_code 8 0 0 0 post 0 [some (.inr (.inl (some 0)))] [] (123, K, zs A, ρ) 0 0
  refine mq_aload_n d23_0 rfl rfl ?_
  refine zq_iconst d23_1 ?_
  refine zg_putZ L d23_2 rfl rfl rfl rfl (by first | decide | omega) (by decide) rfl ?_
  refine mq_aload_n d23_5 rfl rfl ?_
  refine zq_iconst d23_6 ?_
  refine zg_putZ L d23_7 rfl rfl rfl rfl (by first | decide | omega) (by decide) rfl ?_
  refine mq_aload_n d23_10 rfl rfl ?_
  refine zq_iconst d23_11 ?_
  refine zg_putZ L d23_12 rfl rfl rfl rfl (by first | decide | omega) (by decide) rfl ?_
  refine zg_retv d23_15 (by decide) ?_
  exact k
set_option maxRecDepth 100000 in
theorem s_forgetAll (L : Lay K ρ)   (k : post none (123, K, zs (mj_u2 (mj_u2 (mj_u2 (mj_u2 A 0 8 0) 0 9 0) 0 10 0) 0 11 0), ρ)) : mj_lv (d + 2) m_Main_forgetAll [.inr (.inl (some 0))] (123, K, zs A, ρ) post := by
  show mj_W (mj_lv (d + 1)) prog_1_method_23_code 8 0 0 0 post 0 [some (.inr (.inl (some 0)))] [] (123, K, zs A, ρ) 0 0
  refine mq_aload_n d22_0 rfl rfl ?_
  refine zq_iconst d22_1 ?_
  refine zg_putZ L d22_2 rfl rfl rfl rfl (by first | decide | omega) (by decide) rfl ?_
  refine mq_aload_n d22_5 rfl rfl ?_
  refine zg_callV (c := 0) L [] d22_6 rfl rfl ⟨rfl, rfl⟩ rfl ⟨rfl, rfl⟩ ⟨by decide, by decide⟩ (by decide) rfl ?_
  refine s_forgetDrawings L ?_
  refine zg_retv d22_9 (by decide) ?_
  exact k
set_option maxRecDepth 100000 in
theorem s_addNode (L : Lay K ρ) {x : Int} (rx : -2147483648 ≤ x ∧ x < 2147483648) (rn : 0 ≤ A 1 4 ∧ A 1 4 < 12) (k : post (some (.inl (iZ (A 1 4)))) (123, K, zs (mj_u2 (mj_u2 A 2 (A 1 4).toNat x) 1 4 (A 1 4 + 1)), ρ)) : mj_lv (d + 1) m_Graph_addNode [.inr (.inl (some 1)), .inl (iZ x)] (123, K, zs A, ρ) post := by
  show mj_W (mj_lv d) prog_2_method_4_code 0 1 0 0 post 0 [some (.inr (.inl (some 1))), some (.inl (iZ x))] [] (123, K, zs A, ρ) 0 0
  refine mq_aload_n d76_0 rfl rfl ?_
  refine zg_getR L 2 d76_1 rfl rfl (by decide) rfl (by decide) rfl ?_
  refine mq_aload_n d76_4 rfl rfl ?_
  refine zg_getI L d76_5 rfl rfl (by decide) rfl ?_
  refine mq_iload_n d76_8 rfl rfl ?_
  refine zg_iast L d76_9 (by decide) rfl (by omega) ?_
  refine mq_aload_n d76_10 rfl rfl ?_
  refine mq_dup d76_11 rfl ?_
  refine zg_getIe L (A 1 4) d76_12 rfl rfl (by decide) rfl (by simp [u2_at]) ?_
  refine zq_iconst d76_15 ?_
  refine zq_iadd d76_16 ?_
  refine zg_putI L d76_17 rfl rfl rfl rfl (by decide) rfl ?_
  refine mq_aload_n d76_20 rfl rfl ?_
  refine zg_getIe L (((A 1 4) + 1)) d76_21 rfl rfl (by decide) rfl (by simp [u2_at]) ?_
  refine zq_iconst d76_24 ?_
  refine zq_isub d76_25 ?_
  refine zg_reti d76_26 rfl ?_
  simpa using k
set_option maxRecDepth 100000 in
theorem s_empty (L : Lay K ρ)   (k : post none (123, K, zs (mj_u2 (mj_u2 (mj_u2 A 1 4 0) 1 5 0) 1 6 0), ρ)) : mj_lv (d + 1) m_Graph_empty [.inr (.inl (some 1))] (123, K, zs A, ρ) post := by
  show mj_W (mj_lv d) prog_2_method_7_code 0 0 0 0 post 0 [some (.inr (.inl (some 1)))] [] (123, K, zs A, ρ) 0 0
  refine mq_aload_n d79_0 rfl rfl ?_
  refine zq_iconst d79_1 ?_
  refine zg_putI L d79_2 rfl rfl rfl rfl (by decide) rfl ?_
  refine mq_aload_n d79_5 rfl rfl ?_
  refine zq_iconst d79_6 ?_
  refine zg_putI L d79_7 rfl rfl rfl rfl (by decide) rfl ?_
  refine mq_aload_n d79_10 rfl rfl ?_
  refine zq_iconst d79_11 ?_
  refine zg_putI L d79_12 rfl rfl rfl rfl (by decide) rfl ?_
  refine zg_retv d79_15 (by decide) ?_
  exact k
set_option maxRecDepth 100000 in
theorem s_changed (L : Lay K ρ)   (k : post none (123, K, zs (mj_u2 (mj_u2 A 93 7 1) 93 8 0), ρ)) : mj_lv (d + 1) m_Mod_changed [.inr (.inl (some 93))] (123, K, zs A, ρ) post := by
  show mj_W (mj_lv d) prog_11_method_2_code 9 0 0 0 post 0 [some (.inr (.inl (some 93)))] [] (123, K, zs A, ρ) 0 0
  refine mq_aload_n d26_0 rfl rfl ?_
  refine zq_iconst d26_1 ?_
  refine zg_putZ L d26_2 rfl rfl rfl rfl (by first | decide | omega) (by decide) rfl ?_
  refine mq_aload_n d26_5 rfl rfl ?_
  refine zq_iconst d26_6 ?_
  refine zg_putZ L d26_7 rfl rfl rfl rfl (by first | decide | omega) (by decide) rfl ?_
  refine zg_retv d26_10 (by decide) ?_
  exact k
end sp_leaf
