section sp_mut
variable {d : Nat} {post : Option mj_V → mj_H → Prop} {K : Nat → Nat × Nat} {A : Nat → Nat → Int} {ρ : Nat → Nat → Option Nat}
set_option maxRecDepth 100000 in
set_option maxHeartbeats 2000000 in
theorem s_addArc (L : Lay K ρ) {x : Int} (rx : -2147483648 ≤ x ∧ x < 2147483648) {y : Int} (ry : -2147483648 ≤ y ∧ y < 2147483648) (rm : 0 ≤ A 1 5 ∧ A 1 5 < 24) (k0 : post (some (.inl (iZ (A 1 5)))) (123, K, zs (mj_u2 (mj_u2 (mj_u2 (mj_u2 (mj_u2 (A) 3 ((A 1 5).toNat) (x)) 4 ((A 1 5).toNat) (y)) 5 ((A 1 5).toNat) 1) 1 6 (A 1 6 + 1)) 1 5 (A 1 5 + 1)), ρ)) : mj_lv (d + 1) m_Graph_addArc [.inr (.inl (some 1)), .inl (iZ x), .inl (iZ y)] (123, K, zs A, ρ) post := by
  show mj_W (mj_lv d) prog_2_method_5_code 0 1 0 0 post 0 [some (.inr (.inl (some 1))), some (.inl (iZ x)), some (.inl (iZ y))] [] (123, K, zs A, ρ) 0 0
  refine mq_aload_n d77_0 rfl rfl ?_
  refine zg_getR L 3 d77_1 rfl rfl (by decide) rfl (by decide) rfl ?_
  refine mq_aload_n d77_4 rfl rfl ?_
  refine zg_getI L d77_5 rfl rfl (by decide) rfl ?_
  refine mq_iload_n d77_8 rfl rfl ?_
  refine zg_iast L d77_9 (by decide) rfl (by omega) ?_
  refine mq_aload_n d77_10 rfl rfl ?_
  refine zg_getR L 4 d77_11 rfl rfl (by decide) rfl (by decide) rfl ?_
  refine mq_aload_n d77_14 rfl rfl ?_
  refine zg_getIe L (A 1 5) d77_15 rfl rfl (by decide) rfl (by simp [u2_at]) ?_
  refine mq_iload_n d77_18 rfl rfl ?_
  refine zg_iast L d77_19 (by decide) rfl (by omega) ?_
  refine mq_aload_n d77_20 rfl rfl ?_
  refine zg_getR L 5 d77_21 rfl rfl (by decide) rfl (by decide) rfl ?_
  refine mq_aload_n d77_24 rfl rfl ?_
  refine zg_getIe L (A 1 5) d77_25 rfl rfl (by decide) rfl (by simp [u2_at]) ?_
  refine zq_iconst d77_28 ?_
  refine zg_zast L d77_29 (by decide) rfl (by omega) (by first | decide | omega) ?_
  refine mq_aload_n d77_30 rfl rfl ?_
  refine mq_dup d77_31 rfl ?_
  refine zg_getIe L (A 1 6) d77_32 rfl rfl (by decide) rfl (by simp [u2_at]) ?_
  refine zq_iconst d77_35 ?_
  refine zq_iadd d77_36 ?_
  refine zg_putI L d77_37 rfl rfl rfl rfl (by decide) rfl ?_
  refine mq_aload_n d77_40 rfl rfl ?_
  refine mq_dup d77_41 rfl ?_
  refine zg_getIe L (A 1 5) d77_42 rfl rfl (by decide) rfl (by simp [u2_at]) ?_
  refine zq_iconst d77_45 ?_
  refine zq_iadd d77_46 ?_
  refine zg_putI L d77_47 rfl rfl rfl rfl (by decide) rfl ?_
  refine mq_aload_n d77_50 rfl rfl ?_
  refine zg_getIe L (((A 1 5) + 1)) d77_51 rfl rfl (by decide) rfl (by simp [u2_at]) ?_
  refine zq_iconst d77_54 ?_
  refine zq_isub d77_55 ?_
  refine zg_reti d77_56 rfl ?_
  simpa using k0
set_option maxRecDepth 100000 in
set_option maxHeartbeats 2000000 in
theorem s_removeArc (L : Lay K ρ) {x : Int} (rx : -2147483648 ≤ x ∧ x < 2147483648) (rm : 0 ≤ x ∧ x < 24) (k0 : post none (123, K, zs (mj_u2 (mj_u2 (A) 5 (x.toNat) 0) 1 6 (A 1 6 - 1)), ρ)) : mj_lv (d + 1) m_Graph_removeArc [.inr (.inl (some 1)), .inl (iZ x)] (123, K, zs A, ρ) post := by
  show mj_W (mj_lv d) prog_2_method_6_code 0 0 0 0 post 0 [some (.inr (.inl (some 1))), some (.inl (iZ x))] [] (123, K, zs A, ρ) 0 0
  refine mq_aload_n d78_0 rfl rfl ?_
  refine zg_getR L 5 d78_1 rfl rfl (by decide) rfl (by decide) rfl ?_
  refine mq_iload_n d78_4 rfl rfl ?_
  refine zq_iconst d78_5 ?_
  refine zg_zast L d78_6 (by decide) rfl (by omega) (by first | decide | omega) ?_
  refine mq_aload_n d78_7 rfl rfl ?_
  refine mq_dup d78_8 rfl ?_
  refine zg_getIe L (A 1 6) d78_9 rfl rfl (by decide) rfl (by simp [u2_at]) ?_
  refine zq_iconst d78_12 ?_
  refine zq_isub d78_13 ?_
  refine zg_putI L d78_14 rfl rfl rfl rfl (by decide) rfl ?_
  refine zg_retv d78_17 (by decide) ?_
  simpa using k0
set_option maxRecDepth 100000 in
set_option maxHeartbeats 2000000 in
theorem s_node (L : Lay K ρ) {x : Int} (rx : -2147483648 ≤ x ∧ x < 2147483648) (rn : 0 ≤ A 1 4 ∧ A 1 4 ≤ 12) (k0 : ¬ (1 ≤ x ∧ x ≤ 9) → post (some (.inl (iZ (-2)))) (123, K, zs (A), ρ)) (k1 : ((1 ≤ x ∧ x ≤ 9) ∧ A 1 4 = 12) → post (some (.inl (iZ (-4)))) (123, K, zs (A), ρ)) (k2 : ((1 ≤ x ∧ x ≤ 9) ∧ A 1 4 < 12) → post (some (.inl (iZ (A 1 4)))) (123, K, zs (mj_u2 (mj_u2 (mj_u2 (mj_u2 (mj_u2 (mj_u2 (A) 0 8 0) 0 9 0) 0 10 0) 0 11 0) 2 ((A 1 4).toNat) (x)) 1 4 (A 1 4 + 1)), ρ)) : mj_lv (d + 3) m_Main_node [.inr (.inl (some 0)), .inl (iZ x)] (123, K, zs A, ρ) post := by
  show mj_W (mj_lv (d + 2)) prog_1_method_2_code 8 1 0 0 post 0 [some (.inr (.inl (some 0))), some (.inl (iZ x))] [] (123, K, zs A, ρ) 0 0
  refine mq_iload_n d1_0 rfl rfl ?_
  refine zg_callS [_] d1_1 rfl rfl ⟨rfl, rfl⟩ rfl ⟨rfl, rfl⟩ ⟨by decide, by decide⟩ ?_
  refine s_isWidth L (by omega)  (fun w1 => ?_) (fun w1 => ?_)
  · refine zq_if_ne (tgt := 10) d1_4 (by decide) (by omega) (fun g1 => ?_) (fun g1 => ?_)
    · refine mq_aload_n d1_10 rfl rfl ?_
      refine zg_getR L 1 d1_11 rfl rfl (by decide) rfl (by decide) rfl ?_
      refine zg_getI L d1_14 rfl rfl (by decide) rfl ?_
      refine zq_bipush d1_17 rfl ?_
      refine zq_icmp_lt (tgt := 25) d1_19 (by decide) (by omega) (by omega) (fun g2 => ?_) (fun g2 => ?_)
      · refine mq_aload_n d1_25 rfl rfl ?_
        refine zg_callV (c := 0) L [] d1_26 rfl rfl ⟨rfl, rfl⟩ rfl ⟨rfl, rfl⟩ ⟨by decide, by decide⟩ (by decide) rfl ?_
        refine s_forgetAll L ?_
        refine mq_aload_n d1_29 rfl rfl ?_
        refine zg_getR L 1 d1_30 rfl rfl (by decide) rfl (by decide) rfl ?_
        refine mq_iload_n d1_33 rfl rfl ?_
        refine zg_callV (c := 1) L [_] d1_34 rfl rfl ⟨rfl, rfl⟩ rfl ⟨rfl, rfl⟩ ⟨by decide, by decide⟩ (by decide) rfl ?_
        refine s_addNode L (by omega) (by simp [u2_at]; omega) ?_
        refine zg_reti d1_37 rfl ?_
        first | (exact k0 (by omega)) | (exact k1 (by omega)) | (exact k2 (by omega)) | (simpa [u2_at] using k0 (by omega)) | (simpa [u2_at] using k1 (by omega)) | (simpa [u2_at] using k2 (by omega))
      · refine zq_bipush d1_22 rfl ?_
        refine zg_reti d1_24 rfl ?_
        first | (exact k0 (by omega)) | (exact k1 (by omega)) | (exact k2 (by omega)) | (simpa [u2_at] using k0 (by omega)) | (simpa [u2_at] using k1 (by omega)) | (simpa [u2_at] using k2 (by omega))
    · refine zq_bipush d1_7 rfl ?_
      refine zg_reti d1_9 rfl ?_
      first | (exact k0 (by omega)) | (exact k1 (by omega)) | (exact k2 (by omega)) | (simpa [u2_at] using k0 (by omega)) | (simpa [u2_at] using k1 (by omega)) | (simpa [u2_at] using k2 (by omega))
  · refine zq_if_ne (tgt := 10) d1_4 (by decide) (by omega) (fun g3 => ?_) (fun g3 => ?_)
    · refine mq_aload_n d1_10 rfl rfl ?_
      refine zg_getR L 1 d1_11 rfl rfl (by decide) rfl (by decide) rfl ?_
      refine zg_getI L d1_14 rfl rfl (by decide) rfl ?_
      refine zq_bipush d1_17 rfl ?_
      refine zq_icmp_lt (tgt := 25) d1_19 (by decide) (by omega) (by omega) (fun g4 => ?_) (fun g4 => ?_)
      · refine mq_aload_n d1_25 rfl rfl ?_
        refine zg_callV (c := 0) L [] d1_26 rfl rfl ⟨rfl, rfl⟩ rfl ⟨rfl, rfl⟩ ⟨by decide, by decide⟩ (by decide) rfl ?_
        refine s_forgetAll L ?_
        refine mq_aload_n d1_29 rfl rfl ?_
        refine zg_getR L 1 d1_30 rfl rfl (by decide) rfl (by decide) rfl ?_
        refine mq_iload_n d1_33 rfl rfl ?_
        refine zg_callV (c := 1) L [_] d1_34 rfl rfl ⟨rfl, rfl⟩ rfl ⟨rfl, rfl⟩ ⟨by decide, by decide⟩ (by decide) rfl ?_
        refine s_addNode L (by omega) (by simp [u2_at]; omega) ?_
        refine zg_reti d1_37 rfl ?_
        first | (exact k0 (by omega)) | (exact k1 (by omega)) | (exact k2 (by omega)) | (simpa [u2_at] using k0 (by omega)) | (simpa [u2_at] using k1 (by omega)) | (simpa [u2_at] using k2 (by omega))
      · refine zq_bipush d1_22 rfl ?_
        refine zg_reti d1_24 rfl ?_
        first | (exact k0 (by omega)) | (exact k1 (by omega)) | (exact k2 (by omega)) | (simpa [u2_at] using k0 (by omega)) | (simpa [u2_at] using k1 (by omega)) | (simpa [u2_at] using k2 (by omega))
    · refine zq_bipush d1_7 rfl ?_
      refine zg_reti d1_9 rfl ?_
      first | (exact k0 (by omega)) | (exact k1 (by omega)) | (exact k2 (by omega)) | (simpa [u2_at] using k0 (by omega)) | (simpa [u2_at] using k1 (by omega)) | (simpa [u2_at] using k2 (by omega))
end sp_mut
