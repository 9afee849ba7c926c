section sp_mut
variable {d : Nat} {post : Option mj_V → mj_H → Prop} {K : Nat → Nat × Nat} {A : Nat → Nat → Int} {ρ : Nat → Nat → Option Nat}
set_option maxRecDepth 100000 in
set_option maxHeartbeats 2000000 in
theorem s_addArc (L : Lay K ρ) {x : Int} (rx : -2147483648 ≤ x ∧ x < 2147483648) {y : Int} (ry : -2147483648 ≤ y ∧ y < 2147483648) (rm : 0 ≤ A 1 5 ∧ A 1 5 < 24) (k0 : post (some (.inl (iZ (A 1 5)))) (123, K, zs (mj_u2 (mj_u2 (mj_u2 (mj_u2 (mj_u2 (A) 3 ((A 1 5).toNat) (x)) 4 ((A 1 5).toNat) (y)) 5 ((A 1 5).toNat) 1) 1 6 (A 1 6 + 1)) 1 5 (A 1 5 + 1)), ρ)) : mj_lv (d + 1) m_Graph_addArc [.inr (.inl (some 1)), .inl (iZ x), .inl (iZ y)] (123, K, zs A, ρ) post := by
  show mj_W (mj_lv d) prog_2_method_5_code 0 1 0 0 post 0 [some (.inr (.inl (some 1))), some (.inl (iZ x)), some (.inl (iZ y))] [] (123, K, zs A, ρ) 0 0
  refine mq_aload_n d77_0 rfl rfl ?_
  refine zg_getR L 3 d77_1 rfl rfl (by decide) rfl (by decide) rfl ?_
  refine mq_aload_n d77_4 rfl rfl ?_
  refine zg_getI L d77_5 rfl rfl (by decide) rfl ?_
  refine mq_iload_n d77_8 rfl rfl ?_
  refine zg_iast L d77_9 (by decide) rfl (by omega) ?_
  refine mq_aload_n d77_10 rfl rfl ?_
  refine zg_getR L 4 d77_11 rfl rfl (by decide) rfl (by decide) rfl ?_
  refine mq_aload_n d77_14 rfl rfl ?_
  refine zg_getIe L (A 1 5) d77_15 rfl rfl (by decide) rfl (by simp [u2_at]) ?_
  refine mq_iload_n d77_18 rfl rfl ?_
  refine zg_iast L d77_19 (by decide) rfl (by omega) ?_
  refine mq_aload_n d77_20 rfl rfl ?_
  refine zg_getR L 5 d77_21 rfl rfl (by decide) rfl (by decide) rfl ?_
  refine mq_aload_n d77_24 rfl rfl ?_
  refine zg_getIe L (A 1 5) d77_25 rfl rfl (by decide) rfl (by simp [u2_at]) ?_
  refine zq_iconst d77_28 ?_
  refine zg_zast L d77_29 (by decide) rfl (by omega) (by first | decide | omega) ?_
  refine mq_aload_n d77_30 rfl rfl ?_
  refine mq_dup d77_31 rfl ?_
  refine zg_getIe L (A 1 6) d77_32 rfl rfl (by decide) rfl (by simp [u2_at]) ?_
  refine zq_iconst d77_35 ?_
  refine zq_iadd d77_36 ?_
  refine zg_putI L d77_37 rfl rfl rfl rfl (by decide) rfl ?_
  refine mq_aload_n d77_40 rfl rfl ?_
  refine mq_dup d77_41 rfl ?_
  refine zg_getIe L (A 1 5) d77_42 rfl rfl (by decide) rfl (by simp [u2_at]) ?_
  refine zq_iconst d77_45 ?_
  refine zq_iadd d77_46 ?_
  refine zg_putI L d77_47 rfl rfl rfl rfl (by decide) rfl ?_
  refine mq_aload_n d77_50 rfl rfl ?_
  refine zg_getIe L (((A 1 5) + 1)) d77_51 rfl rfl (by decide) rfl (by simp [u2_at]) ?_
  refine zq_iconst d77_54 ?_
  refine zq_isub d77_55 ?_
  refine zg_reti d77_56 rfl ?_
  simpa using k0
set_option maxRecDepth 100000 in
set_option maxHeartbeats 2000000 in
theorem s_removeArc (L : Lay K ρ) {x : Int} (rx : -2147483648 ≤ x ∧ x < 2147483648) (rm : 0 ≤ x ∧ x < 24) (k0 : post none (123, K, zs (mj_u2 (mj_u2 (A) 5 (x.toNat) 0) 1 6 (A 1 6 - 1)), ρ)) : mj_lv (d + 1) m_Graph_removeArc [.inr (.inl (some 1)), .inl (iZ x)] (123, K, zs A, ρ) post := by
  show mj_W (mj_lv d) prog_2_method_6_code 0 0 0 0 post 0 [some (.inr (.inl (some 1))), some (.inl (iZ x))] [] (123, K, zs A, ρ) 0 0
  refine mq_aload_n d78_0 rfl rfl ?_
  refine zg_getR L 5 d78_1 rfl rfl (by decide) rfl (by decide) rfl ?_
  refine mq_iload_n d78_4 rfl rfl ?_
  refine zq_iconst d78_5 ?_
  refine zg_zast L d78_6 (by decide) rfl (by omega) (by first | decide | omega) ?_
  refine mq_aload_n d78_7 rfl rfl ?_
  refine mq_dup d78_8 rfl ?_
  refine zg_getIe L (A 1 6) d78_9 rfl rfl (by decide) rfl (by simp [u2_at]) ?_
  refine zq_iconst d78_12 ?_
  refine zq_isub d78_13 ?_
  refine zg_putI L d78_14 rfl rfl rfl rfl (by decide) rfl ?_
  refine zg_retv d78_17 (by decide) ?_
  simpa using k0
set_option maxRecDepth 100000 in
set_option maxHeartbeats 2000000 in
theorem s_node (L : Lay K ρ) {x : Int} (rx : -2147483648 ≤ x ∧ x < 2147483648) (rn : 0 ≤ A 1 4 ∧ A 1 4 ≤ 12) (k0 : ¬ (1 ≤ x ∧ x ≤ 9) → post (some (.inl (iZ (-2)))) (123, K, zs (A), ρ)) (k1 : ((1 ≤ x ∧ x ≤ 9) ∧ A 1 4 = 12) → post (some (.inl (iZ (-4)))) (123, K, zs (A), ρ)) (k2 : ((1 ≤ x ∧ x ≤ 9) ∧ A 1 4 < 12) → post (some (.inl (iZ (A 1 4)))) (123, K, zs (mj_u2 (mj_u2 (mj_u2 (mj_u2 (mj_u2 (mj_u2 (A) 0 8 0) 0 9 0) 0 10 0) 0 11 0) 2 ((A 1 4).toNat) (x)) 1 4 (A 1 4 + 1)), ρ)) : mj_lv (d + 3) m_Main_node [.inr (.inl (some 0)), .inl (iZ x)] (123, K, zs A, ρ) post := by
  show mj_W (mj_lv (d + 2)) prog_1_method_2_code 8 1 0 0 post 0 [some (.inr (.inl (some 0))), some (.inl (iZ x))] [] (123, K, zs A, ρ) 0 0
  refine mq_iload_n d1_0 rfl rfl ?_
  refine zg_callS [_] d1_1 rfl rfl ⟨rfl, rfl⟩ rfl ⟨rfl, rfl⟩ ⟨by decide, by decide⟩ ?_
  refine s_isWidth L (by omega)  (fun w1 => ?_) (fun w1 => ?_)
  · refine zq_if_ne (tgt := 10) d1_4 (by decide) (by omega) (fun g1 => ?_) (fun g1 => by exfalso; omega)
    refine mq_aload_n d1_10 rfl rfl ?_
    refine zg_getR L 1 d1_11 rfl rfl (by decide) rfl (by decide) rfl ?_
    refine zg_getI L d1_14 rfl rfl (by decide) rfl ?_
    refine zq_bipush d1_17 rfl ?_
    refine zq_icmp_lt (tgt := 25) d1_19 (by decide) (by omega) (by omega) (fun g2 => ?_) (fun g2 => ?_)
    · refine mq_aload_n d1_25 rfl rfl ?_
      refine zg_callV (c := 0) L [] d1_26 rfl rfl ⟨rfl, rfl⟩ rfl ⟨rfl, rfl⟩ ⟨by decide, by decide⟩ (by decide) rfl ?_
      refine s_forgetAll L ?_
      refine mq_aload_n d1_29 rfl rfl ?_
      refine zg_getR L 1 d1_30 rfl rfl (by decide) rfl (by decide) rfl ?_
      refine mq_iload_n d1_33 rfl rfl ?_
      refine zg_callV (c := 1) L [_] d1_34 rfl rfl ⟨rfl, rfl⟩ rfl ⟨rfl, rfl⟩ ⟨by decide, by decide⟩ (by decide) rfl ?_
      refine s_addNode L (by omega) (by simp [u2_at]; omega) ?_
      refine zg_reti d1_37 rfl ?_
      first | (exact k0 (by omega)) | (exact k1 (by omega)) | (exact k2 (by omega)) | (simpa [u2_at] using k0 (by omega)) | (simpa [u2_at] using k1 (by omega)) | (simpa [u2_at] using k2 (by omega))
    · refine zq_bipush d1_22 rfl ?_
      refine zg_reti d1_24 rfl ?_
      first | (exact k0 (by omega)) | (exact k1 (by omega)) | (exact k2 (by omega)) | (simpa [u2_at] using k0 (by omega)) | (simpa [u2_at] using k1 (by omega)) | (simpa [u2_at] using k2 (by omega))
  · refine zq_if_ne (tgt := 10) d1_4 (by decide) (by omega) (fun g3 => by exfalso; omega) (fun g3 => ?_)
    refine zq_bipush d1_7 rfl ?_
    refine zg_reti d1_9 rfl ?_
    first | (exact k0 (by omega)) | (exact k1 (by omega)) | (exact k2 (by omega)) | (simpa [u2_at] using k0 (by omega)) | (simpa [u2_at] using k1 (by omega)) | (simpa [u2_at] using k2 (by omega))
set_option maxRecDepth 100000 in
set_option maxHeartbeats 2000000 in
theorem s_width (L : Lay K ρ) {x : Int} (rx : -2147483648 ≤ x ∧ x < 2147483648) {y : Int} (ry : -2147483648 ≤ y ∧ y < 2147483648) (rn : 0 ≤ A 1 4 ∧ A 1 4 ≤ 12) (k0 : ¬ (0 ≤ x ∧ x < A 1 4) → post (some (.inl (iZ (-1)))) (123, K, zs (A), ρ)) (k1 : ((0 ≤ x ∧ x < A 1 4) ∧ ¬ (1 ≤ y ∧ y ≤ 9)) → post (some (.inl (iZ (-2)))) (123, K, zs (A), ρ)) (k2 : ((0 ≤ x ∧ x < A 1 4) ∧ (1 ≤ y ∧ y ≤ 9)) → post (some (.inl (iZ (A 2 x.toNat)))) (123, K, zs (mj_u2 (mj_u2 (mj_u2 (mj_u2 (A) 0 9 0) 0 10 0) 0 11 0) 2 (x.toNat) (y)), ρ)) : mj_lv (d + 2) m_Main_width [.inr (.inl (some 0)), .inl (iZ x), .inl (iZ y)] (123, K, zs A, ρ) post := by
  show mj_W (mj_lv (d + 1)) prog_1_method_3_code 8 1 0 0 post 0 [some (.inr (.inl (some 0))), some (.inl (iZ x)), some (.inl (iZ y)), none] [] (123, K, zs A, ρ) 0 0
  refine mq_aload_n d2_0 rfl rfl ?_
  refine zg_getR L 1 d2_1 rfl rfl (by decide) rfl (by decide) rfl ?_
  refine mq_iload_n d2_4 rfl rfl ?_
  refine zg_callV (c := 1) L [_] d2_5 rfl rfl ⟨rfl, rfl⟩ rfl ⟨rfl, rfl⟩ ⟨by decide, by decide⟩ (by decide) rfl ?_
  refine s_hasNode L (by omega) (by simpa [u2_at] using rn) (fun w1 => ?_) (fun w1 => ?_)
  · refine zq_if_ne (tgt := 13) d2_8 (by decide) (by omega) (fun g1 => ?_) (fun g1 => by exfalso; omega)
    refine mq_iload_n d2_13 rfl rfl ?_
    refine zg_callS [_] d2_14 rfl rfl ⟨rfl, rfl⟩ rfl ⟨rfl, rfl⟩ ⟨by decide, by decide⟩ ?_
    refine s_isWidth L (by omega)  (fun w2 => ?_) (fun w2 => ?_)
    · refine zq_if_ne (tgt := 23) d2_17 (by decide) (by omega) (fun g2 => ?_) (fun g2 => by exfalso; omega)
      refine mq_aload_n d2_23 rfl rfl ?_
      refine zg_callV (c := 0) L [] d2_24 rfl rfl ⟨rfl, rfl⟩ rfl ⟨rfl, rfl⟩ ⟨by decide, by decide⟩ (by decide) rfl ?_
      refine s_forgetDrawings L ?_
      refine mq_aload_n d2_27 rfl rfl ?_
      refine zg_getR L 1 d2_28 rfl rfl (by decide) rfl (by decide) rfl ?_
      refine zg_getR L 2 d2_31 rfl rfl (by decide) rfl (by decide) rfl ?_
      refine mq_iload_n d2_34 rfl rfl ?_
      refine zg_iald L d2_35 (by decide) rfl (by omega) ?_
      refine mq_istore_n d2_36 rfl (Nat.le_of_ble_eq_true rfl) rfl ?_
      refine mq_aload_n d2_37 rfl rfl ?_
      refine zg_getR L 1 d2_38 rfl rfl (by decide) rfl (by decide) rfl ?_
      refine zg_getR L 2 d2_41 rfl rfl (by decide) rfl (by decide) rfl ?_
      refine mq_iload_n d2_44 rfl rfl ?_
      refine mq_iload_n d2_45 rfl rfl ?_
      refine zg_iast L d2_46 (by decide) rfl (by omega) ?_
      refine mq_iload_n d2_47 rfl rfl ?_
      refine zg_reti d2_48 rfl ?_
      first | (exact k0 (by omega)) | (exact k1 (by omega)) | (exact k2 (by omega)) | (simpa [u2_at] using k0 (by omega)) | (simpa [u2_at] using k1 (by omega)) | (simpa [u2_at] using k2 (by omega))
    · refine zq_if_ne (tgt := 23) d2_17 (by decide) (by omega) (fun g3 => by exfalso; omega) (fun g3 => ?_)
      refine zq_bipush d2_20 rfl ?_
      refine zg_reti d2_22 rfl ?_
      first | (exact k0 (by omega)) | (exact k1 (by omega)) | (exact k2 (by omega)) | (simpa [u2_at] using k0 (by omega)) | (simpa [u2_at] using k1 (by omega)) | (simpa [u2_at] using k2 (by omega))
  · refine zq_if_ne (tgt := 13) d2_8 (by decide) (by omega) (fun g4 => by exfalso; omega) (fun g4 => ?_)
    refine zq_iconst d2_11 ?_
    refine zg_reti d2_12 rfl ?_
    first | (exact k0 (by omega)) | (exact k1 (by omega)) | (exact k2 (by omega)) | (simpa [u2_at] using k0 (by omega)) | (simpa [u2_at] using k1 (by omega)) | (simpa [u2_at] using k2 (by omega))
set_option maxRecDepth 100000 in
set_option maxHeartbeats 2000000 in
theorem s_arc (L : Lay K ρ) {x : Int} (rx : -2147483648 ≤ x ∧ x < 2147483648) {y : Int} (ry : -2147483648 ≤ y ∧ y < 2147483648) (rn : 0 ≤ A 1 4 ∧ A 1 4 ≤ 12) (rm : 0 ≤ A 1 5 ∧ A 1 5 ≤ 24) (k0 : ¬ ((0 ≤ x ∧ x < A 1 4) ∧ (0 ≤ y ∧ y < A 1 4) ∧ x ≠ y) → post (some (.inl (iZ (-1)))) (123, K, zs (A), ρ)) (k1 : (((0 ≤ x ∧ x < A 1 4) ∧ (0 ≤ y ∧ y < A 1 4) ∧ x ≠ y) ∧ A 1 5 = 24) → post (some (.inl (iZ (-4)))) (123, K, zs (A), ρ)) (k2 : (((0 ≤ x ∧ x < A 1 4) ∧ (0 ≤ y ∧ y < A 1 4) ∧ x ≠ y) ∧ A 1 5 < 24) → post (some (.inl (iZ (A 1 5)))) (123, K, zs (mj_u2 (mj_u2 (mj_u2 (mj_u2 (mj_u2 (mj_u2 (mj_u2 (mj_u2 (mj_u2 (A) 0 8 0) 0 9 0) 0 10 0) 0 11 0) 3 ((A 1 5).toNat) (x)) 4 ((A 1 5).toNat) (y)) 5 ((A 1 5).toNat) 1) 1 6 (A 1 6 + 1)) 1 5 (A 1 5 + 1)), ρ)) : mj_lv (d + 3) m_Main_arc [.inr (.inl (some 0)), .inl (iZ x), .inl (iZ y)] (123, K, zs A, ρ) post := by
  show mj_W (mj_lv (d + 2)) prog_1_method_4_code 8 1 0 0 post 0 [some (.inr (.inl (some 0))), some (.inl (iZ x)), some (.inl (iZ y))] [] (123, K, zs A, ρ) 0 0
  refine mq_aload_n d3_0 rfl rfl ?_
  refine zg_getR L 1 d3_1 rfl rfl (by decide) rfl (by decide) rfl ?_
  refine mq_iload_n d3_4 rfl rfl ?_
  refine zg_callV (c := 1) L [_] d3_5 rfl rfl ⟨rfl, rfl⟩ rfl ⟨rfl, rfl⟩ ⟨by decide, by decide⟩ (by decide) rfl ?_
  refine s_hasNode L (by omega) (by simpa [u2_at] using rn) (fun w1 => ?_) (fun w1 => ?_)
  · refine zq_if_eq (tgt := 27) d3_8 (by decide) (by omega) (fun g1 => by exfalso; omega) (fun g1 => ?_)
    refine mq_aload_n d3_11 rfl rfl ?_
    refine zg_getR L 1 d3_12 rfl rfl (by decide) rfl (by decide) rfl ?_
    refine mq_iload_n d3_15 rfl rfl ?_
    refine zg_callV (c := 1) L [_] d3_16 rfl rfl ⟨rfl, rfl⟩ rfl ⟨rfl, rfl⟩ ⟨by decide, by decide⟩ (by decide) rfl ?_
    refine s_hasNode L (by omega) (by simpa [u2_at] using rn) (fun w2 => ?_) (fun w2 => ?_)
    · refine zq_if_eq (tgt := 27) d3_19 (by decide) (by omega) (fun g2 => by exfalso; omega) (fun g2 => ?_)
      refine mq_iload_n d3_22 rfl rfl ?_
      refine mq_iload_n d3_23 rfl rfl ?_
      refine zq_icmp_ne (tgt := 29) d3_24 (by decide) (by omega) (by omega) (fun g3 => ?_) (fun g3 => ?_)
      · refine mq_aload_n d3_29 rfl rfl ?_
        refine zg_getR L 1 d3_30 rfl rfl (by decide) rfl (by decide) rfl ?_
        refine zg_getI L d3_33 rfl rfl (by decide) rfl ?_
        refine zq_bipush d3_36 rfl ?_
        refine zq_icmp_lt (tgt := 44) d3_38 (by decide) (by omega) (by omega) (fun g4 => ?_) (fun g4 => ?_)
        · refine mq_aload_n d3_44 rfl rfl ?_
          refine zg_callV (c := 0) L [] d3_45 rfl rfl ⟨rfl, rfl⟩ rfl ⟨rfl, rfl⟩ ⟨by decide, by decide⟩ (by decide) rfl ?_
          refine s_forgetAll L ?_
          refine mq_aload_n d3_48 rfl rfl ?_
          refine zg_getR L 1 d3_49 rfl rfl (by decide) rfl (by decide) rfl ?_
          refine mq_iload_n d3_52 rfl rfl ?_
          refine mq_iload_n d3_53 rfl rfl ?_
          refine zg_callV (c := 1) L [_, _] d3_54 rfl rfl ⟨rfl, rfl⟩ rfl ⟨rfl, rfl⟩ ⟨by decide, by decide⟩ (by decide) rfl ?_
          refine s_addArc L (by omega) (by omega) (by simp [u2_at]; omega) ?_
          refine zg_reti d3_57 rfl ?_
          first | (exact k0 (by omega)) | (exact k1 (by omega)) | (exact k2 (by omega)) | (simpa [u2_at] using k0 (by omega)) | (simpa [u2_at] using k1 (by omega)) | (simpa [u2_at] using k2 (by omega))
        · refine zq_bipush d3_41 rfl ?_
          refine zg_reti d3_43 rfl ?_
          first | (exact k0 (by omega)) | (exact k1 (by omega)) | (exact k2 (by omega)) | (simpa [u2_at] using k0 (by omega)) | (simpa [u2_at] using k1 (by omega)) | (simpa [u2_at] using k2 (by omega))
      · refine zq_iconst d3_27 ?_
        refine zg_reti d3_28 rfl ?_
        first | (exact k0 (by omega)) | (exact k1 (by omega)) | (exact k2 (by omega)) | (simpa [u2_at] using k0 (by omega)) | (simpa [u2_at] using k1 (by omega)) | (simpa [u2_at] using k2 (by omega))
    · refine zq_if_eq (tgt := 27) d3_19 (by decide) (by omega) (fun g5 => ?_) (fun g5 => by exfalso; omega)
      refine zq_iconst d3_27 ?_
      refine zg_reti d3_28 rfl ?_
      first | (exact k0 (by omega)) | (exact k1 (by omega)) | (exact k2 (by omega)) | (simpa [u2_at] using k0 (by omega)) | (simpa [u2_at] using k1 (by omega)) | (simpa [u2_at] using k2 (by omega))
  · refine zq_if_eq (tgt := 27) d3_8 (by decide) (by omega) (fun g6 => ?_) (fun g6 => by exfalso; omega)
    refine zq_iconst d3_27 ?_
    refine zg_reti d3_28 rfl ?_
    first | (exact k0 (by omega)) | (exact k1 (by omega)) | (exact k2 (by omega)) | (simpa [u2_at] using k0 (by omega)) | (simpa [u2_at] using k1 (by omega)) | (simpa [u2_at] using k2 (by omega))
set_option maxRecDepth 100000 in
set_option maxHeartbeats 2000000 in
theorem s_drop (L : Lay K ρ) {x : Int} (rx : -2147483648 ≤ x ∧ x < 2147483648) (rm : 0 ≤ A 1 5 ∧ A 1 5 ≤ 24) (rt : ∀ a : Nat, (a : Int) < A 1 5 → A 5 a = 0 ∨ A 5 a = 1) (k0 : ¬ (0 ≤ x ∧ x < A 1 5 ∧ A 5 x.toNat = 1) → post (some (.inl (iZ (-1)))) (123, K, zs (A), ρ)) (k1 : (0 ≤ x ∧ x < A 1 5 ∧ A 5 x.toNat = 1) → post (some (.inl (iZ (A 1 6 - 1)))) (123, K, zs (mj_u2 (mj_u2 (mj_u2 (mj_u2 (mj_u2 (mj_u2 (A) 0 8 0) 0 9 0) 0 10 0) 0 11 0) 5 (x.toNat) 0) 1 6 (A 1 6 - 1)), ρ)) : mj_lv (d + 3) m_Main_drop [.inr (.inl (some 0)), .inl (iZ x)] (123, K, zs A, ρ) post := by
  show mj_W (mj_lv (d + 2)) prog_1_method_5_code 8 1 0 0 post 0 [some (.inr (.inl (some 0))), some (.inl (iZ x))] [] (123, K, zs A, ρ) 0 0
  refine mq_aload_n d4_0 rfl rfl ?_
  refine zg_getR L 1 d4_1 rfl rfl (by decide) rfl (by decide) rfl ?_
  refine mq_iload_n d4_4 rfl rfl ?_
  refine zg_callV (c := 1) L [_] d4_5 rfl rfl ⟨rfl, rfl⟩ rfl ⟨rfl, rfl⟩ ⟨by decide, by decide⟩ (by decide) rfl ?_
  refine s_hasArc L (by omega) rm rt (fun w1 => ?_) (fun w1 => ?_)
  · refine zq_if_ne (tgt := 13) d4_8 (by decide) (by omega) (fun g1 => ?_) (fun g1 => by exfalso; omega)
    refine mq_aload_n d4_13 rfl rfl ?_
    refine zg_callV (c := 0) L [] d4_14 rfl rfl ⟨rfl, rfl⟩ rfl ⟨rfl, rfl⟩ ⟨by decide, by decide⟩ (by decide) rfl ?_
    refine s_forgetAll L ?_
    refine mq_aload_n d4_17 rfl rfl ?_
    refine zg_getR L 1 d4_18 rfl rfl (by decide) rfl (by decide) rfl ?_
    refine mq_iload_n d4_21 rfl rfl ?_
    refine zg_callV (c := 1) L [_] d4_22 rfl rfl ⟨rfl, rfl⟩ rfl ⟨rfl, rfl⟩ ⟨by decide, by decide⟩ (by decide) rfl ?_
    refine s_removeArc L (by omega) (by omega) ?_
    refine mq_aload_n d4_25 rfl rfl ?_
    refine zg_getR L 1 d4_26 rfl rfl (by decide) rfl (by decide) rfl ?_
    refine zg_getIe L ((A 1 6 - 1)) d4_29 rfl rfl (by decide) rfl (by simp [u2_at]) ?_
    refine zg_reti d4_32 rfl ?_
    first | (exact k0 (by omega)) | (exact k1 (by omega)) | (simpa [u2_at] using k0 (by omega)) | (simpa [u2_at] using k1 (by omega))
  · refine zq_if_ne (tgt := 13) d4_8 (by decide) (by omega) (fun g2 => by exfalso; omega) (fun g2 => ?_)
    refine zq_iconst d4_11 ?_
    refine zg_reti d4_12 rfl ?_
    first | (exact k0 (by omega)) | (exact k1 (by omega)) | (simpa [u2_at] using k0 (by omega)) | (simpa [u2_at] using k1 (by omega))
set_option maxRecDepth 100000 in
set_option maxHeartbeats 2000000 in
theorem s_clear (L : Lay K ρ)   (k0 : post (some (.inl (iZ (A 1 4)))) (123, K, zs (mj_u2 (mj_u2 (mj_u2 (mj_u2 (mj_u2 (mj_u2 (mj_u2 (A) 0 8 0) 0 9 0) 0 10 0) 0 11 0) 1 4 0) 1 5 0) 1 6 0), ρ)) : mj_lv (d + 3) m_Main_clear [.inr (.inl (some 0))] (123, K, zs A, ρ) post := by
  show mj_W (mj_lv (d + 2)) prog_1_method_6_code 8 1 0 0 post 0 [some (.inr (.inl (some 0))), none] [] (123, K, zs A, ρ) 0 0
  refine mq_aload_n d5_0 rfl rfl ?_
  refine zg_callV (c := 0) L [] d5_1 rfl rfl ⟨rfl, rfl⟩ rfl ⟨rfl, rfl⟩ ⟨by decide, by decide⟩ (by decide) rfl ?_
  refine s_forgetAll L ?_
  refine mq_aload_n d5_4 rfl rfl ?_
  refine zg_getR L 1 d5_5 rfl rfl (by decide) rfl (by decide) rfl ?_
  refine zg_getIe L (A 1 4) d5_8 rfl rfl (by decide) rfl (by simp [u2_at]) ?_
  refine mq_istore_n d5_11 rfl (Nat.le_of_ble_eq_true rfl) rfl ?_
  refine mq_aload_n d5_12 rfl rfl ?_
  refine zg_getR L 1 d5_13 rfl rfl (by decide) rfl (by decide) rfl ?_
  refine zg_callV (c := 1) L [] d5_16 rfl rfl ⟨rfl, rfl⟩ rfl ⟨rfl, rfl⟩ ⟨by decide, by decide⟩ (by decide) rfl ?_
  refine s_empty L ?_
  refine mq_iload_n d5_19 rfl rfl ?_
  refine zg_reti d5_20 rfl ?_
  first | exact k0 | simpa [u2_at] using k0
set_option maxRecDepth 100000 in
set_option maxHeartbeats 2000000 in
theorem s_mnode (L : Lay K ρ) {x : Int} (rx : -2147483648 ≤ x ∧ x < 2147483648) (rn : 0 ≤ A 93 0 ∧ A 93 0 ≤ 12) (k0 : ¬ (1 ≤ x ∧ x ≤ 9) → post (some (.inl (iZ (-2)))) (123, K, zs (A), ρ)) (k1 : ((1 ≤ x ∧ x ≤ 9) ∧ A 93 0 = 12) → post (some (.inl (iZ (-4)))) (123, K, zs (A), ρ)) (k2 : ((1 ≤ x ∧ x ≤ 9) ∧ A 93 0 < 12) → post (some (.inl (iZ (A 93 0)))) (123, K, zs (mj_u2 (mj_u2 (mj_u2 (mj_u2 (A) 94 ((A 93 0).toNat) (x)) 93 0 (A 93 0 + 1)) 93 7 1) 93 8 0), ρ)) : mj_lv (d + 2) m_Mod_node [.inr (.inl (some 93)), .inl (iZ x)] (123, K, zs A, ρ) post := by
  show mj_W (mj_lv (d + 1)) prog_11_method_5_code 9 1 0 0 post 0 [some (.inr (.inl (some 93))), some (.inl (iZ x))] [] (123, K, zs A, ρ) 0 0
  refine mq_iload_n d29_0 rfl rfl ?_
  refine zq_iconst d29_1 ?_
  refine zq_icmp_lt (tgt := 11) d29_2 (by decide) (by omega) (by omega) (fun g1 => ?_) (fun g1 => ?_)
  · refine zq_bipush d29_11 rfl ?_
    refine zg_reti d29_13 rfl ?_
    first | (exact k0 (by omega)) | (exact k1 (by omega)) | (exact k2 (by omega)) | (simpa [u2_at] using k0 (by omega)) | (simpa [u2_at] using k1 (by omega)) | (simpa [u2_at] using k2 (by omega))
  · refine mq_iload_n d29_5 rfl rfl ?_
    refine zq_bipush d29_6 rfl ?_
    refine zq_icmp_le (tgt := 14) d29_8 (by decide) (by omega) (by omega) (fun g2 => ?_) (fun g2 => ?_)
    · refine mq_aload_n d29_14 rfl rfl ?_
      refine zg_getI L d29_15 rfl rfl (by decide) rfl ?_
      refine zq_bipush d29_18 rfl ?_
      refine zq_icmp_ne (tgt := 26) d29_20 (by decide) (by omega) (by omega) (fun g3 => ?_) (fun g3 => ?_)
      · refine mq_aload_n d29_26 rfl rfl ?_
        refine zg_getR L 94 d29_27 rfl rfl (by decide) rfl (by decide) rfl ?_
        refine mq_aload_n d29_30 rfl rfl ?_
        refine zg_getI L d29_31 rfl rfl (by decide) rfl ?_
        refine mq_iload_n d29_34 rfl rfl ?_
        refine zg_iast L d29_35 (by decide) rfl (by omega) ?_
        refine mq_aload_n d29_36 rfl rfl ?_
        refine mq_dup d29_37 rfl ?_
        refine zg_getIe L (A 93 0) d29_38 rfl rfl (by decide) rfl (by simp [u2_at]) ?_
        refine zq_iconst d29_41 ?_
        refine zq_iadd d29_42 ?_
        refine zg_putI L d29_43 rfl rfl rfl rfl (by decide) rfl ?_
        refine mq_aload_n d29_46 rfl rfl ?_
        refine zg_callV (c := 93) L [] d29_47 rfl rfl ⟨rfl, rfl⟩ rfl ⟨rfl, rfl⟩ ⟨by decide, by decide⟩ (by decide) rfl ?_
        refine s_changed L ?_
        refine mq_aload_n d29_50 rfl rfl ?_
        refine zg_getIe L (((A 93 0) + 1)) d29_51 rfl rfl (by decide) rfl (by simp [u2_at]) ?_
        refine zq_iconst d29_54 ?_
        refine zq_isub d29_55 ?_
        refine zg_reti d29_56 rfl ?_
        first | (exact k0 (by omega)) | (exact k1 (by omega)) | (exact k2 (by omega)) | (simpa [u2_at] using k0 (by omega)) | (simpa [u2_at] using k1 (by omega)) | (simpa [u2_at] using k2 (by omega))
      · refine zq_bipush d29_23 rfl ?_
        refine zg_reti d29_25 rfl ?_
        first | (exact k0 (by omega)) | (exact k1 (by omega)) | (exact k2 (by omega)) | (simpa [u2_at] using k0 (by omega)) | (simpa [u2_at] using k1 (by omega)) | (simpa [u2_at] using k2 (by omega))
    · refine zq_bipush d29_11 rfl ?_
      refine zg_reti d29_13 rfl ?_
      first | (exact k0 (by omega)) | (exact k1 (by omega)) | (exact k2 (by omega)) | (simpa [u2_at] using k0 (by omega)) | (simpa [u2_at] using k1 (by omega)) | (simpa [u2_at] using k2 (by omega))
set_option maxRecDepth 100000 in
set_option maxHeartbeats 2000000 in
theorem s_mwidth (L : Lay K ρ) {x : Int} (rx : -2147483648 ≤ x ∧ x < 2147483648) {y : Int} (ry : -2147483648 ≤ y ∧ y < 2147483648) (rn : 0 ≤ A 93 0 ∧ A 93 0 ≤ 12) (k0 : ¬ (0 ≤ x ∧ x < A 93 0) → post (some (.inl (iZ (-1)))) (123, K, zs (A), ρ)) (k1 : ((0 ≤ x ∧ x < A 93 0) ∧ ¬ (1 ≤ y ∧ y ≤ 9)) → post (some (.inl (iZ (-2)))) (123, K, zs (A), ρ)) (k2 : ((0 ≤ x ∧ x < A 93 0) ∧ (1 ≤ y ∧ y ≤ 9)) → post (some (.inl (iZ (A 94 x.toNat)))) (123, K, zs (mj_u2 (mj_u2 (mj_u2 (A) 94 (x.toNat) (y)) 93 7 1) 93 8 0), ρ)) : mj_lv (d + 2) m_Mod_width [.inr (.inl (some 93)), .inl (iZ x), .inl (iZ y)] (123, K, zs A, ρ) post := by
  show mj_W (mj_lv (d + 1)) prog_11_method_6_code 9 1 0 0 post 0 [some (.inr (.inl (some 93))), some (.inl (iZ x)), some (.inl (iZ y)), none] [] (123, K, zs A, ρ) 0 0
  refine mq_aload_n d30_0 rfl rfl ?_
  refine mq_iload_n d30_1 rfl rfl ?_
  refine zg_callV (c := 93) L [_] d30_2 rfl rfl ⟨rfl, rfl⟩ rfl ⟨rfl, rfl⟩ ⟨by decide, by decide⟩ (by decide) rfl ?_
  refine s_isNode L (by omega) rn (fun w1 => ?_) (fun w1 => ?_)
  · refine zq_if_ne (tgt := 10) d30_5 (by decide) (by omega) (fun g1 => ?_) (fun g1 => by exfalso; omega)
    refine mq_iload_n d30_10 rfl rfl ?_
    refine zq_iconst d30_11 ?_
    refine zq_icmp_lt (tgt := 21) d30_12 (by decide) (by omega) (by omega) (fun g2 => ?_) (fun g2 => ?_)
    · refine zq_bipush d30_21 rfl ?_
      refine zg_reti d30_23 rfl ?_
      first | (exact k0 (by omega)) | (exact k1 (by omega)) | (exact k2 (by omega)) | (simpa [u2_at] using k0 (by omega)) | (simpa [u2_at] using k1 (by omega)) | (simpa [u2_at] using k2 (by omega))
    · refine mq_iload_n d30_15 rfl rfl ?_
      refine zq_bipush d30_16 rfl ?_
      refine zq_icmp_le (tgt := 24) d30_18 (by decide) (by omega) (by omega) (fun g3 => ?_) (fun g3 => ?_)
      · refine mq_aload_n d30_24 rfl rfl ?_
        refine zg_getR L 94 d30_25 rfl rfl (by decide) rfl (by decide) rfl ?_
        refine mq_iload_n d30_28 rfl rfl ?_
        refine zg_iald L d30_29 (by decide) rfl (by omega) ?_
        refine mq_istore_n d30_30 rfl (Nat.le_of_ble_eq_true rfl) rfl ?_
        refine mq_aload_n d30_31 rfl rfl ?_
        refine zg_getR L 94 d30_32 rfl rfl (by decide) rfl (by decide) rfl ?_
        refine mq_iload_n d30_35 rfl rfl ?_
        refine mq_iload_n d30_36 rfl rfl ?_
        refine zg_iast L d30_37 (by decide) rfl (by omega) ?_
        refine mq_aload_n d30_38 rfl rfl ?_
        refine zg_callV (c := 93) L [] d30_39 rfl rfl ⟨rfl, rfl⟩ rfl ⟨rfl, rfl⟩ ⟨by decide, by decide⟩ (by decide) rfl ?_
        refine s_changed L ?_
        refine mq_iload_n d30_42 rfl rfl ?_
        refine zg_reti d30_43 rfl ?_
        first | (exact k0 (by omega)) | (exact k1 (by omega)) | (exact k2 (by omega)) | (simpa [u2_at] using k0 (by omega)) | (simpa [u2_at] using k1 (by omega)) | (simpa [u2_at] using k2 (by omega))
      · refine zq_bipush d30_21 rfl ?_
        refine zg_reti d30_23 rfl ?_
        first | (exact k0 (by omega)) | (exact k1 (by omega)) | (exact k2 (by omega)) | (simpa [u2_at] using k0 (by omega)) | (simpa [u2_at] using k1 (by omega)) | (simpa [u2_at] using k2 (by omega))
  · refine zq_if_ne (tgt := 10) d30_5 (by decide) (by omega) (fun g4 => by exfalso; omega) (fun g4 => ?_)
    refine zq_iconst d30_8 ?_
    refine zg_reti d30_9 rfl ?_
    first | (exact k0 (by omega)) | (exact k1 (by omega)) | (exact k2 (by omega)) | (simpa [u2_at] using k0 (by omega)) | (simpa [u2_at] using k1 (by omega)) | (simpa [u2_at] using k2 (by omega))
set_option maxRecDepth 100000 in
set_option maxHeartbeats 2000000 in
theorem s_marc (L : Lay K ρ) {x : Int} (rx : -2147483648 ≤ x ∧ x < 2147483648) {y : Int} (ry : -2147483648 ≤ y ∧ y < 2147483648) (rn : 0 ≤ A 93 0 ∧ A 93 0 ≤ 12) (rm : 0 ≤ A 93 1 ∧ A 93 1 ≤ 24) (k0 : ¬ ((0 ≤ x ∧ x < A 93 0) ∧ (0 ≤ y ∧ y < A 93 0) ∧ x ≠ y) → post (some (.inl (iZ (-1)))) (123, K, zs (A), ρ)) (k1 : (((0 ≤ x ∧ x < A 93 0) ∧ (0 ≤ y ∧ y < A 93 0) ∧ x ≠ y) ∧ A 93 1 = 24) → post (some (.inl (iZ (-4)))) (123, K, zs (A), ρ)) (k2 : (((0 ≤ x ∧ x < A 93 0) ∧ (0 ≤ y ∧ y < A 93 0) ∧ x ≠ y) ∧ A 93 1 < 24) → post (some (.inl (iZ (A 93 1)))) (123, K, zs (mj_u2 (mj_u2 (mj_u2 (mj_u2 (mj_u2 (mj_u2 (mj_u2 (A) 95 ((A 93 1).toNat) (x)) 96 ((A 93 1).toNat) (y)) 97 ((A 93 1).toNat) 1) 93 1 (A 93 1 + 1)) 93 2 (A 93 2 + 1)) 93 7 1) 93 8 0), ρ)) : mj_lv (d + 2) m_Mod_arc [.inr (.inl (some 93)), .inl (iZ x), .inl (iZ y)] (123, K, zs A, ρ) post := by
  show mj_W (mj_lv (d + 1)) prog_11_method_7_code 9 1 0 0 post 0 [some (.inr (.inl (some 93))), some (.inl (iZ x)), some (.inl (iZ y))] [] (123, K, zs A, ρ) 0 0
  refine mq_aload_n d31_0 rfl rfl ?_
  refine mq_iload_n d31_1 rfl rfl ?_
  refine zg_callV (c := 93) L [_] d31_2 rfl rfl ⟨rfl, rfl⟩ rfl ⟨rfl, rfl⟩ ⟨by decide, by decide⟩ (by decide) rfl ?_
  refine s_isNode L (by omega) rn (fun w1 => ?_) (fun w1 => ?_)
  · refine zq_if_eq (tgt := 21) d31_5 (by decide) (by omega) (fun g1 => by exfalso; omega) (fun g1 => ?_)
    refine mq_aload_n d31_8 rfl rfl ?_
    refine mq_iload_n d31_9 rfl rfl ?_
    refine zg_callV (c := 93) L [_] d31_10 rfl rfl ⟨rfl, rfl⟩ rfl ⟨rfl, rfl⟩ ⟨by decide, by decide⟩ (by decide) rfl ?_
    refine s_isNode L (by omega) rn (fun w2 => ?_) (fun w2 => ?_)
    · refine zq_if_eq (tgt := 21) d31_13 (by decide) (by omega) (fun g2 => by exfalso; omega) (fun g2 => ?_)
      refine mq_iload_n d31_16 rfl rfl ?_
      refine mq_iload_n d31_17 rfl rfl ?_
      refine zq_icmp_ne (tgt := 23) d31_18 (by decide) (by omega) (by omega) (fun g3 => ?_) (fun g3 => ?_)
      · refine mq_aload_n d31_23 rfl rfl ?_
        refine zg_getI L d31_24 rfl rfl (by decide) rfl ?_
        refine zq_bipush d31_27 rfl ?_
        refine zq_icmp_ne (tgt := 35) d31_29 (by decide) (by omega) (by omega) (fun g4 => ?_) (fun g4 => ?_)
        · refine mq_aload_n d31_35 rfl rfl ?_
          refine zg_getR L 95 d31_36 rfl rfl (by decide) rfl (by decide) rfl ?_
          refine mq_aload_n d31_39 rfl rfl ?_
          refine zg_getI L d31_40 rfl rfl (by decide) rfl ?_
          refine mq_iload_n d31_43 rfl rfl ?_
          refine zg_iast L d31_44 (by decide) rfl (by omega) ?_
          refine mq_aload_n d31_45 rfl rfl ?_
          refine zg_getR L 96 d31_46 rfl rfl (by decide) rfl (by decide) rfl ?_
          refine mq_aload_n d31_49 rfl rfl ?_
          refine zg_getIe L (A 93 1) d31_50 rfl rfl (by decide) rfl (by simp [u2_at]) ?_
          refine mq_iload_n d31_53 rfl rfl ?_
          refine zg_iast L d31_54 (by decide) rfl (by omega) ?_
          refine mq_aload_n d31_55 rfl rfl ?_
          refine zg_getR L 97 d31_56 rfl rfl (by decide) rfl (by decide) rfl ?_
          refine mq_aload_n d31_59 rfl rfl ?_
          refine zg_getIe L (A 93 1) d31_60 rfl rfl (by decide) rfl (by simp [u2_at]) ?_
          refine zq_iconst d31_63 ?_
          refine zg_zast L d31_64 (by decide) rfl (by omega) (by first | decide | omega) ?_
          refine mq_aload_n d31_65 rfl rfl ?_
          refine mq_dup d31_66 rfl ?_
          refine zg_getIe L (A 93 1) d31_67 rfl rfl (by decide) rfl (by simp [u2_at]) ?_
          refine zq_iconst d31_70 ?_
          refine zq_iadd d31_71 ?_
          refine zg_putI L d31_72 rfl rfl rfl rfl (by decide) rfl ?_
          refine mq_aload_n d31_75 rfl rfl ?_
          refine mq_dup d31_76 rfl ?_
          refine zg_getIe L (A 93 2) d31_77 rfl rfl (by decide) rfl (by simp [u2_at]) ?_
          refine zq_iconst d31_80 ?_
          refine zq_iadd d31_81 ?_
          refine zg_putI L d31_82 rfl rfl rfl rfl (by decide) rfl ?_
          refine mq_aload_n d31_85 rfl rfl ?_
          refine zg_callV (c := 93) L [] d31_86 rfl rfl ⟨rfl, rfl⟩ rfl ⟨rfl, rfl⟩ ⟨by decide, by decide⟩ (by decide) rfl ?_
          refine s_changed L ?_
          refine mq_aload_n d31_89 rfl rfl ?_
          refine zg_getIe L (((A 93 1) + 1)) d31_90 rfl rfl (by decide) rfl (by simp [u2_at]) ?_
          refine zq_iconst d31_93 ?_
          refine zq_isub d31_94 ?_
          refine zg_reti d31_95 rfl ?_
          first | (exact k0 (by omega)) | (exact k1 (by omega)) | (exact k2 (by omega)) | (simpa [u2_at] using k0 (by omega)) | (simpa [u2_at] using k1 (by omega)) | (simpa [u2_at] using k2 (by omega))
        · refine zq_bipush d31_32 rfl ?_
          refine zg_reti d31_34 rfl ?_
          first | (exact k0 (by omega)) | (exact k1 (by omega)) | (exact k2 (by omega)) | (simpa [u2_at] using k0 (by omega)) | (simpa [u2_at] using k1 (by omega)) | (simpa [u2_at] using k2 (by omega))
      · refine zq_iconst d31_21 ?_
        refine zg_reti d31_22 rfl ?_
        first | (exact k0 (by omega)) | (exact k1 (by omega)) | (exact k2 (by omega)) | (simpa [u2_at] using k0 (by omega)) | (simpa [u2_at] using k1 (by omega)) | (simpa [u2_at] using k2 (by omega))
    · refine zq_if_eq (tgt := 21) d31_13 (by decide) (by omega) (fun g5 => ?_) (fun g5 => by exfalso; omega)
      refine zq_iconst d31_21 ?_
      refine zg_reti d31_22 rfl ?_
      first | (exact k0 (by omega)) | (exact k1 (by omega)) | (exact k2 (by omega)) | (simpa [u2_at] using k0 (by omega)) | (simpa [u2_at] using k1 (by omega)) | (simpa [u2_at] using k2 (by omega))
  · refine zq_if_eq (tgt := 21) d31_5 (by decide) (by omega) (fun g6 => ?_) (fun g6 => by exfalso; omega)
    refine zq_iconst d31_21 ?_
    refine zg_reti d31_22 rfl ?_
    first | (exact k0 (by omega)) | (exact k1 (by omega)) | (exact k2 (by omega)) | (simpa [u2_at] using k0 (by omega)) | (simpa [u2_at] using k1 (by omega)) | (simpa [u2_at] using k2 (by omega))
set_option maxRecDepth 100000 in
set_option maxHeartbeats 2000000 in
theorem s_mdrop (L : Lay K ρ) {x : Int} (rx : -2147483648 ≤ x ∧ x < 2147483648) (rm : 0 ≤ A 93 1 ∧ A 93 1 ≤ 24) (rt : ∀ a : Nat, (a : Int) < A 93 1 → A 97 a = 0 ∨ A 97 a = 1) (k0 : ¬ (0 ≤ x ∧ x < A 93 1 ∧ A 97 x.toNat = 1) → post (some (.inl (iZ (-1)))) (123, K, zs (A), ρ)) (k1 : (0 ≤ x ∧ x < A 93 1 ∧ A 97 x.toNat = 1) → post (some (.inl (iZ (A 93 2 - 1)))) (123, K, zs (mj_u2 (mj_u2 (mj_u2 (mj_u2 (A) 97 (x.toNat) 0) 93 2 (A 93 2 - 1)) 93 7 1) 93 8 0), ρ)) : mj_lv (d + 2) m_Mod_drop [.inr (.inl (some 93)), .inl (iZ x)] (123, K, zs A, ρ) post := by
  show mj_W (mj_lv (d + 1)) prog_11_method_8_code 9 1 0 0 post 0 [some (.inr (.inl (some 93))), some (.inl (iZ x))] [] (123, K, zs A, ρ) 0 0
  refine mq_aload_n d32_0 rfl rfl ?_
  refine mq_iload_n d32_1 rfl rfl ?_
  refine zg_callV (c := 93) L [_] d32_2 rfl rfl ⟨rfl, rfl⟩ rfl ⟨rfl, rfl⟩ ⟨by decide, by decide⟩ (by decide) rfl ?_
  refine s_isArc L (by omega) rm rt (fun w1 => ?_) (fun w1 => ?_)
  · refine zq_if_ne (tgt := 10) d32_5 (by decide) (by omega) (fun g1 => ?_) (fun g1 => by exfalso; omega)
    refine mq_aload_n d32_10 rfl rfl ?_
    refine zg_getR L 97 d32_11 rfl rfl (by decide) rfl (by decide) rfl ?_
    refine mq_iload_n d32_14 rfl rfl ?_
    refine zq_iconst d32_15 ?_
    refine zg_zast L d32_16 (by decide) rfl (by omega) (by first | decide | omega) ?_
    refine mq_aload_n d32_17 rfl rfl ?_
    refine mq_dup d32_18 rfl ?_
    refine zg_getIe L (A 93 2) d32_19 rfl rfl (by decide) rfl (by simp [u2_at]) ?_
    refine zq_iconst d32_22 ?_
    refine zq_isub d32_23 ?_
    refine zg_putI L d32_24 rfl rfl rfl rfl (by decide) rfl ?_
    refine mq_aload_n d32_27 rfl rfl ?_
    refine zg_callV (c := 93) L [] d32_28 rfl rfl ⟨rfl, rfl⟩ rfl ⟨rfl, rfl⟩ ⟨by decide, by decide⟩ (by decide) rfl ?_
    refine s_changed L ?_
    refine mq_aload_n d32_31 rfl rfl ?_
    refine zg_getIe L (((A 93 2) - 1)) d32_32 rfl rfl (by decide) rfl (by simp [u2_at]) ?_
    refine zg_reti d32_35 rfl ?_
    first | (exact k0 (by omega)) | (exact k1 (by omega)) | (simpa [u2_at] using k0 (by omega)) | (simpa [u2_at] using k1 (by omega))
  · refine zq_if_ne (tgt := 10) d32_5 (by decide) (by omega) (fun g2 => by exfalso; omega) (fun g2 => ?_)
    refine zq_iconst d32_8 ?_
    refine zg_reti d32_9 rfl ?_
    first | (exact k0 (by omega)) | (exact k1 (by omega)) | (simpa [u2_at] using k0 (by omega)) | (simpa [u2_at] using k1 (by omega))
set_option maxRecDepth 100000 in
set_option maxHeartbeats 2000000 in
theorem s_mclear (L : Lay K ρ)   (k0 : post (some (.inl (iZ (A 93 0)))) (123, K, zs (mj_u2 (mj_u2 (mj_u2 (mj_u2 (mj_u2 (A) 93 0 0) 93 1 0) 93 2 0) 93 7 1) 93 8 0), ρ)) : mj_lv (d + 2) m_Mod_clear [.inr (.inl (some 93))] (123, K, zs A, ρ) post := by
  show mj_W (mj_lv (d + 1)) prog_11_method_9_code 9 1 0 0 post 0 [some (.inr (.inl (some 93))), none] [] (123, K, zs A, ρ) 0 0
  refine mq_aload_n d33_0 rfl rfl ?_
  refine zg_getI L d33_1 rfl rfl (by decide) rfl ?_
  refine mq_istore_n d33_4 rfl (Nat.le_of_ble_eq_true rfl) rfl ?_
  refine mq_aload_n d33_5 rfl rfl ?_
  refine zq_iconst d33_6 ?_
  refine zg_putI L d33_7 rfl rfl rfl rfl (by decide) rfl ?_
  refine mq_aload_n d33_10 rfl rfl ?_
  refine zq_iconst d33_11 ?_
  refine zg_putI L d33_12 rfl rfl rfl rfl (by decide) rfl ?_
  refine mq_aload_n d33_15 rfl rfl ?_
  refine zq_iconst d33_16 ?_
  refine zg_putI L d33_17 rfl rfl rfl rfl (by decide) rfl ?_
  refine mq_aload_n d33_20 rfl rfl ?_
  refine zg_callV (c := 93) L [] d33_21 rfl rfl ⟨rfl, rfl⟩ rfl ⟨rfl, rfl⟩ ⟨by decide, by decide⟩ (by decide) rfl ?_
  refine s_changed L ?_
  refine mq_iload_n d33_24 rfl rfl ?_
  refine zg_reti d33_25 rfl ?_
  first | exact k0 | simpa [u2_at] using k0
end sp_mut
