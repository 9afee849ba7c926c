section sp_sm
variable {RN PM GW : (Nat → Nat → Int) → Prop} {d : Nat} {post : Option mj_V → mj_H → Prop} {K : Nat → Nat × Nat} {ρ : Nat → Nat → Option Nat} {A : Nat → Nat → Int}
set_option maxRecDepth 100000 in
theorem s_hasLayer (L : Lay K ρ) {x : Int} {h : Nat} (rx : -2147483648 ≤ x ∧ x < 2147483648) (h46 : A 46 6 = (h : Nat)) (h12 : h ≤ 12) (k1 : (0 ≤ x ∧ x < h) → post (some (.inl (iZ 1))) (123, K, zs (A), ρ)) (k0 : ¬ (0 ≤ x ∧ x < h) → post (some (.inl (iZ 0))) (123, K, zs (A), ρ)) : mj_lv (d + 1) m_Orders_hasLayer [.inr (.inl (some 46)), .inl (iZ x)] (123, K, zs (A), ρ) post := by
  show mj_W (mj_lv d) prog_4_method_2_code 2 2 0 0 post 0 [some (.inr (.inl (some 46))), some (.inl (iZ (x)))] [] (123, K, zs (A), ρ) 0 0
  refine mq_iload_n d90_0 rfl rfl ?_
  refine zq_if_lt (tgt := 16) d90_1 (by decide) (by omega) (fun g1 => ?_) (fun g1 => ?_)
  · refine zq_iconst d90_16 ?_
    refine zg_retz d90_17 rfl (by first | decide | omega) ?_
    exact k0 (by omega)
  · refine mq_iload_n d90_4 rfl rfl ?_
    refine mq_aload_n d90_5 rfl rfl ?_
    refine zg_getIe L ((h : Nat)) d90_6 rfl rfl (by decide) rfl (h46) ?_
    refine zq_icmp_ge (tgt := 16) d90_9 (by decide) (by omega) (by omega) (fun g2 => ?_) (fun g2 => ?_)
    · refine zq_iconst d90_16 ?_
      refine zg_retz d90_17 rfl (by first | decide | omega) ?_
      exact k0 (by omega)
    · refine zq_iconst d90_12 ?_
      refine mq_goto (tgt := 17) d90_13 (by decide) ?_
      refine zg_retz d90_17 rfl (by first | decide | omega) ?_
      exact k1 (by omega)
set_option maxRecDepth 100000 in
theorem s_isBend (L : Lay K ρ) {x : Int} {e : Nat} (rx : -2147483648 ≤ x ∧ x < 2147483648) (h16 : A 16 5 = (e : Nat)) (h72 : e ≤ 72) (k1 : (12 ≤ x ∧ x < e) → post (some (.inl (iZ 1))) (123, K, zs (A), ρ)) (k0 : ¬ (12 ≤ x ∧ x < e) → post (some (.inl (iZ 0))) (123, K, zs (A), ρ)) : mj_lv (d + 1) m_Pieces_isBend [.inr (.inl (some 16)), .inl (iZ x)] (123, K, zs (A), ρ) post := by
  show mj_W (mj_lv d) prog_6_method_2_code 4 2 0 0 post 0 [some (.inr (.inl (some 16))), some (.inl (iZ (x)))] [] (123, K, zs (A), ρ) 0 0
  refine mq_iload_n d114_0 rfl rfl ?_
  refine zq_bipush d114_1 rfl ?_
  refine zq_icmp_lt (tgt := 18) d114_3 (by decide) (by omega) (by omega) (fun g1 => ?_) (fun g1 => ?_)
  · refine zq_iconst d114_18 ?_
    refine zg_retz d114_19 rfl (by first | decide | omega) ?_
    exact k0 (by omega)
  · refine mq_iload_n d114_6 rfl rfl ?_
    refine mq_aload_n d114_7 rfl rfl ?_
    refine zg_getIe L ((e : Nat)) d114_8 rfl rfl (by decide) rfl (h16) ?_
    refine zq_icmp_ge (tgt := 18) d114_11 (by decide) (by omega) (by omega) (fun g2 => ?_) (fun g2 => ?_)
    · refine zq_iconst d114_18 ?_
      refine zg_retz d114_19 rfl (by first | decide | omega) ?_
      exact k0 (by omega)
    · refine zq_iconst d114_14 ?_
      refine mq_goto (tgt := 19) d114_15 (by decide) ?_
      refine zg_retz d114_19 rfl (by first | decide | omega) ?_
      exact k1 (by omega)
set_option maxRecDepth 100000 in
theorem op_round : lw_op (InvP (JJ SCc SMm RNc PM GW)) m_Main_round m_Mod_round [] := by
  rintro h ⟨K, A, ρ, rfl, L, H⟩
  refine ⟨lyk L (by decide) rfl, ?_⟩
  obtain ⟨F1, F2, F3, F4, F5, F6, F7, F8, F9⟩ := id H.2.1
  have H' : InvP (JJ SCc SMm RNc PM GW) (123, K, zs (A), ρ) := ⟨K, A, ρ, rfl, L, H⟩
  show mj_W (mj_lv 5) prog_1_method_14_code 8 1 0 0 _ 0 [some (.inr (.inl (some 0)))] [] (123, K, zs (A), ρ) 0 0
  refine mq_aload_n d13_0 rfl rfl ?_
  refine zg_getI L d13_1 rfl rfl (by decide) rfl ?_
  refine zq_if_eq (tgt := 17) d13_4 (by decide) (by omega) (fun g1 => ?_) (fun g1 => ?_)
  · refine zq_bipush d13_17 rfl ?_
    refine zg_reti d13_19 rfl ?_
    refine ⟨_, rfl, lyk L (by decide) rfl, ?_⟩
    show mj_W (mj_lv 5) prog_11_method_35_code 9 1 0 0 _ 0 [some (.inr (.inl (some 93)))] [] (123, K, zs (A), ρ) 0 0
    refine mq_aload_n d59_0 rfl rfl ?_
    refine zg_getI L d59_1 rfl rfl (by decide) rfl ?_
    refine zq_if_eq (tgt := 14) d59_4 (by decide) (by omega) (fun g2 => ?_) (fun g2 => ?_)
    · refine zq_bipush d59_14 rfl ?_
      refine zg_reti d59_16 rfl ?_
      exact ⟨rfl, H'⟩
    · omega
  · obtain ⟨n, m, U, W, Y, th, z, w, pl, h1, h2, h3, h4, h5, h6, h7, ⟨h8, h9⟩, -⟩ := H.2.2.2.2.1 (by omega)
    refine mq_aload_n d13_7 rfl rfl ?_
    refine zg_getR L 46 d13_8 rfl rfl (by decide) rfl (by decide) rfl ?_
    refine zg_getI L d13_11 rfl rfl (by decide) rfl ?_
    refine mq_goto (tgt := 19) d13_14 (by decide) ?_
    refine zg_reti d13_19 rfl ?_
    refine ⟨_, rfl, lyk L (by decide) rfl, ?_⟩
    show mj_W (mj_lv 5) prog_11_method_35_code 9 1 0 0 _ 0 [some (.inr (.inl (some 93)))] [] (123, K, zs (A), ρ) 0 0
    refine mq_aload_n d59_0 rfl rfl ?_
    refine zg_getI L d59_1 rfl rfl (by decide) rfl ?_
    refine zq_if_eq (tgt := 14) d59_4 (by decide) (by omega) (fun g2 => ?_) (fun g2 => ?_)
    · omega
    · refine mq_aload_n d59_7 rfl rfl ?_
      refine zg_getI L d59_8 rfl rfl (by decide) rfl ?_
      refine mq_goto (tgt := 16) d59_11 (by decide) ?_
      refine zg_reti d59_16 rfl ?_
      exact ⟨by rw [h8], H'⟩
set_option maxRecDepth 100000 in
theorem op_count (x0 : Int32) : lw_op (InvP (JJ SCc SMm RNc PM GW)) m_Main_count m_Mod_count [.inl x0] := by
  rintro h ⟨K, A, ρ, rfl, L, H⟩
  refine ⟨lyk L (by decide) rfl, ?_⟩
  have rx := i32r x0
  rw [iZ_of x0]
  generalize x0.toInt = y at rx
  obtain ⟨F1, F2, F3, F4, F5, F6, F7, F8, F9⟩ := id H.2.1
  have H' : InvP (JJ SCc SMm RNc PM GW) (123, K, zs (A), ρ) := ⟨K, A, ρ, rfl, L, H⟩
  show mj_W (mj_lv 5) prog_1_method_15_code 8 1 0 0 _ 0 [some (.inr (.inl (some 0))), some (.inl (iZ (y)))] [] (123, K, zs (A), ρ) 0 0
  refine mq_aload_n d14_0 rfl rfl ?_
  refine zg_getI L d14_1 rfl rfl (by decide) rfl ?_
  refine zq_if_ne (tgt := 10) d14_4 (by decide) (by omega) (fun g1 => ?_) (fun g1 => ?_)
  · obtain ⟨n, m, U, W, Y, th, z, w, pl, ⟨hc, hmr⟩, ⟨hz, hro, hrm⟩, -⟩ := H.2.2.2.2.1 (by omega)
    have hn12 := hc.2.1.1
    have hh := h_n hc.2.1
    have hlc : ∀ v, v < n → 0 ≤ A 99 v ∧ A 99 v ≤ 100000 := fun v hv => by
      have := hc.2.1.2.2.2.1 v hv
      rw [hmr.2.2 v hv]
      omega
    have elc := lc_hY hmr.2.2
    refine mq_aload_n d14_10 rfl rfl ?_
    refine zg_getR L 46 d14_11 rfl rfl (by decide) rfl (by decide) rfl ?_
    refine mq_iload_n d14_14 rfl rfl ?_
    refine zg_callV (c := 46) L [_] d14_15 rfl rfl ⟨rfl, rfl⟩ rfl ⟨rfl, rfl⟩ ⟨by decide, by decide⟩ (by decide) rfl ?_
    refine s_hasLayer L rx hro.1 (by omega) (fun q => ?_) (fun q => ?_)
    · obtain ⟨l, hl⟩ : ∃ l : Nat, y = l := ⟨y.toNat, by omega⟩
      subst hl
      refine zq_if_ne (tgt := 23) d14_18 (by decide) (by omega) (fun g2 => ?_) (fun g2 => ?_)
      · refine mq_aload_n d14_23 rfl rfl ?_
        refine zg_getR L 46 d14_24 rfl rfl (by decide) rfl (by decide) rfl ?_
        refine zg_getR L 47 d14_27 rfl rfl (by decide) rfl (by decide) rfl ?_
        refine mq_iload_n d14_30 rfl rfl ?_
        refine zr_ialdV L ((wZ n m U W Y th l : Nat)) d14_31 (by decide) rfl (by omega) (hro.2.1 l (by omega)) ?_
        refine zg_reti d14_32 rfl ?_
        refine ⟨_, rfl, lyk L (by decide) rfl, ?_⟩
        show mj_W (mj_lv 5) prog_11_method_36_code 9 1 0 0 _ 0 [some (.inr (.inl (some 93))), some (.inl (iZ ((l : Int))))] [] (123, K, zs (A), ρ) 0 0
        refine mq_aload_n d60_0 rfl rfl ?_
        refine zg_getI L d60_1 rfl rfl (by decide) rfl ?_
        refine zq_if_ne (tgt := 12) d60_4 (by decide) (by omega) (fun g3 => ?_) (fun g3 => ?_)
        · refine mq_iload_n d60_12 rfl rfl ?_
          refine zq_if_lt (tgt := 24) d60_13 (by decide) (by omega) (fun g4 => ?_) (fun g4 => ?_)
          · omega
          · refine mq_iload_n d60_16 rfl rfl ?_
            refine mq_aload_n d60_17 rfl rfl ?_
            refine zg_callV (c := 93) L [] d60_18 rfl rfl ⟨rfl, rfl⟩ rfl ⟨rfl, rfl⟩ ⟨by decide, by decide⟩ (by decide) rfl ?_
            refine s_layerCount (d := 4) (n := n) L hmr.1.1 hn12 hlc ?_
            rw [elc]
            refine zq_icmp_lt (tgt := 28) d60_21 (by decide) (by omega) (by omega) (fun g5 => ?_) (fun g5 => ?_)
            · refine mq_aload_n d60_28 rfl rfl ?_
              refine zg_getR L 112 d60_29 rfl rfl (by decide) rfl (by decide) rfl ?_
              refine mq_iload_n d60_32 rfl rfl ?_
              refine zr_ialdV L ((wZ n m U W Y th l : Nat)) d60_33 (by decide) rfl (by omega) (hrm.1 l (by omega)) ?_
              refine zg_reti d60_34 rfl ?_
              exact ⟨rfl, H'⟩
            · omega
        · omega
      · omega
    · refine zq_if_ne (tgt := 23) d14_18 (by decide) (by omega) (fun g2 => ?_) (fun g2 => ?_)
      · omega
      · refine zq_iconst d14_21 ?_
        refine zg_reti d14_22 rfl ?_
        refine ⟨_, rfl, lyk L (by decide) rfl, ?_⟩
        show mj_W (mj_lv 5) prog_11_method_36_code 9 1 0 0 _ 0 [some (.inr (.inl (some 93))), some (.inl (iZ (y)))] [] (123, K, zs (A), ρ) 0 0
        refine mq_aload_n d60_0 rfl rfl ?_
        refine zg_getI L d60_1 rfl rfl (by decide) rfl ?_
        refine zq_if_ne (tgt := 12) d60_4 (by decide) (by omega) (fun g3 => ?_) (fun g3 => ?_)
        · refine mq_iload_n d60_12 rfl rfl ?_
          refine zq_if_lt (tgt := 24) d60_13 (by decide) (by omega) (fun g4 => ?_) (fun g4 => ?_)
          · refine zq_iconst d60_24 ?_
            refine mq_goto (tgt := 34) d60_25 (by decide) ?_
            refine zg_reti d60_34 rfl ?_
            exact ⟨rfl, H'⟩
          · refine mq_iload_n d60_16 rfl rfl ?_
            refine mq_aload_n d60_17 rfl rfl ?_
            refine zg_callV (c := 93) L [] d60_18 rfl rfl ⟨rfl, rfl⟩ rfl ⟨rfl, rfl⟩ ⟨by decide, by decide⟩ (by decide) rfl ?_
            refine s_layerCount (d := 4) (n := n) L hmr.1.1 hn12 hlc ?_
            rw [elc]
            refine zq_icmp_lt (tgt := 28) d60_21 (by decide) (by omega) (by omega) (fun g5 => ?_) (fun g5 => ?_)
            · omega
            · refine zq_iconst d60_24 ?_
              refine mq_goto (tgt := 34) d60_25 (by decide) ?_
              refine zg_reti d60_34 rfl ?_
              exact ⟨rfl, H'⟩
        · omega
  · refine zq_bipush d14_7 rfl ?_
    refine zg_reti d14_9 rfl ?_
    refine ⟨_, rfl, lyk L (by decide) rfl, ?_⟩
    show mj_W (mj_lv 5) prog_11_method_36_code 9 1 0 0 _ 0 [some (.inr (.inl (some 93))), some (.inl (iZ (y)))] [] (123, K, zs (A), ρ) 0 0
    refine mq_aload_n d60_0 rfl rfl ?_
    refine zg_getI L d60_1 rfl rfl (by decide) rfl ?_
    refine zq_if_ne (tgt := 12) d60_4 (by decide) (by omega) (fun g2 => ?_) (fun g2 => ?_)
    · omega
    · refine zq_bipush d60_7 rfl ?_
      refine mq_goto (tgt := 34) d60_9 (by decide) ?_
      refine zg_reti d60_34 rfl ?_
      exact ⟨rfl, H'⟩
set_option maxRecDepth 100000 in
theorem op_item (x0 x1 : Int32) : lw_op (InvP (JJ SCc SMm RNc PM GW)) m_Main_item m_Mod_item [.inl x0, .inl x1] := by
  rintro h ⟨K, A, ρ, rfl, L, H⟩
  refine ⟨lyk L (by decide) rfl, ?_⟩
  have rx := i32r x0
  have ry := i32r x1
  rw [iZ_of x0, iZ_of x1]
  generalize x0.toInt = y at rx
  generalize x1.toInt = u at ry
  obtain ⟨F1, F2, F3, F4, F5, F6, F7, F8, F9⟩ := id H.2.1
  have H' : InvP (JJ SCc SMm RNc PM GW) (123, K, zs (A), ρ) := ⟨K, A, ρ, rfl, L, H⟩
  show mj_W (mj_lv 5) prog_1_method_16_code 8 1 0 0 _ 0 [some (.inr (.inl (some 0))), some (.inl (iZ (y))), some (.inl (iZ (u)))] [] (123, K, zs (A), ρ) 0 0
  refine mq_aload_n d15_0 rfl rfl ?_
  refine zg_getI L d15_1 rfl rfl (by decide) rfl ?_
  refine zq_if_ne (tgt := 10) d15_4 (by decide) (by omega) (fun g1 => ?_) (fun g1 => ?_)
  · obtain ⟨n, m, U, W, Y, th, z, w, pl, ⟨hc, hmr⟩, ⟨hz, hro, hrm⟩, h114, -⟩ := H.2.2.2.2.1 (by omega)
    have hn12 := hc.2.1.1
    have hh := h_n hc.2.1
    have hx := cx_0 hc.2.1
    have hlc : ∀ v, v < n → 0 ≤ A 99 v ∧ A 99 v ≤ 100000 := fun v hv => by
      have := hc.2.1.2.2.2.1 v hv
      rw [hmr.2.2 v hv]
      omega
    have elc := lc_hY hmr.2.2
    -- the model says no
    have bad : ¬ (0 ≤ y ∧ y < (hY Y n : Nat) ∧ 0 ≤ u ∧ u < (wZ n m U W Y th y.toNat : Nat)) → ∃ z, (some (.inl (iZ (-1))) : Option mj_V) = some (.inl z) ∧ (93 < 123 ∧ K 93 = (0, 9)) ∧ mj_lv 6 m_Mod_item [.inr (.inl (some 93)), .inl (iZ y), .inl (iZ u)] (123, K, zs (A), ρ) (fun r2 h2 => r2 = some (.inl z) ∧ InvP (JJ SCc SMm RNc PM GW) h2) := fun q => by
      refine ⟨_, rfl, lyk L (by decide) rfl, ?_⟩
      show mj_W (mj_lv 5) prog_11_method_37_code 9 1 0 0 _ 0 [some (.inr (.inl (some 93))), some (.inl (iZ (y))), some (.inl (iZ (u)))] [] (123, K, zs (A), ρ) 0 0
      refine mq_aload_n d61_0 rfl rfl ?_
      refine zg_getI L d61_1 rfl rfl (by decide) rfl ?_
      refine zq_if_ne (tgt := 12) d61_4 (by decide) (by omega) (fun g3 => ?_) (fun g3 => ?_)
      · refine mq_iload_n d61_12 rfl rfl ?_
        refine zq_if_lt (tgt := 38) d61_13 (by decide) (by omega) (fun g4 => ?_) (fun g4 => ?_)
        · refine zq_iconst d61_38 ?_
          refine mq_goto (tgt := 53) d61_39 (by decide) ?_
          refine zg_reti d61_53 rfl ?_
          exact ⟨rfl, H'⟩
        · refine mq_iload_n d61_16 rfl rfl ?_
          refine mq_aload_n d61_17 rfl rfl ?_
          refine zg_callV (c := 93) L [] d61_18 rfl rfl ⟨rfl, rfl⟩ rfl ⟨rfl, rfl⟩ ⟨by decide, by decide⟩ (by decide) rfl ?_
          refine s_layerCount (d := 4) (n := n) L hmr.1.1 hn12 hlc ?_
          rw [elc]
          refine zq_icmp_ge (tgt := 38) d61_21 (by decide) (by omega) (by omega) (fun g5 => ?_) (fun g5 => ?_)
          · refine zq_iconst d61_38 ?_
            refine mq_goto (tgt := 53) d61_39 (by decide) ?_
            refine zg_reti d61_53 rfl ?_
            exact ⟨rfl, H'⟩
          · obtain ⟨l, hl⟩ : ∃ l : Nat, y = l := ⟨y.toNat, by omega⟩
            subst hl
            rw [Int.toNat_natCast] at q
            have z36 := hx.2.1 l (by omega)
            refine mq_iload_n d61_24 rfl rfl ?_
            refine zq_if_lt (tgt := 38) d61_25 (by decide) (by omega) (fun g6 => ?_) (fun g6 => ?_)
            · refine zq_iconst d61_38 ?_
              refine mq_goto (tgt := 53) d61_39 (by decide) ?_
              refine zg_reti d61_53 rfl ?_
              exact ⟨rfl, H'⟩
            · refine mq_iload_n d61_28 rfl rfl ?_
              refine mq_aload_n d61_29 rfl rfl ?_
              refine zg_getR L 112 d61_30 rfl rfl (by decide) rfl (by decide) rfl ?_
              refine mq_iload_n d61_33 rfl rfl ?_
              refine zr_ialdV L ((wZ n m U W Y th l : Nat)) d61_34 (by decide) rfl (by omega) (hrm.1 l (by omega)) ?_
              refine zq_icmp_lt (tgt := 42) d61_35 (by decide) (by omega) (by omega) (fun g7 => ?_) (fun g7 => ?_)
              · omega
              · refine zq_iconst d61_38 ?_
                refine mq_goto (tgt := 53) d61_39 (by decide) ?_
                refine zg_reti d61_53 rfl ?_
                exact ⟨rfl, H'⟩
      · omega
    refine mq_aload_n d15_10 rfl rfl ?_
    refine zg_getR L 46 d15_11 rfl rfl (by decide) rfl (by decide) rfl ?_
    refine mq_iload_n d15_14 rfl rfl ?_
    refine zg_callV (c := 46) L [_] d15_15 rfl rfl ⟨rfl, rfl⟩ rfl ⟨rfl, rfl⟩ ⟨by decide, by decide⟩ (by decide) rfl ?_
    refine s_hasLayer L rx hro.1 (by omega) (fun q => ?_) (fun q => ?_)
    · obtain ⟨l, hl⟩ : ∃ l : Nat, y = l := ⟨y.toNat, by omega⟩
      subst hl
      rw [Int.toNat_natCast] at bad
      have z36 := hx.2.1 l (by omega)
      refine zq_if_eq (tgt := 38) d15_18 (by decide) (by omega) (fun g2 => ?_) (fun g2 => ?_)
      · omega
      · refine mq_iload_n d15_21 rfl rfl ?_
        refine zq_if_lt (tgt := 38) d15_22 (by decide) (by omega) (fun g3 => ?_) (fun g3 => ?_)
        · refine zq_iconst d15_38 ?_
          refine zg_reti d15_39 rfl ?_
          exact bad (by omega)
        · refine mq_iload_n d15_25 rfl rfl ?_
          refine mq_aload_n d15_26 rfl rfl ?_
          refine zg_getR L 46 d15_27 rfl rfl (by decide) rfl (by decide) rfl ?_
          refine zg_getR L 47 d15_30 rfl rfl (by decide) rfl (by decide) rfl ?_
          refine mq_iload_n d15_33 rfl rfl ?_
          refine zr_ialdV L ((wZ n m U W Y th l : Nat)) d15_34 (by decide) rfl (by omega) (hro.2.1 l (by omega)) ?_
          refine zq_icmp_lt (tgt := 40) d15_35 (by decide) (by omega) (by omega) (fun g4 => ?_) (fun g4 => ?_)
          · obtain ⟨i, hi⟩ : ∃ i : Nat, u = i := ⟨u.toNat, by omega⟩
            subst hi
            refine mq_aload_n d15_40 rfl rfl ?_
            refine zg_getR L 46 d15_41 rfl rfl (by decide) rfl (by decide) rfl ?_
            refine zg_getR L 48 d15_44 rfl rfl (by decide) rfl (by decide) rfl ?_
            refine mq_iload_n d15_47 rfl rfl ?_
            refine zr_aald L (49 + l) d15_48 (by decide) rfl (by omega) (rf48 (by omega)) ?_
            refine mq_iload_n d15_49 rfl rfl ?_
            refine zr_ialdV L (z.1 l i) d15_50 (by omega) (kd49 (by omega)) (by omega) (hro.2.2.1 l (by omega) i (by omega)) ?_
            refine zg_reti d15_51 rfl ?_
            refine ⟨_, rfl, lyk L (by decide) rfl, ?_⟩
            show mj_W (mj_lv 5) prog_11_method_37_code 9 1 0 0 _ 0 [some (.inr (.inl (some 93))), some (.inl (iZ ((l : Int)))), some (.inl (iZ ((i : Int))))] [] (123, K, zs (A), ρ) 0 0
            refine mq_aload_n d61_0 rfl rfl ?_
            refine zg_getI L d61_1 rfl rfl (by decide) rfl ?_
            refine zq_if_ne (tgt := 12) d61_4 (by decide) (by omega) (fun g5 => ?_) (fun g5 => ?_)
            · refine mq_iload_n d61_12 rfl rfl ?_
              refine zq_if_lt (tgt := 38) d61_13 (by decide) (by omega) (fun g6 => ?_) (fun g6 => ?_)
              · omega
              · refine mq_iload_n d61_16 rfl rfl ?_
                refine mq_aload_n d61_17 rfl rfl ?_
                refine zg_callV (c := 93) L [] d61_18 rfl rfl ⟨rfl, rfl⟩ rfl ⟨rfl, rfl⟩ ⟨by decide, by decide⟩ (by decide) rfl ?_
                refine s_layerCount (d := 4) (n := n) L hmr.1.1 hn12 hlc ?_
                rw [elc]
                refine zq_icmp_ge (tgt := 38) d61_21 (by decide) (by omega) (by omega) (fun g7 => ?_) (fun g7 => ?_)
                · omega
                · refine mq_iload_n d61_24 rfl rfl ?_
                  refine zq_if_lt (tgt := 38) d61_25 (by decide) (by omega) (fun g8 => ?_) (fun g8 => ?_)
                  · omega
                  · refine mq_iload_n d61_28 rfl rfl ?_
                    refine mq_aload_n d61_29 rfl rfl ?_
                    refine zg_getR L 112 d61_30 rfl rfl (by decide) rfl (by decide) rfl ?_
                    refine mq_iload_n d61_33 rfl rfl ?_
                    refine zr_ialdV L ((wZ n m U W Y th l : Nat)) d61_34 (by decide) rfl (by omega) (hrm.1 l (by omega)) ?_
                    refine zq_icmp_lt (tgt := 42) d61_35 (by decide) (by omega) (by omega) (fun g9 => ?_) (fun g9 => ?_)
                    · refine mq_aload_n d61_42 rfl rfl ?_
                      refine zg_getR L 114 d61_43 rfl rfl (by decide) rfl (by decide) rfl ?_
                      refine zq_bipush d61_46 rfl ?_
                      refine mq_iload_n d61_48 rfl rfl ?_
                      refine zq_imul d61_49 ?_
                      refine mq_iload_n d61_50 rfl rfl ?_
                      refine zq_iadd d61_51 ?_
                      rw [e80]
                      refine zr_ialdV L (z.1 l i) d61_52 (by decide) rfl (by omega) (h114 l (by omega) i (by omega)) ?_
                      refine zg_reti d61_53 rfl ?_
                      exact ⟨rfl, H'⟩
                    · omega
            · omega
          · refine zq_iconst d15_38 ?_
            refine zg_reti d15_39 rfl ?_
            exact bad (by omega)
    · refine zq_if_eq (tgt := 38) d15_18 (by decide) (by omega) (fun g2 => ?_) (fun g2 => ?_)
      · refine zq_iconst d15_38 ?_
        refine zg_reti d15_39 rfl ?_
        exact bad (fun q2 => q ⟨q2.1, q2.2.1⟩)
      · omega
  · refine zq_bipush d15_7 rfl ?_
    refine zg_reti d15_9 rfl ?_
    refine ⟨_, rfl, lyk L (by decide) rfl, ?_⟩
    show mj_W (mj_lv 5) prog_11_method_37_code 9 1 0 0 _ 0 [some (.inr (.inl (some 93))), some (.inl (iZ (y))), some (.inl (iZ (u)))] [] (123, K, zs (A), ρ) 0 0
    refine mq_aload_n d61_0 rfl rfl ?_
    refine zg_getI L d61_1 rfl rfl (by decide) rfl ?_
    refine zq_if_ne (tgt := 12) d61_4 (by decide) (by omega) (fun g2 => ?_) (fun g2 => ?_)
    · omega
    · refine zq_bipush d61_7 rfl ?_
      refine mq_goto (tgt := 53) d61_9 (by decide) ?_
      refine zg_reti d61_53 rfl ?_
      exact ⟨rfl, H'⟩
set_option maxRecDepth 100000 in
theorem op_place (x0 : Int32) : lw_op (InvP (JJ SCc SMm RNc PM GW)) m_Main_place m_Mod_place [.inl x0] := by
  rintro h ⟨K, A, ρ, rfl, L, H⟩
  refine ⟨lyk L (by decide) rfl, ?_⟩
  have rx := i32r x0
  rw [iZ_of x0]
  generalize x0.toInt = y at rx
  obtain ⟨F1, F2, F3, F4, F5, F6, F7, F8, F9⟩ := id H.2.1
  have H' : InvP (JJ SCc SMm RNc PM GW) (123, K, zs (A), ρ) := ⟨K, A, ρ, rfl, L, H⟩
  show mj_W (mj_lv 5) prog_1_method_18_code 8 1 0 0 _ 0 [some (.inr (.inl (some 0))), some (.inl (iZ (y)))] [] (123, K, zs (A), ρ) 0 0
  refine mq_aload_n d17_0 rfl rfl ?_
  refine zg_getI L d17_1 rfl rfl (by decide) rfl ?_
  refine zq_if_ne (tgt := 10) d17_4 (by decide) (by omega) (fun g1 => ?_) (fun g1 => ?_)
  · obtain ⟨n, m, U, W, Y, th, z, w, pl, ⟨hc, hmr⟩, ⟨hz, hro, hrm⟩, h114, hpp, h17, h16, h107, h27, hw, hpl, -⟩ := H.2.2.2.2.1 (by omega)
    have hn12 := hc.2.1.1
    have F72 := hc.2.1.2.2.2.2
    have hnn : A 1 4 = (n : Nat) := hc.1.1
    let PP : Option mj_V → mj_H → Prop := fun r h1 => ∃ x, r = some (.inl x) ∧ (93 < h1.1 ∧ h1.2.1 93 = (0, 9)) ∧ mj_lv 6 m_Mod_place [.inr (.inl (some 93)), .inl (iZ y)] h1 (fun r2 h2 => r2 = some (.inl x) ∧ InvP (JJ SCc SMm RNc PM GW) h2)
    have good : ∀ b : Nat, y = (b : Nat) → wT n m U W Y th b → mj_W (mj_lv 5) prog_1_method_18_code 8 1 0 0 PP 34 [some (.inr (.inl (some 0))), some (.inl (iZ (y)))] [] (123, K, zs (A), ρ) 0 0 := fun b hb hT => by
      subst hb
      have b72 := wT_lt hc.2.1 hT
      obtain ⟨p1, p2, -⟩ := hpl b hT
      refine mq_aload_n d17_34 rfl rfl ?_
      refine zg_getR L 84 d17_35 rfl rfl (by decide) rfl (by decide) rfl ?_
      refine zg_getR L 85 d17_38 rfl rfl (by decide) rfl (by decide) rfl ?_
      refine mq_iload_n d17_41 rfl rfl ?_
      refine zr_ialdV L (pl b) d17_42 (by decide) rfl (by omega) (p1) ?_
      refine zg_reti d17_43 rfl ?_
      refine ⟨_, rfl, lyk L (by decide) rfl, ?_⟩
      show mj_W (mj_lv 5) prog_11_method_41_code 9 1 0 0 _ 0 [some (.inr (.inl (some 93))), some (.inl (iZ ((b : Int))))] [] (123, K, zs (A), ρ) 0 0
      refine mq_aload_n d65_0 rfl rfl ?_
      refine zg_getI L d65_1 rfl rfl (by decide) rfl ?_
      refine zq_if_ne (tgt := 12) d65_4 (by decide) (by omega) (fun g3 => ?_) (fun g3 => ?_)
      · refine mq_iload_n d65_12 rfl rfl ?_
        refine zq_if_lt (tgt := 31) d65_13 (by decide) (by omega) (fun g4 => ?_) (fun g4 => ?_)
        · omega
        · refine mq_iload_n d65_16 rfl rfl ?_
          refine zq_bipush d65_17 rfl ?_
          refine zq_icmp_ge (tgt := 31) d65_19 (by decide) (by omega) (by omega) (fun g5 => ?_) (fun g5 => ?_)
          · omega
          · refine mq_aload_n d65_22 rfl rfl ?_
            refine zg_getR L 107 d65_23 rfl rfl (by decide) rfl (by decide) rfl ?_
            refine mq_iload_n d65_26 rfl rfl ?_
            refine zr_zaldV L (1) d65_27 (by decide) rfl (by omega) ((h107 b (by omega)).trans (if_pos hT)) ?_
            refine zq_if_ne (tgt := 35) d65_28 (by decide) (by omega) (fun g6 => ?_) (fun g6 => ?_)
            · refine mq_aload_n d65_35 rfl rfl ?_
              refine zg_getR L 115 d65_36 rfl rfl (by decide) rfl (by decide) rfl ?_
              refine mq_iload_n d65_39 rfl rfl ?_
              refine zr_ialdV L (pl b) d65_40 (by decide) rfl (by omega) (p2) ?_
              refine zg_reti d65_41 rfl ?_
              exact ⟨rfl, H'⟩
            · exact absurd g6 (by decide)
      · omega
    refine mq_aload_n d17_10 rfl rfl ?_
    refine zg_getR L 1 d17_11 rfl rfl (by decide) rfl (by decide) rfl ?_
    refine mq_iload_n d17_14 rfl rfl ?_
    refine zg_callV (c := 1) L [_] d17_15 rfl rfl ⟨rfl, rfl⟩ rfl ⟨rfl, rfl⟩ ⟨by decide, by decide⟩ (by decide) rfl ?_
    refine s_hasNode L rx (by omega) (fun q => ?_) (fun q => ?_)
    · refine zq_if_ne (tgt := 34) d17_18 (by decide) (by omega) (fun g2 => ?_) (fun g2 => ?_)
      · exact good y.toNat (by omega) (Or.inl (by omega))
      · omega
    · refine zq_if_ne (tgt := 34) d17_18 (by decide) (by omega) (fun g2 => ?_) (fun g2 => ?_)
      · omega
      · refine mq_aload_n d17_21 rfl rfl ?_
        refine zg_getR L 16 d17_22 rfl rfl (by decide) rfl (by decide) rfl ?_
        refine mq_iload_n d17_25 rfl rfl ?_
        refine zg_callV (c := 16) L [_] d17_26 rfl rfl ⟨rfl, rfl⟩ rfl ⟨rfl, rfl⟩ ⟨by decide, by decide⟩ (by decide) rfl ?_
        refine s_isBend L rx h16 F72 (fun q2 => ?_) (fun q2 => ?_)
        · refine zq_if_ne (tgt := 34) d17_29 (by decide) (by omega) (fun g3 => ?_) (fun g3 => ?_)
          · exact good y.toNat (by omega) (Or.inr (by omega))
          · omega
        · refine zq_if_ne (tgt := 34) d17_29 (by decide) (by omega) (fun g3 => ?_) (fun g3 => ?_)
          · omega
          · refine zq_iconst d17_32 ?_
            refine zg_reti d17_33 rfl ?_
            refine ⟨_, rfl, lyk L (by decide) rfl, ?_⟩
            show mj_W (mj_lv 5) prog_11_method_41_code 9 1 0 0 _ 0 [some (.inr (.inl (some 93))), some (.inl (iZ (y)))] [] (123, K, zs (A), ρ) 0 0
            refine mq_aload_n d65_0 rfl rfl ?_
            refine zg_getI L d65_1 rfl rfl (by decide) rfl ?_
            refine zq_if_ne (tgt := 12) d65_4 (by decide) (by omega) (fun g4 => ?_) (fun g4 => ?_)
            · refine mq_iload_n d65_12 rfl rfl ?_
              refine zq_if_lt (tgt := 31) d65_13 (by decide) (by omega) (fun g5 => ?_) (fun g5 => ?_)
              · refine zq_iconst d65_31 ?_
                refine mq_goto (tgt := 41) d65_32 (by decide) ?_
                refine zg_reti d65_41 rfl ?_
                exact ⟨rfl, H'⟩
              · refine mq_iload_n d65_16 rfl rfl ?_
                refine zq_bipush d65_17 rfl ?_
                refine zq_icmp_ge (tgt := 31) d65_19 (by decide) (by omega) (by omega) (fun g6 => ?_) (fun g6 => ?_)
                · refine zq_iconst d65_31 ?_
                  refine mq_goto (tgt := 41) d65_32 (by decide) ?_
                  refine zg_reti d65_41 rfl ?_
                  exact ⟨rfl, H'⟩
                · obtain ⟨b, hb⟩ : ∃ b : Nat, y = b := ⟨y.toNat, by omega⟩
                  subst hb
                  refine mq_aload_n d65_22 rfl rfl ?_
                  refine zg_getR L 107 d65_23 rfl rfl (by decide) rfl (by decide) rfl ?_
                  refine mq_iload_n d65_26 rfl rfl ?_
                  refine zr_zaldV L (0) d65_27 (by decide) rfl (by omega) ((h107 b (by omega)).trans (if_neg (by omega))) ?_
                  refine zq_if_ne (tgt := 35) d65_28 (by decide) (by omega) (fun g7 => ?_) (fun g7 => ?_)
                  · exact absurd rfl g7
                  · refine zq_iconst d65_31 ?_
                    refine mq_goto (tgt := 41) d65_32 (by decide) ?_
                    refine zg_reti d65_41 rfl ?_
                    exact ⟨rfl, H'⟩
            · omega
  · refine zq_bipush d17_7 rfl ?_
    refine zg_reti d17_9 rfl ?_
    refine ⟨_, rfl, lyk L (by decide) rfl, ?_⟩
    show mj_W (mj_lv 5) prog_11_method_41_code 9 1 0 0 _ 0 [some (.inr (.inl (some 93))), some (.inl (iZ (y)))] [] (123, K, zs (A), ρ) 0 0
    refine mq_aload_n d65_0 rfl rfl ?_
    refine zg_getI L d65_1 rfl rfl (by decide) rfl ?_
    refine zq_if_ne (tgt := 12) d65_4 (by decide) (by omega) (fun g2 => ?_) (fun g2 => ?_)
    · omega
    · refine zq_bipush d65_7 rfl ?_
      refine mq_goto (tgt := 41) d65_9 (by decide) ?_
      refine zg_reti d65_41 rfl ?_
      exact ⟨rfl, H'⟩
end sp_sm
