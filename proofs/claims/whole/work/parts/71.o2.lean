section sp_o2
variable {d : Nat} {post : Option mj_V → mj_H → Prop} {K : Nat → Nat × Nat} {ρ : Nat → Nat → Option Nat} {A : Nat → Nat → Int} {n m : Nat} {U W : Nat → Nat} {th : Nat → Int}
/-- the model's arcs -/
def mgC (A : Nat → Nat → Int) (n m : Nat) (U W : Nat → Nat) (th : Nat → Int) : Prop := A 93 0 = n ∧ A 93 1 = m ∧ n ≤ 12 ∧ m ≤ 24 ∧ ∀ a, a < m → (A 100 a = U a ∧ A 101 a = W a) ∧ (U a < n ∧ W a < n) ∧ A 97 a = th a ∧ (th a = 0 ∨ th a = 1)
set_option maxRecDepth 100000 in
theorem mlc_1 (L : Lay K ρ) (hn : A 93 0 = n) (h12 : n ≤ 12) (hy : ∀ v, v < n → 0 ≤ A 99 v ∧ A 99 v ≤ 100000) (kk : post (some (.inl (iZ (lcV (A 99) n)))) (123, K, zs (A), ρ)) : ∀ (j i : Nat) (z : Int), n - i < j → i ≤ n → z = lcV (A 99) i - 1 → mj_W (mj_lv d) prog_11_method_21_code 9 1 0 0 post 4 [some (.inr (.inl (some 93))), some (.inl (iZ (z))), some (.inl (iZ ((i : Int))))] [] (123, K, zs (A), ρ) 0 0
  | 0, i, _, hj, _, _ => absurd hj (by omega)
  | j + 1, i, z, hj, hi, hz => by
    refine mq_iload_n d45_4 rfl rfl ?_
    refine mq_aload_n d45_5 rfl rfl ?_
    refine zg_getIe L ((n : Int)) d45_6 rfl rfl (by decide) rfl (hn) ?_
    refine zq_icmp_ge (tgt := 39) d45_9 (by decide) (by omega) (by omega) (fun g => ?_) (fun g => ?_)
    · have e : i = n := by omega
      subst e
      refine mq_iload_n d45_39 rfl rfl ?_
      refine zq_iconst d45_40 ?_
      refine zq_iadd d45_41 ?_
      refine zg_reti d45_42 rfl ?_
      have : z + 1 = lcV (A 99) i := by omega
      rw [this]
      exact kk
    · have hin : i < n := by omega
      have r1 := lcV_rng (y := A 99) (b := 100001) (by decide) (k := i) (fun v hv => by have := hy v (by omega); omega)
      have r2 := hy i hin
      have e1 : lcV (A 99) (i + 1) = if lcV (A 99) i < A 99 i + 1 then A 99 i + 1 else lcV (A 99) i := rfl
      refine mq_aload_n d45_12 rfl rfl ?_
      refine zg_getR L 99 d45_13 rfl rfl (by decide) rfl (by decide) rfl ?_
      refine mq_iload_n d45_16 rfl rfl ?_
      refine zg_ialdN L d45_17 (by decide) rfl (by omega) ?_
      refine mq_iload_n d45_18 rfl rfl ?_
      refine zq_icmp_le (tgt := 31) d45_19 (by decide) (by omega) (by omega) (fun g2 => ?_) (fun g2 => ?_)
      · refine mq_iload_n d45_31 rfl rfl ?_
        refine mq_istore_n d45_32 rfl (Nat.le_of_ble_eq_true rfl) rfl ?_
        refine zq_iinc d45_33 rfl rfl ?_
        refine mq_goto (tgt := 4) d45_36 (by decide) ?_
        exact mlc_1 L hn h12 hy kk j (i + 1) z (by omega) (by omega) (by rw [e1, if_neg (by omega)]; exact hz)
      · refine mq_aload_n d45_22 rfl rfl ?_
        refine zg_getR L 99 d45_23 rfl rfl (by decide) rfl (by decide) rfl ?_
        refine mq_iload_n d45_26 rfl rfl ?_
        refine zg_ialdN L d45_27 (by decide) rfl (by omega) ?_
        refine mq_goto (tgt := 32) d45_28 (by decide) ?_
        refine mq_istore_n d45_32 rfl (Nat.le_of_ble_eq_true rfl) rfl ?_
        refine zq_iinc d45_33 rfl rfl ?_
        refine mq_goto (tgt := 4) d45_36 (by decide) ?_
        exact mlc_1 L hn h12 hy kk j (i + 1) _ (by omega) (by omega) (by rw [e1, if_pos (by omega)]; omega)
set_option maxRecDepth 100000 in
theorem s_layerCount (L : Lay K ρ) (hn : A 93 0 = n) (h12 : n ≤ 12) (hy : ∀ v, v < n → 0 ≤ A 99 v ∧ A 99 v ≤ 100000) (kk : post (some (.inl (iZ (lcV (A 99) n)))) (123, K, zs (A), ρ)) : mj_lv (d + 1) m_Mod_layerCount [.inr (.inl (some 93))] (123, K, zs (A), ρ) post := by
  show mj_W (mj_lv d) prog_11_method_21_code 9 1 0 0 post 0 [some (.inr (.inl (some 93))), none, none] [] (123, K, zs (A), ρ) 0 0
  refine zq_iconst d45_0 ?_
  refine mq_istore_n d45_1 rfl (Nat.le_of_ble_eq_true rfl) rfl ?_
  refine zq_iconst d45_2 ?_
  refine mq_istore_n d45_3 rfl (Nat.le_of_ble_eq_true rfl) rfl ?_
  exact mlc_1 L hn h12 hy kk (n + 1) 0 _ (by omega) (by omega) (by show (-1 : Int) = 0 - 1; decide)
set_option maxRecDepth 100000 in
theorem mlo_1 (L : Lay K ρ) (h : mgC A n m U W th) (kk : post (some (.inl (iZ (len m U W th (A 99))))) (123, K, zs (A), ρ)) : ∀ (j i : Nat), m - i < j → i ≤ m → mj_W (mj_lv d) prog_11_method_12_code 9 1 0 0 post 4 [some (.inr (.inl (some 93))), some (.inr (.inl (some 99))), some (.inl (iZ (len i U W th (A 99)))), some (.inl (iZ ((i : Int))))] [] (123, K, zs (A), ρ) 0 0
  | 0, i, hj, _ => absurd hj (by omega)
  | j + 1, i, hj, hi => by
    obtain ⟨h1, h2, h3, h4, h5⟩ := id h
    refine mq_iload_n d36_4 rfl rfl ?_
    refine mq_aload_n d36_5 rfl rfl ?_
    refine zg_getIe L ((m : Int)) d36_6 rfl rfl (by decide) rfl (h2) ?_
    refine zq_icmp_ge (tgt := 51) d36_9 (by decide) (by omega) (by omega) (fun g => ?_) (fun g => ?_)
    · have e : i = m := by omega
      subst e
      refine mq_iload_n d36_51 rfl rfl ?_
      refine zg_reti d36_52 rfl ?_
      exact kk
    · have him : i < m := by omega
      obtain ⟨⟨a1, a2⟩, ⟨a3, a4⟩, a5, a6⟩ := h5 i him
      have e1 : len (i + 1) U W th (A 99) = len i U W th (A 99) + (if th i = 1 then A 99 (W i) - A 99 (U i) else 0) := rfl
      have fin := mlo_1 L h kk j (i + 1) (by omega) (by omega)
      rw [e1] at fin
      refine mq_iload_n d36_12 rfl rfl ?_
      refine mq_aload_n d36_13 rfl rfl ?_
      refine zg_getR L 97 d36_14 rfl rfl (by decide) rfl (by decide) rfl ?_
      refine mq_iload_n d36_17 rfl rfl ?_
      refine zr_zaldV L (th i) d36_18 (by decide) rfl (by omega) (a5) ?_
      refine zq_if_eq (tgt := 42) d36_19 (by decide) (by omega) (fun g2 => ?_) (fun g2 => ?_)
      · rw [if_neg (by omega)] at fin
        refine zq_iconst d36_42 ?_
        refine zq_iadd d36_43 ?_
        refine mq_istore_n d36_44 rfl (Nat.le_of_ble_eq_true rfl) rfl ?_
        refine zq_iinc d36_45 rfl rfl ?_
        refine mq_goto (tgt := 4) d36_48 (by decide) ?_
        exact fin
      · rw [if_pos (by omega)] at fin
        refine mq_aload_n d36_22 rfl rfl ?_
        refine mq_aload_n d36_23 rfl rfl ?_
        refine zg_getR L 101 d36_24 rfl rfl (by decide) rfl (by decide) rfl ?_
        refine mq_iload_n d36_27 rfl rfl ?_
        refine zr_ialdV L ((W i : Int)) d36_28 (by decide) rfl (by omega) (a2) ?_
        refine zg_ialdN L d36_29 (by decide) rfl (by omega) ?_
        refine mq_aload_n d36_30 rfl rfl ?_
        refine mq_aload_n d36_31 rfl rfl ?_
        refine zg_getR L 100 d36_32 rfl rfl (by decide) rfl (by decide) rfl ?_
        refine mq_iload_n d36_35 rfl rfl ?_
        refine zr_ialdV L ((U i : Int)) d36_36 (by decide) rfl (by omega) (a1) ?_
        refine zg_ialdN L d36_37 (by decide) rfl (by omega) ?_
        refine zq_isub d36_38 ?_
        refine mq_goto (tgt := 43) d36_39 (by decide) ?_
        refine zq_iadd d36_43 ?_
        refine mq_istore_n d36_44 rfl (Nat.le_of_ble_eq_true rfl) rfl ?_
        refine zq_iinc d36_45 rfl rfl ?_
        refine mq_goto (tgt := 4) d36_48 (by decide) ?_
        exact fin
set_option maxRecDepth 100000 in
theorem s_lengthOf (L : Lay K ρ) (h : mgC A n m U W th) (kk : post (some (.inl (iZ (len m U W th (A 99))))) (123, K, zs (A), ρ)) : mj_lv (d + 1) m_Mod_lengthOf [.inr (.inl (some 93)), .inr (.inl (some 99))] (123, K, zs (A), ρ) post := by
  show mj_W (mj_lv d) prog_11_method_12_code 9 1 0 0 post 0 [some (.inr (.inl (some 93))), some (.inr (.inl (some 99))), none, none] [] (123, K, zs (A), ρ) 0 0
  refine zq_iconst d36_0 ?_
  refine mq_istore_n d36_1 rfl (Nat.le_of_ble_eq_true rfl) rfl ?_
  refine zq_iconst d36_2 ?_
  refine mq_istore_n d36_3 rfl (Nat.le_of_ble_eq_true rfl) rfl ?_
  exact mlo_1 L h kk (m + 1) 0 (by omega) (by omega)
/-- the bends -/
def bdV (m : Nat) (U W : Nat → Nat) (th y : Nat → Int) : Int := cnt (fun a => if th a = 1 then y (W a) - y (U a) - 1 else 0) m
theorem bdV_len (h01 : ∀ a, a < m → th a = 0 ∨ th a = 1) {y : Nat → Int} : bdV m U W th y = len m U W th y - cnt th m := by
  unfold bdV len
  rw [← cnt_sub]
  refine cnt_congr (fun a ha => ?_)
  rcases h01 a ha with e | e
  · rw [if_neg (by omega), if_neg (by omega), e]
    rfl
  · rw [if_pos e, if_pos e, e]
set_option maxRecDepth 100000 in
theorem mbc_1 (L : Lay K ρ) (h : mgC A n m U W th) (kk : post (some (.inl (iZ (bdV m U W th (A 99))))) (123, K, zs (A), ρ)) : ∀ (j i : Nat), m - i < j → i ≤ m → mj_W (mj_lv d) prog_11_method_24_code 9 1 0 0 post 4 [some (.inr (.inl (some 93))), some (.inl (iZ (bdV i U W th (A 99)))), some (.inl (iZ ((i : Int))))] [] (123, K, zs (A), ρ) 0 0
  | 0, i, hj, _ => absurd hj (by omega)
  | j + 1, i, hj, hi => by
    obtain ⟨h1, h2, h3, h4, h5⟩ := id h
    refine mq_iload_n d48_4 rfl rfl ?_
    refine mq_aload_n d48_5 rfl rfl ?_
    refine zg_getIe L ((m : Int)) d48_6 rfl rfl (by decide) rfl (h2) ?_
    refine zq_icmp_ge (tgt := 59) d48_9 (by decide) (by omega) (by omega) (fun g => ?_) (fun g => ?_)
    · have e : i = m := by omega
      subst e
      refine mq_iload_n d48_59 rfl rfl ?_
      refine zg_reti d48_60 rfl ?_
      exact kk
    · have him : i < m := by omega
      obtain ⟨⟨a1, a2⟩, ⟨a3, a4⟩, a5, a6⟩ := h5 i him
      have e1 : bdV (i + 1) U W th (A 99) = bdV i U W th (A 99) + (if th i = 1 then A 99 (W i) - A 99 (U i) - 1 else 0) := rfl
      have fin := mbc_1 L h kk j (i + 1) (by omega) (by omega)
      rw [e1] at fin
      refine mq_iload_n d48_12 rfl rfl ?_
      refine mq_aload_n d48_13 rfl rfl ?_
      refine zg_getR L 97 d48_14 rfl rfl (by decide) rfl (by decide) rfl ?_
      refine mq_iload_n d48_17 rfl rfl ?_
      refine zr_zaldV L (th i) d48_18 (by decide) rfl (by omega) (a5) ?_
      refine zq_if_eq (tgt := 50) d48_19 (by decide) (by omega) (fun g2 => ?_) (fun g2 => ?_)
      · rw [if_neg (by omega)] at fin
        refine zq_iconst d48_50 ?_
        refine zq_iadd d48_51 ?_
        refine mq_istore_n d48_52 rfl (Nat.le_of_ble_eq_true rfl) rfl ?_
        refine zq_iinc d48_53 rfl rfl ?_
        refine mq_goto (tgt := 4) d48_56 (by decide) ?_
        exact fin
      · rw [if_pos (by omega)] at fin
        refine mq_aload_n d48_22 rfl rfl ?_
        refine zg_getR L 99 d48_23 rfl rfl (by decide) rfl (by decide) rfl ?_
        refine mq_aload_n d48_26 rfl rfl ?_
        refine zg_getR L 101 d48_27 rfl rfl (by decide) rfl (by decide) rfl ?_
        refine mq_iload_n d48_30 rfl rfl ?_
        refine zr_ialdV L ((W i : Int)) d48_31 (by decide) rfl (by omega) (a2) ?_
        refine zg_ialdN L d48_32 (by decide) rfl (by omega) ?_
        refine mq_aload_n d48_33 rfl rfl ?_
        refine zg_getR L 99 d48_34 rfl rfl (by decide) rfl (by decide) rfl ?_
        refine mq_aload_n d48_37 rfl rfl ?_
        refine zg_getR L 100 d48_38 rfl rfl (by decide) rfl (by decide) rfl ?_
        refine mq_iload_n d48_41 rfl rfl ?_
        refine zr_ialdV L ((U i : Int)) d48_42 (by decide) rfl (by omega) (a1) ?_
        refine zg_ialdN L d48_43 (by decide) rfl (by omega) ?_
        refine zq_isub d48_44 ?_
        refine zq_iconst d48_45 ?_
        refine zq_isub d48_46 ?_
        refine mq_goto (tgt := 51) d48_47 (by decide) ?_
        refine zq_iadd d48_51 ?_
        refine mq_istore_n d48_52 rfl (Nat.le_of_ble_eq_true rfl) rfl ?_
        refine zq_iinc d48_53 rfl rfl ?_
        refine mq_goto (tgt := 4) d48_56 (by decide) ?_
        exact fin
set_option maxRecDepth 100000 in
theorem s_bendCount (L : Lay K ρ) (h : mgC A n m U W th) (kk : post (some (.inl (iZ (bdV m U W th (A 99))))) (123, K, zs (A), ρ)) : mj_lv (d + 1) m_Mod_bendCount [.inr (.inl (some 93))] (123, K, zs (A), ρ) post := by
  show mj_W (mj_lv d) prog_11_method_24_code 9 1 0 0 post 0 [some (.inr (.inl (some 93))), none, none] [] (123, K, zs (A), ρ) 0 0
  refine zq_iconst d48_0 ?_
  refine mq_istore_n d48_1 rfl (Nat.le_of_ble_eq_true rfl) rfl ?_
  refine zq_iconst d48_2 ?_
  refine mq_istore_n d48_3 rfl (Nat.le_of_ble_eq_true rfl) rfl ?_
  exact mbc_1 L h kk (m + 1) 0 (by omega) (by omega)
set_option maxRecDepth 100000 in
theorem mtu_1 (L : Lay K ρ) {x : Nat → Int} (hm : A 93 1 = m) (h24 : m ≤ 24) (hx : is01 x m) (h98 : ∀ a, a < m → A 98 a = x a) (h97 : ∀ a, a < m → (A 97 a = 0 ∨ A 97 a = 1) ∧ (x a = 1 → A 97 a = 1)) (kk : post (some (.inl (iZ (cnt x m)))) (123, K, zs (A), ρ)) : ∀ (j i : Nat), m - i < j → i ≤ m → mj_W (mj_lv d) prog_11_method_18_code 9 1 0 0 post 8 [some (.inr (.inl (some 93))), some (.inl (iZ (cnt x i))), some (.inl (iZ ((i : Int))))] [] (123, K, zs (A), ρ) 0 0
  | 0, i, hj, _ => absurd hj (by omega)
  | j + 1, i, hj, hi => by
    refine mq_iload_n d42_8 rfl rfl ?_
    refine mq_aload_n d42_9 rfl rfl ?_
    refine zg_getIe L ((m : Int)) d42_10 rfl rfl (by decide) rfl (hm) ?_
    refine zq_icmp_ge (tgt := 48) d42_13 (by decide) (by omega) (by omega) (fun g => ?_) (fun g => ?_)
    · have e : i = m := by omega
      subst e
      refine mq_iload_n d42_48 rfl rfl ?_
      refine zg_reti d42_49 rfl ?_
      exact kk
    · have him : i < m := by omega
      have h1 := h97 i him
      have h2 := hx i him
      have h3 := h98 i him
      have e1 : cnt x (i + 1) = cnt x i + x i := rfl
      have fin := mtu_1 L hm h24 hx h98 h97 kk j (i + 1) (by omega) (by omega)
      rw [e1] at fin
      refine mq_iload_n d42_16 rfl rfl ?_
      refine mq_aload_n d42_17 rfl rfl ?_
      refine zg_getR L 97 d42_18 rfl rfl (by decide) rfl (by decide) rfl ?_
      refine mq_iload_n d42_21 rfl rfl ?_
      refine zg_zaldN L d42_22 (by decide) rfl (by omega) ?_
      refine zq_if_eq (tgt := 39) d42_23 (by decide) (by omega) (fun g2 => ?_) (fun g2 => ?_)
      · have e0 : x i = 0 := by omega
        rw [e0] at fin
        refine zq_iconst d42_39 ?_
        refine zq_iadd d42_40 ?_
        refine mq_istore_n d42_41 rfl (Nat.le_of_ble_eq_true rfl) rfl ?_
        refine zq_iinc d42_42 rfl rfl ?_
        refine mq_goto (tgt := 8) d42_45 (by decide) ?_
        exact fin
      · refine mq_aload_n d42_26 rfl rfl ?_
        refine zg_getR L 98 d42_27 rfl rfl (by decide) rfl (by decide) rfl ?_
        refine mq_iload_n d42_30 rfl rfl ?_
        refine zr_zaldV L (x i) d42_31 (by decide) rfl (by omega) (h3) ?_
        refine zq_if_eq (tgt := 39) d42_32 (by decide) (by omega) (fun g3 => ?_) (fun g3 => ?_)
        · rw [g3] at fin
          refine zq_iconst d42_39 ?_
          refine zq_iadd d42_40 ?_
          refine mq_istore_n d42_41 rfl (Nat.le_of_ble_eq_true rfl) rfl ?_
          refine zq_iinc d42_42 rfl rfl ?_
          refine mq_goto (tgt := 8) d42_45 (by decide) ?_
          exact fin
        · have e0 : x i = 1 := by omega
          rw [e0] at fin
          refine zq_iconst d42_35 ?_
          refine mq_goto (tgt := 40) d42_36 (by decide) ?_
          refine zq_iadd d42_40 ?_
          refine mq_istore_n d42_41 rfl (Nat.le_of_ble_eq_true rfl) rfl ?_
          refine zq_iinc d42_42 rfl rfl ?_
          refine mq_goto (tgt := 8) d42_45 (by decide) ?_
          exact fin
end sp_o2
