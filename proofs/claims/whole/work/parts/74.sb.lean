section sp_sb
variable {d : Nat} {post : Option mj_V → mj_H → Prop} {K : Nat → Nat × Nat} {ρ : Nat → Nat → Option Nat} {A : Nat → Nat → Int} {n m : Nat} {U W Y : Nat → Nat} {th : Nat → Int}
/-- the cells of orders that standByNumbers writes -/
def sbL : List Nat := [46, 47, 49, 50, 51, 52, 53, 54, 55, 56, 57, 58, 59, 60, 74]
theorem sbL49 {l : Nat} (h : l < 12) : sbL.elem (49 + l) = true := (by decide : ∀ l, l < 12 → sbL.elem (49 + l) = true) l h
set_option maxRecDepth 100000 in
theorem s_append (L : Lay K ρ) {key : Nat → Nat} {k : Nat} (hk : key k < 12) (hb : ctg key (key k) k < 36) (h72 : k < 72) (h : rwC A key k) (kk : ∀ A2, eo sbL A A2 → A2 46 = A 46 → rwC A2 key (k + 1) → post none (123, K, zs (A2), ρ)) : mj_lv (d + 1) m_Orders_append [.inr (.inl (some 46)), .inl (iZ (key k : Nat)), .inl (iZ (k : Nat))] (123, K, zs (A), ρ) post := by
  have h47 := h.1 _ hk
  show mj_W (mj_lv d) prog_4_method_5_code 2 0 0 0 post 0 [some (.inr (.inl (some 46))), some (.inl (iZ ((key k : Nat)))), some (.inl (iZ ((k : Nat))))] [] (123, K, zs (A), ρ) 0 0
  refine mq_aload_n d93_0 rfl rfl ?_
  refine zg_getR L 48 d93_1 rfl rfl (by decide) rfl (by decide) rfl ?_
  refine mq_iload_n d93_4 rfl rfl ?_
  refine zr_aald L (49 + key k) d93_5 (by decide) rfl (by omega) (rf48 hk) ?_
  refine mq_aload_n d93_6 rfl rfl ?_
  refine zg_getR L 47 d93_7 rfl rfl (by decide) rfl (by decide) rfl ?_
  refine mq_iload_n d93_10 rfl rfl ?_
  refine zr_ialdV L ((ctg key (key k) k : Nat)) d93_11 (by decide) rfl (by omega) (h47) ?_
  refine mq_iload_n d93_12 rfl rfl ?_
  refine zg_iastN L d93_13 (by omega) (kd49 hk) (by omega) ?_
  refine mq_aload_n d93_14 rfl rfl ?_
  refine zg_getR L 74 d93_15 rfl rfl (by decide) rfl (by decide) rfl ?_
  refine mq_iload_n d93_18 rfl rfl ?_
  refine mq_aload_n d93_19 rfl rfl ?_
  refine zg_getR L 47 d93_20 rfl rfl (by decide) rfl (by decide) rfl ?_
  refine mq_iload_n d93_23 rfl rfl ?_
  refine zr_ialdV L ((ctg key (key k) k : Nat)) d93_24 (by decide) rfl (by omega) ((by rw [u2_c (by omega)]; exact h47)) ?_
  refine zg_iastN L d93_25 (by decide) rfl (by omega) ?_
  refine mq_aload_n d93_26 rfl rfl ?_
  refine zg_getR L 47 d93_27 rfl rfl (by decide) rfl (by decide) rfl ?_
  refine mq_iload_n d93_30 rfl rfl ?_
  refine mq_dup2 d93_31 rfl rfl ?_
  refine zr_ialdV L ((ctg key (key k) k : Nat)) d93_32 (by decide) rfl (by omega) ((by rw [u2_c (by omega), u2_c (by omega)]; exact h47)) ?_
  refine zq_iconst d93_33 ?_
  refine zq_iadd d93_34 ?_
  refine zg_iastN L d93_35 (by decide) rfl (by omega) ?_
  refine zg_retv d93_36 (by decide) ?_
  refine kk _ (eo_u2 rfl (eo_u2 rfl (eo_u2 (sbL49 hk) eo_refl))) ?_ (rwC_s hk h)
  rw [u2_cell (by omega), u2_cell (by omega), u2_cell (by omega)]
theorem rwC_eo {B : Nat → Nat → Int} {key : Nat → Nat} {k : Nat} (h : rwC A key k) (e : ∀ c, (47 ≤ c ∧ c ≤ 60) ∨ c = 74 → B c = A c) : rwC B key k := by
  obtain ⟨h1, h2⟩ := h
  refine ⟨fun l hl => by rw [e 47 (by decide)]; exact h1 l hl, fun i hi hk => ?_⟩
  rw [e _ (by omega), e 74 (by decide)]
  exact h2 i hi hk
set_option maxRecDepth 100000 in
theorem sb_1 (L : Lay K ρ) (h : rcC A n m U W Y th) {x5 x6 x7 : Option mj_V} (kk : ∀ A2, eo sbL A A2 → A2 46 = A 46 → rwC A2 (wK n m U W Y th) n → mj_W (mj_lv (d + 3)) prog_4_method_4_code 2 0 0 0 post 47 [some (.inr (.inl (some 46))), some (.inr (.inl (some 1))), some (.inr (.inl (some 10))), some (.inr (.inl (some 16))), some (.inl (iZ ((n : Int)))), x5, x6, x7] [] (123, K, zs (A2), ρ) 0 0) : ∀ (j i : Nat) (A2 : Nat → Nat → Int), n - i < j → i ≤ n → eo sbL A A2 → A2 46 = A 46 → rwC A2 (wK n m U W Y th) i → mj_W (mj_lv (d + 3)) prog_4_method_4_code 2 0 0 0 post 19 [some (.inr (.inl (some 46))), some (.inr (.inl (some 1))), some (.inr (.inl (some 10))), some (.inr (.inl (some 16))), some (.inl (iZ ((i : Int)))), x5, x6, x7] [] (123, K, zs (A2), ρ) 0 0
  | 0, i, _, hj, _, _, _, _ => absurd hj (by omega)
  | j + 1, i, A2, hj, hi, hE, h46, hR => by
    obtain ⟨h1, h2, h3⟩ := id h
    have hn12 := h2.1
    refine mq_iload d92_19 rfl ?_
    refine mq_aload_n d92_21 rfl rfl ?_
    refine zg_getIe L ((n : Int)) d92_22 rfl rfl (by decide) rfl ((by rw [hE 1 rfl]; exact h1.1)) ?_
    refine zq_icmp_ge (tgt := 47) d92_25 (by decide) (by omega) (by omega) (fun g => ?_) (fun g => ?_)
    · have e : i = n := by omega
      subst e
      exact kk A2 hE h46 hR
    · have hin : i < n := by omega
      have ek : wK n m U W Y th i = Y i := by
        rw [wK_t (Or.inl hin)]
        unfold wL
        rw [if_pos (by omega)]
      have hY := h2.2.2.2.1 i hin
      have hc := wK_n h2 (l := Y i) (by omega) (k := i) (by omega)
      refine mq_aload_n d92_28 rfl rfl ?_
      refine mq_aload_n d92_29 rfl rfl ?_
      refine zg_getR L 14 d92_30 rfl rfl (by decide) rfl (by decide) rfl ?_
      refine mq_iload d92_33 rfl ?_
      refine zr_ialdV L ((wK n m U W Y th i : Nat)) d92_35 (by decide) rfl (by omega) ((by rw [hE 14 rfl, ek]; exact h3 i hin)) ?_
      refine mq_iload d92_36 rfl ?_
      refine zg_callV (c := 46) L [_, _] d92_38 rfl rfl ⟨rfl, rfl⟩ rfl ⟨rfl, rfl⟩ ⟨by decide, by decide⟩ (by decide) rfl ?_
      refine s_append L (key := wK n m U W Y th) (by omega) (by rw [ek]; omega) (by omega) hR (fun A3 e3 f46 h3 => ?_)
      refine zq_iinc d92_41 rfl rfl ?_
      refine mq_goto (tgt := 19) d92_44 (by decide) ?_
      exact sb_1 L h kk j (i + 1) A3 (by omega) (by omega) (eo_trans hE e3) (f46.trans h46) h3
set_option maxRecDepth 100000 in
theorem sb_2 (L : Lay K ρ) (h : rcC A n m U W Y th) (h17 : ∀ b, b < m → th b = 1 → A 17 b = (wF U W Y th b : Nat)) {a : Nat} (ha : a < m) (ht : th a = 1)
    (kk : ∀ A2 x6 x7, eo sbL A A2 → A2 46 = A 46 → rwC A2 (wK n m U W Y th) (wF U W Y th a + (wS U W Y a - 1)) → (∀ y, x7 = some y → ∃ w, y = .inl w) → mj_W (mj_lv (d + 3)) prog_4_method_4_code 2 0 0 0 post 129 [some (.inr (.inl (some 46))), some (.inr (.inl (some 1))), some (.inr (.inl (some 10))), some (.inr (.inl (some 16))), some (.inl (iZ ((a : Int)))), some (.inl (iZ ((wS U W Y a : Nat)))), some (.inl x6), x7] [] (123, K, zs (A2), ρ) 0 0) : ∀ (j k : Nat) (A2 : Nat → Nat → Int) (x7 : Option mj_V), wS U W Y a - k < j → 1 ≤ k → k ≤ wS U W Y a → (∀ y, x7 = some y → ∃ w, y = .inl w) → eo sbL A A2 → A2 46 = A 46 → rwC A2 (wK n m U W Y th) (wF U W Y th a + (k - 1)) → mj_W (mj_lv (d + 3)) prog_4_method_4_code 2 0 0 0 post 84 [some (.inr (.inl (some 46))), some (.inr (.inl (some 1))), some (.inr (.inl (some 10))), some (.inr (.inl (some 16))), some (.inl (iZ ((a : Int)))), some (.inl (iZ ((wS U W Y a : Nat)))), some (.inl (iZ ((k : Int)))), x7] [] (123, K, zs (A2), ρ) 0 0
  | 0, k, _, _, hj, _, _, _, _, _, _ => absurd hj (by omega)
  | j + 1, k, A2, x7, hj, k1, hk, hx7, hE, h46, hR => by
    obtain ⟨h1, h2, h3⟩ := id h
    have hn12 := h2.1
    have hm24 := h2.2.1
    have sp := wS_p h2 ha ht
    obtain ⟨⟨a1, a2⟩, ⟨a3, a4⟩, a5, a6⟩ := h1.2.2.2.2 a ha
    refine mq_iload d92_84 rfl ?_
    refine mq_iload d92_86 rfl ?_
    refine zq_icmp_ge (tgt := 129) d92_88 (by decide) (by omega) (by omega) (fun g => ?_) (fun g => ?_)
    · have e : k = wS U W Y a := by omega
      subst e
      exact kk A2 _ x7 hE h46 hR hx7
    · have kS : k < wS U W Y a := by omega
      have hC2 := rcC_eo h (B := A2) (fun c hc => hE c (by simp [sbL]; omega))
      obtain ⟨b1, b2, b3⟩ := wL_bend (m := m) (U := U) (L := W) (Y := Y) ha ht k1 kS
      have ei : wI U W Y th a k = wF U W Y th a + k - 1 := by
        unfold wI
        rw [if_neg (by omega), if_neg (by omega)]
      obtain ⟨i, hi⟩ : ∃ i, i = wF U W Y th a + (k - 1) := ⟨_, rfl⟩
      rw [show wF U W Y th a + k - 1 = i by omega] at b1 b2 b3 ei
      have ek : wK n m U W Y th i = Y (U a) + k := by rw [wK_t (Or.inr ⟨b2, b3⟩), b1]
      have c36 := wK_36 h2 (l := Y (U a) + k) (j := k) (by omega) ha ht (by omega)
      have hlt : ctg (wK n m U W Y th) (Y (U a) + k) i < ctg (wK n m U W Y th) (Y (U a) + k) (i + 1) := by
        rw [ctg_s ek]
        omega
      rw [show i + 1 = wF U W Y th a + k by omega] at hlt
      rw [← hi] at hR
      have hF72 := h2.2.2.2.2
      refine mq_aload_n d92_91 rfl rfl ?_
      refine zg_getR L 14 d92_92 rfl rfl (by decide) rfl (by decide) rfl ?_
      refine mq_aload_n d92_95 rfl rfl ?_
      refine zg_getR L 11 d92_96 rfl rfl (by decide) rfl (by decide) rfl ?_
      refine mq_iload d92_99 rfl ?_
      refine zr_ialdV L ((U a : Int)) d92_101 (by decide) rfl (by omega) ((by rw [hE 11 rfl]; exact a1)) ?_
      refine zr_ialdV L ((Y (U a) : Nat)) d92_102 (by decide) rfl (by omega) ((by rw [hE 14 rfl]; exact h3 _ a3)) ?_
      refine mq_iload d92_103 rfl ?_
      refine zq_iadd d92_105 ?_
      have eG : ((Y (U a) : Nat) : Int) + (k : Int) = (wK n m U W Y th i : Nat) := by omega
      rw [eG]
      have st7 : mj_ok [some (.inr (.inl (some 46))), some (.inr (.inl (some 1))), some (.inr (.inl (some 10))), some (.inr (.inl (some 16))), some (.inl (iZ ((a : Int)))), some (.inl (iZ ((wS U W Y a : Nat)))), some (.inl (iZ ((k : Int)))), x7] 7 = true := by
        cases x7 with
        | none => rfl
        | some y =>
          obtain ⟨w, rfl⟩ := hx7 y rfl
          rfl
      refine mq_istore d92_106 (Nat.le_of_ble_eq_true rfl) st7 ?_
      refine mq_aload_n d92_108 rfl rfl ?_
      refine mq_iload d92_109 rfl ?_
      refine mq_aload_n d92_111 rfl rfl ?_
      refine mq_aload_n d92_112 rfl rfl ?_
      refine mq_iload d92_113 rfl ?_
      refine mq_iload d92_115 rfl ?_
      refine zg_callV (c := 16) L [_, _, _] d92_117 rfl rfl ⟨rfl, rfl⟩ rfl ⟨rfl, rfl⟩ ⟨by decide, by decide⟩ (by decide) rfl ?_
      refine s_itemOf L hC2 ha ht (by omega) (by rw [hE 17 rfl]; exact h17 a ha ht) ?_
      rw [ei]
      refine zg_callV (c := 46) L [_, _] d92_120 rfl rfl ⟨rfl, rfl⟩ rfl ⟨rfl, rfl⟩ ⟨by decide, by decide⟩ (by decide) rfl ?_
      refine s_append L (key := wK n m U W Y th) (by omega) (by rw [ek]; omega) (by omega) hR (fun A3 e3 f46 h3 => ?_)
      refine zq_iinc d92_123 rfl rfl ?_
      refine mq_goto (tgt := 84) d92_126 (by decide) ?_
      refine sb_2 L h h17 ha ht kk j (k + 1) A3 _ (by omega) (by omega) (by omega) (fun y e => ⟨_, (Option.some.inj e).symm⟩) (eo_trans hE e3) (f46.trans h46) ?_
      rw [show wF U W Y th a + (k + 1 - 1) = i + 1 by omega]
      exact h3
set_option maxRecDepth 100000 in
theorem sb_3 (L : Lay K ρ) (h : rcC A n m U W Y th) (h17 : ∀ b, b < m → th b = 1 → A 17 b = (wF U W Y th b : Nat))
    (kk : ∀ A2, eo sbL A A2 → A2 46 = A 46 → rwC A2 (wK n m U W Y th) (wF U W Y th m) → post none (123, K, zs (A2), ρ)) : ∀ (j a : Nat) (A2 : Nat → Nat → Int) (x5 x6 x7 : Option mj_V), m - a < j → a ≤ m → (∀ y, x5 = some y → ∃ w, y = .inl w) → (∀ y, x6 = some y → ∃ w, y = .inl w) → (∀ y, x7 = some y → ∃ w, y = .inl w) → eo sbL A A2 → A2 46 = A 46 → rwC A2 (wK n m U W Y th) (wF U W Y th a) → mj_W (mj_lv (d + 3)) prog_4_method_4_code 2 0 0 0 post 50 [some (.inr (.inl (some 46))), some (.inr (.inl (some 1))), some (.inr (.inl (some 10))), some (.inr (.inl (some 16))), some (.inl (iZ ((a : Int)))), x5, x6, x7] [] (123, K, zs (A2), ρ) 0 0
  | 0, a, _, _, _, _, hj, _, _, _, _, _, _, _ => absurd hj (by omega)
  | j + 1, a, A2, x5, x6, x7, hj, ha, hx5, hx6, hx7, hE, h46, hR => by
    obtain ⟨h1, h2, h3⟩ := id h
    have hn12 := h2.1
    have hm24 := h2.2.1
    have okL : ∀ (v : Option mj_V) (i : Nat), (∀ y, v = some y → ∃ w, y = .inl w) → v = none ∨ ∃ w, v = some (.inl w) := fun v i hv => by
      cases v with
      | none => exact Or.inl rfl
      | some y =>
        obtain ⟨w, rfl⟩ := hv y rfl
        exact Or.inr ⟨w, rfl⟩
    refine mq_iload d92_50 rfl ?_
    refine mq_aload_n d92_52 rfl rfl ?_
    refine zg_getIe L ((m : Int)) d92_53 rfl rfl (by decide) rfl ((by rw [hE 1 rfl]; exact h1.2.1)) ?_
    refine zq_icmp_ge (tgt := 135) d92_56 (by decide) (by omega) (by omega) (fun g => ?_) (fun g => ?_)
    · have e : a = m := by omega
      subst e
      refine zg_retv d92_135 (by decide) ?_
      exact kk A2 hE h46 hR
    · have ham : a < m := by omega
      obtain ⟨⟨a1, a2⟩, ⟨a3, a4⟩, a5, a6⟩ := h1.2.2.2.2 a ham
      have st : ∀ v : Int, mj_ok [some (.inr (.inl (some 46))), some (.inr (.inl (some 1))), some (.inr (.inl (some 10))), some (.inr (.inl (some 16))), some (.inl (iZ ((a : Int)))), x5, x6, x7] 5 = true ∧ mj_ok [some (.inr (.inl (some 46))), some (.inr (.inl (some 1))), some (.inr (.inl (some 10))), some (.inr (.inl (some 16))), some (.inl (iZ ((a : Int)))), some (.inl (iZ (v))), x6, x7] 6 = true := fun v => by
        rcases okL x5 0 hx5 with e | ⟨w, e⟩ <;> rcases okL x6 0 hx6 with e2 | ⟨w2, e2⟩ <;> rw [e, e2] <;> exact ⟨rfl, rfl⟩
      refine mq_aload_n d92_59 rfl rfl ?_
      refine zg_getR L 5 d92_60 rfl rfl (by decide) rfl (by decide) rfl ?_
      refine mq_iload d92_63 rfl ?_
      refine zr_zaldV L (th a) d92_65 (by decide) rfl (by omega) ((by rw [hE 5 rfl]; exact a5)) ?_
      refine zq_if_eq (tgt := 78) d92_66 (by decide) (by omega) (fun g2 => ?_) (fun g2 => ?_)
      · have t0 : th a ≠ 1 := by omega
        refine zq_iconst d92_78 ?_
        refine mq_istore d92_79 (Nat.le_of_ble_eq_true rfl) (st 0).1 ?_
        refine zq_iconst d92_81 ?_
        refine mq_istore d92_82 (Nat.le_of_ble_eq_true rfl) (st 0).2 ?_
        refine mq_iload d92_84 rfl ?_
        refine mq_iload d92_86 rfl ?_
        refine zq_icmp_ge (tgt := 129) d92_88 (by decide) (by omega) (by omega) (fun g3 => ?_) (fun g3 => ?_)
        · refine zq_iinc d92_129 rfl rfl ?_
          refine mq_goto (tgt := 50) d92_132 (by decide) ?_
          exact sb_3 L h h17 kk j (a + 1) A2 _ _ _ (by omega) (by omega) (fun y e => ⟨_, (Option.some.inj e).symm⟩) (fun y e => ⟨_, (Option.some.inj e).symm⟩) hx7 hE h46 (by rw [wF_n t0]; exact hR)
        · omega
      · have t1 : th a = 1 := by omega
        have sp := wS_p h2 ham t1
        have hC2 := rcC_eo h (B := A2) (fun c hc => hE c (by simp [sbL]; omega))
        refine mq_aload_n d92_69 rfl rfl ?_
        refine mq_iload d92_70 rfl ?_
        refine zg_callV (c := 10) L [_] d92_72 rfl rfl ⟨rfl, rfl⟩ rfl ⟨rfl, rfl⟩ ⟨by decide, by decide⟩ (by decide) rfl ?_
        refine s_span L hC2.1 ham ?_
        rw [rc_sp hC2 ham t1]
        refine mq_goto (tgt := 79) d92_75 (by decide) ?_
        refine mq_istore d92_79 (Nat.le_of_ble_eq_true rfl) (st 0).1 ?_
        refine zq_iconst d92_81 ?_
        refine mq_istore d92_82 (Nat.le_of_ble_eq_true rfl) (st _).2 ?_
        refine sb_2 L h h17 ham t1 (fun A3 y6 y7 e3 f46 hR3 hy7 => ?_) (wS U W Y a) 1 A2 x7 (by omega) (by omega) (by omega) hx7 hE h46 (by rw [show wF U W Y th a + (1 - 1) = wF U W Y th a by omega]; exact hR)
        refine zq_iinc d92_129 rfl rfl ?_
        refine mq_goto (tgt := 50) d92_132 (by decide) ?_
        exact sb_3 L h h17 kk j (a + 1) A3 _ _ _ (by omega) (by omega) (fun y e => ⟨_, (Option.some.inj e).symm⟩) (fun y e => ⟨_, (Option.some.inj e).symm⟩) hy7 e3 f46 (by rw [wF_s t1]; exact hR3)
theorem rwC_12 (h2 : dr n m U W Y th) (h : rwC A (wK n m U W Y th) n) : rwC A (wK n m U W Y th) 12 := by
  have hn := h2.1
  have key : ∀ j, n + j ≤ 12 → rwC A (wK n m U W Y th) (n + j) := fun j => by
    induction j with
    | zero => intro _; exact h
    | succ j ih =>
      intro hj
      refine rwC_n (k := n + j) ?_ (ih (by omega))
      rw [wK_f (fun q => by rcases q with q | q <;> omega)]
      decide
  have := key (12 - n) (by omega)
  rwa [show n + (12 - n) = 12 by omega] at this
set_option maxRecDepth 100000 in
theorem s_standByNumbers (L : Lay K ρ) (h : rcC A n m U W Y th) (h17 : ∀ b, b < m → th b = 1 → A 17 b = (wF U W Y th b : Nat))
    (kk : ∀ A2, eo sbL A A2 → (∀ j, j ≠ 6 → A2 46 j = A 46 j) → A2 46 6 = A 10 5 → rwC A2 (wK n m U W Y th) (wF U W Y th m) → post none (123, K, zs (A2), ρ)) : mj_lv (d + 4) m_Orders_standByNumbers [.inr (.inl (some 46)), .inr (.inl (some 1)), .inr (.inl (some 10)), .inr (.inl (some 16))] (123, K, zs (A), ρ) post := by
  obtain ⟨h1, h2, h3⟩ := id h
  show mj_W (mj_lv (d + 3)) prog_4_method_4_code 2 0 0 0 post 0 [some (.inr (.inl (some 46))), some (.inr (.inl (some 1))), some (.inr (.inl (some 10))), some (.inr (.inl (some 16))), none, none, none, none] [] (123, K, zs (A), ρ) 0 0
  refine mq_aload_n d92_0 rfl rfl ?_
  refine mq_aload_n d92_1 rfl rfl ?_
  refine zg_getI L d92_2 rfl rfl (by decide) rfl ?_
  refine zg_putI L d92_5 rfl rfl rfl rfl (by decide) rfl ?_
  refine mq_aload_n d92_8 rfl rfl ?_
  refine zg_getR L 47 d92_9 rfl rfl (by decide) rfl (by decide) rfl ?_
  refine zq_iconst d92_12 ?_
  refine zg_callS [_, _] d92_13 rfl rfl ⟨rfl, rfl⟩ rfl ⟨rfl, rfl⟩ ⟨by decide, by decide⟩ ?_
  refine s_fill L (by decide) rfl (by decide) ?_
  obtain ⟨B, hB⟩ : ∃ B, B = fl (mj_u2 A 46 6 (A 10 5)) 47 12 0 := ⟨_, rfl⟩
  rw [← hB]
  have bc : ∀ c, c ≠ 46 → c ≠ 47 → B c = A c := fun c q1 q2 => by rw [hB, fl_c q2, u2_cell q1]
  have eB : eo sbL A B := fun c hc => bc c (fun q => by rw [q] at hc; exact absurd hc (by decide)) (fun q => by rw [q] at hc; exact absurd hc (by decide))
  have hCB := rcC_eo h (B := B) (fun c hc => bc c (by omega) (by omega))
  refine zq_iconst d92_16 ?_
  refine mq_istore d92_17 (Nat.le_of_ble_eq_true rfl) rfl ?_
  refine sb_1 L hCB (fun A2 e2 f2 hR => ?_) (n + 1) 0 B (by omega) (by omega) eo_refl rfl ⟨fun l hl => ?_, fun i hi => absurd hi (by omega)⟩
  · refine zq_iconst d92_47 ?_
    refine mq_istore d92_48 (Nat.le_of_ble_eq_true rfl) rfl ?_
    refine sb_3 L hCB (fun b hb tb => by rw [bc 17 (by decide) (by decide)]; exact h17 b hb tb) (fun A3 e3 f3 hR3 => ?_) (m + 1) 0 A2 _ _ _ (by omega) (by omega) (fun y e => absurd e (by simp)) (fun y e => absurd e (by simp)) (fun y e => absurd e (by simp)) e2 f2 (rwC_12 h2 hR)
    refine kk A3 (eo_trans eB e3) (fun j hj => ?_) ?_ hR3
    · rw [f3, hB, fl_c (by decide), u2_k hj]
    · rw [f3, hB, fl_c (by decide), u2_self]
  · rw [hB, fl_lt hl]
    rfl
end sp_sb
