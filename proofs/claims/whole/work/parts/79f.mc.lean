section sp_mc
variable {d : Nat} {post : Option mj_V → mj_H → Prop} {K : Nat → Nat × Nat} {ρ : Nat → Nat → Option Nat} {A : Nat → Nat → Int} {Q : Nat → Int → Prop} {sz : Nat → Nat} {h N : Nat} {g pu pd : Nat → Nat}
/-- the model's rows and spots -/
def roM (A : Nat → Nat → Int) (Q : Nat → Int → Prop) (sz : Nat → Nat) (h : Nat) (z : wSt) : Prop := (∀ l, l < h → A 112 l = (sz l : Nat)) ∧ (∀ l, l < h → ∀ j, j < sz l → A 111 (80 * l + j) = z.1 l j) ∧ ∀ l, l < h → ∀ x : Nat, Q l (x : Nat) → A 113 x = z.2 x
/-- the model's pieces -/
def pcM (A : Nat → Nat → Int) (N : Nat) (g pu pd : Nat → Nat) : Prop := A 93 22 = (N : Nat) ∧ ∀ p, p < N → A 109 p = (pu p : Nat) ∧ A 110 p = (pd p : Nat) ∧ A 106 (pu p) = (g p : Nat) ∧ pu p < 72 ∧ pd p < 72 ∧ g p < 12
theorem roM_at (hx : cxO Q sz h N g pu pd) {z : wSt} (hz : wok Q sz h z) (hr : roM A Q sz h z) {l x : Nat} (hl : l < h) (hq : Q l (x : Nat)) : A 113 x = z.2 x ∧ 0 ≤ A 113 x ∧ A 113 x < 36 := by
  have e := hr.2.2 l hl x hq
  have s := wok_s hz hl hq
  have b := hx.2.1 l hl
  rw [Int.toNat_natCast] at s
  rw [e]
  omega
set_option maxRecDepth 100000 in
theorem mc_1 (L : Lay K ρ) (hx : cxO Q sz h N g pu pd) (hp : pcM A N g pu pd) {z : wSt} (hz : wok Q sz h z) (hr : roM A Q sz h z) {p : Nat} (hpN : p < N)
    (kk : ∀ x3 x4, (∀ y, x4 = some y → ∃ w, y = .inl w) → mj_W (mj_lv d) prog_11_method_27_code 9 1 0 0 post 123 [some (.inr (.inl (some 93))), some (.inl (iZ (cnt (fun p => cnt (fun q => crX g pu pd z.2 p q) N) p + cnt (fun q => crX g pu pd z.2 p q) N))), some (.inl (iZ ((p : Nat)))), some (.inl x3), x4] [] (123, K, zs (A), ρ) 0 0) : ∀ (j q : Nat) (x4 : Option mj_V), N - q < j → q ≤ N → (∀ y, x4 = some y → ∃ w, y = .inl w) → mj_W (mj_lv d) prog_11_method_27_code 9 1 0 0 post 14 [some (.inr (.inl (some 93))), some (.inl (iZ (cnt (fun p => cnt (fun q => crX g pu pd z.2 p q) N) p + cnt (fun q => crX g pu pd z.2 p q) q))), some (.inl (iZ ((p : Nat)))), some (.inl (iZ ((q : Nat)))), x4] [] (123, K, zs (A), ρ) 0 0
  | 0, q, _, hj, _, _ => absurd hj (by omega)
  | j + 1, q, x4, hj, hq, hx4 => by
    obtain ⟨x1, x2, x3, y4, y5, y6, y7⟩ := id hx
    obtain ⟨h22, hP⟩ := id hp
    obtain ⟨p1, p2, p3, p4, p5, p6⟩ := hP p hpN
    refine mq_iload_n d51_14 rfl rfl ?_
    refine mq_aload_n d51_15 rfl rfl ?_
    refine zg_getIe L ((N : Nat)) d51_16 rfl rfl (by decide) rfl (h22) ?_
    refine zq_icmp_ge (tgt := 123) d51_19 (by decide) (by omega) (by omega) (fun g1 => ?_) (fun g1 => ?_)
    · have e : q = N := by omega
      subst e
      exact kk _ x4 hx4
    · have hqN : q < N := by omega
      obtain ⟨q1, q2, q3, q4, q5, q6⟩ := hP q hqN
      obtain ⟨a1, a2, a3⟩ := y6 p hpN
      obtain ⟨b1, b2, b3⟩ := y6 q hqN
      have sp1 := roM_at hx hz hr (by omega) a1
      have sp2 := roM_at hx hz hr a3 a2
      have sq1 := roM_at hx hz hr (by omega) b1
      have sq2 := roM_at hx hz hr b3 b2
      obtain ⟨C, hC⟩ : ∃ C, C = cnt (fun p => cnt (fun q => crX g pu pd z.2 p q) N) p := ⟨_, rfl⟩
      have eS : cnt (fun q => crX g pu pd z.2 p q) (q + 1) = cnt (fun q => crX g pu pd z.2 p q) q + crX g pu pd z.2 p q := rfl
      have fin := fun y4 => mc_1 L hx hp hz hr hpN kk j (q + 1) (some (.inl y4)) (by omega) (by omega) (fun y e => ⟨_, (Option.some.inj e).symm⟩)
      rw [eS, ← Int.add_assoc] at fin
      have st4 : mj_ok [some (.inr (.inl (some 93))), some (.inl (iZ (cnt (fun p => cnt (fun q => crX g pu pd z.2 p q) N) p + cnt (fun q => crX g pu pd z.2 p q) q))), some (.inl (iZ ((p : Nat)))), some (.inl (iZ ((q : Nat)))), x4] 4 = true := by
        cases x4 with
        | none => rfl
        | some y =>
          obtain ⟨w, rfl⟩ := hx4 y rfl
          rfl
      have no : ¬ (g p = g q ∧ z.2 (pu p) < z.2 (pu q) ∧ z.2 (pd q) < z.2 (pd p)) → crX g pu pd z.2 p q = 0 := fun y => if_neg y
      have yes : (g p = g q ∧ z.2 (pu p) < z.2 (pu q) ∧ z.2 (pd q) < z.2 (pd p)) → crX g pu pd z.2 p q = 1 := fun y => if_pos y
      refine mq_aload_n d51_22 rfl rfl ?_
      refine zg_getR L 106 d51_23 rfl rfl (by decide) rfl (by decide) rfl ?_
      refine mq_aload_n d51_26 rfl rfl ?_
      refine zg_getR L 109 d51_27 rfl rfl (by decide) rfl (by decide) rfl ?_
      refine mq_iload_n d51_30 rfl rfl ?_
      refine zr_ialdV L ((pu p : Nat)) d51_31 (by decide) rfl (by omega) (p1) ?_
      refine zr_ialdV L ((g p : Nat)) d51_32 (by decide) rfl (by omega) (p3) ?_
      refine mq_aload_n d51_33 rfl rfl ?_
      refine zg_getR L 106 d51_34 rfl rfl (by decide) rfl (by decide) rfl ?_
      refine mq_aload_n d51_37 rfl rfl ?_
      refine zg_getR L 109 d51_38 rfl rfl (by decide) rfl (by decide) rfl ?_
      refine mq_iload_n d51_41 rfl rfl ?_
      refine zr_ialdV L ((pu q : Nat)) d51_42 (by decide) rfl (by omega) (q1) ?_
      refine zr_ialdV L ((g q : Nat)) d51_43 (by decide) rfl (by omega) (q3) ?_
      refine zq_icmp_ne (tgt := 51) d51_44 (by decide) (by omega) (by omega) (fun g2 => ?_) (fun g2 => ?_)
      · rw [no (by omega)] at fin
        refine zq_iconst d51_51 ?_
        refine mq_istore d51_52 (Nat.le_of_ble_eq_true rfl) st4 ?_
        refine mq_iload_n d51_54 rfl rfl ?_
        refine mq_iload d51_55 rfl ?_
        refine zq_if_eq (tgt := 114) d51_57 (by decide) (by omega) (fun g3 => ?_) (fun g3 => ?_)
        · refine zq_iconst d51_114 ?_
          refine zq_iadd d51_115 ?_
          refine mq_istore_n d51_116 rfl (Nat.le_of_ble_eq_true rfl) rfl ?_
          refine zq_iinc d51_117 rfl rfl ?_
          refine mq_goto (tgt := 14) d51_120 (by decide) ?_
          exact fin _
        · exact absurd rfl g3
      · refine zq_iconst d51_47 ?_
        refine mq_goto (tgt := 52) d51_48 (by decide) ?_
        refine mq_istore d51_52 (Nat.le_of_ble_eq_true rfl) st4 ?_
        refine mq_iload_n d51_54 rfl rfl ?_
        refine mq_iload d51_55 rfl ?_
        refine zq_if_eq (tgt := 114) d51_57 (by decide) (by omega) (fun g3 => ?_) (fun g3 => ?_)
        · exact absurd g3 (by decide)
        · refine mq_aload_n d51_60 rfl rfl ?_
          refine zg_getR L 113 d51_61 rfl rfl (by decide) rfl (by decide) rfl ?_
          refine mq_aload_n d51_64 rfl rfl ?_
          refine zg_getR L 109 d51_65 rfl rfl (by decide) rfl (by decide) rfl ?_
          refine mq_iload_n d51_68 rfl rfl ?_
          refine zr_ialdV L ((pu p : Nat)) d51_69 (by decide) rfl (by omega) (p1) ?_
          refine zr_ialdV L (z.2 (pu p)) d51_70 (by decide) rfl (by omega) (sp1.1) ?_
          refine mq_aload_n d51_71 rfl rfl ?_
          refine zg_getR L 113 d51_72 rfl rfl (by decide) rfl (by decide) rfl ?_
          refine mq_aload_n d51_75 rfl rfl ?_
          refine zg_getR L 109 d51_76 rfl rfl (by decide) rfl (by decide) rfl ?_
          refine mq_iload_n d51_79 rfl rfl ?_
          refine zr_ialdV L ((pu q : Nat)) d51_80 (by decide) rfl (by omega) (q1) ?_
          refine zr_ialdV L (z.2 (pu q)) d51_81 (by decide) rfl (by omega) (sq1.1) ?_
          refine zq_icmp_ge (tgt := 114) d51_82 (by decide) (by omega) (by omega) (fun g4 => ?_) (fun g4 => ?_)
          · rw [no (by omega)] at fin
            refine zq_iconst d51_114 ?_
            refine zq_iadd d51_115 ?_
            refine mq_istore_n d51_116 rfl (Nat.le_of_ble_eq_true rfl) rfl ?_
            refine zq_iinc d51_117 rfl rfl ?_
            refine mq_goto (tgt := 14) d51_120 (by decide) ?_
            exact fin _
          · refine mq_aload_n d51_85 rfl rfl ?_
            refine zg_getR L 113 d51_86 rfl rfl (by decide) rfl (by decide) rfl ?_
            refine mq_aload_n d51_89 rfl rfl ?_
            refine zg_getR L 110 d51_90 rfl rfl (by decide) rfl (by decide) rfl ?_
            refine mq_iload_n d51_93 rfl rfl ?_
            refine zr_ialdV L ((pd p : Nat)) d51_94 (by decide) rfl (by omega) (p2) ?_
            refine zr_ialdV L (z.2 (pd p)) d51_95 (by decide) rfl (by omega) (sp2.1) ?_
            refine mq_aload_n d51_96 rfl rfl ?_
            refine zg_getR L 113 d51_97 rfl rfl (by decide) rfl (by decide) rfl ?_
            refine mq_aload_n d51_100 rfl rfl ?_
            refine zg_getR L 110 d51_101 rfl rfl (by decide) rfl (by decide) rfl ?_
            refine mq_iload_n d51_104 rfl rfl ?_
            refine zr_ialdV L ((pd q : Nat)) d51_105 (by decide) rfl (by omega) (q2) ?_
            refine zr_ialdV L (z.2 (pd q)) d51_106 (by decide) rfl (by omega) (sq2.1) ?_
            refine zq_icmp_le (tgt := 114) d51_107 (by decide) (by omega) (by omega) (fun g5 => ?_) (fun g5 => ?_)
            · rw [no (by omega)] at fin
              refine zq_iconst d51_114 ?_
              refine zq_iadd d51_115 ?_
              refine mq_istore_n d51_116 rfl (Nat.le_of_ble_eq_true rfl) rfl ?_
              refine zq_iinc d51_117 rfl rfl ?_
              refine mq_goto (tgt := 14) d51_120 (by decide) ?_
              exact fin _
            · rw [yes (by omega)] at fin
              refine zq_iconst d51_110 ?_
              refine mq_goto (tgt := 115) d51_111 (by decide) ?_
              refine zq_iadd d51_115 ?_
              refine mq_istore_n d51_116 rfl (Nat.le_of_ble_eq_true rfl) rfl ?_
              refine zq_iinc d51_117 rfl rfl ?_
              refine mq_goto (tgt := 14) d51_120 (by decide) ?_
              exact fin _
set_option maxRecDepth 100000 in
theorem mc_2 (L : Lay K ρ) (hx : cxO Q sz h N g pu pd) (hp : pcM A N g pu pd) {z : wSt} (hz : wok Q sz h z) (hr : roM A Q sz h z) (kk : post (some (.inl (iZ (crV g pu pd z.2 N)))) (123, K, zs (A), ρ)) : ∀ (j p : Nat) (x3 x4 : Option mj_V), N - p < j → p ≤ N → (∀ y, x3 = some y → ∃ w, y = .inl w) → (∀ y, x4 = some y → ∃ w, y = .inl w) → mj_W (mj_lv d) prog_11_method_27_code 9 1 0 0 post 4 [some (.inr (.inl (some 93))), some (.inl (iZ (cnt (fun p => cnt (fun q => crX g pu pd z.2 p q) N) p))), some (.inl (iZ ((p : Nat)))), x3, x4] [] (123, K, zs (A), ρ) 0 0
  | 0, p, _, _, hj, _, _, _ => absurd hj (by omega)
  | j + 1, p, x3, x4, hj, hpN, hx3, hx4 => by
    have h84 := hx.2.2.1
    refine mq_iload_n d51_4 rfl rfl ?_
    refine mq_aload_n d51_5 rfl rfl ?_
    refine zg_getIe L ((N : Nat)) d51_6 rfl rfl (by decide) rfl (hp.1) ?_
    refine zq_icmp_ge (tgt := 129) d51_9 (by decide) (by omega) (by omega) (fun g1 => ?_) (fun g1 => ?_)
    · have e : p = N := by omega
      subst e
      refine mq_iload_n d51_129 rfl rfl ?_
      refine zg_reti d51_130 rfl ?_
      exact kk
    · have st3 : mj_ok [some (.inr (.inl (some 93))), some (.inl (iZ (cnt (fun p => cnt (fun q => crX g pu pd z.2 p q) N) p))), some (.inl (iZ ((p : Nat)))), x3, x4] 3 = true := by
        cases x3 with
        | none => rfl
        | some y =>
          obtain ⟨w, rfl⟩ := hx3 y rfl
          rfl
      refine zq_iconst d51_12 ?_
      refine mq_istore_n d51_13 rfl (Nat.le_of_ble_eq_true rfl) st3 ?_
      have e0 : cnt (fun p => cnt (fun q => crX g pu pd z.2 p q) N) p = cnt (fun p => cnt (fun q => crX g pu pd z.2 p q) N) p + cnt (fun q => crX g pu pd z.2 p q) 0 := by
        show _ = _ + 0
        omega
      rw [e0]
      refine mc_1 L hx hp hz hr (by omega) (fun y3 y4 hy4 => ?_) (N + 1) 0 x4 (by omega) (by omega) hx4
      refine zq_iinc d51_123 rfl rfl ?_
      refine mq_goto (tgt := 4) d51_126 (by decide) ?_
      exact mc_2 L hx hp hz hr kk j (p + 1) _ _ (by omega) (by omega) (fun y e => ⟨_, (Option.some.inj e).symm⟩) hy4
set_option maxRecDepth 100000 in
theorem s_mcross (L : Lay K ρ) (hx : cxO Q sz h N g pu pd) (hp : pcM A N g pu pd) {z : wSt} (hz : wok Q sz h z) (hr : roM A Q sz h z) (kk : post (some (.inl (iZ (crV g pu pd z.2 N)))) (123, K, zs (A), ρ)) : mj_lv (d + 1) m_Mod_crossings [.inr (.inl (some 93))] (123, K, zs (A), ρ) post := by
  show mj_W (mj_lv d) prog_11_method_27_code 9 1 0 0 post 0 [some (.inr (.inl (some 93))), none, none, none, none] [] (123, K, zs (A), ρ) 0 0
  refine zq_iconst d51_0 ?_
  refine mq_istore_n d51_1 rfl (Nat.le_of_ble_eq_true rfl) rfl ?_
  refine zq_iconst d51_2 ?_
  refine mq_istore_n d51_3 rfl (Nat.le_of_ble_eq_true rfl) rfl ?_
  exact mc_2 L hx hp hz hr kk (N + 1) 0 _ _ (by omega) (by omega) (fun y e => absurd e (by simp)) (fun y e => absurd e (by simp))
theorem e80 {l i : Nat} : (80 : Int) * ((l : Nat) : Int) + ((i : Nat) : Int) = ((80 * l + i : Nat) : Int) := by omega
set_option maxRecDepth 100000 in
theorem msp_1 (L : Lay K ρ) {l s : Nat} (hl : l < 12) (h112 : A 112 l = (s : Nat)) (hs : s ≤ 36) {r : Nat → Int} (hr : ∀ j, j < s → A 111 (80 * l + j) = r j ∧ 0 ≤ r j ∧ r j < 72) (kk : ∀ A2, eo [113] A A2 → A2 113 = nbr r (A 113) s → post none (123, K, zs (A2), ρ)) : ∀ (j i : Nat) (A2 : Nat → Nat → Int), s - i < j → i ≤ s → eo [113] A A2 → A2 113 = nbr r (A 113) i → mj_W (mj_lv d) prog_11_method_29_code 9 0 0 0 post 2 [some (.inr (.inl (some 93))), some (.inl (iZ ((l : Nat)))), some (.inl (iZ ((i : Nat))))] [] (123, K, zs (A2), ρ) 0 0
  | 0, i, _, hj, _, _, _ => absurd hj (by omega)
  | j + 1, i, A2, hj, hi, hE, hI => by
    refine mq_iload_n d53_2 rfl rfl ?_
    refine mq_aload_n d53_3 rfl rfl ?_
    refine zg_getR L 112 d53_4 rfl rfl (by decide) rfl (by decide) rfl ?_
    refine mq_iload_n d53_7 rfl rfl ?_
    refine zr_ialdV L ((s : Nat)) d53_8 (by decide) rfl (by omega) ((by rw [hE 112 rfl]; exact h112)) ?_
    refine zq_icmp_ge (tgt := 35) d53_9 (by decide) (by omega) (by omega) (fun g => ?_) (fun g => ?_)
    · have e : i = s := by omega
      subst e
      refine zg_retv d53_35 (by decide) ?_
      exact kk A2 hE hI
    · obtain ⟨r1, r2, r3⟩ := hr i (by omega)
      refine mq_aload_n d53_12 rfl rfl ?_
      refine zg_getR L 113 d53_13 rfl rfl (by decide) rfl (by decide) rfl ?_
      refine mq_aload_n d53_16 rfl rfl ?_
      refine zg_getR L 111 d53_17 rfl rfl (by decide) rfl (by decide) rfl ?_
      refine zq_bipush d53_20 rfl ?_
      refine mq_iload_n d53_22 rfl rfl ?_
      refine zq_imul d53_23 ?_
      refine mq_iload_n d53_24 rfl rfl ?_
      refine zq_iadd d53_25 ?_
      rw [e80]
      refine zr_ialdV L (r i) d53_26 (by decide) rfl (by omega) ((by rw [hE 111 rfl]; exact r1)) ?_
      refine mq_iload_n d53_27 rfl rfl ?_
      refine zg_iast L d53_28 (by decide) rfl (by omega) ?_
      refine zq_iinc d53_29 rfl rfl ?_
      refine mq_goto (tgt := 2) d53_32 (by decide) ?_
      refine msp_1 L hl h112 hs hr kk j (i + 1) _ (by omega) (by omega) (eo_u2 rfl hE) ?_
      rw [u2_upf, hI]
      rfl
set_option maxRecDepth 100000 in
theorem s_setSpots (L : Lay K ρ) {l s : Nat} (hl : l < 12) (h112 : A 112 l = (s : Nat)) (hs : s ≤ 36) {r : Nat → Int} (hr : ∀ j, j < s → A 111 (80 * l + j) = r j ∧ 0 ≤ r j ∧ r j < 72) (kk : ∀ A2, eo [113] A A2 → A2 113 = nbr r (A 113) s → post none (123, K, zs (A2), ρ)) : mj_lv (d + 1) m_Mod_setSpots [.inr (.inl (some 93)), .inl (iZ (l : Nat))] (123, K, zs (A), ρ) post := by
  show mj_W (mj_lv d) prog_11_method_29_code 9 0 0 0 post 0 [some (.inr (.inl (some 93))), some (.inl (iZ ((l : Nat)))), none] [] (123, K, zs (A), ρ) 0 0
  refine zq_iconst d53_0 ?_
  refine mq_istore_n d53_1 rfl (Nat.le_of_ble_eq_true rfl) rfl ?_
  exact msp_1 L hl h112 hs hr kk (s + 1) 0 A (by omega) (by omega) eo_refl rfl
set_option maxRecDepth 100000 in
theorem mkp_1 (L : Lay K ρ) {x1 x2 : Int32} (kk : ∀ A2, eo [114] A A2 → (∀ q, q < 960 → A2 114 q = A 111 q) → post none (123, K, zs (A2), ρ)) : ∀ (j i : Nat) (A2 : Nat → Nat → Int), 960 - i < j → i ≤ 960 → eo [114] A A2 → (∀ q, q < i → A2 114 q = A 111 q) → mj_W (mj_lv d) prog_11_method_30_code 9 0 0 0 post 12 [some (.inr (.inl (some 93))), some (.inl x1), some (.inl x2), some (.inl (iZ ((i : Nat))))] [] (123, K, zs (A2), ρ) 0 0
  | 0, i, _, hj, _, _, _ => absurd hj (by omega)
  | j + 1, i, A2, hj, hi, hE, hI => by
    refine mq_iload_n d54_12 rfl rfl ?_
    refine zq_sipush d54_13 rfl ?_
    refine zq_icmp_ge (tgt := 37) d54_16 (by decide) (by omega) (by omega) (fun g => ?_) (fun g => ?_)
    · have e : i = 960 := by omega
      subst e
      refine zg_retv d54_37 (by decide) ?_
      exact kk A2 hE hI
    · refine mq_aload_n d54_19 rfl rfl ?_
      refine zg_getR L 114 d54_20 rfl rfl (by decide) rfl (by decide) rfl ?_
      refine mq_iload_n d54_23 rfl rfl ?_
      refine mq_aload_n d54_24 rfl rfl ?_
      refine zg_getR L 111 d54_25 rfl rfl (by decide) rfl (by decide) rfl ?_
      refine mq_iload_n d54_28 rfl rfl ?_
      refine zr_ialdV L (A 111 i) d54_29 (by decide) rfl (by omega) ((by rw [hE 111 rfl])) ?_
      refine zg_iastN L d54_30 (by decide) rfl (by omega) ?_
      refine zq_iinc d54_31 rfl rfl ?_
      refine mq_goto (tgt := 12) d54_34 (by decide) ?_
      refine mkp_1 L kk j (i + 1) _ (by omega) (by omega) (eo_u2 rfl hE) (fun q hq => ?_)
      by_cases e : q = i
      · rw [e, u2_self]
      · rw [u2_k e]
        exact hI q (by omega)
set_option maxRecDepth 100000 in
theorem s_keep (L : Lay K ρ) {r c : Int} (kk : ∀ A2, eo [93, 114] A A2 → (∀ j, j ≠ 27 → j ≠ 28 → A2 93 j = A 93 j) → A2 93 27 = r → A2 93 28 = c → (∀ q, q < 960 → A2 114 q = A 111 q) → post none (123, K, zs (A2), ρ)) : mj_lv (d + 1) m_Mod_keep [.inr (.inl (some 93)), .inl (iZ r), .inl (iZ c)] (123, K, zs (A), ρ) post := by
  show mj_W (mj_lv d) prog_11_method_30_code 9 0 0 0 post 0 [some (.inr (.inl (some 93))), some (.inl (iZ (r))), some (.inl (iZ (c))), none] [] (123, K, zs (A), ρ) 0 0
  refine mq_aload_n d54_0 rfl rfl ?_
  refine mq_iload_n d54_1 rfl rfl ?_
  refine zg_putI L d54_2 rfl rfl rfl rfl (by decide) rfl ?_
  refine mq_aload_n d54_5 rfl rfl ?_
  refine mq_iload_n d54_6 rfl rfl ?_
  refine zg_putI L d54_7 rfl rfl rfl rfl (by decide) rfl ?_
  refine zq_iconst d54_10 ?_
  refine mq_istore_n d54_11 rfl (Nat.le_of_ble_eq_true rfl) rfl ?_
  obtain ⟨B, hB⟩ : ∃ B, B = mj_u2 (mj_u2 A 93 27 r) 93 28 c := ⟨_, rfl⟩
  rw [← hB]
  have bc : ∀ c, c ≠ 93 → B c = A c := fun c hc => by rw [hB, u2_cell hc, u2_cell hc]
  refine mkp_1 L (fun A2 hE h114 => kk A2 (fun c hc => ?_) (fun j h1 h2 => ?_) ?_ ?_ (fun q hq => by rw [h114 q hq, bc 111 (by decide)])) 961 0 B (by omega) (by omega) eo_refl (fun q hq => absurd hq (by omega))
  · simp at hc
    rw [hE c (by simp; omega), bc c (by omega)]
  · rw [hE 93 rfl, hB, u2_k h2, u2_k h1]
  · rw [hE 93 rfl, hB, u2_k (by decide), u2_self]
  · rw [hE 93 rfl, hB, u2_self]
end sp_mc
