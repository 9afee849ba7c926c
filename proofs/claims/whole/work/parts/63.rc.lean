section sp_rc
variable {d : Nat} {post : Option mj_V → mj_H → Prop} {K : Nat → Nat × Nat} {ρ : Nat → Nat → Option Nat} {A : Nat → Nat → Int} {n m : Nat} {U W : Nat → Nat} {th : Nat → Int}
/-- the ends of the arcs as the layering has them -/
def lyC (A : Nat → Nat → Int) (n m : Nat) (U W : Nat → Nat) (th : Nat → Int) : Prop := A 1 4 = n ∧ A 1 5 = m ∧ n ≤ 12 ∧ m ≤ 24 ∧ ∀ a, a < m → (A 11 a = U a ∧ A 12 a = W a) ∧ (U a < n ∧ W a < n) ∧ A 5 a = th a ∧ (th a = 0 ∨ th a = 1)
theorem lyC_eo {B : Nat → Nat → Int} (h : lyC A n m U W th) (e1 : B 1 = A 1) (e5 : B 5 = A 5) (e11 : B 11 = A 11) (e12 : B 12 = A 12) : lyC B n m U W th := by
  unfold lyC
  rw [e1, e5, e11, e12]
  exact h
set_option maxRecDepth 100000 in
theorem s_span (L : Lay K ρ) (h : lyC A n m U W th) {a : Nat} (ha : a < m) (k : post (some (.inl (iZ (A 14 (W a) - A 14 (U a))))) (123, K, zs (A), ρ)) : mj_lv (d + 1) m_Layering_span [.inr (.inl (some 10)), .inl (iZ (a : Int))] (123, K, zs (A), ρ) post := by
  obtain ⟨h1, h2, h3, h4, h5⟩ := h
  obtain ⟨⟨a1, a2⟩, ⟨a3, a4⟩, a5, a6⟩ := h5 a ha
  show mj_W (mj_lv d) prog_3_method_2_code 1 1 0 0 post 0 [some (.inr (.inl (some 10))), some (.inl (iZ ((a : Int))))] [] (123, K, zs (A), ρ) 0 0
  refine mq_aload_n d81_0 rfl rfl ?_
  refine zg_getR L 14 d81_1 rfl rfl (by decide) rfl (by decide) rfl ?_
  refine mq_aload_n d81_4 rfl rfl ?_
  refine zg_getR L 12 d81_5 rfl rfl (by decide) rfl (by decide) rfl ?_
  refine mq_iload_n d81_8 rfl rfl ?_
  refine zr_ialdV L ((W a : Int)) d81_9 (by decide) rfl (by omega) (a2) ?_
  refine zg_ialdN L d81_10 (by decide) rfl (by omega) ?_
  refine mq_aload_n d81_11 rfl rfl ?_
  refine zg_getR L 14 d81_12 rfl rfl (by decide) rfl (by decide) rfl ?_
  refine mq_aload_n d81_15 rfl rfl ?_
  refine zg_getR L 11 d81_16 rfl rfl (by decide) rfl (by decide) rfl ?_
  refine mq_iload_n d81_19 rfl rfl ?_
  refine zr_ialdV L ((U a : Int)) d81_20 (by decide) rfl (by omega) (a1) ?_
  refine zg_ialdN L d81_21 (by decide) rfl (by omega) ?_
  refine zq_isub d81_22 ?_
  refine zg_reti d81_23 rfl ?_
  exact k
set_option maxRecDepth 100000 in
theorem s_raiseEnds (L : Lay K ρ) (h : lyC A n m U W th) {a : Nat} (ha : a < m) (hy : ∀ v, v < n → 0 ≤ A 14 v ∧ A 14 v ≤ 100000) (hF : -2147483648 ≤ A 13 a ∧ A 13 a < 2147483648)
    (k1 : A 14 (W a) < A 14 (U a) + 1 → post (some (.inl (iZ (W a : Int)))) (123, K, zs (mj_u2 (mj_u2 A 14 (W a) (A 14 (U a) + 1)) 15 (W a) (a : Int)), ρ))
    (k2 : ¬ A 14 (W a) < A 14 (U a) + 1 → 0 < A 13 a → A 14 (U a) < A 14 (W a) - 1 → post (some (.inl (iZ (U a : Int)))) (123, K, zs (mj_u2 (mj_u2 A 14 (U a) (A 14 (W a) - 1)) 15 (U a) (24 + (a : Int))), ρ))
    (k3 : ¬ A 14 (W a) < A 14 (U a) + 1 → ¬ (0 < A 13 a ∧ A 14 (U a) < A 14 (W a) - 1) → post (some (.inl (iZ (-1)))) (123, K, zs (A), ρ)) : mj_lv (d + 1) m_Layering_raiseEnds [.inr (.inl (some 10)), .inl (iZ (a : Int))] (123, K, zs (A), ρ) post := by
  obtain ⟨h1, h2, h3, h4, h5⟩ := h
  obtain ⟨⟨a1, a2⟩, ⟨a3, a4⟩, a5, a6⟩ := h5 a ha
  have y1 := hy _ a3
  have y2 := hy _ a4
  show mj_W (mj_lv d) prog_3_method_5_code 1 1 0 0 post 0 [some (.inr (.inl (some 10))), some (.inl (iZ ((a : Int)))), none, none] [] (123, K, zs (A), ρ) 0 0
  refine mq_aload_n d84_0 rfl rfl ?_
  refine zg_getR L 11 d84_1 rfl rfl (by decide) rfl (by decide) rfl ?_
  refine mq_iload_n d84_4 rfl rfl ?_
  refine zr_ialdV L ((U a : Int)) d84_5 (by decide) rfl (by omega) (a1) ?_
  refine mq_istore_n d84_6 rfl (Nat.le_of_ble_eq_true rfl) rfl ?_
  refine mq_aload_n d84_7 rfl rfl ?_
  refine zg_getR L 12 d84_8 rfl rfl (by decide) rfl (by decide) rfl ?_
  refine mq_iload_n d84_11 rfl rfl ?_
  refine zr_ialdV L ((W a : Int)) d84_12 (by decide) rfl (by omega) (a2) ?_
  refine mq_istore_n d84_13 rfl (Nat.le_of_ble_eq_true rfl) rfl ?_
  refine mq_aload_n d84_14 rfl rfl ?_
  refine zg_getR L 14 d84_15 rfl rfl (by decide) rfl (by decide) rfl ?_
  refine mq_iload_n d84_18 rfl rfl ?_
  refine zg_ialdN L d84_19 (by decide) rfl (by omega) ?_
  refine mq_aload_n d84_20 rfl rfl ?_
  refine zg_getR L 14 d84_21 rfl rfl (by decide) rfl (by decide) rfl ?_
  refine mq_iload_n d84_24 rfl rfl ?_
  refine zg_ialdN L d84_25 (by decide) rfl (by omega) ?_
  refine zq_iconst d84_26 ?_
  refine zq_iadd d84_27 ?_
  refine zq_icmp_ge (tgt := 54) d84_28 (by decide) (by omega) (by omega) (fun g => ?_) (fun g => ?_)
  · refine mq_aload_n d84_54 rfl rfl ?_
    refine zg_getR L 13 d84_55 rfl rfl (by decide) rfl (by decide) rfl ?_
    refine mq_iload_n d84_58 rfl rfl ?_
    refine zg_ialdN L d84_59 (by decide) rfl (by omega) ?_
    refine zq_if_le (tgt := 106) d84_60 (by decide) (by omega) (fun g2 => ?_) (fun g2 => ?_)
    · refine zq_iconst d84_106 ?_
      refine zg_reti d84_107 rfl ?_
      exact k3 (by omega) (by omega)
    · refine mq_aload_n d84_63 rfl rfl ?_
      refine zg_getR L 14 d84_64 rfl rfl (by decide) rfl (by decide) rfl ?_
      refine mq_iload_n d84_67 rfl rfl ?_
      refine zg_ialdN L d84_68 (by decide) rfl (by omega) ?_
      refine mq_aload_n d84_69 rfl rfl ?_
      refine zg_getR L 14 d84_70 rfl rfl (by decide) rfl (by decide) rfl ?_
      refine mq_iload_n d84_73 rfl rfl ?_
      refine zg_ialdN L d84_74 (by decide) rfl (by omega) ?_
      refine zq_iconst d84_75 ?_
      refine zq_isub d84_76 ?_
      refine zq_icmp_ge (tgt := 106) d84_77 (by decide) (by omega) (by omega) (fun g3 => ?_) (fun g3 => ?_)
      · refine zq_iconst d84_106 ?_
        refine zg_reti d84_107 rfl ?_
        exact k3 (by omega) (by omega)
      · refine mq_aload_n d84_80 rfl rfl ?_
        refine zg_getR L 14 d84_81 rfl rfl (by decide) rfl (by decide) rfl ?_
        refine mq_iload_n d84_84 rfl rfl ?_
        refine mq_aload_n d84_85 rfl rfl ?_
        refine zg_getR L 14 d84_86 rfl rfl (by decide) rfl (by decide) rfl ?_
        refine mq_iload_n d84_89 rfl rfl ?_
        refine zg_ialdN L d84_90 (by decide) rfl (by omega) ?_
        refine zq_iconst d84_91 ?_
        refine zq_isub d84_92 ?_
        refine zg_iastN L d84_93 (by decide) rfl (by omega) ?_
        refine mq_aload_n d84_94 rfl rfl ?_
        refine zg_getR L 15 d84_95 rfl rfl (by decide) rfl (by decide) rfl ?_
        refine mq_iload_n d84_98 rfl rfl ?_
        refine zq_bipush d84_99 rfl ?_
        refine mq_iload_n d84_101 rfl rfl ?_
        refine zq_iadd d84_102 ?_
        refine zg_iastN L d84_103 (by decide) rfl (by omega) ?_
        refine mq_iload_n d84_104 rfl rfl ?_
        refine zg_reti d84_105 rfl ?_
        exact k2 (by omega) (by omega) (by omega)
  · refine mq_aload_n d84_31 rfl rfl ?_
    refine zg_getR L 14 d84_32 rfl rfl (by decide) rfl (by decide) rfl ?_
    refine mq_iload_n d84_35 rfl rfl ?_
    refine mq_aload_n d84_36 rfl rfl ?_
    refine zg_getR L 14 d84_37 rfl rfl (by decide) rfl (by decide) rfl ?_
    refine mq_iload_n d84_40 rfl rfl ?_
    refine zg_ialdN L d84_41 (by decide) rfl (by omega) ?_
    refine zq_iconst d84_42 ?_
    refine zq_iadd d84_43 ?_
    refine zg_iastN L d84_44 (by decide) rfl (by omega) ?_
    refine mq_aload_n d84_45 rfl rfl ?_
    refine zg_getR L 15 d84_46 rfl rfl (by decide) rfl (by decide) rfl ?_
    refine mq_iload_n d84_49 rfl rfl ?_
    refine mq_iload_n d84_50 rfl rfl ?_
    refine zg_iastN L d84_51 (by decide) rfl (by omega) ?_
    refine mq_iload_n d84_52 rfl rfl ?_
    refine zg_reti d84_53 rfl ?_
    exact k1 (by omega)
/-- at arc a of pass p of raise -/
def riI (A : Nat → Nat → Int) (n m : Nat) (U W : Nat → Nat) (th : Nat → Int) (p a : Nat) (A2 : Nat → Nat → Int) (x : Int) : Prop := eo [14, 15] A A2 ∧ rz n (eS U W) (eG U W) eW (eO m th (A 13)) (dnR a) p (48 * p + 2 * a) (A2 14) (A2 15) x
set_option maxRecDepth 100000 in
theorem ri_arcs (L : Lay K ρ) (h : lyC A n m U W th) {pos : Nat → Nat} (hp : ∀ a, a < m → th a = 1 → pos (U a) < pos (W a)) (hF : ∀ a, a < m → th a = 1 → 0 ≤ A 13 a ∧ A 13 a ≤ 100000) {p : Nat} (hpn : p ≤ n)
    (kk : ∀ A2 x, riI A n m U W th p m A2 x → (x = -1 ∨ 0 ≤ x ∧ x < n) → mj_W (mj_lv (d + 1)) prog_3_method_4_code 1 1 0 0 post 69 [some (.inr (.inl (some 10))), some (.inr (.inl (some 1))), some (.inl (iZ (x))), some (.inl (iZ ((p : Int)))), some (.inl (iZ ((m : Int))))] [] (123, K, zs (A2), ρ) 0 0) : ∀ (j a : Nat) (A2 : Nat → Nat → Int) (x : Int), m - a < j → a ≤ m → riI A n m U W th p a A2 x → mj_W (mj_lv (d + 1)) prog_3_method_4_code 1 1 0 0 post 33 [some (.inr (.inl (some 10))), some (.inr (.inl (some 1))), some (.inl (iZ (x))), some (.inl (iZ ((p : Int)))), some (.inl (iZ ((a : Int))))] [] (123, K, zs (A2), ρ) 0 0
  | 0, a, _, _, hj, _, _ => absurd hj (by omega)
  | j + 1, a, A2, x, hj, ha, hI => by
    obtain ⟨h1, h2, h3, h4, h5⟩ := id h
    obtain ⟨hE, hR⟩ := id hI
    have rg := rz_rng hR
    have hin : ∀ a, a < m → U a < n ∧ W a < n := fun a ha => (h5 a ha).2.1
    have next : a < m → ∀ A3 x3, riI A n m U W th p (a + 1) A3 x3 → mj_W (mj_lv (d + 1)) prog_3_method_4_code 1 1 0 0 post 63 [some (.inr (.inl (some 10))), some (.inr (.inl (some 1))), some (.inl (iZ (x3))), some (.inl (iZ ((p : Int)))), some (.inl (iZ ((a : Int))))] [] (123, K, zs (A3), ρ) 0 0 := fun ham A3 x3 h3 => by
      refine zq_iinc d83_63 rfl rfl ?_
      refine mq_goto (tgt := 33) d83_66 (by decide) ?_
      exact ri_arcs L h hp hF hpn kk j (a + 1) A3 x3 (by omega) ham h3
    refine mq_iload d83_33 rfl ?_
    refine mq_aload_n d83_35 rfl rfl ?_
    refine zg_getIe L ((m : Int)) d83_36 rfl rfl (by decide) rfl ((by rw [hE 1 rfl]; exact h2)) ?_
    refine zq_icmp_ge (tgt := 69) d83_39 (by decide) (by omega) (by omega) (fun g => ?_) (fun g => ?_)
    · have e : a = m := by omega
      subst e
      exact kk A2 x hI rg.2
    · have ham : a < m := by omega
      obtain ⟨⟨a1, a2⟩, ⟨a3, a4⟩, a5, a6⟩ := h5 a ham
      refine mq_aload_n d83_42 rfl rfl ?_
      refine zg_getR L 5 d83_43 rfl rfl (by decide) rfl (by decide) rfl ?_
      refine mq_iload d83_46 rfl ?_
      refine zr_zaldV L (th a) d83_48 (by decide) rfl (by omega) ((by rw [hE 5 rfl]; exact a5)) ?_
      refine zq_if_eq (tgt := 63) d83_49 (by decide) (by omega) (fun g2 => ?_) (fun g2 => ?_)
      · exact next ham A2 x ⟨hE, rz_arc0 (by omega) (by omega) hR⟩
      · have t1 : th a = 1 := by omega
        have hC2 := lyC_eo h (hE 1 rfl) (hE 5 rfl) (hE 11 rfl) (hE 12 rfl)
        have e13 : A2 13 = A 13 := hE 13 rfl
        have f1 := hF a ham t1
        refine mq_iload_n d83_52 rfl rfl ?_
        refine mq_aload_n d83_53 rfl rfl ?_
        refine mq_iload d83_54 rfl ?_
        refine zg_callV (c := 10) L [_] d83_56 rfl rfl ⟨rfl, rfl⟩ rfl ⟨rfl, rfl⟩ ⟨by decide, by decide⟩ (by decide) rfl ?_
        refine s_raiseEnds L hC2 ham (fun v hv => by have := rg.1 v hv; omega) (by rw [e13]; omega) (fun c1 => ?_) (fun c1 c2 c3 => ?_) (fun c1 c2 => ?_)
        · refine zr_max d83_59 rfl rfl (by omega) (by omega) ?_
          refine mq_istore_n d83_62 rfl (Nat.le_of_ble_eq_true rfl) rfl ?_
          refine next ham _ _ ⟨eo_u2 rfl (eo_u2 rfl hE), rz_arc1 hin hp h4 ham t1 hR c1 (fun v _ => ?_) (fun v _ => ?_) rfl⟩
          · rw [u2_c (by decide), u2_at]
            simp
          · rw [u2_at, u2_c (by decide)]
            simp
        · refine zr_max d83_59 rfl rfl (by omega) (by omega) ?_
          refine mq_istore_n d83_62 rfl (Nat.le_of_ble_eq_true rfl) rfl ?_
          rw [e13] at c2
          refine next ham _ _ ⟨eo_u2 rfl (eo_u2 rfl hE), rz_arc2 hin hp h4 ham t1 hR c2 c1 c3 (fun v _ => ?_) (fun v _ => ?_) rfl⟩
          · rw [u2_c (by decide), u2_at]
            simp
          · rw [u2_at, u2_c (by decide)]
            simp
        · refine zr_max d83_59 rfl rfl (by omega) (by omega) ?_
          refine mq_istore_n d83_62 rfl (Nat.le_of_ble_eq_true rfl) rfl ?_
          rw [e13] at c2
          have ex : (if x < -1 then -1 else x) = x := if_neg (by omega)
          rw [ex]
          exact next ham _ _ ⟨hE, rz_arc3 h4 ham hR c1 c2⟩
/-- what raise leaves: the layers came to rest, or the last pass still raised one -/
def riR (A : Nat → Nat → Int) (n m : Nat) (U W : Nat → Nat) (th : Nat → Int) (A2 : Nat → Nat → Int) (x : Int) : Prop := eo [14, 15] A A2 ∧ ∃ p τ, p ≤ n ∧ τ ≤ 700 ∧ rz n (eS U W) (eG U W) eW (eO m th (A 13)) (dnR m) p τ (A2 14) (A2 15) x ∧ (x = -1 ∨ (p = n ∧ 0 ≤ x ∧ x < n))
set_option maxRecDepth 100000 in
theorem ri_passes (L : Lay K ρ) (h : lyC A n m U W th) {pos : Nat → Nat} (hp : ∀ a, a < m → th a = 1 → pos (U a) < pos (W a)) (hF : ∀ a, a < m → th a = 1 → 0 ≤ A 13 a ∧ A 13 a ≤ 100000)
    (kk : ∀ A2 x, riR A n m U W th A2 x → post (some (.inl (iZ x))) (123, K, zs (A2), ρ)) : ∀ (j p : Nat) (A2 : Nat → Nat → Int) (x x4 : Option mj_V), n - p < j → p ≤ n → (∀ y, x = some y → ∃ w, y = .inl w) → (∀ y, x4 = some y → ∃ w, y = .inl w) → riI A n m U W th p 0 A2 (-1) → mj_W (mj_lv (d + 1)) prog_3_method_4_code 1 1 0 0 post 20 [some (.inr (.inl (some 10))), some (.inr (.inl (some 1))), x, some (.inl (iZ ((p : Int)))), x4] [] (123, K, zs (A2), ρ) 0 0
  | 0, p, _, _, _, hj, _, _, _, _ => absurd hj (by omega)
  | j + 1, p, A2, x, x4, hj, hpn, hx, hx4, hI => by
    obtain ⟨h1, h2, h3, h4, h5⟩ := id h
    obtain ⟨hE, hR⟩ := id hI
    have fin : ∀ A3 x3, riI A n m U W th p m A3 x3 → (x3 = -1 ∨ 0 ≤ x3 ∧ x3 < n) → mj_W (mj_lv (d + 1)) prog_3_method_4_code 1 1 0 0 post 69 [some (.inr (.inl (some 10))), some (.inr (.inl (some 1))), some (.inl (iZ (x3))), some (.inl (iZ ((p : Int)))), some (.inl (iZ ((m : Int))))] [] (123, K, zs (A3), ρ) 0 0 := fun A3 x3 hI3 hx3 => by
      refine mq_iload_n d83_69 rfl rfl ?_
      refine zq_iconst d83_70 ?_
      refine zq_icmp_ne (tgt := 77) d83_71 (by decide) (by omega) (by omega) (fun g2 => ?_) (fun g2 => ?_)
      · by_cases q : p = n
        · refine zq_iinc d83_77 rfl rfl ?_
          refine mq_goto (tgt := 20) d83_80 (by decide) ?_
          refine mq_iload_n d83_20 rfl rfl ?_
          refine mq_aload_n d83_21 rfl rfl ?_
          refine zg_getIe L ((n : Int)) d83_22 rfl rfl (by decide) rfl ((by rw [hI3.1 1 rfl]; exact h1)) ?_
          refine zq_icmp_gt (tgt := 83) d83_25 (by decide) (by omega) (by omega) (fun g3 => ?_) (fun g3 => ?_)
          · refine mq_iload_n d83_83 rfl rfl ?_
            refine zg_reti d83_84 rfl ?_
            exact kk _ _ ⟨hI3.1, p, 48 * p + 2 * m, hpn, by omega, hI3.2, by omega⟩
          · omega
        · refine zq_iinc d83_77 rfl rfl ?_
          refine mq_goto (tgt := 20) d83_80 (by decide) ?_
          exact ri_passes L h hp hF kk j (p + 1) A3 _ _ (by omega) (by omega) (fun y e => ⟨_, (Option.some.inj e).symm⟩) (fun y e => ⟨_, (Option.some.inj e).symm⟩) ⟨hI3.1, rz_mono (rz_pass hI3.2 (fun c hc => dnR_all h4 hc)) (fun c _ q => by unfold dnR at q; omega) (by omega)⟩
      · refine mq_goto (tgt := 83) d83_74 (by decide) ?_
        refine mq_iload_n d83_83 rfl rfl ?_
        refine zg_reti d83_84 rfl ?_
        exact kk _ _ ⟨hI3.1, p, 48 * p + 2 * m, hpn, by omega, hI3.2, Or.inl g2⟩
    refine mq_iload_n d83_20 rfl rfl ?_
    refine mq_aload_n d83_21 rfl rfl ?_
    refine zg_getIe L ((n : Int)) d83_22 rfl rfl (by decide) rfl ((by rw [hE 1 rfl]; exact h1)) ?_
    refine zq_icmp_gt (tgt := 83) d83_25 (by decide) (by omega) (by omega) (fun g => ?_) (fun g => ?_)
    · omega
    · refine zq_iconst d83_28 ?_
      have st2 : mj_ok [some (.inr (.inl (some 10))), some (.inr (.inl (some 1))), x, some (.inl (iZ ((p : Int)))), x4] 2 = true := by
        cases x with
        | none => rfl
        | some y =>
          obtain ⟨w, rfl⟩ := hx y rfl
          rfl
      refine mq_istore_n d83_29 rfl (Nat.le_of_ble_eq_true rfl) st2 ?_
      refine zq_iconst d83_30 ?_
      have st4 : mj_ok [some (.inr (.inl (some 10))), some (.inr (.inl (some 1))), some (.inl (iZ (-1))), some (.inl (iZ ((p : Int)))), x4] 4 = true := by
        cases x4 with
        | none => rfl
        | some y =>
          obtain ⟨w, rfl⟩ := hx4 y rfl
          rfl
      refine mq_istore d83_31 (Nat.le_of_ble_eq_true rfl) st4 ?_
      exact ri_arcs L h hp hF hpn fin (m + 1) 0 A2 (-1) (by omega) (by omega) hI
set_option maxRecDepth 100000 in
theorem s_raise (L : Lay K ρ) (h : lyC A n m U W th) {pos : Nat → Nat} (hp : ∀ a, a < m → th a = 1 → pos (U a) < pos (W a)) (hF : ∀ a, a < m → th a = 1 → 0 ≤ A 13 a ∧ A 13 a ≤ 100000)
    (kk : ∀ A2 x, riR A n m U W th A2 x → post (some (.inl (iZ x))) (123, K, zs (A2), ρ)) : mj_lv (d + 2) m_Layering_raise [.inr (.inl (some 10)), .inr (.inl (some 1))] (123, K, zs (A), ρ) post := by
  have h3 := h.2.2.1
  show mj_W (mj_lv (d + 1)) prog_3_method_4_code 1 1 0 0 post 0 [some (.inr (.inl (some 10))), some (.inr (.inl (some 1))), none, none, none] [] (123, K, zs (A), ρ) 0 0
  refine mq_aload_n d83_0 rfl rfl ?_
  refine zg_getR L 14 d83_1 rfl rfl (by decide) rfl (by decide) rfl ?_
  refine zq_iconst d83_4 ?_
  refine zg_callS [_, _] d83_5 rfl rfl ⟨rfl, rfl⟩ rfl ⟨rfl, rfl⟩ ⟨by decide, by decide⟩ ?_
  refine s_fill L (by decide) rfl (by decide) ?_
  refine mq_aload_n d83_8 rfl rfl ?_
  refine zg_getR L 15 d83_9 rfl rfl (by decide) rfl (by decide) rfl ?_
  refine zq_iconst d83_12 ?_
  refine zg_callS [_, _] d83_13 rfl rfl ⟨rfl, rfl⟩ rfl ⟨rfl, rfl⟩ ⟨by decide, by decide⟩ ?_
  refine s_fill L (by decide) rfl (by decide) ?_
  refine zq_iconst d83_16 ?_
  refine mq_istore_n d83_17 rfl (Nat.le_of_ble_eq_true rfl) rfl ?_
  refine zq_iconst d83_18 ?_
  refine mq_istore_n d83_19 rfl (Nat.le_of_ble_eq_true rfl) rfl ?_
  have hE : eo [14, 15] A (fl (fl A 14 12 0) 15 12 (-1)) := fun c hc => by
    rw [fl_c (fun q => by rw [q] at hc; exact absurd hc (by decide)), fl_c (fun q => by rw [q] at hc; exact absurd hc (by decide))]
  have hE2 : eo [14, 15] A (fl (fl A 14 12 0) 15 12 (-1)) := hE
  refine ri_passes L h hp hF kk (n + 1) 0 _ _ _ (by omega) (by omega) (fun y e => ⟨_, (Option.some.inj e).symm⟩) (fun y e => absurd e (by simp)) ⟨hE, rz_mono (rz_0 (fun v hv => ?_) (fun v hv => ?_)) (fun c _ q => by unfold dnR at q; omega) (by omega)⟩
  · rw [fl_c (by decide)]
    exact if_pos ⟨rfl, by omega⟩
  · exact if_pos ⟨rfl, by omega⟩
end sp_rc
