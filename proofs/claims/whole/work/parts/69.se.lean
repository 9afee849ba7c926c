section sp_se
variable {d : Nat} {post : Option mj_V → mj_H → Prop} {K : Nat → Nat × Nat} {ρ : Nat → Nat → Option Nat} {A : Nat → Nat → Int} {n m : Nat} {U W : Nat → Nat} {th : Nat → Int}
/-- how many layers -/
def lcV (y : Nat → Int) : Nat → Int
  | 0 => 0
  | k + 1 => if lcV y k < y k + 1 then y k + 1 else lcV y k
theorem lcV_rng {y : Nat → Int} {b : Int} (hb : 0 ≤ b) : ∀ {k : Nat}, (∀ v, v < k → y v < b) → 0 ≤ lcV y k ∧ lcV y k ≤ b
  | 0, _ => ⟨Int.le_refl _, hb⟩
  | k + 1, h => by
    have h1 := lcV_rng hb (k := k) (fun v hv => h v (by omega))
    have h2 := h k (by omega)
    unfold lcV
    split <;> omega
theorem lcV_congr {y z : Nat → Int} : ∀ {k : Nat}, (∀ v, v < k → y v = z v) → lcV y k = lcV z k
  | 0, _ => rfl
  | k + 1, h => by
    unfold lcV
    rw [lcV_congr (k := k) (fun v hv => h v (by omega)), h k (by omega)]
set_option maxRecDepth 100000 in
theorem ms_2 (L : Lay K ρ) (h : lyC A n m U W th) {c : Int} (kk : ∀ A2, eo [10] A A2 → A2 10 5 = c → A2 10 6 = len m U W th (A 14) → A2 10 7 = len m U W th (A 14) - A 1 6 → post none (123, K, zs (A2), ρ)) : ∀ (j i : Nat) (A2 : Nat → Nat → Int), m - i < j → i ≤ m → eo [10] A A2 → A2 10 5 = c → A2 10 6 = len i U W th (A 14) → mj_W (mj_lv (d + 1)) prog_3_method_9_code 1 0 0 0 post 47 [some (.inr (.inl (some 10))), some (.inr (.inl (some 1))), some (.inl (iZ ((i : Int))))] [] (123, K, zs (A2), ρ) 0 0
  | 0, i, _, hj, _, _, _, _ => absurd hj (by omega)
  | j + 1, i, A2, hj, hi, hE, h5, h6 => by
    obtain ⟨g1, g2, g3, g4, g5⟩ := id h
    have next : ∀ A3, eo [10] A A3 → A3 10 5 = c → A3 10 6 = len (i + 1) U W th (A 14) → i < m → mj_W (mj_lv (d + 1)) prog_3_method_9_code 1 0 0 0 post 78 [some (.inr (.inl (some 10))), some (.inr (.inl (some 1))), some (.inl (iZ ((i : Int))))] [] (123, K, zs (A3), ρ) 0 0 := fun A3 e3 e5 e6 q => by
      refine zq_iinc d88_78 rfl rfl ?_
      refine mq_goto (tgt := 47) d88_81 (by decide) ?_
      exact ms_2 L h kk j (i + 1) A3 (by omega) (by omega) e3 e5 e6
    refine mq_iload_n d88_47 rfl rfl ?_
    refine mq_aload_n d88_48 rfl rfl ?_
    refine zg_getIe L ((m : Int)) d88_49 rfl rfl (by decide) rfl ((by rw [hE 1 rfl]; exact g2)) ?_
    refine zq_icmp_ge (tgt := 84) d88_52 (by decide) (by omega) (by omega) (fun g => ?_) (fun g => ?_)
    · have e : i = m := by omega
      subst e
      refine mq_aload_n d88_84 rfl rfl ?_
      refine mq_aload_n d88_85 rfl rfl ?_
      refine zg_getIe L (len i U W th (A 14)) d88_86 rfl rfl (by decide) rfl (h6) ?_
      refine mq_aload_n d88_89 rfl rfl ?_
      refine zg_getIe L (A 1 6) d88_90 rfl rfl (by decide) rfl ((by rw [hE 1 rfl])) ?_
      refine zq_isub d88_93 ?_
      refine zg_putI L d88_94 rfl rfl rfl rfl (by decide) rfl ?_
      refine zg_retv d88_97 (by decide) ?_
      refine kk _ (eo_u2 rfl hE) ?_ ?_ ?_
      · rw [u2_k (by decide)]
        exact h5
      · rw [u2_k (by decide)]
        exact h6
      · rw [u2_self]
    · have him : i < m := by omega
      obtain ⟨⟨a1, a2⟩, ⟨a3, a4⟩, a5, a6⟩ := g5 i him
      refine mq_aload_n d88_55 rfl rfl ?_
      refine zg_getR L 5 d88_56 rfl rfl (by decide) rfl (by decide) rfl ?_
      refine mq_iload_n d88_59 rfl rfl ?_
      refine zr_zaldV L (th i) d88_60 (by decide) rfl (by omega) ((by rw [hE 5 rfl]; exact a5)) ?_
      refine zq_if_eq (tgt := 78) d88_61 (by decide) (by omega) (fun g2 => ?_) (fun g2 => ?_)
      · refine next A2 hE h5 ?_ him
        rw [h6]
        show len i U W th (A 14) = len i U W th (A 14) + (if th i = 1 then _ else 0)
        rw [if_neg (by omega)]
        omega
      · refine mq_aload_n d88_64 rfl rfl ?_
        refine mq_dup d88_65 rfl ?_
        refine zg_getIe L (len i U W th (A 14)) d88_66 rfl rfl (by decide) rfl (h6) ?_
        refine mq_aload_n d88_69 rfl rfl ?_
        refine mq_iload_n d88_70 rfl rfl ?_
        refine zg_callV (c := 10) L [_] d88_71 rfl rfl ⟨rfl, rfl⟩ rfl ⟨rfl, rfl⟩ ⟨by decide, by decide⟩ (by decide) rfl ?_
        refine s_span L (lyC_eo h (hE 1 rfl) (hE 5 rfl) (hE 11 rfl) (hE 12 rfl)) him ?_
        rw [hE 14 rfl]
        refine zq_iadd d88_74 ?_
        refine zg_putI L d88_75 rfl rfl rfl rfl (by decide) rfl ?_
        refine next _ (eo_u2 rfl hE) ?_ ?_ him
        · rw [u2_k (by decide)]
          exact h5
        · rw [u2_self]
          show len i U W th (A 14) + _ = len i U W th (A 14) + (if th i = 1 then A 14 (W i) - A 14 (U i) else 0)
          rw [if_pos (by omega)]
set_option maxRecDepth 100000 in
theorem ms_1 (L : Lay K ρ) (h : lyC A n m U W th) (hy : ∀ v, v < n → 0 ≤ A 14 v ∧ A 14 v ≤ 100000) (kk : ∀ A2, eo [10] A A2 → A2 10 5 = lcV (A 14) n → A2 10 6 = len m U W th (A 14) → A2 10 7 = len m U W th (A 14) - A 1 6 → post none (123, K, zs (A2), ρ)) : ∀ (j i : Nat) (A2 : Nat → Nat → Int), n - i < j → i ≤ n → eo [10] A A2 → A2 10 5 = lcV (A 14) i → mj_W (mj_lv (d + 1)) prog_3_method_9_code 1 0 0 0 post 7 [some (.inr (.inl (some 10))), some (.inr (.inl (some 1))), some (.inl (iZ ((i : Int))))] [] (123, K, zs (A2), ρ) 0 0
  | 0, i, _, hj, _, _, _ => absurd hj (by omega)
  | j + 1, i, A2, hj, hi, hE, h5 => by
    obtain ⟨g1, g2, g3, g4, g5⟩ := id h
    refine mq_iload_n d88_7 rfl rfl ?_
    refine mq_aload_n d88_8 rfl rfl ?_
    refine zg_getIe L ((n : Int)) d88_9 rfl rfl (by decide) rfl ((by rw [hE 1 rfl]; exact g1)) ?_
    refine zq_icmp_ge (tgt := 40) d88_12 (by decide) (by omega) (by omega) (fun g => ?_) (fun g => ?_)
    · have e : i = n := by omega
      subst e
      refine mq_aload_n d88_40 rfl rfl ?_
      refine zq_iconst d88_41 ?_
      refine zg_putI L d88_42 rfl rfl rfl rfl (by decide) rfl ?_
      refine zq_iconst d88_45 ?_
      refine mq_istore_n d88_46 rfl (Nat.le_of_ble_eq_true rfl) rfl ?_
      refine ms_2 L h kk (m + 1) 0 _ (by omega) (by omega) (eo_u2 rfl hE) ?_ ?_
      · rw [u2_k (by decide)]
        exact h5
      · rw [u2_self]
        rfl
    · have hin : i < n := by omega
      have r1 := lcV_rng (y := A 14) (b := 100001) (by decide) (k := i) (fun v hv => by have := hy v (by omega); omega)
      have r2 := hy i hin
      refine mq_aload_n d88_15 rfl rfl ?_
      refine mq_aload_n d88_16 rfl rfl ?_
      refine zg_getIe L (lcV (A 14) i) d88_17 rfl rfl (by decide) rfl (h5) ?_
      refine mq_aload_n d88_20 rfl rfl ?_
      refine zg_getR L 14 d88_21 rfl rfl (by decide) rfl (by decide) rfl ?_
      refine mq_iload_n d88_24 rfl rfl ?_
      refine zr_ialdV L (A 14 i) d88_25 (by decide) rfl (by omega) ((by rw [hE 14 rfl])) ?_
      refine zq_iconst d88_26 ?_
      refine zq_iadd d88_27 ?_
      refine zr_max d88_28 rfl rfl (by omega) (by omega) ?_
      refine zg_putI L d88_31 rfl rfl rfl rfl (by decide) rfl ?_
      refine zq_iinc d88_34 rfl rfl ?_
      refine mq_goto (tgt := 7) d88_37 (by decide) ?_
      refine ms_1 L h hy kk j (i + 1) _ (by omega) (by omega) (eo_u2 rfl hE) ?_
      rw [u2_self]
      rfl
set_option maxRecDepth 100000 in
theorem s_measure (L : Lay K ρ) (h : lyC A n m U W th) (hy : ∀ v, v < n → 0 ≤ A 14 v ∧ A 14 v ≤ 100000) (kk : ∀ A2, eo [10] A A2 → A2 10 5 = lcV (A 14) n → A2 10 6 = len m U W th (A 14) → A2 10 7 = len m U W th (A 14) - A 1 6 → post none (123, K, zs (A2), ρ)) : mj_lv (d + 2) m_Layering_measure [.inr (.inl (some 10)), .inr (.inl (some 1))] (123, K, zs (A), ρ) post := by
  show mj_W (mj_lv (d + 1)) prog_3_method_9_code 1 0 0 0 post 0 [some (.inr (.inl (some 10))), some (.inr (.inl (some 1))), none] [] (123, K, zs (A), ρ) 0 0
  refine mq_aload_n d88_0 rfl rfl ?_
  refine zq_iconst d88_1 ?_
  refine zg_putI L d88_2 rfl rfl rfl rfl (by decide) rfl ?_
  refine zq_iconst d88_5 ?_
  refine mq_istore_n d88_6 rfl (Nat.le_of_ble_eq_true rfl) rfl ?_
  exact ms_1 L h hy kk (n + 1) 0 _ (by omega) (by omega) (eo_u2 rfl eo_refl) u2_self
/-- the ends of the first i arcs -/
def ulC (A : Nat → Nat → Int) (x : Nat → Int) (i : Nat) (A2 : Nat → Nat → Int) : Prop := ∀ a, a < i → A2 11 a = (if x a = 1 then A 4 a else A 3 a) ∧ A2 12 a = (if x a = 1 then A 3 a else A 4 a)
set_option maxRecDepth 100000 in
theorem sr_1 (L : Lay K ρ) (hm : A 1 5 = m) (h24 : m ≤ 24) {x : Nat → Int} (hx : is01 x m) (h6 : A 6 3 = cnt (fun b => x b * mk2 b) m)
    (kk : ∀ A2 x4, eo [11, 12] A A2 → ulC A x m A2 → (∀ y, x4 = some y → ∃ w, y = .inl w) → mj_W (mj_lv (d + 2)) prog_3_method_3_code 1 0 0 0 post 75 [some (.inr (.inl (some 10))), some (.inr (.inl (some 1))), some (.inr (.inl (some 6))), some (.inl (iZ ((m : Int)))), x4] [] (123, K, zs (A2), ρ) 0 0) : ∀ (j i : Nat) (A2 : Nat → Nat → Int) (x4 : Option mj_V), m - i < j → i ≤ m → (∀ y, x4 = some y → ∃ w, y = .inl w) → eo [11, 12] A A2 → ulC A x i A2 → mj_W (mj_lv (d + 2)) prog_3_method_3_code 1 0 0 0 post 2 [some (.inr (.inl (some 10))), some (.inr (.inl (some 1))), some (.inr (.inl (some 6))), some (.inl (iZ ((i : Int)))), x4] [] (123, K, zs (A2), ρ) 0 0
  | 0, i, _, _, hj, _, _, _, _ => absurd hj (by omega)
  | j + 1, i, A2, x4, hj, hi, hx4, hE, hI => by
    refine mq_iload_n d82_2 rfl rfl ?_
    refine mq_aload_n d82_3 rfl rfl ?_
    refine zg_getIe L ((m : Int)) d82_4 rfl rfl (by decide) rfl ((by rw [hE 1 rfl]; exact hm)) ?_
    refine zq_icmp_ge (tgt := 75) d82_7 (by decide) (by omega) (by omega) (fun g => ?_) (fun g => ?_)
    · have e : i = m := by omega
      subst e
      exact kk A2 x4 hE hI hx4
    · have him : i < m := by omega
      have h01 := hx i him
      refine mq_aload_n d82_10 rfl rfl ?_
      refine mq_iload_n d82_11 rfl rfl ?_
      refine zg_callV (c := 6) L [_] d82_12 rfl rfl ⟨rfl, rfl⟩ rfl ⟨rfl, rfl⟩ ⟨by decide, by decide⟩ (by decide) rfl ?_
      refine s_has L h24 hx him (by rw [hE 6 rfl]; exact h6) ?_
      have st4 : mj_ok [some (.inr (.inl (some 10))), some (.inr (.inl (some 1))), some (.inr (.inl (some 6))), some (.inl (iZ ((i : Int)))), x4] 4 = true := by
        cases x4 with
        | none => rfl
        | some y =>
          obtain ⟨w, rfl⟩ := hx4 y rfl
          rfl
      refine mq_istore d82_15 (Nat.le_of_ble_eq_true rfl) st4 ?_
      have next : ∀ A3, eo [11, 12] A A3 → ulC A x (i + 1) A3 → mj_W (mj_lv (d + 2)) prog_3_method_3_code 1 0 0 0 post 69 [some (.inr (.inl (some 10))), some (.inr (.inl (some 1))), some (.inr (.inl (some 6))), some (.inl (iZ ((i : Int)))), some (.inl (iZ (x i)))] [] (123, K, zs (A3), ρ) 0 0 := fun A3 e3 h3 => by
        refine zq_iinc d82_69 rfl rfl ?_
        refine mq_goto (tgt := 2) d82_72 (by decide) ?_
        exact sr_1 L hm h24 hx h6 kk j (i + 1) A3 _ (by omega) (by omega) (fun y e => ⟨_, (Option.some.inj e).symm⟩) e3 h3
      refine mq_aload_n d82_17 rfl rfl ?_
      refine zg_getR L 11 d82_18 rfl rfl (by decide) rfl (by decide) rfl ?_
      refine mq_iload_n d82_21 rfl rfl ?_
      refine mq_iload d82_22 rfl ?_
      refine zq_if_eq (tgt := 36) d82_24 (by decide) (by omega) (fun g2 => ?_) (fun g2 => ?_)
      · refine mq_aload_n d82_36 rfl rfl ?_
        refine zg_getR L 3 d82_37 rfl rfl (by decide) rfl (by decide) rfl ?_
        refine mq_iload_n d82_40 rfl rfl ?_
        refine zr_ialdV L (A 3 i) d82_41 (by decide) rfl (by omega) ((by rw [hE 3 rfl])) ?_
        refine zg_iastN L d82_42 (by decide) rfl (by omega) ?_
        refine mq_aload_n d82_43 rfl rfl ?_
        refine zg_getR L 12 d82_44 rfl rfl (by decide) rfl (by decide) rfl ?_
        refine mq_iload_n d82_47 rfl rfl ?_
        refine mq_iload d82_48 rfl ?_
        refine zq_if_eq (tgt := 62) d82_50 (by decide) (by omega) (fun g3 => ?_) (fun g3 => ?_)
        · refine mq_aload_n d82_62 rfl rfl ?_
          refine zg_getR L 4 d82_63 rfl rfl (by decide) rfl (by decide) rfl ?_
          refine mq_iload_n d82_66 rfl rfl ?_
          refine zr_ialdV L (A 4 i) d82_67 (by decide) rfl (by omega) ((by rw [u2_c (by decide), hE 4 rfl])) ?_
          refine zg_iastN L d82_68 (by decide) rfl (by omega) ?_
          refine next _ (eo_u2 rfl (eo_u2 rfl hE)) (fun a hb => ?_)
          rw [u2_c (by decide), u2_at, u2_at, u2_c (by decide)]
          by_cases r : a = i
          · subst r
            simp [g2]
          · have := hI a (by omega)
            simp [r, this]
        · omega
      · refine mq_aload_n d82_27 rfl rfl ?_
        refine zg_getR L 4 d82_28 rfl rfl (by decide) rfl (by decide) rfl ?_
        refine mq_iload_n d82_31 rfl rfl ?_
        refine zr_ialdV L (A 4 i) d82_32 (by decide) rfl (by omega) ((by rw [hE 4 rfl])) ?_
        refine mq_goto (tgt := 42) d82_33 (by decide) ?_
        refine zg_iastN L d82_42 (by decide) rfl (by omega) ?_
        refine mq_aload_n d82_43 rfl rfl ?_
        refine zg_getR L 12 d82_44 rfl rfl (by decide) rfl (by decide) rfl ?_
        refine mq_iload_n d82_47 rfl rfl ?_
        refine mq_iload d82_48 rfl ?_
        refine zq_if_eq (tgt := 62) d82_50 (by decide) (by omega) (fun g3 => ?_) (fun g3 => ?_)
        · omega
        · refine mq_aload_n d82_53 rfl rfl ?_
          refine zg_getR L 3 d82_54 rfl rfl (by decide) rfl (by decide) rfl ?_
          refine mq_iload_n d82_57 rfl rfl ?_
          refine zr_ialdV L (A 3 i) d82_58 (by decide) rfl (by omega) ((by rw [u2_c (by decide), hE 3 rfl])) ?_
          refine mq_goto (tgt := 68) d82_59 (by decide) ?_
          refine zg_iastN L d82_68 (by decide) rfl (by omega) ?_
          refine next _ (eo_u2 rfl (eo_u2 rfl hE)) (fun a hb => ?_)
          rw [u2_c (by decide), u2_at, u2_at, u2_c (by decide)]
          have x1 : x i = 1 := by omega
          by_cases r : a = i
          · subst r
            simp [x1]
          · have := hI a (by omega)
            simp [r, this]
/-- between the pushes -/
def srI (A : Nat → Nat → Int) (n m : Nat) (U W : Nat → Nat) (th : Nat → Int) (k : Nat) (A2 : Nat → Nat → Int) (x : Int) : Prop := eo [13, 14, 15] A A2 ∧ flB m U W th (A2 13) ∧ (k : Int) ≤ cnt (fz th (A2 13)) m ∧ ∃ p τ, p ≤ n ∧ τ ≤ 700 ∧ rz n (eS U W) (eG U W) eW (eO m th (A2 13)) (dnR m) p τ (A2 14) (A2 15) x ∧ (x = -1 ∨ (p = n ∧ 0 ≤ x ∧ x < n))
theorem sr_of {A1 A2 : Nat → Nat → Int} {k : Nat} {x : Int} (h1 : eo [13, 14, 15] A A1) (h2 : flB m U W th (A1 13)) (h3 : (k : Int) ≤ cnt (fz th (A1 13)) m) (h : riR A1 n m U W th A2 x) : srI A n m U W th k A2 x := by
  obtain ⟨hE, hR⟩ := h
  refine ⟨eo_trans h1 (eo_mono (by decide) hE), ?_, ?_, ?_⟩
  · rw [hE 13 rfl]
    exact h2
  · rw [hE 13 rfl]
    exact h3
  · rw [hE 13 rfl]
    exact hR
set_option maxRecDepth 100000 in
theorem sr_2 (L : Lay K ρ) (h : lyC A n m U W th) {pos : Nat → Nat} (hp : ∀ a, a < m → th a = 1 → pos (U a) < pos (W a)) (hpn : ∀ v, v < n → pos v < n)
    (kk : ∀ A2, eo [10, 13, 14, 15] A A2 → isLay n m U W th (A2 14) → A2 10 5 = lcV (A2 14) n → A2 10 6 = len m U W th (A2 14) → A2 10 7 = len m U W th (A2 14) - A 1 6 → post none (123, K, zs (A2), ρ)) : ∀ (j k : Nat) (A2 : Nat → Nat → Int) (x : Int), 300 - k < j → srI A n m U W th k A2 x → mj_W (mj_lv (d + 2)) prog_3_method_3_code 1 0 0 0 post 92 [some (.inr (.inl (some 10))), some (.inr (.inl (some 1))), some (.inr (.inl (some 6))), some (.inl (iZ (x))), some (.inl (iZ ((k : Int))))] [] (123, K, zs (A2), ρ) 0 0
  | 0, k, _, _, hj, _ => absurd hj (by omega)
  | j + 1, k, A2, x, hj, hI => by
    obtain ⟨g1, g2, g3, g4, g5⟩ := id h
    obtain ⟨hE, hB, hk, p, τ, hpn2, hτ, hR, hx⟩ := id hI
    have hin : ∀ a, a < m → U a < n ∧ W a < n := fun a ha => (g5 a ha).2.1
    have b264 := fz_bnd hB hin hp g3 hpn g4
    have hC2 := lyC_eo h (hE 1 rfl) (hE 5 rfl) (hE 11 rfl) (hE 12 rfl)
    refine mq_iload d82_92 rfl ?_
    refine zq_sipush d82_94 rfl ?_
    refine zq_icmp_ge (tgt := 126) d82_97 (by decide) (by omega) (by omega) (fun g => ?_) (fun g => ?_)
    · omega
    · refine mq_iload_n d82_100 rfl rfl ?_
      refine zq_iconst d82_101 ?_
      refine zq_icmp_eq (tgt := 126) d82_102 (by decide) (by omega) (by omega) (fun g2 => ?_) (fun g2 => ?_)
      · subst g2
        obtain ⟨e1, e2, e3⟩ := rz_end hR (fun c hc => dnR_all g4 hc)
        refine mq_aload_n d82_126 rfl rfl ?_
        refine mq_aload_n d82_127 rfl rfl ?_
        refine zg_callV (c := 10) L [_] d82_128 rfl rfl ⟨rfl, rfl⟩ rfl ⟨rfl, rfl⟩ ⟨by decide, by decide⟩ (by decide) rfl ?_
        refine s_measure L hC2 (fun v hv => by have := e1 v hv; omega) (fun A3 e4 e5 e6 e7 => ?_)
        refine zg_retv d82_131 (by decide) ?_
        refine kk A3 (eo_trans (eo_mono (by decide) hE) (eo_mono (by decide) e4)) ?_ ?_ ?_ ?_
        · rw [e4 14 rfl]
          exact fl_lay g4 hB (fun v hv => (e1 v hv).1) e2 e3
        · rw [e4 14 rfl]
          exact e5
        · rw [e4 14 rfl]
          exact e6
        · rw [e4 14 rfl, e7, hE 1 rfl]
      · have hx2 : p = n ∧ 0 ≤ x ∧ x < n := by omega
        refine mq_aload_n d82_105 rfl rfl ?_
        refine mq_aload_n d82_106 rfl rfl ?_
        refine zg_getIe L ((n : Int)) d82_107 rfl rfl (by decide) rfl ((by rw [hE 1 rfl]; exact g1)) ?_
        refine mq_iload_n d82_110 rfl rfl ?_
        refine zg_callV (c := 10) L [_, _] d82_111 rfl rfl ⟨rfl, rfl⟩ rfl ⟨rfl, rfl⟩ ⟨by decide, by decide⟩ (by decide) rfl ?_
        rw [hx2.1] at hR
        refine s_enlargeFlow L hC2 hp hpn hB hR hx2.2 (fun A3 e3 hB3 hk3 => ?_)
        have hE3 : eo [13, 14, 15] A A3 := eo_trans hE (eo_mono (by decide) e3)
        have hin3 := fz_bnd hB3 hin hp g3 hpn g4
        have f3 := fl_264 hB3 hin3
        refine mq_aload_n d82_114 rfl rfl ?_
        refine mq_aload_n d82_115 rfl rfl ?_
        refine zg_callV (c := 10) L [_] d82_116 rfl rfl ⟨rfl, rfl⟩ rfl ⟨rfl, rfl⟩ ⟨by decide, by decide⟩ (by decide) rfl ?_
        refine s_raise L (lyC_eo h (hE3 1 rfl) (hE3 5 rfl) (hE3 11 rfl) (hE3 12 rfl)) hp (fun a ha t => by have := f3 a ha t; omega) (fun A4 x4 h4 => ?_)
        refine mq_istore_n d82_119 rfl (Nat.le_of_ble_eq_true rfl) rfl ?_
        refine zq_iinc d82_120 rfl rfl ?_
        refine mq_goto (tgt := 92) d82_123 (by decide) ?_
        exact sr_2 L h hp hpn kk j (k + 1) A4 x4 (by omega) (sr_of hE3 hB3 (by omega) h4)
/-- what the class holds when it has settled -/
def SCc (A : Nat → Nat → Int) : Prop := ∃ x, isTurn (A 1 4).toNat (A 1 5).toNat (fun a => (A 3 a).toNat) (fun a => (A 4 a).toNat) (A 5) x ∧ A 6 4 = cnt x (A 1 5).toNat ∧ A 6 3 = cnt (fun a => x a * mk2 a) (A 1 5).toNat ∧ ulC A x (A 1 5).toNat A ∧ isLay (A 1 4).toNat (A 1 5).toNat (fun a => (A 11 a).toNat) (fun a => (A 12 a).toNat) (A 5) (A 14) ∧ A 10 5 = lcV (A 14) (A 1 4).toNat ∧ A 10 6 = len (A 1 5).toNat (fun a => (A 11 a).toNat) (fun a => (A 12 a).toNat) (A 5) (A 14) ∧ A 10 7 = A 10 6 - A 1 6
/-- what GrOK says of the class's own cells -/
def cgOK (A : Nat → Nat → Int) : Prop := (0 ≤ A 1 4 ∧ A 1 4 ≤ 12) ∧ (0 ≤ A 1 5 ∧ A 1 5 ≤ 24) ∧ ∀ a : Nat, (a : Int) < A 1 5 → (0 ≤ A 3 a ∧ A 3 a < A 1 4) ∧ (0 ≤ A 4 a ∧ A 4 a < A 1 4) ∧ A 3 a ≠ A 4 a ∧ (A 5 a = 0 ∨ A 5 a = 1)
set_option maxRecDepth 100000 in
theorem s_lsearch (L : Lay K ρ) (G : cgOK A) {x : Nat → Int} (hT : isTurn (A 1 4).toNat (A 1 5).toNat (fun a => (A 3 a).toNat) (fun a => (A 4 a).toNat) (A 5) x) (h6 : A 6 3 = cnt (fun a => x a * mk2 a) (A 1 5).toNat) (h64 : A 6 4 = cnt x (A 1 5).toNat)
    (kk : ∀ A2, eo [10, 11, 12, 13, 14, 15] A A2 → SCc A2 → post none (123, K, zs (A2), ρ)) : mj_lv (d + 3) m_Layering_search [.inr (.inl (some 10)), .inr (.inl (some 1)), .inr (.inl (some 6))] (123, K, zs (A), ρ) post := by
  obtain ⟨q1, q2, q3⟩ := id G
  have hx : is01 x (A 1 5).toNat := isTurn_01 hT
  obtain ⟨pos, p1, p2⟩ := turn_pos hT (fun a ha => by have := q3 a (by omega); omega)
  have em : A 1 5 = ((A 1 5).toNat : Int) := by omega
  have en : A 1 4 = ((A 1 4).toNat : Int) := by omega
  obtain ⟨m, hm⟩ : ∃ m, m = (A 1 5).toNat := ⟨_, rfl⟩
  obtain ⟨n, hn⟩ : ∃ n, n = (A 1 4).toNat := ⟨_, rfl⟩
  rw [← hm] at em hx h6 h64 p2
  rw [← hn] at en p1
  show mj_W (mj_lv (d + 2)) prog_3_method_3_code 1 0 0 0 post 0 [some (.inr (.inl (some 10))), some (.inr (.inl (some 1))), some (.inr (.inl (some 6))), none, none] [] (123, K, zs (A), ρ) 0 0
  refine zq_iconst d82_0 ?_
  refine mq_istore_n d82_1 rfl (Nat.le_of_ble_eq_true rfl) rfl ?_
  refine sr_1 L em (by omega) hx h6 (fun A2 x4 hE hU hx4 => ?_) (m + 1) 0 A _ (by omega) (by omega) (fun y e => absurd e (by simp)) eo_refl (fun a ha => absurd ha (by omega))
  refine mq_aload_n d82_75 rfl rfl ?_
  refine zg_getR L 13 d82_76 rfl rfl (by decide) rfl (by decide) rfl ?_
  refine zq_iconst d82_79 ?_
  refine zg_callS [_, _] d82_80 rfl rfl ⟨rfl, rfl⟩ rfl ⟨rfl, rfl⟩ ⟨by decide, by decide⟩ ?_
  refine s_fill L (by decide) rfl (by decide) ?_
  obtain ⟨B, hB⟩ : ∃ B, B = fl A2 13 24 1 := ⟨_, rfl⟩
  rw [← hB]
  have eB : eo [13] A2 B := fun c hc => by
    rw [hB, fl_c (fun q => by rw [q] at hc; exact absurd hc (by decide))]
  have ends : ∀ a, a < m → (B 11 a = (if x a = 1 then A 4 a else A 3 a)) ∧ (B 12 a = (if x a = 1 then A 3 a else A 4 a)) ∧ (0 ≤ B 11 a ∧ B 11 a < n) ∧ (0 ≤ B 12 a ∧ B 12 a < n) := fun a ha => by
    have h5 := hU a ha
    have h6 := q3 a (by omega)
    rw [eB 11 rfl, eB 12 rfl]
    refine ⟨h5.1, h5.2, ?_, ?_⟩
    · rw [h5.1]
      split <;> omega
    · rw [h5.2]
      split <;> omega
  have e1 : B 1 = A 1 := (eB 1 rfl).trans (hE 1 rfl)
  have e5 : B 5 = A 5 := (eB 5 rfl).trans (hE 5 rfl)
  have hC : lyC B n m (fun a => (B 11 a).toNat) (fun a => (B 12 a).toNat) (A 5) := by
    refine ⟨by rw [e1]; exact en, by rw [e1]; exact em, by omega, by omega, fun a ha => ?_⟩
    have h5 := ends a ha
    have h6 := q3 a (by omega)
    rw [e5]
    have w1 : B 11 a = ((B 11 a).toNat : Int) := by omega
    have w2 : B 12 a = ((B 12 a).toNat : Int) := by omega
    have w3 : (B 11 a).toNat < n := by omega
    have w4 : (B 12 a).toNat < n := by omega
    exact ⟨⟨w1, w2⟩, ⟨w3, w4⟩, rfl, h6.2.2.2⟩
  have hp : ∀ a, a < m → A 5 a = 1 → pos (B 11 a).toNat < pos (B 12 a).toNat := fun a ha t => by
    have h5 := ends a ha
    have h6 := p2 a ha t
    rw [h5.1, h5.2.1]
    by_cases q : x a = 1
    · simp only [q, if_pos] at h6 ⊢
      exact h6
    · simp only [q, if_false] at h6 ⊢
      exact h6
  have hF1 : ∀ a, a < m → B 13 a = 1 := fun a ha => by
    rw [hB]
    exact fl_lt (by omega)
  have hfB : flB m (fun a => (B 11 a).toNat) (fun a => (B 12 a).toNat) (A 5) (B 13) := flB_0 hF1
  refine mq_aload_n d82_83 rfl rfl ?_
  refine mq_aload_n d82_84 rfl rfl ?_
  refine zg_callV (c := 10) L [_] d82_85 rfl rfl ⟨rfl, rfl⟩ rfl ⟨rfl, rfl⟩ ⟨by decide, by decide⟩ (by decide) rfl ?_
  refine s_raise L hC hp (fun a ha _ => by rw [hF1 a ha]; decide) (fun A3 x3 h3 => ?_)
  have st4 : mj_ok [some (.inr (.inl (some 10))), some (.inr (.inl (some 1))), some (.inr (.inl (some 6))), some (.inl (iZ (x3))), x4] 4 = true := by
    cases x4 with
    | none => rfl
    | some y =>
      obtain ⟨w, rfl⟩ := hx4 y rfl
      rfl
  refine mq_istore_n d82_88 rfl (Nat.le_of_ble_eq_true rfl) rfl ?_
  refine zq_iconst d82_89 ?_
  refine mq_istore d82_90 (Nat.le_of_ble_eq_true rfl) st4 ?_
  refine sr_2 L hC hp p1 (fun A4 h4 c1 c2 c3 c4 => ?_) 301 0 A3 x3 (by omega) (sr_of eo_refl hfB (cnt_nonneg (fz_nn hfB)) h3)
  have e14 : A4 1 = A 1 := (h4 1 rfl).trans e1
  have e34 : A4 3 = A 3 := (h4 3 rfl).trans ((eB 3 rfl).trans (hE 3 rfl))
  have e44 : A4 4 = A 4 := (h4 4 rfl).trans ((eB 4 rfl).trans (hE 4 rfl))
  have e54 : A4 5 = A 5 := (h4 5 rfl).trans e5
  have e64 : A4 6 = A 6 := (h4 6 rfl).trans ((eB 6 rfl).trans (hE 6 rfl))
  have f11 : A4 11 = B 11 := h4 11 rfl
  have f12 : A4 12 = B 12 := h4 12 rfl
  refine kk A4 (fun c hc => ?_) ⟨x, ?_, ?_, ?_, ?_, ?_, ?_, ?_, ?_⟩
  · rw [eo_mono (cs2 := [10, 11, 12, 13, 14, 15]) (by decide) h4 c hc, eo_mono (cs2 := [10, 11, 12, 13, 14, 15]) (by decide) eB c hc, eo_mono (cs2 := [10, 11, 12, 13, 14, 15]) (by decide) hE c hc]
  · rw [e14, e34, e44, e54]
    exact hT
  · rw [e14, e64, ← hm]
    exact h64
  · rw [e14, e64, ← hm]
    exact h6
  · intro a ha
    rw [e14, ← hm] at ha
    rw [f11, f12, e34, e44]
    have := ends a ha
    exact ⟨this.1, this.2.1⟩
  · rw [e14, e54, f11, f12, ← hm, ← hn]
    exact c1
  · rw [e14, ← hn]
    exact c2
  · rw [e14, e54, f11, f12, ← hm]
    exact c3
  · rw [c4, c3, e14, e1]
end sp_se
