section sp_ti
variable {d : Nat} {post : Option mj_V → mj_H → Prop} {K : Nat → Nat × Nat} {ρ : Nat → Nat → Option Nat} {A : Nat → Nat → Int} {n m : Nat} {fr to : Nat → Nat} {th w pr : Nat → Int} {pos : Nat → Nat}
set_option maxRecDepth 100000 in
theorem mi_1 (L : Lay K ρ) (hG : tgM A n m fr to th w) {x1 : Int32} {x3 : Option mj_V} (kk : ∀ A2, eo [118] A A2 → (∀ u, u < n → A2 118 u = -1) → mj_W (mj_lv d) prog_11_method_44_code 9 2 0 0 post 25 [some (.inr (.inl (some 93))), some (.inl x1), some (.inl (iZ ((n : Nat)))), x3] [] (123, K, zs (A2), ρ) 0 0) : ∀ (j i : Nat) (A2 : Nat → Nat → Int), n - i < j → i ≤ n → eo [118] A A2 → (∀ u, u < i → A2 118 u = -1) → mj_W (mj_lv d) prog_11_method_44_code 9 2 0 0 post 4 [some (.inr (.inl (some 93))), some (.inl x1), some (.inl (iZ ((i : Nat)))), x3] [] (123, K, zs (A2), ρ) 0 0
  | 0, i, _, hj, _, _, _ => absurd hj (by omega)
  | j + 1, i, A2, hj, hi, hE, hI => by
    have q1 := hG.1
    have q3 := hG.2.2.1
    refine mq_iload_n d68_4 rfl rfl ?_
    refine mq_aload_n d68_5 rfl rfl ?_
    refine zg_getIe L ((n : Nat)) d68_6 rfl rfl (by decide) rfl ((by rw [hE 93 rfl]; exact q1)) ?_
    refine zq_icmp_ge (tgt := 25) d68_9 (by decide) (by omega) (by omega) (fun g1 => ?_) (fun g1 => ?_)
    · have e : i = n := by omega
      subst e
      exact kk A2 hE hI
    · refine mq_aload_n d68_12 rfl rfl ?_
      refine zg_getR L 118 d68_13 rfl rfl (by decide) rfl (by decide) rfl ?_
      refine mq_iload_n d68_16 rfl rfl ?_
      refine zq_iconst d68_17 ?_
      refine zg_iastN L d68_18 (by decide) rfl (by omega) ?_
      refine zq_iinc d68_19 rfl rfl ?_
      refine mq_goto (tgt := 4) d68_22 (by decide) ?_
      refine mi_1 L hG kk j (i + 1) _ (by omega) (by omega) (eo_u2 rfl hE) (fun u hu => ?_)
      by_cases e : u = i
      · rw [e, u2_self]
      · rw [u2_k e]
        exact hI u (by omega)
set_option maxRecDepth 100000 in
theorem mi_2 (L : Lay K ρ) (hG : tgM A n m fr to th w) (h98 : ∀ a, a < m → A 98 a = 0 ∨ A 98 a = 1) {x1 : Int32} {x3 : Option mj_V} (k0 : ∀ A2, eo [118] A A2 → ((∃ a, a < m ∧ th a = 1 ∧ A 98 a = 1) ∨ ¬ noCf to th m) → post (some (.inl (iZ 0))) (123, K, zs (A2), ρ))
    (kk : ∀ A2, eo [118] A A2 → noCf to th m → (∀ a, a < m → th a = 1 → A 98 a = 0) → (∀ v, v < n → A2 118 v = prP fr to th m v) → mj_W (mj_lv d) prog_11_method_44_code 9 2 0 0 post 92 [some (.inr (.inl (some 93))), some (.inl x1), some (.inl (iZ ((m : Nat)))), x3] [] (123, K, zs (A2), ρ) 0 0) : ∀ (j a : Nat) (A2 : Nat → Nat → Int), m - a < j → a ≤ m → eo [118] A A2 → noCf to th a → (∀ b, b < a → th b = 1 → A 98 b = 0) → (∀ v, v < n → A2 118 v = prP fr to th a v) → mj_W (mj_lv d) prog_11_method_44_code 9 2 0 0 post 27 [some (.inr (.inl (some 93))), some (.inl x1), some (.inl (iZ ((a : Nat)))), x3] [] (123, K, zs (A2), ρ) 0 0
  | 0, a, _, hj, _, _, _, _, _ => absurd hj (by omega)
  | j + 1, a, A2, hj, ha, hE, hC, hX, hP => by
    obtain ⟨q1, q2, q3, q4, q5, q6⟩ := id hG
    refine mq_iload_n d68_27 rfl rfl ?_
    refine mq_aload_n d68_28 rfl rfl ?_
    refine zg_getIe L ((m : Nat)) d68_29 rfl rfl (by decide) rfl ((by rw [hE 93 rfl]; exact q2)) ?_
    refine zq_icmp_ge (tgt := 92) d68_32 (by decide) (by omega) (by omega) (fun g1 => ?_) (fun g1 => ?_)
    · have e : a = m := by omega
      subst e
      exact kk A2 hE hC hX hP
    · have ham : a < m := by omega
      obtain ⟨⟨a1, a2⟩, ⟨a3, a4⟩, a5, a6⟩ := q5 a ham
      have x01 := h98 a ham
      refine mq_aload_n d68_35 rfl rfl ?_
      refine zg_getR L 97 d68_36 rfl rfl (by decide) rfl (by decide) rfl ?_
      refine mq_iload_n d68_39 rfl rfl ?_
      refine zr_zaldV L (th a) d68_40 (by decide) rfl (by omega) ((by rw [hE 97 rfl]; exact a5)) ?_
      refine zq_if_eq (tgt := 86) d68_41 (by decide) (by omega) (fun g2 => ?_) (fun g2 => ?_)
      · have t0 : th a ≠ 1 := by omega
        refine zq_iinc d68_86 rfl rfl ?_
        refine mq_goto (tgt := 27) d68_89 (by decide) ?_
        refine mi_2 L hG h98 k0 kk j (a + 1) A2 (by omega) (by omega) hE (noCf_s (fr := fr) hC (fun q => absurd q t0)) (fun b hb tb => ?_) (fun v hv => ?_)
        · by_cases y : b = a
          · rw [y] at tb
            exact absurd tb t0
          · exact hX b (by omega) tb
        · rw [hP v hv]
          exact (if_neg (fun q => t0 q.1)).symm
      · have t1 : th a = 1 := by omega
        have rP : -1 ≤ prP fr to th a (to a) ∧ prP fr to th a (to a) < 100 := by
          rcases prP_ex (fr := fr) (to := to) (th := th) (k := a) (v := to a) with ⟨r1, -⟩ | ⟨b, r1, r2, r3, r4⟩
          · omega
          · have := (q5 b (by omega)).2.1
            omega
        refine mq_aload_n d68_44 rfl rfl ?_
        refine zg_getR L 98 d68_45 rfl rfl (by decide) rfl (by decide) rfl ?_
        refine mq_iload_n d68_48 rfl rfl ?_
        refine zr_zaldV L (A 98 a) d68_49 (by decide) rfl (by omega) ((by rw [hE 98 rfl])) ?_
        refine zq_if_ne (tgt := 67) d68_50 (by decide) (by omega) (fun g3 => ?_) (fun g3 => ?_)
        · refine zq_iconst d68_67 ?_
          refine zg_retz d68_68 rfl (by first | decide | omega) ?_
          exact k0 A2 hE (Or.inl ⟨a, ham, t1, by omega⟩)
        · refine mq_aload_n d68_53 rfl rfl ?_
          refine zg_getR L 118 d68_54 rfl rfl (by decide) rfl (by decide) rfl ?_
          refine mq_aload_n d68_57 rfl rfl ?_
          refine zg_getR L 96 d68_58 rfl rfl (by decide) rfl (by decide) rfl ?_
          refine mq_iload_n d68_61 rfl rfl ?_
          refine zr_ialdV L ((to a : Nat)) d68_62 (by decide) rfl (by omega) ((by rw [hE 96 rfl]; exact a2)) ?_
          refine zr_ialdV L (prP fr to th a (to a)) d68_63 (by decide) rfl (by omega) (hP _ a4) ?_
          refine zq_if_lt (tgt := 69) d68_64 (by decide) (by omega) (fun g4 => ?_) (fun g4 => ?_)
          · have g5 : prP fr to th a (to a) = -1 := by omega
            refine mq_aload_n d68_69 rfl rfl ?_
            refine zg_getR L 118 d68_70 rfl rfl (by decide) rfl (by decide) rfl ?_
            refine mq_aload_n d68_73 rfl rfl ?_
            refine zg_getR L 96 d68_74 rfl rfl (by decide) rfl (by decide) rfl ?_
            refine mq_iload_n d68_77 rfl rfl ?_
            refine zr_ialdV L ((to a : Nat)) d68_78 (by decide) rfl (by omega) ((by rw [hE 96 rfl]; exact a2)) ?_
            refine mq_aload_n d68_79 rfl rfl ?_
            refine zg_getR L 95 d68_80 rfl rfl (by decide) rfl (by decide) rfl ?_
            refine mq_iload_n d68_83 rfl rfl ?_
            refine zr_ialdV L ((fr a : Nat)) d68_84 (by decide) rfl (by omega) ((by rw [hE 95 rfl]; exact a1)) ?_
            refine zg_iastN L d68_85 (by decide) rfl (by omega) ?_
            refine zq_iinc d68_86 rfl rfl ?_
            refine mq_goto (tgt := 27) d68_89 (by decide) ?_
            refine mi_2 L hG h98 k0 kk j (a + 1) _ (by omega) (by omega) (eo_u2 rfl hE) (noCf_s (fr := fr) hC (fun _ => g5)) (fun b hb tb => ?_) (fun v hv => ?_)
            · by_cases y : b = a
              · rw [y]
                exact g3
              · exact hX b (by omega) tb
            · have e1 : prP fr to th (a + 1) v = if th a = 1 ∧ to a = v then ((fr a : Nat) : Int) else prP fr to th a v := rfl
              rw [e1]
              by_cases y : v = to a
              · rw [y, u2_self, if_pos ⟨t1, rfl⟩]
              · rw [u2_k y, if_neg (fun z => y z.2.symm)]
                exact hP v hv
          · refine zq_iconst d68_67 ?_
            refine zg_retz d68_68 rfl (by first | decide | omega) ?_
            exact k0 A2 hE (Or.inr (noCf_no (fr := fr) ham t1 (by omega)))
set_option maxRecDepth 100000 in
theorem mi_3 (L : Lay K ρ) (hn : n ≤ 12) (hp : tpOK n pr pos) (h118 : ∀ v, v < n → A 118 v = pr v) {v : Nat} (hv : v < n) {x1 : Int32}
    (kk : ∀ A2 x3, eo [119] A A2 → (∀ u, u ≠ v → A2 119 u = A 119 u) → A2 119 v = (dpV pr v : Nat) → mj_W (mj_lv d) prog_11_method_44_code 9 2 0 0 post 157 [some (.inr (.inl (some 93))), some (.inl x1), some (.inl (iZ ((v : Nat)))), some (.inl x3)] [] (123, K, zs (A2), ρ) 0 0) : ∀ (j u : Nat) (A2 : Nat → Nat → Int), pos u < j → u < n → eo [119] A A2 → (∀ q, q ≠ v → A2 119 q = A 119 q) → A2 119 v + (dpV pr u : Nat) = (dpV pr v : Nat) → mj_W (mj_lv d) prog_11_method_44_code 9 2 0 0 post 128 [some (.inr (.inl (some 93))), some (.inl x1), some (.inl (iZ ((v : Nat)))), some (.inl (iZ ((u : Nat))))] [] (123, K, zs (A2), ρ) 0 0
  | 0, u, _, hj, _, _, _, _ => absurd hj (by omega)
  | j + 1, u, A2, hj, hu, hE, hO, hD => by
    have hpu := hp u hu
    refine mq_aload_n d68_128 rfl rfl ?_
    refine zg_getR L 118 d68_129 rfl rfl (by decide) rfl (by decide) rfl ?_
    refine mq_iload_n d68_132 rfl rfl ?_
    refine zr_ialdV L (pr u) d68_133 (by decide) rfl (by omega) ((by rw [hE 118 rfl]; exact h118 u hu)) ?_
    refine zq_if_lt (tgt := 157) d68_134 (by decide) (by omega) (fun g1 => ?_) (fun g1 => ?_)
    · refine kk A2 _ hE hO ?_
      have := dpV_0 (pr := pr) (v := u) g1
      omega
    · obtain ⟨t, ht⟩ : ∃ t : Nat, pr u = t := ⟨(pr u).toNat, by omega⟩
      have e1 := dpV_s hp hn hu g1
      rw [ht, Int.toNat_natCast] at e1
      have hpt : t < n ∧ pos t < pos u := by
        rcases hpu.2 with q | q
        · omega
        · rw [ht, Int.toNat_natCast] at q
          omega
      refine mq_aload_n d68_137 rfl rfl ?_
      refine zg_getR L 118 d68_138 rfl rfl (by decide) rfl (by decide) rfl ?_
      refine mq_iload_n d68_141 rfl rfl ?_
      refine zr_ialdV L ((t : Nat)) d68_142 (by decide) rfl (by omega) ((by rw [hE 118 rfl, h118 u hu]; exact ht)) ?_
      refine mq_istore_n d68_143 rfl (Nat.le_of_ble_eq_true rfl) rfl ?_
      refine mq_aload_n d68_144 rfl rfl ?_
      refine zg_getR L 119 d68_145 rfl rfl (by decide) rfl (by decide) rfl ?_
      refine mq_iload_n d68_148 rfl rfl ?_
      refine mq_dup2 d68_149 rfl rfl ?_
      refine zg_ialdN L d68_150 (by decide) rfl (by omega) ?_
      refine zq_iconst d68_151 ?_
      refine zq_iadd d68_152 ?_
      refine zg_iastN L d68_153 (by decide) rfl (by omega) ?_
      refine mq_goto (tgt := 128) d68_154 (by decide) ?_
      refine mi_3 L hn hp h118 hv kk j t _ (by omega) hpt.1 (eo_u2 rfl hE) (fun q hq => by rw [u2_k hq]; exact hO q hq) ?_
      rw [u2_self]
      omega
set_option maxRecDepth 100000 in
theorem mi_4 (L : Lay K ρ) (hG : tgM A n m fr to th w) (hp : tpOK n pr pos) (h118 : ∀ v, v < n → A 118 v = pr v)
    (kk : ∀ A2 x3, eo [119] A A2 → (∀ u, u < n → A2 119 u = (dpV pr u : Nat)) → mj_W (mj_lv d) prog_11_method_44_code 9 2 0 0 post 163 [some (.inr (.inl (some 93))), some (.inl (iZ (cnt (fun v => if pr v < 0 then 1 else 0) n))), some (.inl (iZ ((n : Nat)))), x3] [] (123, K, zs (A2), ρ) 0 0) : ∀ (j v : Nat) (A2 : Nat → Nat → Int) (x3 : Option mj_V), n - v < j → v ≤ n → (∀ y, x3 = some y → ∃ w, y = .inl w) → eo [119] A A2 → (∀ u, u < v → A2 119 u = (dpV pr u : Nat)) → mj_W (mj_lv d) prog_11_method_44_code 9 2 0 0 post 94 [some (.inr (.inl (some 93))), some (.inl (iZ (cnt (fun v => if pr v < 0 then 1 else 0) v))), some (.inl (iZ ((v : Nat)))), x3] [] (123, K, zs (A2), ρ) 0 0
  | 0, v, _, _, hj, _, _, _, _ => absurd hj (by omega)
  | j + 1, v, A2, x3, hj, hv, hx3, hE, hI => by
    obtain ⟨q1, q2, q3, q4, q5, q6⟩ := id hG
    refine mq_iload_n d68_94 rfl rfl ?_
    refine mq_aload_n d68_95 rfl rfl ?_
    refine zg_getIe L ((n : Nat)) d68_96 rfl rfl (by decide) rfl ((by rw [hE 93 rfl]; exact q1)) ?_
    refine zq_icmp_ge (tgt := 163) d68_99 (by decide) (by omega) (by omega) (fun g1 => ?_) (fun g1 => ?_)
    · have e : v = n := by omega
      subst e
      exact kk A2 x3 hE hI
    · have hvn : v < n := by omega
      have hpv := hp v hvn
      have rp : -1 ≤ pr v ∧ pr v < 100 := by omega
      have st3 : ∀ y : Int, mj_ok [some (.inr (.inl (some 93))), some (.inl (iZ (y))), some (.inl (iZ ((v : Nat)))), x3] 3 = true := fun y => by
        cases x3 with
        | none => rfl
        | some y =>
          obtain ⟨w, rfl⟩ := hx3 y rfl
          rfl
      have go : ∀ y, y = cnt (fun v => if pr v < 0 then 1 else 0) (v + 1) → mj_W (mj_lv d) prog_11_method_44_code 9 2 0 0 post 119 [some (.inr (.inl (some 93))), some (.inl (iZ (y))), some (.inl (iZ ((v : Nat)))), x3] [] (123, K, zs (A2), ρ) 0 0 := fun y hy => by
        refine mq_aload_n d68_119 rfl rfl ?_
        refine zg_getR L 119 d68_120 rfl rfl (by decide) rfl (by decide) rfl ?_
        refine mq_iload_n d68_123 rfl rfl ?_
        refine zq_iconst d68_124 ?_
        refine zg_iastN L d68_125 (by decide) rfl (by omega) ?_
        refine mq_iload_n d68_126 rfl rfl ?_
        refine mq_istore_n d68_127 rfl (Nat.le_of_ble_eq_true rfl) (st3 _) ?_
        refine mi_3 (A := mj_u2 A2 119 v 0) L q3 hp (fun u hu => by rw [u2_c (by decide), hE 118 rfl]; exact h118 u hu) hvn (fun A3 y3 e3 o3 d3 => ?_) (n + 1) v _ (by omega) hvn eo_refl (fun _ _ => rfl) (by rw [u2_self]; omega)
        refine zq_iinc d68_157 rfl rfl ?_
        refine mq_goto (tgt := 94) d68_160 (by decide) ?_
        rw [hy]
        refine mi_4 L hG hp h118 kk j (v + 1) A3 _ (by omega) (by omega) (fun y e => ⟨_, (Option.some.inj e).symm⟩) (eo_trans (eo_u2 rfl hE) e3) (fun u hu => ?_)
        by_cases e : u = v
        · rw [e]
          exact d3
        · rw [o3 u e, u2_k e]
          exact hI u (by omega)
      have eS : cnt (fun v => if pr v < 0 then 1 else 0) (v + 1) = cnt (fun v => if pr v < 0 then 1 else 0) v + (if pr v < 0 then 1 else 0) := rfl
      refine mq_iload_n d68_102 rfl rfl ?_
      refine mq_aload_n d68_103 rfl rfl ?_
      refine zg_getR L 118 d68_104 rfl rfl (by decide) rfl (by decide) rfl ?_
      refine mq_iload_n d68_107 rfl rfl ?_
      refine zr_ialdV L (pr v) d68_108 (by decide) rfl (by omega) ((by rw [hE 118 rfl]; exact h118 v hvn)) ?_
      refine zq_if_ge (tgt := 116) d68_109 (by decide) (by omega) (fun g2 => ?_) (fun g2 => ?_)
      · refine zq_iconst d68_116 ?_
        refine zq_iadd d68_117 ?_
        refine mq_istore_n d68_118 rfl (Nat.le_of_ble_eq_true rfl) rfl ?_
        exact go _ (by rw [eS, if_neg (by omega)])
      · refine zq_iconst d68_112 ?_
        refine mq_goto (tgt := 117) d68_113 (by decide) ?_
        refine zq_iadd d68_117 ?_
        refine mq_istore_n d68_118 rfl (Nat.le_of_ble_eq_true rfl) rfl ?_
        exact go _ (by rw [eS, if_pos g2])
set_option maxRecDepth 100000 in
theorem s_misTree (L : Lay K ρ) (hG : tgM A n m fr to th w) (h98 : ∀ a, a < m → A 98 a = 0 ∨ A 98 a = 1) (hpn : ∀ v, v < n → pos v < n) (hpos : (∀ a, a < m → th a = 1 → A 98 a = 0) → ∀ a, a < m → th a = 1 → pos (fr a) < pos (to a))
    (k0 : ∀ A2, eo [118, 119] A A2 → ((∃ a, a < m ∧ th a = 1 ∧ A 98 a = 1) ∨ ¬ (noCf to th m ∧ cnt th m = (n : Int) - 1)) → post (some (.inl (iZ 0))) (123, K, zs (A2), ρ))
    (k1 : ∀ A2, eo [118, 119] A A2 → noCf to th m → cnt th m = (n : Int) - 1 → (∀ a, a < m → th a = 1 → A 98 a = 0) → (∀ u, u < n → A2 119 u = (dpV (prP fr to th m) u : Nat)) → post (some (.inl (iZ 1))) (123, K, zs (A2), ρ)) : mj_lv (d + 1) m_Mod_isTree [.inr (.inl (some 93))] (123, K, zs (A), ρ) post := by
  obtain ⟨q1, q2, q3, q4, q5, q6⟩ := id hG
  show mj_W (mj_lv d) prog_11_method_44_code 9 2 0 0 post 0 [some (.inr (.inl (some 93))), none, none, none] [] (123, K, zs (A), ρ) 0 0
  refine zq_iconst d68_0 ?_
  refine mq_istore_n d68_1 rfl (Nat.le_of_ble_eq_true rfl) rfl ?_
  refine zq_iconst d68_2 ?_
  refine mq_istore_n d68_3 rfl (Nat.le_of_ble_eq_true rfl) rfl ?_
  refine mi_1 L hG (fun A2 e2 h2 => ?_) (n + 1) 0 A (by omega) (by omega) eo_refl (fun u hu => absurd hu (by omega))
  refine zq_iconst d68_25 ?_
  refine mq_istore_n d68_26 rfl (Nat.le_of_ble_eq_true rfl) rfl ?_
  refine mi_2 (A := A) L hG h98 (fun A3 e3 h3 => k0 A3 (eo_mono (by decide) e3) ?_) (fun A3 e3 hC hX hP => ?_) (m + 1) 0 A2 (by omega) (by omega) e2 (fun a b ha => absurd ha (by omega)) (fun b hb => absurd hb (by omega)) (fun v hv => h2 v hv)
  · rcases h3 with q | q
    · exact Or.inl q
    · exact Or.inr (fun y => q y.1)
  · have ht := pr_tr (w := w) q3 (fun a ha => (q5 a ha).2.1) hC hpn (hpos hX) (fun v hv => (q6 v hv).2)
    have hroot := roots_n (fr := fr) (to := to) (th := th) (n := n) (m := m) (fun a ha => (q5 a ha).2.1.2) (fun a ha => (q5 a ha).2.2.2) (Nat.le_refl m) hC
    refine zq_iconst d68_92 ?_
    refine mq_istore_n d68_93 rfl (Nat.le_of_ble_eq_true rfl) rfl ?_
    refine mi_4 (A := A3) (pr := prP fr to th m) L (tgM_eo hG (fun c h1 h2 => e3 c (by simp; omega))) ht.2.1 hP (fun A4 y3 e4 h4 => ?_) (n + 1) 0 A3 _ (by omega) (by omega) (fun y e => absurd e (by simp)) eo_refl (fun u hu => absurd hu (by omega))
    have hcr := cnt_range (f := th) (m := m) (fun a ha => (q5 a ha).2.2.2)
    have E4 : eo [118, 119] A A4 := eo_trans (eo_mono (by decide) e3) (eo_mono (by decide) e4)
    refine mq_iload_n d68_163 rfl rfl ?_
    refine zq_iconst d68_164 ?_
    refine zq_icmp_ne (tgt := 172) d68_165 (by decide) (by omega) (by omega) (fun g1 => ?_) (fun g1 => ?_)
    · refine zq_iconst d68_172 ?_
      refine zg_retz d68_173 rfl (by first | decide | omega) ?_
      exact k0 A4 E4 (Or.inr (fun y => by omega))
    · refine zq_iconst d68_168 ?_
      refine mq_goto (tgt := 173) d68_169 (by decide) ?_
      refine zg_retz d68_173 rfl (by first | decide | omega) ?_
      exact k1 A4 E4 hC (by omega) hX h4
section td
set_option maxRecDepth 100000 in
theorem mt1 (L : Lay K ρ) (hG : tgM A n m fr to th w) {x1 : Int32} {x3 : Option mj_V} (kk : ∀ A2, eo [120, 121] A A2 → (∀ u, u < n → A2 121 u = 0 ∧ A2 120 u = (2 ^ u : Nat)) → mj_W (mj_lv (d + 3)) prog_11_method_45_code 9 1 0 0 post 56 [some (.inr (.inl (some 93))), some (.inl x1), some (.inl (iZ ((n : Nat)))), x3] [] (123, K, zs (A2), ρ) 0 0) : ∀ (j i : Nat) (A2 : Nat → Nat → Int), n - i < j → i ≤ n → eo [120, 121] A A2 → (∀ u, u < i → A2 121 u = 0 ∧ A2 120 u = (2 ^ u : Nat)) → mj_W (mj_lv (d + 3)) prog_11_method_45_code 9 1 0 0 post 26 [some (.inr (.inl (some 93))), some (.inl x1), some (.inl (iZ ((i : Nat)))), x3] [] (123, K, zs (A2), ρ) 0 0
  | 0, i, _, hj, _, _, _ => absurd hj (by omega)
  | j + 1, i, A2, hj, hi, hE, hI => by
    have q1 := hG.1
    have q3 := hG.2.2.1
    refine mq_iload_n d69_26 rfl rfl ?_
    refine mq_aload_n d69_27 rfl rfl ?_
    refine zg_getIe L ((n : Nat)) d69_28 rfl rfl (by decide) rfl ((by rw [hE 93 rfl]; exact q1)) ?_
    refine zq_icmp_ge (tgt := 56) d69_31 (by decide) (by omega) (by omega) (fun g1 => ?_) (fun g1 => ?_)
    · have e : i = n := by omega
      subst e
      exact kk A2 hE hI
    · refine mq_aload_n d69_34 rfl rfl ?_
      refine zg_getR L 120 d69_35 rfl rfl (by decide) rfl (by decide) rfl ?_
      refine mq_iload_n d69_38 rfl rfl ?_
      refine zq_iconst d69_39 ?_
      refine mq_iload_n d69_40 rfl rfl ?_
      refine zn_shl1 d69_41 (by omega) ?_
      rw [Int.toNat_natCast]
      refine zg_iastN L d69_42 (by decide) rfl (by omega) ?_
      refine mq_aload_n d69_43 rfl rfl ?_
      refine zg_getR L 121 d69_44 rfl rfl (by decide) rfl (by decide) rfl ?_
      refine mq_iload_n d69_47 rfl rfl ?_
      refine zq_iconst d69_48 ?_
      refine zg_iastN L d69_49 (by decide) rfl (by omega) ?_
      refine zq_iinc d69_50 rfl rfl ?_
      refine mq_goto (tgt := 26) d69_53 (by decide) ?_
      refine mt1 L hG kk j (i + 1) _ (by omega) (by omega) (eo_u2 rfl (eo_u2 rfl hE)) (fun u hu => ?_)
      by_cases e : u = i
      · rw [e, u2_self, u2_c (by decide), u2_self]
        exact ⟨rfl, rfl⟩
      · rw [u2_k e, u2_c (by decide), u2_c (by decide), u2_k e]
        exact hI u (by omega)
set_option maxRecDepth 100000 in
theorem mt2 (L : Lay K ρ) (hG : tgM A n m fr to th w) (ht : trOK n m fr to th w pr pos) (h119 : ∀ u, u < n → A 119 u = (dpV pr u : Nat) ∧ dpV pr u < 12) {dd : Nat} (hdd : dd < 12) {z : (Nat → Int) × (Nat → Nat)} {x1 : Int32}
    (kk : ∀ A2 x3, eo [120, 121] A A2 → ptI n w pr dd n (jDq n m fr to th w pr dd z n) → tvM A2 n pr dd n (jDq n m fr to th w pr dd z n).1 (jDq n m fr to th w pr dd z n).2 → mj_W (mj_lv (d + 3)) prog_11_method_45_code 9 1 0 0 post 98 [some (.inr (.inl (some 93))), some (.inl x1), some (.inl (iZ ((dd : Nat)))), some (.inl x3)] [] (123, K, zs (A2), ρ) 0 0) : ∀ (j v : Nat) (A2 : Nat → Nat → Int), n - v < j → v ≤ n → eo [120, 121] A A2 → ptI n w pr dd v (jDq n m fr to th w pr dd z v) → tvM A2 n pr dd v (jDq n m fr to th w pr dd z v).1 (jDq n m fr to th w pr dd z v).2 → mj_W (mj_lv (d + 3)) prog_11_method_45_code 9 1 0 0 post 69 [some (.inr (.inl (some 93))), some (.inl x1), some (.inl (iZ ((dd : Nat)))), some (.inl (iZ ((v : Nat))))] [] (123, K, zs (A2), ρ) 0 0
  | 0, v, _, hj, _, _, _, _ => absurd hj (by omega)
  | j + 1, v, A2, hj, hv, hE, hI, hC => by
    obtain ⟨q1, q2, q3, q4, q5, q6⟩ := id hG
    refine mq_iload_n d69_69 rfl rfl ?_
    refine mq_aload_n d69_70 rfl rfl ?_
    refine zg_getIe L ((n : Nat)) d69_71 rfl rfl (by decide) rfl ((by rw [hE 93 rfl]; exact q1)) ?_
    refine zq_icmp_ge (tgt := 98) d69_74 (by decide) (by omega) (by omega) (fun g1 => ?_) (fun g1 => ?_)
    · have e : v = n := by omega
      subst e
      exact kk A2 _ hE hI hC
    · have hvn : v < n := by omega
      have d1 := h119 v hvn
      refine mq_aload_n d69_77 rfl rfl ?_
      refine zg_getR L 119 d69_78 rfl rfl (by decide) rfl (by decide) rfl ?_
      refine mq_iload_n d69_81 rfl rfl ?_
      refine zr_ialdV L ((dpV pr v : Nat)) d69_82 (by decide) rfl (by omega) ((by rw [hE 119 rfl]; exact d1.1)) ?_
      refine mq_iload_n d69_83 rfl rfl ?_
      refine zq_icmp_ne (tgt := 92) d69_84 (by decide) (by omega) (by omega) (fun g2 => ?_) (fun g2 => ?_)
      · have ne : dpV pr v ≠ dd := by omega
        refine zq_iinc d69_92 rfl rfl ?_
        refine mq_goto (tgt := 69) d69_95 (by decide) ?_
        refine mt2 L hG ht h119 hdd kk j (v + 1) A2 (by omega) (by omega) hE (by rw [jD_n ne]; exact ptI_k ne hI) ?_
        rw [jD_n ne]
        intro u hu
        obtain ⟨c1, c2, c3⟩ := hC u hu
        exact ⟨c1, fun du => c2 ((dnA_k ne).mp du), fun du => c3 (fun y => du ((dnA_k ne).mpr y))⟩
      · have eq : dpV pr v = dd := by omega
        refine mq_aload_n d69_87 rfl rfl ?_
        refine mq_iload_n d69_88 rfl rfl ?_
        refine zg_callV (c := 93) L [_] d69_89 rfl rfl ⟨rfl, rfl⟩ rfl ⟨rfl, rfl⟩ ⟨by decide, by decide⟩ (by decide) rfl ?_
        refine s_join (d := d) L (tgM_eo hG (fun c h1 h2 => hE c (by simp; omega))) ht (fun u hu => by rw [hE 119 rfl]; exact h119 u hu) hvn eq hI hC (fun A3 e3 hI3 hC3 => ?_)
        refine zq_iinc d69_92 rfl rfl ?_
        refine mq_goto (tgt := 69) d69_95 (by decide) ?_
        refine mt2 L hG ht h119 hdd kk j (v + 1) A3 (by omega) (by omega) (eo_trans hE e3) ?_ ?_
        · rw [jD_y eq]
          exact hI3
        · rw [jD_y eq]
          exact hC3
set_option maxRecDepth 100000 in
theorem mt3 (L : Lay K ρ) (hG : tgM A n m fr to th w) (ht : trOK n m fr to th w pr pos) (h119 : ∀ u, u < n → A 119 u = (dpV pr u : Nat) ∧ dpV pr u < 12) (hn1 : 1 ≤ n) {x1 : Int32}
    (kk : ∀ A2 x2 x3, eo [120, 121] A A2 → ptI n w pr 0 n (jT n m fr to th w (dpV pr) n) → (∀ u, u < n → A2 121 u = (jT n m fr to th w (dpV pr) n).1 u) → (∀ y, x3 = some y → ∃ w, y = .inl w) → mj_W (mj_lv (d + 3)) prog_11_method_45_code 9 1 0 0 post 104 [some (.inr (.inl (some 93))), some (.inl x1), some (.inl x2), x3] [] (123, K, zs (A2), ρ) 0 0) : ∀ (j k : Nat) (A2 : Nat → Nat → Int) (x : Int) (x3 : Option mj_V), n - k < j → k ≤ n → x = (n : Int) - 1 - k → (∀ y, x3 = some y → ∃ w, y = .inl w) → eo [120, 121] A A2 → (k < n → ptI n w pr (n - 1 - k) 0 (jT n m fr to th w (dpV pr) k) ∧ tvM A2 n pr (n - 1 - k) 0 (jT n m fr to th w (dpV pr) k).1 (jT n m fr to th w (dpV pr) k).2) → (k = n → ptI n w pr 0 n (jT n m fr to th w (dpV pr) n) ∧ ∀ u, u < n → A2 121 u = (jT n m fr to th w (dpV pr) n).1 u) → mj_W (mj_lv (d + 3)) prog_11_method_45_code 9 1 0 0 post 63 [some (.inr (.inl (some 93))), some (.inl x1), some (.inl (iZ (x))), x3] [] (123, K, zs (A2), ρ) 0 0
  | 0, k, _, _, _, hj, _, _, _, _, _, _ => absurd hj (by omega)
  | j + 1, k, A2, x, x3, hj, hk, hx, hx3, hE, hI, hF => by
    obtain ⟨q1, q2, q3, q4, q5, q6⟩ := id hG
    refine mq_iload_n d69_63 rfl rfl ?_
    refine zq_if_lt (tgt := 104) d69_64 (by decide) (by omega) (fun g1 => ?_) (fun g1 => ?_)
    · have e : k = n := by omega
      obtain ⟨f1, f2⟩ := hF e
      exact kk A2 _ x3 hE f1 f2 hx3
    · have hkn : k < n := by omega
      obtain ⟨i1, i2⟩ := hI hkn
      have ex : x = ((n - 1 - k : Nat) : Int) := by omega
      have st3 : ∀ y : Int, mj_ok [some (.inr (.inl (some 93))), some (.inl x1), some (.inl (iZ (y))), x3] 3 = true := fun y => by
        cases x3 with
        | none => rfl
        | some y =>
          obtain ⟨w, rfl⟩ := hx3 y rfl
          rfl
      refine zq_iconst d69_67 ?_
      refine mq_istore_n d69_68 rfl (Nat.le_of_ble_eq_true rfl) (st3 _) ?_
      rw [ex]
      refine mt2 (A := A2) (z := jT n m fr to th w (dpV pr) k) L (tgM_eo hG (fun c h1 h2 => hE c (by simp; omega))) ht (fun u hu => by rw [hE 119 rfl]; exact h119 u hu) (show n - 1 - k < 12 by omega) (fun A3 y3 e3 h3 c3 => ?_) (n + 1) 0 A2 (by omega) (by omega) eo_refl i1 i2
      have eJ : jDq n m fr to th w pr (n - 1 - k) (jT n m fr to th w (dpV pr) k) n = jT n m fr to th w (dpV pr) (k + 1) := rfl
      rw [eJ] at h3 c3
      refine zq_iinc d69_98 rfl rfl ?_
      refine mq_goto (tgt := 63) d69_101 (by decide) ?_
      refine mt3 L hG ht h119 hn1 kk j (k + 1) A3 _ _ (by omega) hkn (by omega) (fun y e => ⟨_, (Option.some.inj e).symm⟩) (eo_trans hE e3) (fun h => ?_) (fun h => ?_)
      · have e1 : n - 1 - k = (n - 1 - (k + 1)) + 1 := by omega
        rw [e1] at h3 c3
        refine ⟨ptI_up ht.2.1 h3, fun u hu => ?_⟩
        obtain ⟨c1, c2, c4⟩ := c3 u hu
        refine ⟨c1, fun du => c2 ?_, fun du => c4 (fun y => du ?_)⟩
        · unfold dnA at *
          omega
        · unfold dnA at *
          omega
      · have e1 : n - 1 - k = 0 := by omega
        rw [e1, h] at h3 c3
        exact ⟨h3, fun u hu => (c3 u hu).1⟩
set_option maxRecDepth 100000 in
theorem mt4 (L : Lay K ρ) (hn : n ≤ 12) (h0 : A 93 0 = (n : Nat)) (rT : ∀ u, u < n → -4 ≤ A 121 u ∧ A 121 u ≤ 300) {b : Nat} (hb : b < n) (kk : ∀ v, (∀ u, u < n → v ≤ A 121 u) → (∃ u, u < n ∧ v = A 121 u) → post (some (.inl (iZ (A 121 b - v)))) (123, K, zs (A), ρ)) : ∀ (j i : Nat) (v : Int), n - i < j → i ≤ n → (∀ u, u < i → v ≤ A 121 u) → (∃ u, u < n ∧ v = A 121 u) → (-4 ≤ v ∧ v ≤ 300) → mj_W (mj_lv (d + 3)) prog_11_method_45_code 9 1 0 0 post 113 [some (.inr (.inl (some 93))), some (.inl (iZ ((b : Nat)))), some (.inl (iZ (v))), some (.inl (iZ ((i : Nat))))] [] (123, K, zs (A), ρ) 0 0
  | 0, i, _, hj, _, _, _, _ => absurd hj (by omega)
  | j + 1, i, v, hj, hi, h1, h2, rv => by
    refine mq_iload_n d69_113 rfl rfl ?_
    refine mq_aload_n d69_114 rfl rfl ?_
    refine zg_getIe L ((n : Nat)) d69_115 rfl rfl (by decide) rfl (h0) ?_
    refine zq_icmp_ge (tgt := 148) d69_118 (by decide) (by omega) (by omega) (fun g1 => ?_) (fun g1 => ?_)
    · have e : i = n := by omega
      subst e
      refine mq_aload_n d69_148 rfl rfl ?_
      refine zg_getR L 121 d69_149 rfl rfl (by decide) rfl (by decide) rfl ?_
      refine mq_iload_n d69_152 rfl rfl ?_
      refine zg_ialdN L d69_153 (by decide) rfl (by omega) ?_
      refine mq_iload_n d69_154 rfl rfl ?_
      refine zq_isub d69_155 ?_
      refine zg_reti d69_156 rfl ?_
      exact kk v h1 h2
    · have hin : i < n := by omega
      have r := rT i hin
      refine mq_aload_n d69_121 rfl rfl ?_
      refine zg_getR L 121 d69_122 rfl rfl (by decide) rfl (by decide) rfl ?_
      refine mq_iload_n d69_125 rfl rfl ?_
      refine zg_ialdN L d69_126 (by decide) rfl (by omega) ?_
      refine mq_iload_n d69_127 rfl rfl ?_
      refine zq_icmp_ge (tgt := 140) d69_128 (by decide) (by omega) (by omega) (fun g2 => ?_) (fun g2 => ?_)
      · refine mq_iload_n d69_140 rfl rfl ?_
        refine mq_istore_n d69_141 rfl (Nat.le_of_ble_eq_true rfl) rfl ?_
        refine zq_iinc d69_142 rfl rfl ?_
        refine mq_goto (tgt := 113) d69_145 (by decide) ?_
        refine mt4 L hn h0 rT hb kk j (i + 1) v (by omega) (by omega) (fun u hu => ?_) h2 rv
        by_cases e : u = i
        · rw [e]
          exact g2
        · exact h1 u (by omega)
      · refine mq_aload_n d69_131 rfl rfl ?_
        refine zg_getR L 121 d69_132 rfl rfl (by decide) rfl (by decide) rfl ?_
        refine mq_iload_n d69_135 rfl rfl ?_
        refine zg_ialdN L d69_136 (by decide) rfl (by omega) ?_
        refine mq_goto (tgt := 141) d69_137 (by decide) ?_
        refine mq_istore_n d69_141 rfl (Nat.le_of_ble_eq_true rfl) rfl ?_
        refine zq_iinc d69_142 rfl rfl ?_
        refine mq_goto (tgt := 113) d69_145 (by decide) ?_
        refine mt4 L hn h0 rT hb kk j (i + 1) _ (by omega) (by omega) (fun u hu => ?_) ⟨i, hin, rfl⟩ r
        by_cases e : u = i
        · rw [e]
          exact Int.le_refl _
        · have := h1 u (by omega)
          omega
set_option maxRecDepth 100000 in
theorem s_mtidy (L : Lay K ρ) (hG : tgM A n m fr to th w) (ht : trOK n m fr to th w pr pos) (h119 : ∀ u, u < n → A 119 u = (dpV pr u : Nat)) {b : Nat} (hb : b < n) (kk : ∀ A2, eo [120, 121] A A2 → post (some (.inl (iZ (tdV n m fr to th w pr b)))) (123, K, zs (A2), ρ)) : mj_W (mj_lv (d + 3)) prog_11_method_45_code 9 1 0 0 post 24 [some (.inr (.inl (some 93))), some (.inl (iZ ((b : Nat)))), none, none] [] (123, K, zs (A), ρ) 0 0 := by
  obtain ⟨q1, q2, q3, q4, q5, q6⟩ := id hG
  have h119' : ∀ u, u < n → A 119 u = (dpV pr u : Nat) ∧ dpV pr u < 12 := fun u hu => ⟨h119 u hu, by have := dpV_lt ht.2.1 hu; omega⟩
  refine zq_iconst d69_24 ?_
  refine mq_istore_n d69_25 rfl (Nat.le_of_ble_eq_true rfl) rfl ?_
  refine mt1 L hG (fun A2 e2 h2 => ?_) (n + 1) 0 A (by omega) (by omega) eo_refl (fun u hu => absurd hu (by omega))
  have G2 := tgM_eo hG (B := A2) (fun c h1 h2 => e2 c (by simp; omega))
  refine mq_aload_n d69_56 rfl rfl ?_
  refine zg_getIe L ((n : Nat)) d69_57 rfl rfl (by decide) rfl (G2.1) ?_
  refine zq_iconst d69_60 ?_
  refine zq_isub d69_61 ?_
  refine mq_istore_n d69_62 rfl (Nat.le_of_ble_eq_true rfl) rfl ?_
  refine mt3 (A := A2) L G2 ht (fun u hu => by rw [e2 119 rfl]; exact h119' u hu) (by omega) (fun A3 y2 y3 e3 hpt hT hy3 => ?_) (n + 1) 0 A2 _ _ (by omega) (by omega) (by omega) (fun y e => absurd e (by simp)) eo_refl (fun _ => ⟨ptI_0 ht.2.1 (fun _ _ => rfl), fun u hu => ?_⟩) (fun e => by omega)
  · have rT := ptI_end ht hpt
    have rA : ∀ u, u < n → -4 ≤ A3 121 u ∧ A3 121 u ≤ 300 := fun u hu => by rw [hT u hu]; exact rT u hu
    have st3 : ∀ y : Int, mj_ok [some (.inr (.inl (some 93))), some (.inl (iZ ((b : Nat)))), some (.inl (iZ (y))), y3] 3 = true := fun y => by
      cases y3 with
      | none => rfl
      | some y =>
        obtain ⟨w, rfl⟩ := hy3 y rfl
        rfl
    refine mq_aload_n d69_104 rfl rfl ?_
    refine zg_getR L 121 d69_105 rfl rfl (by decide) rfl (by decide) rfl ?_
    refine zq_iconst d69_108 ?_
    refine zg_iald L d69_109 (by decide) rfl (by omega) ?_
    refine mq_istore_n d69_110 rfl (Nat.le_of_ble_eq_true rfl) rfl ?_
    refine zq_iconst d69_111 ?_
    refine mq_istore_n d69_112 rfl (Nat.le_of_ble_eq_true rfl) (st3 _) ?_
    refine mt4 (A := A3) L q3 (by rw [e3 93 rfl]; exact G2.1) rA hb (fun v h1 h2 => ?_) (n + 1) 0 (A3 121 (Int.toNat 0)) (by omega) (by omega) (fun u hu => absurd hu (by omega)) ⟨0, by omega, rfl⟩ (rA _ (by show 0 < n; omega))
    have hr : rmX n w (dpV pr) (jT n m fr to th w (dpV pr) n).1 0 (2 ^ n - 1) (-v) := by
      refine ⟨fun u hu _ => ?_, fun a b _ _ q => absurd q (by rw [sB_0]; decide), Or.inl ?_⟩
      · have := h1 u hu
        rw [hT u hu] at this
        omega
      · obtain ⟨u, u1, u2⟩ := h2
        rw [hT u u1] at u2
        exact ⟨u, u1, sB_all.mpr u1, by rw [u2]⟩
    have eV : tdV n m fr to th w pr b = A3 121 b - v := by
      unfold tdV
      rw [rmV_eq hr, hT b hb]
      omega
    have := kk A3 (eo_trans e2 e3)
    rw [eV] at this
    exact this
  · obtain ⟨a1, a2⟩ := h2 u hu
    refine ⟨a1, fun du => ?_, fun _ => a2⟩
    exfalso
    have := dpV_lt ht.2.1 hu
    unfold dnA at du
    omega
end td
end sp_ti
