section sp_ms
variable {d : Nat} {post : Option mj_V → mj_H → Prop} {K : Nat → Nat × Nat} {ρ : Nat → Nat → Option Nat} {A : Nat → Nat → Int} {Q : Nat → Int → Prop} {sz : Nat → Nat} {h N : Nat} {g pu pd own oth : Nat → Nat} {ab : Int}
/-- which way the model looks -/
def abO (ab : Int) (own oth pu pd : Nat → Nat) : Prop := (ab = 1 ∧ own = pd ∧ oth = pu) ∨ (ab = 0 ∧ own = pu ∧ oth = pd)
set_option maxRecDepth 100000 in
theorem mt_1 (L : Lay K ρ) (hp : pcM A N g pu pd) (h84 : N ≤ 84) (ha : abO ab own oth pu pd) {s : Nat → Int} (hs : ∀ p, p < N → A 113 (oth p) = s (oth p)) {l k x : Nat} (hx : x < 72)
    (kk : ∀ A2 x6, eo [116, 117] A A2 → (∀ y, y ≠ x → A2 116 y = A 116 y ∧ A2 117 y = A 117 y) → A2 116 x = cnt (fun p => if own p = x then s (oth p) else 0) N → A2 117 x = mdN own N x → (∀ y, x6 = some y → ∃ w, y = .inl w) → mj_W (mj_lv d) prog_11_method_28_code 9 0 0 0 post 136 [some (.inr (.inl (some 93))), some (.inl (iZ ((l : Nat)))), some (.inl (iZ (ab))), some (.inl (iZ ((k : Nat)))), some (.inl (iZ ((x : Nat)))), some (.inl (iZ ((N : Nat)))), x6] [] (123, K, zs (A2), ρ) 0 0) : ∀ (j p : Nat) (A2 : Nat → Nat → Int) (x6 : Option mj_V), N - p < j → p ≤ N → (∀ y, x6 = some y → ∃ w, y = .inl w) → eo [116, 117] A A2 → (∀ y, y ≠ x → A2 116 y = A 116 y ∧ A2 117 y = A 117 y) → A2 116 x = cnt (fun p => if own p = x then s (oth p) else 0) p → A2 117 x = mdN own p x → mj_W (mj_lv d) prog_11_method_28_code 9 0 0 0 post 44 [some (.inr (.inl (some 93))), some (.inl (iZ ((l : Nat)))), some (.inl (iZ (ab))), some (.inl (iZ ((k : Nat)))), some (.inl (iZ ((x : Nat)))), some (.inl (iZ ((p : Nat)))), x6] [] (123, K, zs (A2), ρ) 0 0
  | 0, p, _, _, hj, _, _, _, _, _, _ => absurd hj (by omega)
  | j + 1, p, A2, x6, hj, hpN, hx6, hE, hO, h116, h117 => by
    obtain ⟨h22, hP⟩ := id hp
    refine mq_iload d52_44 rfl ?_
    refine mq_aload_n d52_46 rfl rfl ?_
    refine zg_getIe L ((N : Nat)) d52_47 rfl rfl (by decide) rfl ((by rw [hE 93 rfl]; exact h22)) ?_
    refine zq_icmp_ge (tgt := 136) d52_50 (by decide) (by omega) (by omega) (fun g1 => ?_) (fun g1 => ?_)
    · have e : p = N := by omega
      subst e
      exact kk A2 x6 hE hO h116 h117 hx6
    · have hpl : p < N := by omega
      obtain ⟨p1, p2, p3, p4, p5, p6⟩ := hP p hpl
      have a1 : A2 109 p = (pu p : Nat) := by rw [hE 109 rfl]; exact p1
      have a2 : A2 110 p = (pd p : Nat) := by rw [hE 110 rfl]; exact p2
      have o72 : own p < 72 ∧ oth p < 72 := by
        rcases ha with ⟨-, e1, e2⟩ | ⟨-, e1, e2⟩ <;> rw [e1, e2] <;> omega
      have st6 : mj_ok [some (.inr (.inl (some 93))), some (.inl (iZ ((l : Nat)))), some (.inl (iZ (ab))), some (.inl (iZ ((k : Nat)))), some (.inl (iZ ((x : Nat)))), some (.inl (iZ ((p : Nat)))), x6] 6 = true := by
        cases x6 with
        | none => rfl
        | some y =>
          obtain ⟨w, rfl⟩ := hx6 y rfl
          rfl
      have eS : cnt (fun p => if own p = x then s (oth p) else 0) (p + 1) = cnt (fun p => if own p = x then s (oth p) else 0) p + (if own p = x then s (oth p) else 0) := rfl
      have eN : mdN own (p + 1) x = mdN own p x + (if own p = x then 1 else 0) := rfl
      have ab1 : -2147483648 ≤ ab ∧ ab < 2147483648 := by
        rcases ha with ⟨e, -⟩ | ⟨e, -⟩ <;> omega
      -- behind own
      have go : mj_W (mj_lv d) prog_11_method_28_code 9 0 0 0 post 76 [some (.inr (.inl (some 93))), some (.inl (iZ ((l : Nat)))), some (.inl (iZ (ab))), some (.inl (iZ ((k : Nat)))), some (.inl (iZ ((x : Nat)))), some (.inl (iZ ((p : Nat)))), some (.inl (iZ ((own p : Nat))))] [] (123, K, zs (A2), ρ) 0 0 := by
        refine mq_iload d52_76 rfl ?_
        refine mq_iload d52_78 rfl ?_
        refine zq_icmp_ne (tgt := 130) d52_80 (by decide) (by omega) (by omega) (fun g2 => ?_) (fun g2 => ?_)
        · refine zq_iinc d52_130 rfl rfl ?_
          refine mq_goto (tgt := 44) d52_133 (by decide) ?_
          refine mt_1 L hp h84 ha hs hx kk j (p + 1) A2 _ (by omega) (by omega) (fun y e => ⟨_, (Option.some.inj e).symm⟩) hE hO ?_ ?_
          · rw [eS, if_neg (by omega), h116]
            omega
          · rw [eN, if_neg (by omega), h117]
            omega
        · have e1 : own p = x := by omega
          have fin : mj_W (mj_lv d) prog_11_method_28_code 9 0 0 0 post 116 [some (.inr (.inl (some 93))), some (.inl (iZ ((l : Nat)))), some (.inl (iZ (ab))), some (.inl (iZ ((k : Nat)))), some (.inl (iZ ((x : Nat)))), some (.inl (iZ ((p : Nat)))), some (.inl (iZ ((own p : Nat))))] [.inl (iZ (oth p : Nat)), .inr (.inl (some 113)), .inl (iZ (A2 116 x)), .inl (iZ (x : Nat)), .inr (.inl (some 116))] (123, K, zs (A2), ρ) 0 0 := by
            refine zr_ialdV L (s (oth p)) d52_116 (by decide) rfl (by omega) ((by rw [hE 113 rfl]; exact hs p hpl)) ?_
            refine zq_iadd d52_117 ?_
            refine zg_iastN L d52_118 (by decide) rfl (by omega) ?_
            refine mq_aload_n d52_119 rfl rfl ?_
            refine zg_getR L 117 d52_120 rfl rfl (by decide) rfl (by decide) rfl ?_
            refine mq_iload d52_123 rfl ?_
            refine mq_dup2 d52_125 rfl rfl ?_
            refine zg_ialdN L d52_126 (by decide) rfl (by omega) ?_
            refine zq_iconst d52_127 ?_
            refine zq_iadd d52_128 ?_
            refine zg_iastN L d52_129 (by decide) rfl (by omega) ?_
            refine zq_iinc d52_130 rfl rfl ?_
            refine mq_goto (tgt := 44) d52_133 (by decide) ?_
            refine mt_1 L hp h84 ha hs hx kk j (p + 1) _ _ (by omega) (by omega) (fun y e => ⟨_, (Option.some.inj e).symm⟩) (eo_u2 rfl (eo_u2 rfl hE)) (fun y hy => ?_) ?_ ?_
            · rw [u2_c (by decide), u2_k hy, u2_k hy, u2_c (by decide)]
              exact hO y hy
            · rw [eS, if_pos e1, u2_c (by decide), u2_self, h116]
            · rw [eN, if_pos e1, u2_self, u2_c (by decide), h117]
          refine mq_aload_n d52_83 rfl rfl ?_
          refine zg_getR L 116 d52_84 rfl rfl (by decide) rfl (by decide) rfl ?_
          refine mq_iload d52_87 rfl ?_
          refine mq_dup2 d52_89 rfl rfl ?_
          refine zg_ialdN L d52_90 (by decide) rfl (by omega) ?_
          refine mq_aload_n d52_91 rfl rfl ?_
          refine zg_getR L 113 d52_92 rfl rfl (by decide) rfl (by decide) rfl ?_
          refine mq_iload_n d52_95 rfl rfl ?_
          refine zq_if_eq (tgt := 109) d52_96 (by decide) (by omega) (fun g3 => ?_) (fun g3 => ?_)
          · have : oth = pd := by
              rcases ha with ⟨e, -, -⟩ | ⟨-, -, e⟩
              · omega
              · exact e
            rw [this] at fin
            refine mq_aload_n d52_109 rfl rfl ?_
            refine zg_getR L 110 d52_110 rfl rfl (by decide) rfl (by decide) rfl ?_
            refine mq_iload d52_113 rfl ?_
            refine zr_ialdV L ((pd p : Nat)) d52_115 (by decide) rfl (by omega) (a2) ?_
            exact fin
          · have : oth = pu := by
              rcases ha with ⟨-, -, e⟩ | ⟨e, -, -⟩
              · exact e
              · exact absurd e g3
            rw [this] at fin
            refine mq_aload_n d52_99 rfl rfl ?_
            refine zg_getR L 109 d52_100 rfl rfl (by decide) rfl (by decide) rfl ?_
            refine mq_iload d52_103 rfl ?_
            refine zr_ialdV L ((pu p : Nat)) d52_105 (by decide) rfl (by omega) (a1) ?_
            refine mq_goto (tgt := 116) d52_106 (by decide) ?_
            exact fin
      refine mq_iload_n d52_53 rfl rfl ?_
      refine zq_if_eq (tgt := 67) d52_54 (by decide) (by omega) (fun g2 => ?_) (fun g2 => ?_)
      · have : own = pu := by
          rcases ha with ⟨e, -, -⟩ | ⟨-, e, -⟩
          · omega
          · exact e
        rw [this] at go
        refine mq_aload_n d52_67 rfl rfl ?_
        refine zg_getR L 109 d52_68 rfl rfl (by decide) rfl (by decide) rfl ?_
        refine mq_iload d52_71 rfl ?_
        refine zr_ialdV L ((pu p : Nat)) d52_73 (by decide) rfl (by omega) (a1) ?_
        refine mq_istore d52_74 (Nat.le_of_ble_eq_true rfl) st6 ?_
        exact go
      · have : own = pd := by
          rcases ha with ⟨-, e, -⟩ | ⟨e, -, -⟩
          · exact e
          · exact absurd e g2
        rw [this] at go
        refine mq_aload_n d52_57 rfl rfl ?_
        refine zg_getR L 110 d52_58 rfl rfl (by decide) rfl (by decide) rfl ?_
        refine mq_iload d52_61 rfl ?_
        refine zr_ialdV L ((pd p : Nat)) d52_63 (by decide) rfl (by omega) (a2) ?_
        refine mq_goto (tgt := 74) d52_64 (by decide) ?_
        refine mq_istore d52_74 (Nat.le_of_ble_eq_true rfl) st6 ?_
        exact go
/-- sums of the first k items of a row -/
def mtI (A : Nat → Nat → Int) (own oth : Nat → Nat) (s : Nat → Int) (N : Nat) (f : Nat → Int) (k : Nat) (A2 : Nat → Nat → Int) : Prop := eo [116, 117] A A2 ∧ ∀ j, j < k → A2 116 (f j).toNat = mdS own oth s N (f j).toNat ∧ A2 117 (f j).toNat = mdC own N (f j).toNat
set_option maxRecDepth 100000 in
theorem mt_2 (L : Lay K ρ) (hp : pcM A N g pu pd) (h84 : N ≤ 84) (ha : abO ab own oth pu pd) {s : Nat → Int} (hs : ∀ p, p < N → A 113 (oth p) = s (oth p)) {l n : Nat} (hl : l < 12) (h112 : A 112 l = (n : Nat)) (hn : n ≤ 36) {f : Nat → Int} (hf : ∀ j, j < n → A 111 (80 * l + j) = f j ∧ 0 ≤ f j ∧ f j < 72) (hinj : ∀ i j, i < n → j < n → (f i).toNat = (f j).toNat → i = j) (hsf : ∀ j, j < n → s (f j).toNat = (j : Nat))
    (kk : ∀ A2 x4 x5 x6, mtI A own oth s N f n A2 → (∀ y, x4 = some y → ∃ w, y = .inl w) → (∀ y, x5 = some y → ∃ w, y = .inl w) → mj_W (mj_lv d) prog_11_method_28_code 9 0 0 0 post 168 [some (.inr (.inl (some 93))), some (.inl (iZ ((l : Nat)))), some (.inl (iZ (ab))), some (.inl (iZ ((n : Nat)))), x4, x5, x6] [] (123, K, zs (A2), ρ) 0 0) : ∀ (j k : Nat) (A2 : Nat → Nat → Int) (x4 x5 x6 : Option mj_V), n - k < j → k ≤ n → (∀ y, x4 = some y → ∃ w, y = .inl w) → (∀ y, x5 = some y → ∃ w, y = .inl w) → (∀ y, x6 = some y → ∃ w, y = .inl w) → mtI A own oth s N f k A2 → mj_W (mj_lv d) prog_11_method_28_code 9 0 0 0 post 2 [some (.inr (.inl (some 93))), some (.inl (iZ ((l : Nat)))), some (.inl (iZ (ab))), some (.inl (iZ ((k : Nat)))), x4, x5, x6] [] (123, K, zs (A2), ρ) 0 0
  | 0, k, _, _, _, _, hj, _, _, _, _, _ => absurd hj (by omega)
  | j + 1, k, A2, x4, x5, x6, hj, hk, hx4, hx5, hx6, hI => by
    obtain ⟨hE, hv⟩ := id hI
    refine mq_iload_n d52_2 rfl rfl ?_
    refine mq_aload_n d52_3 rfl rfl ?_
    refine zg_getR L 112 d52_4 rfl rfl (by decide) rfl (by decide) rfl ?_
    refine mq_iload_n d52_7 rfl rfl ?_
    refine zr_ialdV L ((n : Nat)) d52_8 (by decide) rfl (by omega) ((by rw [hE 112 rfl]; exact h112)) ?_
    refine zq_icmp_ge (tgt := 168) d52_9 (by decide) (by omega) (by omega) (fun g1 => ?_) (fun g1 => ?_)
    · have e : k = n := by omega
      subst e
      exact kk A2 x4 x5 x6 hI hx4 hx5
    · have hkn : k < n := by omega
      obtain ⟨f1, f2, f3⟩ := hf k hkn
      obtain ⟨x, hx⟩ : ∃ x : Nat, f k = (x : Nat) := ⟨(f k).toNat, by omega⟩
      have x72 : x < 72 := by omega
      have okL : ∀ (v : Option mj_V), (∀ y, v = some y → ∃ w, y = .inl w) → v = none ∨ ∃ w, v = some (.inl w) := fun v hv => by
        cases v with
        | none => exact Or.inl rfl
        | some y =>
          obtain ⟨w, rfl⟩ := hv y rfl
          exact Or.inr ⟨w, rfl⟩
      have st : ∀ v : Int, mj_ok [some (.inr (.inl (some 93))), some (.inl (iZ ((l : Nat)))), some (.inl (iZ (ab))), some (.inl (iZ ((k : Nat)))), x4, x5, x6] 4 = true ∧ mj_ok [some (.inr (.inl (some 93))), some (.inl (iZ ((l : Nat)))), some (.inl (iZ (ab))), some (.inl (iZ ((k : Nat)))), some (.inl (iZ (v))), x5, x6] 5 = true := fun v => by
        rcases okL x4 hx4 with e | ⟨w, e⟩ <;> rcases okL x5 hx5 with e2 | ⟨w2, e2⟩ <;> rw [e, e2] <;> exact ⟨rfl, rfl⟩
      refine mq_aload_n d52_12 rfl rfl ?_
      refine zg_getR L 111 d52_13 rfl rfl (by decide) rfl (by decide) rfl ?_
      refine zq_bipush d52_16 rfl ?_
      refine mq_iload_n d52_18 rfl rfl ?_
      refine zq_imul d52_19 ?_
      refine mq_iload_n d52_20 rfl rfl ?_
      refine zq_iadd d52_21 ?_
      rw [e80]
      refine zr_ialdV L ((x : Nat)) d52_22 (by decide) rfl (by omega) ((by rw [hE 111 rfl, f1]; exact hx)) ?_
      refine mq_istore d52_23 (Nat.le_of_ble_eq_true rfl) (st 0).1 ?_
      refine mq_aload_n d52_25 rfl rfl ?_
      refine zg_getR L 116 d52_26 rfl rfl (by decide) rfl (by decide) rfl ?_
      refine mq_iload d52_29 rfl ?_
      refine zq_iconst d52_31 ?_
      refine zg_iastN L d52_32 (by decide) rfl (by omega) ?_
      refine mq_aload_n d52_33 rfl rfl ?_
      refine zg_getR L 117 d52_34 rfl rfl (by decide) rfl (by decide) rfl ?_
      refine mq_iload d52_37 rfl ?_
      refine zq_iconst d52_39 ?_
      refine zg_iastN L d52_40 (by decide) rfl (by omega) ?_
      refine zq_iconst d52_41 ?_
      refine mq_istore d52_42 (Nat.le_of_ble_eq_true rfl) (st _).2 ?_
      obtain ⟨B, hB⟩ : ∃ B, B = mj_u2 (mj_u2 A2 116 x 0) 117 x 0 := ⟨_, rfl⟩
      have eB : eo [116, 117] A B := by rw [hB]; exact eo_u2 rfl (eo_u2 rfl hE)
      have nx : ∀ i, i < k → (f i).toNat ≠ x := fun i hi e => by
        have := hinj i k (by omega) hkn (by rw [e]; omega)
        omega
      have hpB : pcM B N g pu pd := by
        unfold pcM
        rw [eB 93 rfl, eB 109 rfl, eB 110 rfl, eB 106 rfl]
        exact hp
      have m0 := mdN_nn (pd := own) (N := N) (x := x)
      have m1 := mdN_le (pd := own) (N := N) (x := x)
      have sk := hsf k hkn
      rw [hx, Int.toNat_natCast] at sk
      have fin := mt_1 (A := B) (d := d) (post := post) (k := k) (l := l) L hpB h84 ha (s := s) (fun p hp2 => by rw [eB 113 rfl]; exact hs p hp2) x72 (fun A3 y6 e3 o3 v1 v2 hy6 => by
        have nextv : ∀ C, eo [116, 117] A C → (∀ y, y ≠ x → C 116 y = B 116 y ∧ C 117 y = B 117 y) → C 116 x = mdS own oth s N x → C 117 x = mdC own N x → mtI A own oth s N f (k + 1) C := fun C eC oC c1 c2 => by
          refine ⟨eC, fun i hi => ?_⟩
          by_cases y : i = k
          · rw [y, hx, Int.toNat_natCast]
            exact ⟨c1, c2⟩
          · have n1 := nx i (by omega)
            obtain ⟨q1, q2⟩ := oC _ n1
            rw [q1, q2, hB, u2_c (by decide), u2_k n1, u2_k n1, u2_c (by decide)]
            exact hv i (by omega)
        refine mq_aload_n d52_136 rfl rfl ?_
        refine zg_getR L 117 d52_137 rfl rfl (by decide) rfl (by decide) rfl ?_
        refine mq_iload d52_140 rfl ?_
        refine zr_ialdV L (mdN own N x) d52_142 (by decide) rfl (by omega) (v2) ?_
        refine zq_if_ne (tgt := 162) d52_143 (by decide) (by omega) (fun g2 => ?_) (fun g2 => ?_)
        · refine zq_iinc d52_162 rfl rfl ?_
          refine mq_goto (tgt := 2) d52_165 (by decide) ?_
          refine mt_2 L hp h84 ha hs hl h112 hn hf hinj hsf kk j (k + 1) A3 _ _ _ (by omega) (by omega) (fun y e => ⟨_, (Option.some.inj e).symm⟩) (fun y e => ⟨_, (Option.some.inj e).symm⟩) hy6 (nextv A3 (eo_trans eB e3) o3 ?_ ?_)
          · unfold mdS
            rw [if_neg g2]
            exact v1
          · unfold mdC
            rw [if_neg g2]
            exact v2
        · refine mq_aload_n d52_146 rfl rfl ?_
          refine zg_getR L 116 d52_147 rfl rfl (by decide) rfl (by decide) rfl ?_
          refine mq_iload d52_150 rfl ?_
          refine mq_iload_n d52_152 rfl rfl ?_
          refine zg_iastN L d52_153 (by decide) rfl (by omega) ?_
          refine mq_aload_n d52_154 rfl rfl ?_
          refine zg_getR L 117 d52_155 rfl rfl (by decide) rfl (by decide) rfl ?_
          refine mq_iload d52_158 rfl ?_
          refine zq_iconst d52_160 ?_
          refine zg_iastN L d52_161 (by decide) rfl (by omega) ?_
          refine zq_iinc d52_162 rfl rfl ?_
          refine mq_goto (tgt := 2) d52_165 (by decide) ?_
          refine mt_2 L hp h84 ha hs hl h112 hn hf hinj hsf kk j (k + 1) _ _ _ _ (by omega) (by omega) (fun y e => ⟨_, (Option.some.inj e).symm⟩) (fun y e => ⟨_, (Option.some.inj e).symm⟩) hy6 (nextv _ (eo_u2 rfl (eo_u2 rfl (eo_trans eB e3))) (fun y hy => ?_) ?_ ?_)
          · rw [u2_c (by decide), u2_k hy, u2_k hy, u2_c (by decide)]
            exact o3 y hy
          · unfold mdS
            rw [if_pos g2, u2_c (by decide), u2_self, sk]
          · unfold mdC
            rw [if_pos g2, u2_self]) (N + 1) 0 B x6 (by omega) (by omega) hx6 eo_refl (fun y _ => ⟨rfl, rfl⟩) (by rw [hB, u2_c (by decide), u2_self]; rfl) (by rw [hB, u2_self]; rfl)
      rw [hB] at fin
      exact fin
/-- what the model's sums say -/
def fcM (A : Nat → Nat → Int) (SS CC : Nat → Int) (P : Int → Prop) : Prop := ∀ x, P x → (0 ≤ x ∧ x < 72) ∧ (A 116 x.toNat = SS x.toNat ∧ A 117 x.toNat = CC x.toNat) ∧ (0 ≤ SS x.toNat ∧ SS x.toNat ≤ 10000) ∧ (0 ≤ CC x.toNat ∧ CC x.toNat ≤ 1000)
/-- the row of layer l alone changes -/
def rwE (A : Nat → Nat → Int) (l n : Nat) (A2 : Nat → Nat → Int) : Prop := eo [111] A A2 ∧ ∀ q, ¬ (80 * l ≤ q ∧ q < 80 * l + n) → A2 111 q = A 111 q
theorem rwE_u2 {l n i : Nat} {A2 : Nat → Nat → Int} {v : Int} (h : rwE A l n A2) (hi : i < n) : rwE A l n (mj_u2 A2 111 (80 * l + i) v) := ⟨eo_u2 rfl h.1, fun q hq => by rw [u2_k (by omega)]; exact h.2 q hq⟩
set_option maxRecDepth 100000 in
theorem mo_w (L : Lay K ρ) {l n i : Nat} (hl : l < 12) (hn : n ≤ 36) (hin : i < n) {SS CC : Nat → Int} {P : Int → Prop} (hF : fcM A SS CC P) {x : Nat} (hx : P (x : Nat)) (G : Nat → Int) {x6 : Option mj_V}
    (kk : ∀ A2 x5, rwE A l n A2 → (∀ j, j < n → A2 111 (80 * l + j) = G j) → mj_W (mj_lv (d + 1)) prog_11_method_28_code 9 0 0 0 post 304 [some (.inr (.inl (some 93))), some (.inl (iZ ((l : Nat)))), some (.inl (iZ (ab))), some (.inl (iZ ((i : Nat)))), some (.inl (iZ ((x : Nat)))), some (.inl x5), x6] [] (123, K, zs (A2), ρ) 0 0) : ∀ (k : Nat) (A2 : Nat → Nat → Int) (g : Nat → Int), k ≤ i → rwE A l n A2 → (∀ j, j < n → A2 111 (80 * l + j) = g j) → (∀ j, j < n → P (g j)) → (∀ j, j < n → shf (ltF SS CC) (x : Nat) k g j = G j) → mj_W (mj_lv (d + 1)) prog_11_method_28_code 9 0 0 0 post 196 [some (.inr (.inl (some 93))), some (.inl (iZ ((l : Nat)))), some (.inl (iZ (ab))), some (.inl (iZ ((i : Nat)))), some (.inl (iZ ((x : Nat)))), some (.inl (iZ ((k : Nat)))), x6] [] (123, K, zs (A2), ρ) 0 0
  | 0, A2, g, hk, hE, hg, hP, hG => by
    have hxr := (hF _ hx).1
    refine mq_iload d52_196 rfl ?_
    refine zq_if_le (tgt := 290) d52_198 (by decide) (by omega) (fun g1 => ?_) (fun g1 => ?_)
    · refine mq_aload_n d52_290 rfl rfl ?_
      refine zg_getR L 111 d52_291 rfl rfl (by decide) rfl (by decide) rfl ?_
      refine zq_bipush d52_294 rfl ?_
      refine mq_iload_n d52_296 rfl rfl ?_
      refine zq_imul d52_297 ?_
      refine mq_iload d52_298 rfl ?_
      refine zq_iadd d52_300 ?_
      rw [e80]
      refine mq_iload d52_301 rfl ?_
      refine zg_iastN L d52_303 (by decide) rfl (by omega) ?_
      refine kk _ _ (rwE_u2 hE (by omega)) (fun j hj => ?_)
      rw [u2_upf, ← hG j hj]
      show upf (A2 111) (80 * l + 0) (x : Nat) (80 * l + j) = upf g 0 (x : Nat) j
      unfold upf
      by_cases e : j = 0
      · rw [if_pos (by omega), if_pos e]
      · rw [if_neg (by omega), if_neg e, hg j hj]
    · omega
  | k + 1, A2, g, hk, hE, hg, hP, hG => by
    obtain ⟨hx1, hx2, hx3⟩ := hF _ hx
    rw [Int.toNat_natCast] at hx2 hx3
    have hPk := hP k (by omega)
    obtain ⟨y1, y2, y3⟩ := hF (g k) hPk
    obtain ⟨v, hv⟩ : ∃ v : Nat, g k = (v : Nat) := ⟨(g k).toNat, by omega⟩
    rw [hv, Int.toNat_natCast] at y2 y3
    have e116 : A2 116 = A 116 := hE.1 116 rfl
    have e117 : A2 117 = A 117 := hE.1 117 rfl
    have ek : (80 : Int) * ((l : Nat) : Int) + ((k + 1 : Nat) : Int) - 1 = ((80 * l + k : Nat) : Int) := by omega
    have eS : shf (ltF SS CC) (x : Nat) (k + 1) g = if ltF SS CC (x : Nat) (g k) = true then shf (ltF SS CC) (x : Nat) k (upf g (k + 1) (g k)) else upf g (k + 1) (x : Nat) := rfl
    have eL : ltF SS CC (x : Nat) (g k) = decide (SS x * CC v < SS v * CC x) := by
      unfold ltF
      rw [hv, Int.toNat_natCast, Int.toNat_natCast]
    have gk : A2 111 (80 * l + k) = (v : Nat) := by rw [hg k (by omega)]; exact hv
    have m1 := mul_rng y3.1 hx3.2
    have m2 := mul_rng hx3.1 y3.2
    refine mq_iload d52_196 rfl ?_
    refine zq_if_le (tgt := 290) d52_198 (by decide) (by omega) (fun g1 => ?_) (fun g1 => ?_)
    · omega
    · refine mq_aload_n d52_201 rfl rfl ?_
      refine zg_getR L 116 d52_202 rfl rfl (by decide) rfl (by decide) rfl ?_
      refine mq_aload_n d52_205 rfl rfl ?_
      refine zg_getR L 111 d52_206 rfl rfl (by decide) rfl (by decide) rfl ?_
      refine zq_bipush d52_209 rfl ?_
      refine mq_iload_n d52_211 rfl rfl ?_
      refine zq_imul d52_212 ?_
      refine mq_iload d52_213 rfl ?_
      refine zq_iadd d52_215 ?_
      refine zq_iconst d52_216 ?_
      refine zq_isub d52_217 ?_
      rw [ek]
      refine zr_ialdV L ((v : Nat)) d52_218 (by decide) rfl (by omega) (gk) ?_
      refine zr_ialdV L (SS v) d52_219 (by decide) rfl (by omega) ((by rw [e116]; exact y2.1)) ?_
      refine mq_aload_n d52_220 rfl rfl ?_
      refine zg_getR L 117 d52_221 rfl rfl (by decide) rfl (by decide) rfl ?_
      refine mq_iload d52_224 rfl ?_
      refine zr_ialdV L (CC x) d52_226 (by decide) rfl (by omega) ((by rw [e117]; exact hx2.2)) ?_
      refine zq_imul d52_227 ?_
      refine mq_aload_n d52_228 rfl rfl ?_
      refine zg_getR L 116 d52_229 rfl rfl (by decide) rfl (by decide) rfl ?_
      refine mq_iload d52_232 rfl ?_
      refine zr_ialdV L (SS x) d52_234 (by decide) rfl (by omega) ((by rw [e116]; exact hx2.1)) ?_
      refine mq_aload_n d52_235 rfl rfl ?_
      refine zg_getR L 117 d52_236 rfl rfl (by decide) rfl (by decide) rfl ?_
      refine mq_aload_n d52_239 rfl rfl ?_
      refine zg_getR L 111 d52_240 rfl rfl (by decide) rfl (by decide) rfl ?_
      refine zq_bipush d52_243 rfl ?_
      refine mq_iload_n d52_245 rfl rfl ?_
      refine zq_imul d52_246 ?_
      refine mq_iload d52_247 rfl ?_
      refine zq_iadd d52_249 ?_
      refine zq_iconst d52_250 ?_
      refine zq_isub d52_251 ?_
      rw [ek]
      refine zr_ialdV L ((v : Nat)) d52_252 (by decide) rfl (by omega) (gk) ?_
      refine zr_ialdV L (CC v) d52_253 (by decide) rfl (by omega) ((by rw [e117]; exact y2.2)) ?_
      refine zq_imul d52_254 ?_
      refine zq_icmp_le (tgt := 290) d52_255 (by decide) (by omega) (by omega) (fun g2 => ?_) (fun g2 => ?_)
      · refine mq_aload_n d52_290 rfl rfl ?_
        refine zg_getR L 111 d52_291 rfl rfl (by decide) rfl (by decide) rfl ?_
        refine zq_bipush d52_294 rfl ?_
        refine mq_iload_n d52_296 rfl rfl ?_
        refine zq_imul d52_297 ?_
        refine mq_iload d52_298 rfl ?_
        refine zq_iadd d52_300 ?_
        rw [e80]
        refine mq_iload d52_301 rfl ?_
        refine zg_iastN L d52_303 (by decide) rfl (by omega) ?_
        refine kk _ _ (rwE_u2 hE (by omega)) (fun j hj => ?_)
        rw [u2_upf, ← hG j hj, eS, if_neg (by rw [eL]; simp; omega)]
        unfold upf
        by_cases e : j = k + 1
        · rw [if_pos (by omega), if_pos e]
        · rw [if_neg (by omega), if_neg e, hg j hj]
      · refine mq_aload_n d52_258 rfl rfl ?_
        refine zg_getR L 111 d52_259 rfl rfl (by decide) rfl (by decide) rfl ?_
        refine zq_bipush d52_262 rfl ?_
        refine mq_iload_n d52_264 rfl rfl ?_
        refine zq_imul d52_265 ?_
        refine mq_iload d52_266 rfl ?_
        refine zq_iadd d52_268 ?_
        rw [e80]
        refine mq_aload_n d52_269 rfl rfl ?_
        refine zg_getR L 111 d52_270 rfl rfl (by decide) rfl (by decide) rfl ?_
        refine zq_bipush d52_273 rfl ?_
        refine mq_iload_n d52_275 rfl rfl ?_
        refine zq_imul d52_276 ?_
        refine mq_iload d52_277 rfl ?_
        refine zq_iadd d52_279 ?_
        refine zq_iconst d52_280 ?_
        refine zq_isub d52_281 ?_
        rw [ek]
        refine zr_ialdV L ((v : Nat)) d52_282 (by decide) rfl (by omega) (gk) ?_
        refine zg_iastN L d52_283 (by decide) rfl (by omega) ?_
        refine zq_iinc d52_284 rfl rfl ?_
        refine mq_goto (tgt := 196) d52_287 (by decide) ?_
        have e2 : ((k + 1 : Nat) : Int) + -1 = (k : Nat) := by omega
        rw [e2]
        refine mo_w L hl hn hin hF hx G kk k _ (upf g (k + 1) (g k)) (by omega) (rwE_u2 hE (by omega)) (fun j hj => ?_) (fun j hj => ?_) (fun j hj => ?_)
        · rw [u2_upf]
          unfold upf
          by_cases e : j = k + 1
          · rw [if_pos (by omega), if_pos e, hv]
          · rw [if_neg (by omega), if_neg e, hg j hj]
        · unfold upf
          split
          · exact hPk
          · exact hP j hj
        · rw [← hG j hj, eS, if_pos (by rw [eL]; simp; omega)]
set_option maxRecDepth 100000 in
theorem mo_2 (L : Lay K ρ) {l n : Nat} (hl : l < 12) (h112 : A 112 l = (n : Nat)) (hn : n ≤ 36) {SS CC : Nat → Int} {P : Int → Prop} (hF : fcM A SS CC P) {f : Nat → Int} (hf : prw P n f) {x6 : Option mj_V}
    (kk : ∀ A2 A3, rwE A l n A3 → eo [113] A3 A2 → (∀ j, j < n → A2 111 (80 * l + j) = isr (ltF SS CC) (n - 1) f j) → A2 113 = nbr (isr (ltF SS CC) (n - 1) f) (A 113) n → post none (123, K, zs (A2), ρ)) : ∀ (j i : Nat) (A2 : Nat → Nat → Int) (x4 x5 : Option mj_V), n - i < j → 1 ≤ i → (i ≤ n ∨ i = 1) → (∀ y, x4 = some y → ∃ w, y = .inl w) → (∀ y, x5 = some y → ∃ w, y = .inl w) → rwE A l n A2 → (∀ j, j < n → A2 111 (80 * l + j) = isr (ltF SS CC) (i - 1) f j) → mj_W (mj_lv (d + 1)) prog_11_method_28_code 9 0 0 0 post 170 [some (.inr (.inl (some 93))), some (.inl (iZ ((l : Nat)))), some (.inl (iZ (ab))), some (.inl (iZ ((i : Nat)))), x4, x5, x6] [] (123, K, zs (A2), ρ) 0 0
  | 0, i, _, _, _, hj, _, _, _, _, _, _ => absurd hj (by omega)
  | j + 1, i, A2, x4, x5, hj, i1, hi, hx4, hx5, hE, hI => by
    have e112 : A2 112 = A 112 := hE.1 112 rfl
    have hp := isr_prw (lt := ltF SS CC) (k := i - 1) (s := n) (P := P) (f := f) (by omega) hf
    refine mq_iload_n d52_170 rfl rfl ?_
    refine mq_aload_n d52_171 rfl rfl ?_
    refine zg_getR L 112 d52_172 rfl rfl (by decide) rfl (by decide) rfl ?_
    refine mq_iload_n d52_175 rfl rfl ?_
    refine zr_ialdV L ((n : Nat)) d52_176 (by decide) rfl (by omega) ((by rw [e112]; exact h112)) ?_
    refine zq_icmp_ge (tgt := 310) d52_177 (by decide) (by omega) (by omega) (fun g1 => ?_) (fun g1 => ?_)
    · have e : i - 1 = n - 1 := by omega
      rw [e] at hI hp
      refine mq_aload_n d52_310 rfl rfl ?_
      refine mq_iload_n d52_311 rfl rfl ?_
      refine zg_callV (c := 93) L [_] d52_312 rfl rfl ⟨rfl, rfl⟩ rfl ⟨rfl, rfl⟩ ⟨by decide, by decide⟩ (by decide) rfl ?_
      refine s_setSpots L hl (by rw [e112]; exact h112) hn (r := isr (ltF SS CC) (n - 1) f) (fun j hj => ⟨hI j hj, (hF _ (hp.1 j hj)).1⟩) (fun A3 e3 h3 => ?_)
      refine zg_retv d52_315 (by decide) ?_
      refine kk A3 A2 hE e3 (fun j hj => ?_) ?_
      · rw [e3 111 rfl]
        exact hI j hj
      · rw [h3, hE.1 113 rfl]
    · have his : i < n := by omega
      obtain ⟨k, hk⟩ : ∃ k, i = k + 1 := ⟨i - 1, by omega⟩
      subst hk
      rw [Nat.add_sub_cancel] at hI hp
      have hPi := hp.1 (k + 1) his
      have xr := (hF _ hPi).1
      obtain ⟨x, hx⟩ : ∃ x : Nat, isr (ltF SS CC) k f (k + 1) = (x : Nat) := ⟨(isr (ltF SS CC) k f (k + 1)).toNat, by omega⟩
      have okL : ∀ (v : Option mj_V), (∀ y, v = some y → ∃ w, y = .inl w) → v = none ∨ ∃ w, v = some (.inl w) := fun v hv => by
        cases v with
        | none => exact Or.inl rfl
        | some y =>
          obtain ⟨w, rfl⟩ := hv y rfl
          exact Or.inr ⟨w, rfl⟩
      have st : ∀ v : Int, mj_ok [some (.inr (.inl (some 93))), some (.inl (iZ ((l : Nat)))), some (.inl (iZ (ab))), some (.inl (iZ ((k + 1 : Nat)))), x4, x5, x6] 4 = true ∧ mj_ok [some (.inr (.inl (some 93))), some (.inl (iZ ((l : Nat)))), some (.inl (iZ (ab))), some (.inl (iZ ((k + 1 : Nat)))), some (.inl (iZ (v))), x5, x6] 5 = true := fun v => by
        rcases okL x4 hx4 with e | ⟨w, e⟩ <;> rcases okL x5 hx5 with e2 | ⟨w2, e2⟩ <;> rw [e, e2] <;> exact ⟨rfl, rfl⟩
      refine mq_aload_n d52_180 rfl rfl ?_
      refine zg_getR L 111 d52_181 rfl rfl (by decide) rfl (by decide) rfl ?_
      refine zq_bipush d52_184 rfl ?_
      refine mq_iload_n d52_186 rfl rfl ?_
      refine zq_imul d52_187 ?_
      refine mq_iload_n d52_188 rfl rfl ?_
      refine zq_iadd d52_189 ?_
      rw [e80]
      refine zr_ialdV L ((x : Nat)) d52_190 (by decide) rfl (by omega) ((by rw [hI (k + 1) his]; exact hx)) ?_
      refine mq_istore d52_191 (Nat.le_of_ble_eq_true rfl) (st 0).1 ?_
      refine mq_iload_n d52_193 rfl rfl ?_
      refine mq_istore d52_194 (Nat.le_of_ble_eq_true rfl) (st _).2 ?_
      have hFA : fcM A2 SS CC P := by
        intro y hy
        have := hF y hy
        rw [hE.1 116 rfl, hE.1 117 rfl]
        exact this
      rw [hx] at hPi
      refine mo_w (A := A2) L hl hn his hFA hPi (isr (ltF SS CC) (k + 1) f) (fun A3 y5 e3 h3 => ?_) (k + 1) A2 (isr (ltF SS CC) k f) (Nat.le_refl _) ⟨eo_refl, fun _ _ => rfl⟩ hI hp.1 (fun j hj => by rw [← hx]; rfl)
      refine zq_iinc d52_304 rfl rfl ?_
      refine mq_goto (tgt := 170) d52_307 (by decide) ?_
      exact mo_2 L hl h112 hn hF hf kk j (k + 1 + 1) A3 _ _ (by omega) (by omega) (by omega) (fun y e => ⟨_, (Option.some.inj e).symm⟩) (fun y e => ⟨_, (Option.some.inj e).symm⟩) ⟨eo_trans hE.1 e3.1, fun q hq => by rw [e3.2 q hq]; exact hE.2 q hq⟩ h3
/-- the cells that the model's sorting writes -/
def msL : List Nat := [111, 113, 116, 117]
set_option maxRecDepth 100000 in
theorem s_sort (L : Lay K ρ) (hx : cxO Q sz h N g pu pd) (hp : pcM A N g pu pd) {z : wSt} (hz : wok Q sz h z) (hr : roM A Q sz h z) {l : Nat} (hl : l < h) (ha : abO ab own oth pu pd) (ht : ∀ p, p < N → ∃ k, k < h ∧ Q k (oth p : Nat))
    (kk : ∀ A2, eo msL A A2 → roM A2 Q sz h (stp own oth N sz l z) → post none (123, K, zs (A2), ρ)) : mj_lv (d + 2) m_Mod_sort [.inr (.inl (some 93)), .inl (iZ (l : Nat)), .inl (iZ ab)] (123, K, zs (A), ρ) post := by
  obtain ⟨x1, x2, x3, x4, x5, x6, x7⟩ := id hx
  obtain ⟨r1, r2, r3⟩ := id hr
  obtain ⟨⟨p1, p2, p3⟩, p4⟩ := hz l hl
  have s36 := x2 l hl
  have inj : ∀ i j, i < sz l → j < sz l → (z.1 l i).toNat = (z.1 l j).toNat → i = j := fun i j hi hj e => p2 i j hi hj (x5 l l _ _ (p1 i hi) (p1 j hj) e).2
  show mj_W (mj_lv (d + 1)) prog_11_method_28_code 9 0 0 0 post 0 [some (.inr (.inl (some 93))), some (.inl (iZ ((l : Nat)))), some (.inl (iZ (ab))), none, none, none, none] [] (123, K, zs (A), ρ) 0 0
  refine zq_iconst d52_0 ?_
  refine mq_istore_n d52_1 rfl (Nat.le_of_ble_eq_true rfl) rfl ?_
  refine mt_2 (s := z.2) (f := z.1 l) L hp x3 ha (fun p hp2 => by
    obtain ⟨k, k1, k2⟩ := ht p hp2
    exact (roM_at hx hz hr k1 k2).1) (by omega) (r1 l hl) s36 (fun j hj => ⟨r2 l hl j hj, x4 l _ (p1 j hj)⟩) inj p4 (fun A2 y4 y5 y6 hI hy4 hy5 => ?_) (sz l + 1) 0 A _ _ _ (by omega) (by omega) (fun y e => absurd e (by simp)) (fun y e => absurd e (by simp)) (fun y e => absurd e (by simp)) ⟨eo_refl, fun j hj => absurd hj (by omega)⟩
  obtain ⟨hE, hv⟩ := hI
  have hF : fcM A2 (mdS own oth z.2 N) (mdC own N) (Q l) := fun x hq => by
    obtain ⟨b1, b2⟩ := x4 l x hq
    obtain ⟨j, hj, e⟩ := p3 x hq
    have hvj := hv j hj
    rw [e] at hvj
    have n0 := mdN_nn (pd := own) (N := N) (x := x.toNat)
    have n1 := mdN_le (pd := own) (N := N) (x := x.toNat)
    have s0 := sum_rng (pd := own) (x := x.toNat) (f := fun p => z.2 (oth p)) (N := N) (C := 36) (fun p hp2 _ => by
      obtain ⟨k, k1, k2⟩ := ht p hp2
      have := roM_at hx hz hr k1 k2
      rw [← this.1]
      omega)
    have s0' : 0 ≤ cnt (fun p => if own p = x.toNat then z.2 (oth p) else 0) N ∧ cnt (fun p => if own p = x.toNat then z.2 (oth p) else 0) N ≤ 36 * mdN own N x.toNat := s0
    have sx := wok_s hz hl hq
    refine ⟨⟨b1, b2⟩, hvj, ?_, ?_⟩
    · unfold mdS
      split <;> omega
    · unfold mdC
      split <;> omega
  refine zq_iconst d52_168 ?_
  refine mq_istore_n d52_169 rfl (Nat.le_of_ble_eq_true rfl) rfl ?_
  refine mo_2 (A := A2) (d := d) L (by omega) (by rw [hE 112 rfl]; exact r1 l hl) s36 hF (hz l hl).1 (fun A4 A3 e3 e4 h4 h113 => ?_) (sz l + 1) 1 A2 y4 y5 (by omega) (by omega) (by omega) hy4 hy5 ⟨eo_refl, fun _ _ => rfl⟩ (fun j hj => by rw [hE 111 rfl]; exact r2 l hl j hj)
  have c4 : ∀ c, c ≠ 111 → c ≠ 113 → c ≠ 116 → c ≠ 117 → A4 c = A c := fun c q1 q2 q3 q4 => by rw [e4 c (by simp; omega), e3.1 c (by simp; omega), hE c (by simp; omega)]
  refine kk A4 (fun c hc => ?_) ⟨fun k hk => ?_, fun k hk j hj => ?_, fun k hk x hq => ?_⟩
  · simp [msL] at hc
    exact c4 c (by omega) (by omega) (by omega) (by omega)
  · rw [c4 112 (by decide) (by decide) (by decide) (by decide)]
    exact r1 k hk
  · by_cases y : k = l
    · subst y
      rw [h4 j hj]
      have e1 : (stp own oth N sz k z).1 k = isr (mdL own oth z.2 N) (sz k - 1) (z.1 k) := upf_s
      rw [e1]
      rfl
    · have e1 : (stp own oth N sz l z).1 k = z.1 k := upf_n y
      have := x2 k hk
      rw [e1, e4 111 rfl, e3.2 (80 * k + j) (by omega), hE 111 rfl]
      exact r2 k hk j hj
  · rw [h113]
    show _ = nbr (isr (mdL own oth z.2 N) (sz l - 1) (z.1 l)) z.2 (sz l) x
    refine nbr_congr ?_ _
    rw [hE 113 rfl]
    exact r3 k hk x hq
end sp_ms
