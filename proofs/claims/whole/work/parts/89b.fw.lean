section sp_fx
variable {d : Nat} {post : Option mj_V → mj_H → Prop} {K : Nat → Nat × Nat} {ρ : Nat → Nat → Option Nat} {A : Nat → Nat → Int} {Q : Nat → Int → Prop} {sz : Nat → Nat} {h N : Nat} {g pu pd : Nat → Nat} {z : wSt}
theorem oW_tot (h6 : ∀ l, l < h → sz l ≤ 6) : ∀ {l : Nat}, l ≤ h → oW (fun l => pF (sz l)) l = totF sz l
  | 0, _ => rfl
  | l + 1, hl => by
    show oW (fun l => pF (sz l)) l * pF (sz l) = totF sz l * fct (sz l)
    rw [oW_tot h6 (by omega), fct_pF (h6 l (by omega))]
set_option maxRecDepth 100000 in
theorem fw_6 (L : Lay K ρ) {x1 x4 x5 : Int32} {v2 : Int} {x7 : Option mj_V} (kk : ∀ A2, eo [111] A A2 → (∀ q, q < 960 → A2 111 q = A 114 q) → mj_W (mj_lv (d + 3)) prog_11_method_38_code 9 1 0 0 post 216 [some (.inr (.inl (some 93))), some (.inl x1), some (.inr (.inr (lZ v2))), none, some (.inl x4), some (.inl x5), some (.inl (iZ ((960 : Nat)))), x7] [] (123, K, zs (A2), ρ) 0 0) : ∀ (j i : Nat) (A2 : Nat → Nat → Int), 960 - i < j → i ≤ 960 → eo [111] A A2 → (∀ q, q < i → A2 111 q = A 114 q) → mj_W (mj_lv (d + 3)) prog_11_method_38_code 9 1 0 0 post 188 [some (.inr (.inl (some 93))), some (.inl x1), some (.inr (.inr (lZ v2))), none, some (.inl x4), some (.inl x5), some (.inl (iZ ((i : Nat)))), x7] [] (123, K, zs (A2), ρ) 0 0
  | 0, i, _, hj, _, _, _ => absurd hj (by omega)
  | j + 1, i, A2, hj, hi, hE, hI => by
    refine mq_iload d62_188 rfl ?_
    refine zq_sipush d62_190 rfl ?_
    refine zq_icmp_ge (tgt := 216) d62_193 (by decide) (by omega) (by omega) (fun g => ?_) (fun g => ?_)
    · have e : i = 960 := by omega
      subst e
      exact kk A2 hE hI
    · refine mq_aload_n d62_196 rfl rfl ?_
      refine zg_getR L 111 d62_197 rfl rfl (by decide) rfl (by decide) rfl ?_
      refine mq_iload d62_200 rfl ?_
      refine mq_aload_n d62_202 rfl rfl ?_
      refine zg_getR L 114 d62_203 rfl rfl (by decide) rfl (by decide) rfl ?_
      refine mq_iload d62_206 rfl ?_
      refine zr_ialdV L (A 114 i) d62_208 (by decide) rfl (by omega) ((by rw [hE 114 rfl])) ?_
      refine zg_iastN L d62_209 (by decide) rfl (by omega) ?_
      refine zq_iinc d62_210 rfl rfl ?_
      refine mq_goto (tgt := 188) d62_213 (by decide) ?_
      refine fw_6 L kk j (i + 1) _ (by omega) (by omega) (eo_u2 rfl hE) (fun q hq => ?_)
      by_cases e : q = i
      · rw [e, u2_self]
      · rw [u2_k e]
        exact hI q (by omega)
set_option maxRecDepth 100000 in
theorem fw_7 (L : Lay K ρ) (hx : cxO Q sz h N g pu pd) (hz : wok Q sz h z) {v v2 : Int} {x5 : Int32} {x7 : Option mj_V} (kk : ∀ A2, eo [113] A A2 → roM A2 Q sz h z → post (some (.inl (iZ v))) (123, K, zs (A2), ρ)) (h112 : ∀ l, l < h → A 112 l = (sz l : Nat)) (h111 : ∀ l, l < h → ∀ j, j < sz l → A 111 (80 * l + j) = z.1 l j) : ∀ (j k : Nat) (A2 : Nat → Nat → Int), h - k < j → k ≤ h → eo [113] A A2 → (∀ l, l < k → ∀ j, j < sz l → A2 113 (z.1 l j).toNat = (j : Nat)) → mj_W (mj_lv (d + 3)) prog_11_method_38_code 9 1 0 0 post 219 [some (.inr (.inl (some 93))), some (.inl (iZ ((h : Nat)))), some (.inr (.inr (lZ v2))), none, some (.inl (iZ (v))), some (.inl x5), some (.inl (iZ ((k : Nat)))), x7] [] (123, K, zs (A2), ρ) 0 0
  | 0, k, _, hj, _, _, _ => absurd hj (by omega)
  | j + 1, k, A2, hj, hk, hE, hI => by
    obtain ⟨q1, q2, q3, y4, y5, y6, y7⟩ := id hx
    refine mq_iload d62_219 rfl ?_
    refine mq_iload_n d62_221 rfl rfl ?_
    refine zq_icmp_ge (tgt := 237) d62_222 (by decide) (by omega) (by omega) (fun g1 => ?_) (fun g1 => ?_)
    · have e : k = h := by omega
      subst e
      refine mq_iload d62_237 rfl ?_
      refine zg_reti d62_239 rfl ?_
      refine kk A2 hE ⟨fun l hl => by rw [hE 112 rfl]; exact h112 l hl, fun l hl j hj => by rw [hE 111 rfl]; exact h111 l hl j hj, fun l hl x hq => ?_⟩
      obtain ⟨i, hi, e⟩ := (hz l hl).1.2.2 _ hq
      have a1 := hI l hl i hi
      have a2 := (hz l hl).2 i hi
      rw [e, Int.toNat_natCast] at a1 a2
      rw [a1, a2]
    · have hkh : k < h := by omega
      refine mq_aload_n d62_225 rfl rfl ?_
      refine mq_iload d62_226 rfl ?_
      refine zg_callV (c := 93) L [_] d62_228 rfl rfl ⟨rfl, rfl⟩ rfl ⟨rfl, rfl⟩ ⟨by decide, by decide⟩ (by decide) rfl ?_
      refine s_setSpots (d := d + 2) L (by omega) (by rw [hE 112 rfl]; exact h112 k hkh) (q2 k hkh) (r := z.1 k) (fun i hi => ⟨by rw [hE 111 rfl]; exact h111 k hkh i hi, y4 k _ ((hz k hkh).1.1 i hi)⟩) (fun A3 e3 f113 => ?_)
      refine zq_iinc d62_231 rfl rfl ?_
      refine mq_goto (tgt := 219) d62_234 (by decide) ?_
      refine fw_7 L hx hz kk h112 h111 j (k + 1) A3 (by omega) (by omega) (eo_trans hE e3) (fun l hl i hi => ?_)
      have hlh : l < h := by omega
      rw [f113]
      by_cases y : l = k
      · subst y
        exact nbr_at (fun a b ha hb q => (hz l hlh).1.2.1 a b ha hb (y5 _ _ _ _ ((hz l hlh).1.1 a ha) ((hz l hlh).1.1 b hb) q).2) hi
      · rw [nbr_in (fun b hb q => y (y5 _ _ _ _ ((hz k hkh).1.1 b hb) ((hz l hlh).1.1 i hi) q).1.symm)]
        exact hI l (by omega) i hi
theorem pcM_eo {B : Nat → Nat → Int} (hp : pcM A N g pu pd) (e : eo [111, 113] A B) : pcM B N g pu pd := by
  unfold pcM
  rw [e 93 rfl, e 109 rfl, e 110 rfl, e 106 rfl]
  exact hp
set_option maxRecDepth 100000 in
theorem fw_5 (L : Lay K ρ) (hx : cxO Q sz h N g pu pd) (hp : pcM A N g pu pd) (hz : wok Q sz h z) (h6 : ∀ l, l < h → sz l ≤ 6) {v2 : Int}
    (kk : ∀ A2 v x6 x7, eo [111, 113] A A2 → mnV Q sz h N g pu pd v → (∀ y, x6 = some y → ∃ w, y = .inl w) → mj_W (mj_lv (d + 3)) prog_11_method_38_code 9 1 0 0 post 185 [some (.inr (.inl (some 93))), some (.inl (iZ ((h : Nat)))), some (.inr (.inr (lZ v2))), none, some (.inl (iZ (v))), some (.inl (iZ (0))), x6, x7] [] (123, K, zs (A2), ρ) 0 0) : ∀ (j : Nat) (κ : Nat → Nat) (A2 : Nat → Nat → Int) (z' : wSt) (v : Int) (x6 x7 : Option mj_V), oW (fun l => pF (sz l)) h - oV (fun l => pF (sz l)) κ h < j → (∀ l, l < h → κ l < pF (sz l)) → eo [111, 113] A A2 → wok Q sz h z' → roM A2 Q sz h z' → (∀ k, k < h → stands sz (srM sz z) z' k (κ k)) → odI Q sz h N g pu pd (srM sz z) κ v → (0 ≤ v ∧ v ≤ 7056) → (∀ y, x6 = some y → ∃ w, y = .inl w) → (∀ y, x7 = some y → ∃ w, y = .inl w) → mj_W (mj_lv (d + 3)) prog_11_method_38_code 9 1 0 0 post 112 [some (.inr (.inl (some 93))), some (.inl (iZ ((h : Nat)))), some (.inr (.inr (lZ v2))), none, some (.inl (iZ (v))), some (.inl (iZ (1))), x6, x7] [] (123, K, zs (A2), ρ) 0 0
  | 0, κ, _, _, _, _, _, hj, _, _, _, _, _, _, _, _, _ => absurd hj (by omega)
  | j + 1, κ, A2, z', v, x6, x7, hj, hκ, hE, hz', hr', hst, hod, rv, hx6, hx7 => by
    obtain ⟨x1, x2, x3, y4, y5, y6, y7⟩ := id hx
    have okL : ∀ (v : Option mj_V), (∀ y, v = some y → ∃ w, y = .inl w) → v = none ∨ ∃ w, v = some (.inl w) := fun v hv => by
      cases v with
      | none => exact Or.inl rfl
      | some y =>
        obtain ⟨w, rfl⟩ := hv y rfl
        exact Or.inr ⟨w, rfl⟩
    have hlt := oV_lt (F := fun l => pF (sz l)) (κ := κ) (h := h) hκ
    refine mq_iload d62_112 rfl ?_
    refine zq_if_eq (tgt := 185) d62_114 (by decide) (by omega) (fun g1 => ?_) (fun g1 => ?_)
    · exact absurd g1 (by decide)
    · have st6 : mj_ok [some (.inr (.inl (some 93))), some (.inl (iZ ((h : Nat)))), some (.inr (.inr (lZ v2))), none, some (.inl (iZ (v))), some (.inl (iZ (1))), x6, x7] 6 = true := by
        rcases okL x6 hx6 with e | ⟨w, e⟩ <;> rw [e] <;> rfl
      have st7 : ∀ u t : Int, mj_ok [some (.inr (.inl (some 93))), some (.inl (iZ ((h : Nat)))), some (.inr (.inr (lZ v2))), none, some (.inl (iZ (v))), some (.inl (iZ (u))), some (.inl (iZ (t))), x7] 7 = true := fun u t => by
        rcases okL x7 hx7 with e | ⟨w, e⟩ <;> rw [e] <;> rfl
      refine zq_iconst d62_117 ?_
      refine mq_istore d62_118 (Nat.le_of_ble_eq_true rfl) st6 ?_
      refine fw_4 (A := A2) (κ := κ) L hx hz h6 hκ (fun A3 z3 κ2 l e3 hz3 hr3 hw hs3 => ?_) (fun A3 z3 e3 hz3 hr3 hmax hs3 => ?_) (h + 1) 0 A2 z' (by omega) (by omega) eo_refl hz' hr' (fun k hk => absurd hk (by omega)) (fun k _ hk => hst k hk)
      · obtain ⟨w1, w2, w3, w4, w5⟩ := hw
        have hκ2 : ∀ k, k < h → κ2 k < pF (sz k) := fun k hk => by
          rcases Nat.lt_trichotomy k l with q | q | q
          · rw [(w2 k q).2]
            exact pF_pos (h6 k hk)
          · rw [q]
            exact w4
          · rw [w5 k q hk]
            exact hκ k hk
        have eo1 := oV_step (F := fun l => pF (sz l)) (κ := κ) (κ2 := κ2) w1 w2 w3 w5
        have hlt2 := oV_lt (F := fun l => pF (sz l)) (κ := κ2) (h := h) hκ2
        have E3 : eo [111, 113] A A3 := eo_trans hE e3
        have c0 := crV_nn (g := g) (pu := pu) (pd := pd) (s := z3.2) (N := N)
        have c1 := crV_le (g := g) (pu := pu) (pd := pd) (s := z3.2) x3
        refine mq_iload d62_147 rfl ?_
        refine mq_iload_n d62_149 rfl rfl ?_
        refine zq_icmp_ge (tgt := 157) d62_150 (by decide) (by omega) (by omega) (fun g2 => ?_) (fun g2 => ?_)
        · omega
        · refine zq_iconst d62_153 ?_
          refine mq_goto (tgt := 158) d62_154 (by decide) ?_
          refine mq_istore d62_158 (Nat.le_of_ble_eq_true rfl) rfl ?_
          refine mq_aload_n d62_160 rfl rfl ?_
          refine zg_callV (c := 93) L [] d62_161 rfl rfl ⟨rfl, rfl⟩ rfl ⟨rfl, rfl⟩ ⟨by decide, by decide⟩ (by decide) rfl ?_
          refine s_mcross (d := d + 2) L hx (pcM_eo hp E3) hz3 hr3 ?_
          refine mq_istore d62_164 (Nat.le_of_ble_eq_true rfl) (st7 _ _) ?_
          have fin : ∀ u : Int, u = (if crV g pu pd z3.2 N < v then crV g pu pd z3.2 N else v) → mj_W (mj_lv (d + 3)) prog_11_method_38_code 9 1 0 0 post 182 [some (.inr (.inl (some 93))), some (.inl (iZ ((h : Nat)))), some (.inr (.inr (lZ v2))), none, some (.inl (iZ (u))), some (.inl (iZ (1))), some (.inl (iZ ((l : Nat)))), some (.inl (iZ (crV g pu pd z3.2 N)))] [] (123, K, zs (A3), ρ) 0 0 := fun u hu => by
            refine mq_goto (tgt := 112) d62_182 (by decide) ?_
            refine fw_5 L hx hp hz h6 kk j κ2 A3 z3 u _ _ (by omega) hκ2 E3 hz3 hr3 hs3 (odI_s y6 hod hκ2 eo1 hz3 hs3 hu) ?_ (fun y e => ⟨_, (Option.some.inj e).symm⟩) (fun y e => ⟨_, (Option.some.inj e).symm⟩)
            rw [hu]
            split <;> omega
          refine mq_iload d62_166 rfl ?_
          refine mq_iload d62_168 rfl ?_
          refine zq_icmp_ge (tgt := 178) d62_170 (by decide) (by omega) (by omega) (fun g3 => ?_) (fun g3 => ?_)
          · refine mq_iload d62_178 rfl ?_
            refine mq_istore d62_180 (Nat.le_of_ble_eq_true rfl) rfl ?_
            exact fin v (by rw [if_neg (by omega)])
          · refine mq_iload d62_173 rfl ?_
            refine mq_goto (tgt := 180) d62_175 (by decide) ?_
            refine mq_istore d62_180 (Nat.le_of_ble_eq_true rfl) rfl ?_
            exact fin _ (by rw [if_pos (by omega)])
      · have E3 : eo [111, 113] A A3 := eo_trans hE e3
        have c0 := crV_nn (g := g) (pu := pu) (pd := pd) (s := z3.2) (N := N)
        have c1 := crV_le (g := g) (pu := pu) (pd := pd) (s := z3.2) x3
        have hmin : v ≤ crV g pu pd z3.2 N := hod.2 (fun _ => 0) z3 (fun k hk => pF_pos (h6 k hk)) hz3 hs3 (by
          rw [oV_zero (κ := fun _ => 0) (fun l hl => rfl)]
          omega)
        have hmn := odI_end (fun l hl => (srM_ok hz hl).1) hod hmax
        refine mq_iload d62_147 rfl ?_
        refine mq_iload_n d62_149 rfl rfl ?_
        refine zq_icmp_ge (tgt := 157) d62_150 (by decide) (by omega) (by omega) (fun g2 => ?_) (fun g2 => ?_)
        · refine zq_iconst d62_157 ?_
          refine mq_istore d62_158 (Nat.le_of_ble_eq_true rfl) rfl ?_
          refine mq_aload_n d62_160 rfl rfl ?_
          refine zg_callV (c := 93) L [] d62_161 rfl rfl ⟨rfl, rfl⟩ rfl ⟨rfl, rfl⟩ ⟨by decide, by decide⟩ (by decide) rfl ?_
          refine s_mcross (d := d + 2) L hx (pcM_eo hp E3) hz3 hr3 ?_
          refine mq_istore d62_164 (Nat.le_of_ble_eq_true rfl) (st7 _ _) ?_
          refine mq_iload d62_166 rfl ?_
          refine mq_iload d62_168 rfl ?_
          refine zq_icmp_ge (tgt := 178) d62_170 (by decide) (by omega) (by omega) (fun g3 => ?_) (fun g3 => ?_)
          · refine mq_iload d62_178 rfl ?_
            refine mq_istore d62_180 (Nat.le_of_ble_eq_true rfl) rfl ?_
            refine mq_goto (tgt := 112) d62_182 (by decide) ?_
            refine mq_iload d62_112 rfl ?_
            refine zq_if_eq (tgt := 185) d62_114 (by decide) (by omega) (fun g4 => ?_) (fun g4 => ?_)
            · exact kk A3 v _ _ E3 hmn (fun y e => ⟨_, (Option.some.inj e).symm⟩)
            · exact absurd rfl g4
          · omega
        · omega
set_option maxRecDepth 100000 in
theorem s_mfewest (L : Lay K ρ) (hx : cxO Q sz h N g pu pd) (hp : pcM A N g pu pd) (hz : wok Q sz h z) (hr : roM A Q sz h z) (h114 : ∀ l, l < h → ∀ j, j < sz l → A 114 (80 * l + j) = z.1 l j)
    (kk : ∀ A2 v, eo [111, 113] A A2 → roM A2 Q sz h z → PMv Q sz h N g pu pd v → post (some (.inl (iZ v))) (123, K, zs (A2), ρ)) {v2 : Option mj_V} : mj_W (mj_lv (d + 3)) prog_11_method_38_code 9 1 0 0 post 14 [some (.inr (.inl (some 93))), none, none, none, none, none, none, none] [.inl (iZ (h : Nat))] (123, K, zs (A), ρ) 0 0 := by
  obtain ⟨x1, x2, x3, y4, y5, y6, y7⟩ := id hx
  refine mq_istore_n d62_14 rfl (Nat.le_of_ble_eq_true rfl) rfl ?_
  refine mq_lconst (v := lZ 1) d62_15 (by decide) ?_
  refine mq_lstore_n d62_16 rfl (Nat.le_of_ble_eq_true rfl) rfl ?_
  refine zq_iconst d62_17 ?_
  refine mq_istore d62_18 (Nat.le_of_ble_eq_true rfl) rfl ?_
  refine fw_2 (sz := sz) (h := h) L (fun l hl => ⟨hr.1 l hl, x2 l hl⟩) x1 (fun v x5 hv hx5 => ?_) (h + 1) 0 1 _ (by omega) (by omega) (fun y e => absurd e (by simp)) (Or.inl ⟨by show 1 ≤ 5000; decide, rfl⟩)
  have rv : 0 ≤ v ∧ v ≤ 200000 := by
    unfold myI at hv
    omega
  refine mq_lload_n d62_71 rfl rfl ?_
  refine mq_ldc2 (v := lZ 5000) d62_72 (by decide) ?_
  refine mq_lcmp d62_75 ?_
  rw [lZ_cmp (by omega) (by omega)]
  have rc : -2147483648 ≤ (if 5000 < v then (1 : Int) else if v = 5000 then 0 else -1) ∧ (if 5000 < v then (1 : Int) else if v = 5000 then 0 else -1) < 2147483648 := by
    split
    · omega
    · split <;> omega
  refine zq_if_le (tgt := 82) d62_76 (by decide) rc (fun g2 => ?_) (fun g2 => ?_)
  · have v5 : v ≤ 5000 := by
      by_cases q : 5000 < v
      · rw [if_pos q] at g2
        omega
      · omega
    have ht : totF sz h ≤ 5000 := by
      unfold myI at hv
      omega
    have h6 : ∀ l, l < h → sz l ≤ 6 := fun l hl => tot_6 ht hl
    have st4 : mj_ok [some (.inr (.inl (some 93))), some (.inl (iZ ((h : Nat)))), some (.inr (.inr (lZ v))), none, some (.inl (iZ ((h : Nat)))), x5, none, none] 4 = true := rfl
    refine zq_iconst d62_82 ?_
    refine mq_istore d62_83 (Nat.le_of_ble_eq_true rfl) st4 ?_
    refine fw_3 (A := A) L hx hz h6 ⟨v, rfl⟩ rfl (fun A2 z' e2 hz2 hr2 hs2 => ?_) (h + 1) 0 A z (by omega) (by omega) eo_refl hz hr (fun k hk => absurd hk (by omega))
    have c0 := crV_nn (g := g) (pu := pu) (pd := pd) (s := z'.2) (N := N)
    have c1 := crV_le (g := g) (pu := pu) (pd := pd) (s := z'.2) x3
    have st5 : ∀ u : Int, mj_ok [some (.inr (.inl (some 93))), some (.inl (iZ ((h : Nat)))), some (.inr (.inr (lZ v))), none, some (.inl (iZ (u))), x5, none, none] 5 = true := fun u => by
      cases x5 with
      | none => rfl
      | some y =>
        obtain ⟨w, rfl⟩ := hx5 y rfl
        rfl
    refine mq_aload_n d62_103 rfl rfl ?_
    refine zg_callV (c := 93) L [] d62_104 rfl rfl ⟨rfl, rfl⟩ rfl ⟨rfl, rfl⟩ ⟨by decide, by decide⟩ (by decide) rfl ?_
    refine s_mcross (d := d + 2) L hx (pcM_eo hp e2) hz2 hr2 ?_
    refine mq_istore d62_107 (Nat.le_of_ble_eq_true rfl) rfl ?_
    refine zq_iconst d62_109 ?_
    refine mq_istore d62_110 (Nat.le_of_ble_eq_true rfl) (st5 _) ?_
    refine fw_5 (A := A) L hx hp hz h6 (fun A3 v3 x6 x7 e3 hmn hx6 => ?_) (oW (fun l => pF (sz l)) h + 1) (fun _ => 0) A2 z' _ _ _ (by omega) (fun l hl => pF_pos (h6 l hl)) e2 hz2 hr2 hs2 (odI_0 y6 h6 (fun l hl => rfl) hz2 hs2) (by omega) (fun y e => absurd e (by simp)) (fun y e => absurd e (by simp))
    have st6 : mj_ok [some (.inr (.inl (some 93))), some (.inl (iZ ((h : Nat)))), some (.inr (.inr (lZ v))), none, some (.inl (iZ (v3))), some (.inl (iZ (0))), x6, x7] 6 = true := by
      cases x6 with
      | none => rfl
      | some y =>
        obtain ⟨w, rfl⟩ := hx6 y rfl
        rfl
    refine zq_iconst d62_185 ?_
    refine mq_istore d62_186 (Nat.le_of_ble_eq_true rfl) st6 ?_
    refine fw_6 (A := A3) L (fun A4 e4 h4 => ?_) 961 0 A3 (by omega) (by omega) eo_refl (fun q hq => absurd hq (by omega))
    refine zq_iconst d62_216 ?_
    refine mq_istore d62_217 (Nat.le_of_ble_eq_true rfl) rfl ?_
    refine fw_7 (A := A4) (z := z) L hx hz (fun A5 e5 hr5 => ?_) (fun l hl => by rw [e4 112 rfl, e3 112 rfl]; exact hr.1 l hl) (fun l hl j hj => ?_) (h + 1) 0 A4 (by omega) (by omega) eo_refl (fun l hl => absurd hl (by omega))
    · exact kk A5 v3 (eo_trans (eo_trans e3 (eo_mono (by decide) e4)) (eo_mono (by decide) e5)) hr5 ⟨fun q => by omega, fun _ => hmn⟩
    · have := x2 l hl
      rw [h4 _ (by omega), e3 114 rfl]
      exact h114 l hl j hj
  · have v5 : 5000 < v := by
      by_cases q : 5000 < v
      · exact q
      · rw [if_neg q] at g2
        split at g2 <;> omega
    have ht : 5000 < totF sz h := by
      unfold myI at hv
      omega
    refine zq_bipush d62_79 rfl ?_
    refine zg_reti d62_81 rfl ?_
    exact kk A (-4) eo_refl hr ⟨fun _ => rfl, fun q => by omega⟩
end sp_fx
