section sp_fw
variable {d : Nat} {post : Option mj_V → mj_H → Prop} {K : Nat → Nat × Nat} {ρ : Nat → Nat → Option Nat} {A : Nat → Nat → Int} {Q : Nat → Int → Prop} {sz : Nat → Nat} {h N : Nat} {g pu pd : Nat → Nat} {z : wSt}
/-- the product as it is kept -/
def myI (P : Nat) (v : Int) : Prop := (P ≤ 5000 ∧ v = P) ∨ (5000 < P ∧ 5000 < v ∧ v ≤ 200000)
set_option maxRecDepth 100000 in
theorem fw_1 (L : Lay K ρ) (h112 : ∀ l, l < h → A 112 l = (sz l : Nat) ∧ sz l ≤ 36) {l : Nat} (hl : l < h) (h12 : h ≤ 12) {x6 x7 : Option mj_V}
    (kk : ∀ v x5, myI (totF sz (l + 1)) v → mj_W (mj_lv (d + 3)) prog_11_method_38_code 9 1 0 0 post 65 [some (.inr (.inl (some 93))), some (.inl (iZ ((h : Nat)))), some (.inr (.inr (lZ v))), none, some (.inl (iZ ((l : Nat)))), some (.inl x5), x6, x7] [] (123, K, zs (A), ρ) 0 0) : ∀ (j k : Nat) (v : Int), sz l - k < j → 1 ≤ k → (k ≤ sz l ∨ k = 1) → myI (totF sz l * fct k) v → mj_W (mj_lv (d + 3)) prog_11_method_38_code 9 1 0 0 post 29 [some (.inr (.inl (some 93))), some (.inl (iZ ((h : Nat)))), some (.inr (.inr (lZ v))), none, some (.inl (iZ ((l : Nat)))), some (.inl (iZ ((k + 1 : Nat)))), x6, x7] [] (123, K, zs (A), ρ) 0 0
  | 0, k, _, hj, _, _, _ => absurd hj (by omega)
  | j + 1, k, v, hj, hk1, hk, hv => by
    obtain ⟨s1, s2⟩ := h112 l hl
    have rv : 0 ≤ v ∧ v ≤ 200000 := by
      unfold myI at hv
      omega
    have hP1 : totF sz l * fct k ≤ totF sz l * fct (k + 1) := Nat.mul_le_mul_left _ (fct_mono (by omega))
    have eP : totF sz l * fct (k + 1) = totF sz l * fct k * (k + 1) := by
      show totF sz l * (fct k * (k + 1)) = _
      rw [Nat.mul_assoc]
    have e3 : ((k + 1 : Nat) : Int) + 1 = ((k + 1 + 1 : Nat) : Int) := by omega
    refine mq_iload d62_29 rfl ?_
    refine mq_aload_n d62_31 rfl rfl ?_
    refine zg_getR L 112 d62_32 rfl rfl (by decide) rfl (by decide) rfl ?_
    refine mq_iload d62_35 rfl ?_
    refine zr_ialdV L ((sz l : Nat)) d62_37 (by decide) rfl (by omega) (s1) ?_
    refine zq_icmp_gt (tgt := 65) d62_38 (by decide) (by omega) (by omega) (fun g1 => ?_) (fun g1 => ?_)
    · have e : totF sz l * fct k = totF sz (l + 1) := by
        show _ = totF sz l * fct (sz l)
        by_cases q : sz l = 0
        · have : k = 1 := by omega
          rw [this, q]
          rfl
        · rw [show k = sz l by omega]
      rw [e] at hv
      exact kk v _ hv
    · have fin : ∀ w : Int, myI (totF sz l * fct (k + 1)) w → mj_W (mj_lv (d + 3)) prog_11_method_38_code 9 1 0 0 post 59 [some (.inr (.inl (some 93))), some (.inl (iZ ((h : Nat)))), some (.inr (.inr (lZ w))), none, some (.inl (iZ ((l : Nat)))), some (.inl (iZ ((k + 1 : Nat)))), x6, x7] [] (123, K, zs (A), ρ) 0 0 := fun w hw => by
        refine zq_iinc d62_59 rfl rfl ?_
        refine mq_goto (tgt := 29) d62_62 (by decide) ?_
        rw [e3]
        exact fw_1 L h112 hl h12 kk j (k + 1) w (by omega) (by omega) (by omega) hw
      refine mq_lload_n d62_41 rfl rfl ?_
      refine mq_ldc2 (v := lZ 5000) d62_42 (by decide) ?_
      refine mq_lcmp d62_45 ?_
      rw [lZ_cmp (by omega) (by omega)]
      have rc : -2147483648 ≤ (if 5000 < v then (1 : Int) else if v = 5000 then 0 else -1) ∧ (if 5000 < v then (1 : Int) else if v = 5000 then 0 else -1) < 2147483648 := by
        split
        · omega
        · split <;> omega
      refine zq_if_le (tgt := 53) d62_46 (by decide) rc (fun g2 => ?_) (fun g2 => ?_)
      · have v5 : v ≤ 5000 := by
          by_cases q : 5000 < v
          · rw [if_pos q] at g2
            omega
          · omega
        refine mq_lload_n d62_53 rfl rfl ?_
        refine mq_iload d62_54 rfl ?_
        refine mq_i2l d62_56 ?_
        rw [iZ_l (by omega) (by omega)]
        refine mq_lmul d62_57 ?_
        rw [lZ_mul]
        refine mq_lstore_n d62_58 rfl (Nat.le_of_ble_eq_true rfl) rfl ?_
        refine fin _ ?_
        have hP : totF sz l * fct k ≤ 5000 ∧ v = ((totF sz l * fct k : Nat) : Int) := by
          unfold myI at hv
          omega
        have hb : totF sz l * fct (k + 1) ≤ 5000 * 37 := by
          rw [eP]
          exact Nat.mul_le_mul hP.1 (by omega)
        have ev : v * ((k + 1 : Nat) : Int) = ((totF sz l * fct (k + 1) : Nat) : Int) := by
          rw [hP.2, eP, Int.natCast_mul (totF sz l * fct k) (k + 1)]
        unfold myI
        rw [ev]
        omega
      · have v5 : 5000 < v := by
          by_cases q : 5000 < v
          · exact q
          · rw [if_neg q] at g2
            split at g2 <;> omega
        refine mq_lload_n d62_49 rfl rfl ?_
        refine mq_goto (tgt := 58) d62_50 (by decide) ?_
        refine mq_lstore_n d62_58 rfl (Nat.le_of_ble_eq_true rfl) rfl ?_
        refine fin v ?_
        unfold myI at hv ⊢
        omega
set_option maxRecDepth 100000 in
theorem fw_2 (L : Lay K ρ) (h112 : ∀ l, l < h → A 112 l = (sz l : Nat) ∧ sz l ≤ 36) (h12 : h ≤ 12) {x6 x7 : Option mj_V}
    (kk : ∀ v x5, myI (totF sz h) v → (∀ y, x5 = some y → ∃ w, y = .inl w) → mj_W (mj_lv (d + 3)) prog_11_method_38_code 9 1 0 0 post 71 [some (.inr (.inl (some 93))), some (.inl (iZ ((h : Nat)))), some (.inr (.inr (lZ v))), none, some (.inl (iZ ((h : Nat)))), x5, x6, x7] [] (123, K, zs (A), ρ) 0 0) : ∀ (j l : Nat) (v : Int) (x5 : Option mj_V), h - l < j → l ≤ h → (∀ y, x5 = some y → ∃ w, y = .inl w) → myI (totF sz l) v → mj_W (mj_lv (d + 3)) prog_11_method_38_code 9 1 0 0 post 20 [some (.inr (.inl (some 93))), some (.inl (iZ ((h : Nat)))), some (.inr (.inr (lZ v))), none, some (.inl (iZ ((l : Nat)))), x5, x6, x7] [] (123, K, zs (A), ρ) 0 0
  | 0, l, _, _, hj, _, _, _ => absurd hj (by omega)
  | j + 1, l, v, x5, hj, hl, hx5, hv => by
    refine mq_iload d62_20 rfl ?_
    refine mq_iload_n d62_22 rfl rfl ?_
    refine zq_icmp_ge (tgt := 71) d62_23 (by decide) (by omega) (by omega) (fun g1 => ?_) (fun g1 => ?_)
    · have e : l = h := by omega
      subst e
      exact kk v x5 hv hx5
    · have st5 : mj_ok [some (.inr (.inl (some 93))), some (.inl (iZ ((h : Nat)))), some (.inr (.inr (lZ v))), none, some (.inl (iZ ((l : Nat)))), x5, x6, x7] 5 = true := by
        cases x5 with
        | none => rfl
        | some y =>
          obtain ⟨w, rfl⟩ := hx5 y rfl
          rfl
      refine zq_iconst d62_26 ?_
      refine mq_istore d62_27 (Nat.le_of_ble_eq_true rfl) st5 ?_
      have e1 : totF sz l * fct 1 = totF sz l := by
        show totF sz l * (1 * 1) = _
        omega
      refine fw_1 L h112 (show l < h by omega) h12 (fun v' y5 hv' => ?_) (sz l + 1) 1 v (by omega) (by omega) (by omega) (by rw [e1]; exact hv)
      refine zq_iinc d62_65 rfl rfl ?_
      refine mq_goto (tgt := 20) d62_68 (by decide) ?_
      exact fw_2 L h112 h12 kk j (l + 1) v' _ (by omega) (by omega) (fun y e => ⟨_, (Option.some.inj e).symm⟩) hv'
/-- the sorted rows -/
def srM (sz : Nat → Nat) (z : wSt) : Nat → Nat → Int := fun l => isr ltI (sz l - 1) (z.1 l)
theorem srM_ok (hz : wok Q sz h z) {l : Nat} (hl : l < h) : prw (Q l) (sz l) (srM sz z l) ∧ ∀ a b, a < b → b < sz l → srM sz z l a < srM sz z l b := by
  have h1 := isr_prw (lt := ltI) (k := sz l - 1) (s := sz l) (f := z.1 l) (by omega) (hz l hl).1
  exact ⟨h1, srt_lt h1 (fun a b hab hb => isr_srt (sz l - 1) a b hab (by omega))⟩
theorem first_std (hz : wok Q sz h z) (h6 : ∀ l, l < h → sz l ≤ 6) {l : Nat} (hl : l < h) {f : Nat → Int} (hf : prw (Q l) (sz l) f) : ∀ j, j < sz l → isr ltI (sz l - 1) f j = srM sz z l (pk (sz l) 0 j) := fun j hj => by
  have h1 := isr_prw (lt := ltI) (k := sz l - 1) (s := sz l) (f := f) (by omega) hf
  have h2 := (srM_ok hz hl).1
  rw [pk_0 (h6 l hl) hj]
  exact srt_one h1 h2 (fun a b hab hb => isr_srt (sz l - 1) a b hab (by omega)) (fun a b hab hb => isr_srt (sz l - 1) a b hab (by omega)) j hj
theorem zset_ok (hx : cxO Q sz h N g pu pd) {z' : wSt} (hz : wok Q sz h z') {l : Nat} {f : Nat → Int} (hf : prw (Q l) (sz l) f) : wok Q sz h (zset sz z' l f) := wok_set hx.2.2.2.2.1 hz hf
theorem zset_off {M : Nat → Nat → Int} {z' : wSt} {l k c : Nat} {f : Nat → Int} (hk : k ≠ l) (hs : stands sz M z' k c) : stands sz M (zset sz z' l f) k c := fun j hj => by
  show upf z'.1 l f k j = _
  rw [upf_n hk]
  exact hs j hj
set_option maxRecDepth 100000 in
theorem fw_3 (L : Lay K ρ) (hx : cxO Q sz h N g pu pd) (hz : wok Q sz h z) (h6 : ∀ l, l < h → sz l ≤ 6) {x2 : mj_V} {x3 x5 x6 x7 : Option mj_V} (hx2 : ∃ v, x2 = .inr (.inr (lZ v))) (hx3 : x3 = none)
    (kk : ∀ A2 z', eo [111, 113] A A2 → wok Q sz h z' → roM A2 Q sz h z' → (∀ l, l < h → stands sz (srM sz z) z' l 0) → mj_W (mj_lv (d + 3)) prog_11_method_38_code 9 1 0 0 post 103 [some (.inr (.inl (some 93))), some (.inl (iZ ((h : Nat)))), some x2, x3, some (.inl (iZ ((h : Nat)))), x5, x6, x7] [] (123, K, zs (A2), ρ) 0 0) : ∀ (j l : Nat) (A2 : Nat → Nat → Int) (z' : wSt), h - l < j → l ≤ h → eo [111, 113] A A2 → wok Q sz h z' → roM A2 Q sz h z' → (∀ k, k < l → stands sz (srM sz z) z' k 0) → mj_W (mj_lv (d + 3)) prog_11_method_38_code 9 1 0 0 post 85 [some (.inr (.inl (some 93))), some (.inl (iZ ((h : Nat)))), some x2, x3, some (.inl (iZ ((l : Nat)))), x5, x6, x7] [] (123, K, zs (A2), ρ) 0 0
  | 0, l, _, _, hj, _, _, _, _, _ => absurd hj (by omega)
  | j + 1, l, A2, z', hj, hl, hE, hz', hr', hs => by
    obtain ⟨v2, rfl⟩ := hx2
    subst hx3
    have h12 := hx.1
    refine mq_iload d62_85 rfl ?_
    refine mq_iload_n d62_87 rfl rfl ?_
    refine zq_icmp_ge (tgt := 103) d62_88 (by decide) (by omega) (by omega) (fun g1 => ?_) (fun g1 => ?_)
    · have e : l = h := by omega
      subst e
      exact kk A2 z' hE hz' hr' hs
    · have hlh : l < h := by omega
      refine mq_aload_n d62_91 rfl rfl ?_
      refine mq_iload d62_92 rfl ?_
      refine zg_callV (c := 93) L [_] d62_94 rfl rfl ⟨rfl, rfl⟩ rfl ⟨rfl, rfl⟩ ⟨by decide, by decide⟩ (by decide) rfl ?_
      refine s_first (d := d + 1) L hx hz' hr' hlh (fun A3 e3 hr3 => ?_)
      refine zq_iinc d62_97 rfl rfl ?_
      refine mq_goto (tgt := 85) d62_100 (by decide) ?_
      have hf := isr_prw (lt := ltI) (k := sz l - 1) (s := sz l) (by omega) (hz' l hlh).1
      refine fw_3 L hx hz h6 ⟨v2, rfl⟩ rfl kk j (l + 1) A3 _ (by omega) (by omega) (eo_trans hE e3) (zset_ok hx hz' hf) hr3 (fun k hk => ?_)
      by_cases y : k = l
      · subst y
        exact stands_set (fun j hj => first_std hz h6 hlh (hz' k hlh).1 j hj)
      · exact zset_off y (hs k (by omega))
/-- a turn of the wheels -/
def wheel (sz : Nat → Nat) (h : Nat) (κ κ2 : Nat → Nat) (l : Nat) : Prop := l < h ∧ (∀ k, k < l → κ k + 1 = pF (sz k) ∧ κ2 k = 0) ∧ κ2 l = κ l + 1 ∧ κ2 l < pF (sz l) ∧ ∀ k, l < k → k < h → κ2 k = κ k
set_option maxRecDepth 100000 in
theorem fw_4 (L : Lay K ρ) (hx : cxO Q sz h N g pu pd) (hz : wok Q sz h z) (h6 : ∀ l, l < h → sz l ≤ 6) {κ : Nat → Nat} (hκ : ∀ l, l < h → κ l < pF (sz l)) {v2 : Int} {x4 x5 : Int32} {x7 : Option mj_V}
    (ka : ∀ A2 z' κ2 l, eo [111, 113] A A2 → wok Q sz h z' → roM A2 Q sz h z' → wheel sz h κ κ2 l → (∀ k, k < h → stands sz (srM sz z) z' k (κ2 k)) → mj_W (mj_lv (d + 3)) prog_11_method_38_code 9 1 0 0 post 147 [some (.inr (.inl (some 93))), some (.inl (iZ ((h : Nat)))), some (.inr (.inr (lZ v2))), none, some (.inl x4), some (.inl x5), some (.inl (iZ ((l : Nat)))), x7] [] (123, K, zs (A2), ρ) 0 0)
    (kb : ∀ A2 z', eo [111, 113] A A2 → wok Q sz h z' → roM A2 Q sz h z' → (∀ k, k < h → κ k + 1 = pF (sz k)) → (∀ k, k < h → stands sz (srM sz z) z' k 0) → mj_W (mj_lv (d + 3)) prog_11_method_38_code 9 1 0 0 post 147 [some (.inr (.inl (some 93))), some (.inl (iZ ((h : Nat)))), some (.inr (.inr (lZ v2))), none, some (.inl x4), some (.inl x5), some (.inl (iZ ((h : Nat)))), x7] [] (123, K, zs (A2), ρ) 0 0) : ∀ (j l : Nat) (A2 : Nat → Nat → Int) (z' : wSt), h - l < j → l ≤ h → eo [111, 113] A A2 → wok Q sz h z' → roM A2 Q sz h z' → (∀ k, k < l → κ k + 1 = pF (sz k) ∧ stands sz (srM sz z) z' k 0) → (∀ k, l ≤ k → k < h → stands sz (srM sz z) z' k (κ k)) → mj_W (mj_lv (d + 3)) prog_11_method_38_code 9 1 0 0 post 120 [some (.inr (.inl (some 93))), some (.inl (iZ ((h : Nat)))), some (.inr (.inr (lZ v2))), none, some (.inl x4), some (.inl x5), some (.inl (iZ ((l : Nat)))), x7] [] (123, K, zs (A2), ρ) 0 0
  | 0, l, _, _, hj, _, _, _, _, _, _ => absurd hj (by omega)
  | j + 1, l, A2, z', hj, hl, hE, hz', hr', hlo, hhi => by
    obtain ⟨x1, x2, x3, y4, y5, y6, y7⟩ := id hx
    refine mq_iload d62_120 rfl ?_
    refine mq_iload_n d62_122 rfl rfl ?_
    refine zq_icmp_ge (tgt := 147) d62_123 (by decide) (by omega) (by omega) (fun g1 => ?_) (fun g1 => ?_)
    · have e : l = h := by omega
      subst e
      exact kb A2 z' hE hz' hr' (fun k hk => (hlo k hk).1) (fun k hk => (hlo k hk).2)
    · have hlh : l < h := by omega
      have s6 := h6 l hlh
      obtain ⟨⟨p1, p2, p3⟩, p4⟩ := hz' l hlh
      have hst := hhi l (Nat.le_refl _) hlh
      have hso := srM_ok hz hlh
      refine mq_aload_n d62_126 rfl rfl ?_
      refine mq_iload d62_127 rfl ?_
      refine zg_callV (c := 93) L [_] d62_129 rfl rfl ⟨rfl, rfl⟩ rfl ⟨rfl, rfl⟩ ⟨by decide, by decide⟩ (by decide) rfl ?_
      refine s_next0 (d := d + 1) (n := sz l) (f := z'.1 l) L (by omega) (x2 l hlh) (hr'.1 l hlh) (fun j hj => ⟨hr'.2.1 l hlh j hj, y4 l _ (p1 j hj)⟩) p2 (fun hd => ?_) (fun t o A4 A3 hN e3 e4 h111 h113 => ?_)
      · have hmax := row_last s6 (hκ l hlh) hso.2 (fun i hi => by
          have := hd i hi
          rw [hst i (by omega), hst (i + 1) hi] at this
          exact this)
        refine zq_if_ne (tgt := 147) d62_132 (by decide) (by omega) (fun g2 => ?_) (fun g2 => ?_)
        · exact absurd rfl g2
        · refine mq_aload_n d62_135 rfl rfl ?_
          refine mq_iload d62_136 rfl ?_
          refine zg_callV (c := 93) L [_] d62_138 rfl rfl ⟨rfl, rfl⟩ rfl ⟨rfl, rfl⟩ ⟨by decide, by decide⟩ (by decide) rfl ?_
          refine s_first (d := d + 1) L hx hz' hr' hlh (fun A3 e3 hr3 => ?_)
          refine zq_iinc d62_141 rfl rfl ?_
          refine mq_goto (tgt := 120) d62_144 (by decide) ?_
          have hf := isr_prw (lt := ltI) (k := sz l - 1) (s := sz l) (by omega) (hz' l hlh).1
          refine fw_4 L hx hz h6 hκ ka kb j (l + 1) A3 _ (by omega) (by omega) (eo_trans hE e3) (zset_ok hx hz' hf) hr3 (fun k hk => ?_) (fun k a b => zset_off (by omega) (hhi k (by omega) b))
          by_cases y : k = l
          · subst y
            exact ⟨hmax, stands_set (fun j hj => first_std hz h6 hlh (hz' k hlh).1 j hj)⟩
          · exact ⟨(hlo k (by omega)).1, zset_off y (hlo k (by omega)).2⟩
      · obtain ⟨r1, r2⟩ := roM_set hx hr' hlh e3 e4 h111 h113
        have hN2 : nxP (sz l) (fun j => srM sz z l (pk (sz l) (κ l) j)) t o := by
          obtain ⟨a1, a2, a3, a4, a5, a6⟩ := hN
          refine ⟨a1, a2, ?_, fun i b1 b2 => ?_, ?_, fun i b1 b2 => ?_⟩
          · show srM sz z l (pk (sz l) (κ l) t) < srM sz z l (pk (sz l) (κ l) (t + 1))
            rw [← hst t (by omega), ← hst (t + 1) (by omega)]
            exact a3
          · show srM sz z l (pk (sz l) (κ l) (i + 1)) < srM sz z l (pk (sz l) (κ l) i)
            rw [← hst i (by omega), ← hst (i + 1) b2]
            exact a4 i b1 b2
          · show srM sz z l (pk (sz l) (κ l) t) < srM sz z l (pk (sz l) (κ l) o)
            rw [← hst t (by omega), ← hst o a2]
            exact a5
          · show srM sz z l (pk (sz l) (κ l) i) < srM sz z l (pk (sz l) (κ l) t)
            rw [← hst t (by omega), ← hst i b2]
            exact a6 i b1 b2
        obtain ⟨n1, n2⟩ := row_next s6 (hκ l hlh) hso.2 hN2
        have hrow : ∀ j, j < sz l → nxF (sz l) (z'.1 l) t o j = srM sz z l (pk (sz l) (κ l + 1) j) := fun j hj => by
          rw [← n2 j hj]
          obtain ⟨a1, a2, -⟩ := hN
          unfold nxF
          by_cases q1 : j < t
          · rw [if_pos q1, if_pos q1, hst j hj]
          · rw [if_neg q1, if_neg q1]
            by_cases q2 : j = t
            · rw [if_pos q2, if_pos q2, hst o a2]
            · rw [if_neg q2, if_neg q2]
              by_cases q3 : sz l + t - j = o
              · have q3' : sz l + t - j = o := q3
                rw [if_pos q3', if_pos q3', hst t (by omega)]
              · have q3' : ¬ sz l + t - j = o := q3
                rw [if_neg q3', if_neg q3', hst _ (by omega)]
        have hprw : prw (Q l) (sz l) (nxF (sz l) (z'.1 l) t o) := prw_congr (row_prw s6 n1 hso.1) hrow
        refine zq_if_ne (tgt := 147) d62_132 (by decide) (by omega) (fun g2 => ?_) (fun g2 => ?_)
        · refine ka A4 _ (fun k => if k < l then 0 else if k = l then κ l + 1 else κ k) l (eo_trans hE r2) (zset_ok hx hz' hprw) r1 ⟨hlh, fun k hk => ⟨(hlo k hk).1, if_pos hk⟩, ?_, ?_, fun k a b => ?_⟩ (fun k hk => ?_)
          · show (if l < l then 0 else if l = l then κ l + 1 else κ l) = _
            rw [if_neg (by omega), if_pos rfl]
          · show (if l < l then 0 else if l = l then κ l + 1 else κ l) < _
            rw [if_neg (by omega), if_pos rfl]
            exact n1
          · show (if k < l then 0 else if k = l then κ l + 1 else κ k) = _
            rw [if_neg (by omega), if_neg (by omega)]
          · show stands sz (srM sz z) _ k (if k < l then 0 else if k = l then κ l + 1 else κ k)
            by_cases q1 : k < l
            · rw [if_pos q1]
              exact zset_off (by omega) (hlo k q1).2
            · rw [if_neg q1]
              by_cases q2 : k = l
              · rw [if_pos q2]
                subst q2
                exact stands_set hrow
              · rw [if_neg q2]
                exact zset_off q2 (hhi k (by omega) hk)
        · exact absurd g2 (by decide)
end sp_fw
