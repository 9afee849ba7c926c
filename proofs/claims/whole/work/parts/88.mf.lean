def lZ (v : Int) : Int64 := Int64.ofInt v
theorem lZ_mul (a b : Int) : lZ a * lZ b = lZ (a * b) := (Int64.ofInt_mul a b).symm
theorem lZ_toInt {a : Int} (h : -1000000000000 ≤ a ∧ a < 1000000000000) : (lZ a).toInt = a := Int64.toInt_ofInt_of_le (by omega) (by omega)
theorem lZ_lt {a b : Int} (h1 : -1000000000000 ≤ a ∧ a < 1000000000000) (h2 : -1000000000000 ≤ b ∧ b < 1000000000000) : lZ a < lZ b ↔ a < b := by
  rw [Int64.lt_iff_toInt_lt, lZ_toInt h1, lZ_toInt h2]
theorem lZ_eq {a b : Int} (h1 : -1000000000000 ≤ a ∧ a < 1000000000000) (h2 : -1000000000000 ≤ b ∧ b < 1000000000000) : lZ a = lZ b ↔ a = b := by
  rw [← Int64.toInt_inj, lZ_toInt h1, lZ_toInt h2]
theorem lZ_cmp {a b : Int} (h1 : -1000000000000 ≤ a ∧ a < 1000000000000) (h2 : -1000000000000 ≤ b ∧ b < 1000000000000) : lg_cmp (lZ a) (lZ b) = iZ (if b < a then 1 else if a = b then 0 else -1) := by
  unfold lg_cmp
  by_cases q : b < a
  · rw [if_pos q, if_pos ((lZ_lt h2 h1).mpr q)]
    rfl
  · rw [if_neg q, if_neg (fun y => q ((lZ_lt h2 h1).mp y))]
    by_cases e : a = b
    · rw [if_pos e, if_pos ((lZ_eq h1 h2).mpr e)]
      rfl
    · rw [if_neg e, if_neg (fun y => e ((lZ_eq h1 h2).mp y))]
      rfl
theorem iZ_l {a : Int} (h1 : -2147483648 ≤ a) (h2 : a < 2147483648) : (iZ a).toInt64 = lZ a := by
  rw [← Int64.toInt_inj, Int32.toInt_toInt64, iZ_toInt h1 h2, lZ_toInt (by omega)]
theorem e81 {l i : Nat} : ((80 * l : Nat) : Int) + ((i : Nat) : Int) = ((80 * l + i : Nat) : Int) := by omega
section sp_mf
variable {d : Nat} {post : Option mj_V → mj_H → Prop} {K : Nat → Nat × Nat} {ρ : Nat → Nat → Option Nat} {A : Nat → Nat → Int}
set_option maxRecDepth 100000 in
theorem fi_w (L : Lay K ρ) {l n i : Nat} (hl : l < 12) (hn : n ≤ 36) (hin : i < n) {x : Nat} (hx : x < 72) (G : Nat → Int)
    (kk : ∀ A2 x4, rwE A l n A2 → (∀ j, j < n → A2 111 (80 * l + j) = G j) → mj_W (mj_lv (d + 1)) prog_11_method_39_code 9 0 0 0 post 95 [some (.inr (.inl (some 93))), some (.inl (iZ ((l : Nat)))), some (.inl (iZ ((i : Nat)))), some (.inl (iZ ((x : Nat)))), some (.inl x4)] [] (123, K, zs (A2), ρ) 0 0) : ∀ (k : Nat) (A2 : Nat → Nat → Int) (g : Nat → Int), k ≤ i → rwE A l n A2 → (∀ j, j < n → A2 111 (80 * l + j) = g j) → (∀ j, j < n → 0 ≤ g j ∧ g j < 72) → (∀ j, j < n → shf ltI (x : Nat) k g j = G j) → mj_W (mj_lv (d + 1)) prog_11_method_39_code 9 0 0 0 post 27 [some (.inr (.inl (some 93))), some (.inl (iZ ((l : Nat)))), some (.inl (iZ ((i : Nat)))), some (.inl (iZ ((x : Nat)))), some (.inl (iZ ((k : Nat))))] [] (123, K, zs (A2), ρ) 0 0
  | 0, A2, g, hk, hE, hg, hP, hG => by
    refine mq_iload d63_27 rfl ?_
    refine zq_if_le (tgt := 82) d63_29 (by decide) (by omega) (fun g1 => ?_) (fun g1 => ?_)
    · refine mq_aload_n d63_82 rfl rfl ?_
      refine zg_getR L 111 d63_83 rfl rfl (by decide) rfl (by decide) rfl ?_
      refine zq_bipush d63_86 rfl ?_
      refine mq_iload_n d63_88 rfl rfl ?_
      refine zq_imul d63_89 ?_
      refine mq_iload d63_90 rfl ?_
      refine zq_iadd d63_92 ?_
      rw [e80]
      refine mq_iload_n d63_93 rfl rfl ?_
      refine zg_iastN L d63_94 (by decide) rfl (by omega) ?_
      refine kk _ _ (rwE_u2 hE (by omega)) (fun j hj => ?_)
      rw [u2_upf, ← hG j hj]
      show upf (A2 111) (80 * l + 0) (x : Nat) (80 * l + j) = upf g 0 (x : Nat) j
      unfold upf
      by_cases e : j = 0
      · rw [if_pos (by omega), if_pos e]
      · rw [if_neg (by omega), if_neg e, hg j hj]
    · omega
  | k + 1, A2, g, hk, hE, hg, hP, hG => by
    have hPk := hP k (by omega)
    have ek : (80 : Int) * ((l : Nat) : Int) + ((k + 1 : Nat) : Int) - 1 = ((80 * l + k : Nat) : Int) := by omega
    have eS : shf ltI (x : Nat) (k + 1) g = if ltI (x : Nat) (g k) = true then shf ltI (x : Nat) k (upf g (k + 1) (g k)) else upf g (k + 1) (x : Nat) := rfl
    have eL : ltI (x : Nat) (g k) = decide (((x : Nat) : Int) < g k) := rfl
    have gk : A2 111 (80 * l + k) = g k := hg k (by omega)
    refine mq_iload d63_27 rfl ?_
    refine zq_if_le (tgt := 82) d63_29 (by decide) (by omega) (fun g1 => ?_) (fun g1 => ?_)
    · omega
    · refine mq_aload_n d63_32 rfl rfl ?_
      refine zg_getR L 111 d63_33 rfl rfl (by decide) rfl (by decide) rfl ?_
      refine zq_bipush d63_36 rfl ?_
      refine mq_iload_n d63_38 rfl rfl ?_
      refine zq_imul d63_39 ?_
      refine mq_iload d63_40 rfl ?_
      refine zq_iadd d63_42 ?_
      refine zq_iconst d63_43 ?_
      refine zq_isub d63_44 ?_
      rw [ek]
      refine zr_ialdV L (g k) d63_45 (by decide) rfl (by omega) (gk) ?_
      refine mq_iload_n d63_46 rfl rfl ?_
      refine zq_icmp_le (tgt := 82) d63_47 (by decide) (by omega) (by omega) (fun g2 => ?_) (fun g2 => ?_)
      · refine mq_aload_n d63_82 rfl rfl ?_
        refine zg_getR L 111 d63_83 rfl rfl (by decide) rfl (by decide) rfl ?_
        refine zq_bipush d63_86 rfl ?_
        refine mq_iload_n d63_88 rfl rfl ?_
        refine zq_imul d63_89 ?_
        refine mq_iload d63_90 rfl ?_
        refine zq_iadd d63_92 ?_
        rw [e80]
        refine mq_iload_n d63_93 rfl rfl ?_
        refine zg_iastN L d63_94 (by decide) rfl (by omega) ?_
        refine kk _ _ (rwE_u2 hE (by omega)) (fun j hj => ?_)
        rw [u2_upf, ← hG j hj, eS, if_neg (by rw [eL]; simp; omega)]
        unfold upf
        by_cases e : j = k + 1
        · rw [if_pos (by omega), if_pos e]
        · rw [if_neg (by omega), if_neg e, hg j hj]
      · refine mq_aload_n d63_50 rfl rfl ?_
        refine zg_getR L 111 d63_51 rfl rfl (by decide) rfl (by decide) rfl ?_
        refine zq_bipush d63_54 rfl ?_
        refine mq_iload_n d63_56 rfl rfl ?_
        refine zq_imul d63_57 ?_
        refine mq_iload d63_58 rfl ?_
        refine zq_iadd d63_60 ?_
        rw [e80]
        refine mq_aload_n d63_61 rfl rfl ?_
        refine zg_getR L 111 d63_62 rfl rfl (by decide) rfl (by decide) rfl ?_
        refine zq_bipush d63_65 rfl ?_
        refine mq_iload_n d63_67 rfl rfl ?_
        refine zq_imul d63_68 ?_
        refine mq_iload d63_69 rfl ?_
        refine zq_iadd d63_71 ?_
        refine zq_iconst d63_72 ?_
        refine zq_isub d63_73 ?_
        rw [ek]
        refine zr_ialdV L (g k) d63_74 (by decide) rfl (by omega) (gk) ?_
        refine zg_iastN L d63_75 (by decide) rfl (by omega) ?_
        refine zq_iinc d63_76 rfl rfl ?_
        refine mq_goto (tgt := 27) d63_79 (by decide) ?_
        have e2 : ((k + 1 : Nat) : Int) + -1 = (k : Nat) := by omega
        rw [e2]
        refine fi_w L hl hn hin hx G kk k _ (upf g (k + 1) (g k)) (by omega) (rwE_u2 hE (by omega)) (fun j hj => ?_) (fun j hj => ?_) (fun j hj => ?_)
        · rw [u2_upf]
          unfold upf
          by_cases e : j = k + 1
          · rw [if_pos (by omega), if_pos e]
          · rw [if_neg (by omega), if_neg e, hg j hj]
        · unfold upf
          split
          · exact hPk
          · exact hP j hj
        · rw [← hG j hj, eS, if_pos (by rw [eL]; simp; omega)]
set_option maxRecDepth 100000 in
theorem fi_2 (L : Lay K ρ) {l n : Nat} (hl : l < 12) (h112 : A 112 l = (n : Nat)) (hn : n ≤ 36) {P : Int → Prop} (hP : ∀ x, P x → 0 ≤ x ∧ x < 72) {f : Nat → Int} (hf : prw P n f)
    (kk : ∀ A2 A3, rwE A l n A3 → eo [113] A3 A2 → (∀ j, j < n → A2 111 (80 * l + j) = isr ltI (n - 1) f j) → A2 113 = nbr (isr ltI (n - 1) f) (A 113) n → post none (123, K, zs (A2), ρ)) : ∀ (j i : Nat) (A2 : Nat → Nat → Int) (x3 x4 : Option mj_V), n - i < j → 1 ≤ i → (i ≤ n ∨ i = 1) → (∀ y, x3 = some y → ∃ w, y = .inl w) → (∀ y, x4 = some y → ∃ w, y = .inl w) → rwE A l n A2 → (∀ j, j < n → A2 111 (80 * l + j) = isr ltI (i - 1) f j) → mj_W (mj_lv (d + 1)) prog_11_method_39_code 9 0 0 0 post 2 [some (.inr (.inl (some 93))), some (.inl (iZ ((l : Nat)))), some (.inl (iZ ((i : Nat)))), x3, x4] [] (123, K, zs (A2), ρ) 0 0
  | 0, i, _, _, _, hj, _, _, _, _, _, _ => absurd hj (by omega)
  | j + 1, i, A2, x3, x4, hj, i1, hi, hx3, hx4, hE, hI => by
    have e112 : A2 112 = A 112 := hE.1 112 rfl
    have hp := isr_prw (lt := ltI) (k := i - 1) (s := n) (P := P) (f := f) (by omega) hf
    refine mq_iload_n d63_2 rfl rfl ?_
    refine mq_aload_n d63_3 rfl rfl ?_
    refine zg_getR L 112 d63_4 rfl rfl (by decide) rfl (by decide) rfl ?_
    refine mq_iload_n d63_7 rfl rfl ?_
    refine zr_ialdV L ((n : Nat)) d63_8 (by decide) rfl (by omega) ((by rw [e112]; exact h112)) ?_
    refine zq_icmp_ge (tgt := 101) d63_9 (by decide) (by omega) (by omega) (fun g1 => ?_) (fun g1 => ?_)
    · have e : i - 1 = n - 1 := by omega
      rw [e] at hI hp
      refine mq_aload_n d63_101 rfl rfl ?_
      refine mq_iload_n d63_102 rfl rfl ?_
      refine zg_callV (c := 93) L [_] d63_103 rfl rfl ⟨rfl, rfl⟩ rfl ⟨rfl, rfl⟩ ⟨by decide, by decide⟩ (by decide) rfl ?_
      refine s_setSpots L hl (by rw [e112]; exact h112) hn (r := isr ltI (n - 1) f) (fun j hj => ⟨hI j hj, hP _ (hp.1 j hj)⟩) (fun A3 e3 h3 => ?_)
      refine zg_retv d63_106 (by decide) ?_
      refine kk A3 A2 hE e3 (fun j hj => ?_) ?_
      · rw [e3 111 rfl]
        exact hI j hj
      · rw [h3, hE.1 113 rfl]
    · have his : i < n := by omega
      obtain ⟨k, hk⟩ : ∃ k, i = k + 1 := ⟨i - 1, by omega⟩
      subst hk
      rw [Nat.add_sub_cancel] at hI hp
      have xr := hP _ (hp.1 (k + 1) his)
      obtain ⟨x, hx⟩ : ∃ x : Nat, isr ltI k f (k + 1) = (x : Nat) := ⟨(isr ltI k f (k + 1)).toNat, by omega⟩
      have okL : ∀ (v : Option mj_V), (∀ y, v = some y → ∃ w, y = .inl w) → v = none ∨ ∃ w, v = some (.inl w) := fun v hv => by
        cases v with
        | none => exact Or.inl rfl
        | some y =>
          obtain ⟨w, rfl⟩ := hv y rfl
          exact Or.inr ⟨w, rfl⟩
      have st : ∀ v : Int, mj_ok [some (.inr (.inl (some 93))), some (.inl (iZ ((l : Nat)))), some (.inl (iZ ((k + 1 : Nat)))), x3, x4] 3 = true ∧ mj_ok [some (.inr (.inl (some 93))), some (.inl (iZ ((l : Nat)))), some (.inl (iZ ((k + 1 : Nat)))), some (.inl (iZ (v))), x4] 4 = true := fun v => by
        rcases okL x3 hx3 with e | ⟨w, e⟩ <;> rcases okL x4 hx4 with e2 | ⟨w2, e2⟩ <;> rw [e, e2] <;> exact ⟨rfl, rfl⟩
      refine mq_aload_n d63_12 rfl rfl ?_
      refine zg_getR L 111 d63_13 rfl rfl (by decide) rfl (by decide) rfl ?_
      refine zq_bipush d63_16 rfl ?_
      refine mq_iload_n d63_18 rfl rfl ?_
      refine zq_imul d63_19 ?_
      refine mq_iload_n d63_20 rfl rfl ?_
      refine zq_iadd d63_21 ?_
      rw [e80]
      refine zr_ialdV L ((x : Nat)) d63_22 (by decide) rfl (by omega) ((by rw [hI (k + 1) his]; exact hx)) ?_
      refine mq_istore_n d63_23 rfl (Nat.le_of_ble_eq_true rfl) (st 0).1 ?_
      refine mq_iload_n d63_24 rfl rfl ?_
      refine mq_istore d63_25 (Nat.le_of_ble_eq_true rfl) (st _).2 ?_
      refine fi_w (A := A2) L hl hn his (show x < 72 by omega) (isr ltI (k + 1) f) (fun A3 y4 e3 h3 => ?_) (k + 1) A2 (isr ltI k f) (Nat.le_refl _) ⟨eo_refl, fun _ _ => rfl⟩ hI (fun j hj => hP _ (hp.1 j hj)) (fun j hj => by rw [← hx]; rfl)
      refine zq_iinc d63_95 rfl rfl ?_
      refine mq_goto (tgt := 2) d63_98 (by decide) ?_
      exact fi_2 L hl h112 hn hP hf kk j (k + 1 + 1) A3 _ _ (by omega) (by omega) (by omega) (fun y e => ⟨_, (Option.some.inj e).symm⟩) (fun y e => ⟨_, (Option.some.inj e).symm⟩) ⟨eo_trans hE.1 e3.1, fun q hq => by rw [e3.2 q hq]; exact hE.2 q hq⟩ h3
section zst
variable {Q : Nat → Int → Prop} {sz : Nat → Nat} {h N : Nat} {g pu pd : Nat → Nat} {z : wSt}
/-- one row anew -/
def zset (sz : Nat → Nat) (z : wSt) (l : Nat) (f : Nat → Int) : wSt := (upf z.1 l f, nbr f z.2 (sz l))
theorem roM_set (hx : cxO Q sz h N g pu pd) (hr : roM A Q sz h z) {l : Nat} (hl : l < h) {f : Nat → Int} {A2 A3 : Nat → Nat → Int} (e3 : rwE A l (sz l) A3) (e2 : eo [113] A3 A2) (h111 : ∀ j, j < sz l → A2 111 (80 * l + j) = f j) (h113 : A2 113 = nbr f (A 113) (sz l)) : roM A2 Q sz h (zset sz z l f) ∧ eo [111, 113] A A2 := by
  obtain ⟨r1, r2, r3⟩ := hr
  refine ⟨⟨fun k hk => ?_, fun k hk j hj => ?_, fun k hk x hq => ?_⟩, fun c hc => ?_⟩
  · rw [e2 112 rfl, e3.1 112 rfl]
    exact r1 k hk
  · by_cases y : k = l
    · subst y
      rw [h111 j hj]
      show f j = upf z.1 k f k j
      rw [upf_s]
    · have := hx.2.1 k hk
      have := hx.2.1 l hl
      show _ = upf z.1 l f k j
      rw [upf_n y, e2 111 rfl, e3.2 (80 * k + j) (by omega)]
      exact r2 k hk j hj
  · rw [h113]
    show _ = nbr f z.2 (sz l) x
    exact nbr_congr (r3 k hk x hq) _
  · simp at hc
    rw [e2 c (by simp; omega), e3.1 c (by simp; omega)]
set_option maxRecDepth 100000 in
theorem s_first (L : Lay K ρ) (hx : cxO Q sz h N g pu pd) (hz : wok Q sz h z) (hr : roM A Q sz h z) {l : Nat} (hl : l < h)
    (kk : ∀ A2, eo [111, 113] A A2 → roM A2 Q sz h (zset sz z l (isr ltI (sz l - 1) (z.1 l))) → post none (123, K, zs (A2), ρ)) : mj_lv (d + 2) m_Mod_first [.inr (.inl (some 93)), .inl (iZ (l : Nat))] (123, K, zs (A), ρ) post := by
  have h12 := hx.1
  show mj_W (mj_lv (d + 1)) prog_11_method_39_code 9 0 0 0 post 0 [some (.inr (.inl (some 93))), some (.inl (iZ ((l : Nat)))), none, none, none] [] (123, K, zs (A), ρ) 0 0
  refine zq_iconst d63_0 ?_
  refine mq_istore_n d63_1 rfl (Nat.le_of_ble_eq_true rfl) rfl ?_
  refine fi_2 (P := Q l) L (by omega) (hr.1 l hl) (hx.2.1 l hl) (fun x hq => hx.2.2.2.1 l x hq) (hz l hl).1 (fun A2 A3 e3 e2 h111 h113 => ?_) (sz l + 1) 1 A _ _ (by omega) (by omega) (by omega) (fun y e => absurd e (by simp)) (fun y e => absurd e (by simp)) ⟨eo_refl, fun _ _ => rfl⟩ (fun j hj => hr.2.1 l hl j hj)
  have := roM_set hx hr hl e3 e2 h111 h113
  exact kk A2 this.2 this.1
end zst
section nx
variable {l n : Nat} {f : Nat → Int}
set_option maxRecDepth 100000 in
theorem nx_1 (L : Lay K ρ) (hl : l < 12) (hn : n ≤ 36) (hA : ∀ j, j < n → A 111 (80 * l + j) = f j ∧ 0 ≤ f j ∧ f j < 72) (hinj : ∀ i j, i < n → j < n → f i = f j → i = j) {x4 x5 x6 x7 : Option mj_V}
    (kn : ∀ x, x < 0 → -2 ≤ x → (∀ i, i + 1 < n → f (i + 1) < f i) → mj_W (mj_lv (d + 1)) prog_11_method_40_code 9 2 0 0 post 45 [some (.inr (.inl (some 93))), some (.inl (iZ ((l : Nat)))), some (.inl (iZ ((80 * l : Nat)))), some (.inl (iZ (x))), x4, x5, x6, x7] [] (123, K, zs (A), ρ) 0 0)
    (kk : ∀ t, t + 1 < n → f t < f (t + 1) → (∀ i, t < i → i + 1 < n → f (i + 1) < f i) → mj_W (mj_lv (d + 1)) prog_11_method_40_code 9 2 0 0 post 45 [some (.inr (.inl (some 93))), some (.inl (iZ ((l : Nat)))), some (.inl (iZ ((80 * l : Nat)))), some (.inl (iZ ((t : Nat)))), x4, x5, x6, x7] [] (123, K, zs (A), ρ) 0 0) : ∀ (j : Nat) (x : Int), (x + 1).toNat < j → -2 ≤ x → x ≤ (n : Int) - 2 → (∀ i, x < (i : Nat) → i + 1 < n → f (i + 1) < f i) → mj_W (mj_lv (d + 1)) prog_11_method_40_code 9 2 0 0 post 14 [some (.inr (.inl (some 93))), some (.inl (iZ ((l : Nat)))), some (.inl (iZ ((80 * l : Nat)))), some (.inl (iZ (x))), x4, x5, x6, x7] [] (123, K, zs (A), ρ) 0 0
  | 0, x, hj, _, _, _ => absurd hj (by omega)
  | j + 1, x, hj, x1, x2, hI => by
    refine mq_iload_n d64_14 rfl rfl ?_
    refine zq_if_lt (tgt := 45) d64_15 (by decide) (by omega) (fun g1 => ?_) (fun g1 => ?_)
    · exact kn x g1 x1 (fun i hi => hI i (by omega) hi)
    · obtain ⟨t, ht⟩ : ∃ t : Nat, x = t := ⟨x.toNat, by omega⟩
      subst ht
      have hts : t + 1 < n := by omega
      obtain ⟨a1, a2, a3⟩ := hA t (by omega)
      obtain ⟨b1, b2, b3⟩ := hA (t + 1) hts
      have e1 : ((80 * l : Nat) : Int) + ((t : Nat) : Int) + 1 = ((80 * l + (t + 1) : Nat) : Int) := by omega
      refine mq_aload_n d64_18 rfl rfl ?_
      refine zg_getR L 111 d64_19 rfl rfl (by decide) rfl (by decide) rfl ?_
      refine mq_iload_n d64_22 rfl rfl ?_
      refine mq_iload_n d64_23 rfl rfl ?_
      refine zq_iadd d64_24 ?_
      rw [e81]
      refine zr_ialdV L (f t) d64_25 (by decide) rfl (by omega) (a1) ?_
      refine mq_aload_n d64_26 rfl rfl ?_
      refine zg_getR L 111 d64_27 rfl rfl (by decide) rfl (by decide) rfl ?_
      refine mq_iload_n d64_30 rfl rfl ?_
      refine mq_iload_n d64_31 rfl rfl ?_
      refine zq_iadd d64_32 ?_
      refine zq_iconst d64_33 ?_
      refine zq_iadd d64_34 ?_
      rw [e1]
      refine zr_ialdV L (f (t + 1)) d64_35 (by decide) rfl (by omega) (b1) ?_
      refine zq_icmp_le (tgt := 45) d64_36 (by decide) (by omega) (by omega) (fun g2 => ?_) (fun g2 => ?_)
      · refine kk t hts ?_ (fun i hi => hI i (by omega))
        have : f t ≠ f (t + 1) := fun e => by have := hinj t (t + 1) (by omega) hts e; omega
        omega
      · refine zq_iinc d64_39 rfl rfl ?_
        refine mq_goto (tgt := 14) d64_42 (by decide) ?_
        refine nx_1 L hl hn hA hinj kn kk j _ (by omega) (by omega) (by omega) (fun i hi his => ?_)
        by_cases e : i = t
        · rw [e]
          exact g2
        · exact hI i (by omega) his
set_option maxRecDepth 100000 in
theorem nx_2 (L : Lay K ρ) (hl : l < 12) (hn : n ≤ 36) (hA : ∀ j, j < n → A 111 (80 * l + j) = f j ∧ 0 ≤ f j ∧ f j < 72) (hinj : ∀ i j, i < n → j < n → f i = f j → i = j) {t : Nat} (ht : t + 1 < n) (h1 : f t < f (t + 1)) {x5 x6 x7 : Option mj_V}
    (kk : ∀ o, t < o → o < n → f t < f o → (∀ i, o < i → i < n → f i < f t) → mj_W (mj_lv (d + 1)) prog_11_method_40_code 9 2 0 0 post 87 [some (.inr (.inl (some 93))), some (.inl (iZ ((l : Nat)))), some (.inl (iZ ((80 * l : Nat)))), some (.inl (iZ ((t : Nat)))), some (.inl (iZ ((o : Nat)))), x5, x6, x7] [] (123, K, zs (A), ρ) 0 0) : ∀ (j o : Nat), o < j → t < o → o < n → (∀ i, o < i → i < n → f i < f t) → mj_W (mj_lv (d + 1)) prog_11_method_40_code 9 2 0 0 post 61 [some (.inr (.inl (some 93))), some (.inl (iZ ((l : Nat)))), some (.inl (iZ ((80 * l : Nat)))), some (.inl (iZ ((t : Nat)))), some (.inl (iZ ((o : Nat)))), x5, x6, x7] [] (123, K, zs (A), ρ) 0 0
  | 0, o, hj, _, _, _ => absurd hj (by omega)
  | j + 1, o, hj, ho, hos, hI => by
    obtain ⟨a1, a2, a3⟩ := hA t (by omega)
    obtain ⟨b1, b2, b3⟩ := hA o hos
    refine mq_aload_n d64_61 rfl rfl ?_
    refine zg_getR L 111 d64_62 rfl rfl (by decide) rfl (by decide) rfl ?_
    refine mq_iload_n d64_65 rfl rfl ?_
    refine mq_iload d64_66 rfl ?_
    refine zq_iadd d64_68 ?_
    rw [e81]
    refine zr_ialdV L (f o) d64_69 (by decide) rfl (by omega) (b1) ?_
    refine mq_aload_n d64_70 rfl rfl ?_
    refine zg_getR L 111 d64_71 rfl rfl (by decide) rfl (by decide) rfl ?_
    refine mq_iload_n d64_74 rfl rfl ?_
    refine mq_iload_n d64_75 rfl rfl ?_
    refine zq_iadd d64_76 ?_
    rw [e81]
    refine zr_ialdV L (f t) d64_77 (by decide) rfl (by omega) (a1) ?_
    refine zq_icmp_ge (tgt := 87) d64_78 (by decide) (by omega) (by omega) (fun g2 => ?_) (fun g2 => ?_)
    · refine kk o ho hos ?_ hI
      have : f t ≠ f o := fun e => by have := hinj t o (by omega) hos e; omega
      omega
    · have ne : o ≠ t + 1 := fun e => by rw [e] at g2; omega
      have e1 : ((o : Nat) : Int) + -1 = ((o - 1 : Nat) : Int) := by omega
      refine zq_iinc d64_81 rfl rfl ?_
      refine mq_goto (tgt := 61) d64_84 (by decide) ?_
      rw [e1]
      refine nx_2 L hl hn hA hinj ht h1 kk j (o - 1) (by omega) (by omega) (by omega) (fun i hi his => ?_)
      by_cases e : i = o
      · rw [e]
        exact g2
      · exact hI i (by omega) his
set_option maxRecDepth 100000 in
theorem nx_3 (L : Lay K ρ) (hl : l < 12) (hn : n ≤ 36) {t : Nat} (ht : t + 1 < n) {o : Int32} {u : Nat → Int}
    (kk : ∀ A2 i x5 x6 x7, n - 1 - t ≤ 2 * i + 1 → 2 * i ≤ n - 1 - t → rwE A l n A2 → (∀ j, j < n → A2 111 (80 * l + j) = rvF n t i u j) → mj_W (mj_lv (d + 1)) prog_11_method_40_code 9 2 0 0 post 196 [some (.inr (.inl (some 93))), some (.inl (iZ ((l : Nat)))), some (.inl (iZ ((80 * l : Nat)))), some (.inl (iZ ((t : Nat)))), some (.inl o), some (.inl x5), some (.inl x6), some (.inl x7)] [] (123, K, zs (A2), ρ) 0 0) : ∀ (j i : Nat) (A2 : Nat → Nat → Int) (w : Int32), n - i < j → 2 * i ≤ n - 1 - t → rwE A l n A2 → (∀ j, j < n → A2 111 (80 * l + j) = rvF n t i u j) → mj_W (mj_lv (d + 1)) prog_11_method_40_code 9 2 0 0 post 140 [some (.inr (.inl (some 93))), some (.inl (iZ ((l : Nat)))), some (.inl (iZ ((80 * l : Nat)))), some (.inl (iZ ((t : Nat)))), some (.inl o), some (.inl w), some (.inl (iZ ((t + 1 + i : Nat)))), some (.inl (iZ ((n - 1 - i : Nat))))] [] (123, K, zs (A2), ρ) 0 0
  | 0, i, _, _, hj, _, _, _ => absurd hj (by omega)
  | j + 1, i, A2, w, hj, hi, hE, hI => by
    refine mq_iload d64_140 rfl ?_
    refine mq_iload d64_142 rfl ?_
    refine zq_icmp_ge (tgt := 196) d64_144 (by decide) (by omega) (by omega) (fun g1 => ?_) (fun g1 => ?_)
    · exact kk A2 i _ _ _ (by omega) hi hE hI
    · have hlt : t + 1 + i < n - 1 - i := by omega
      refine mq_aload_n d64_147 rfl rfl ?_
      refine zg_getR L 111 d64_148 rfl rfl (by decide) rfl (by decide) rfl ?_
      refine mq_iload_n d64_151 rfl rfl ?_
      refine mq_iload d64_152 rfl ?_
      refine zq_iadd d64_154 ?_
      rw [e81]
      refine zg_ialdN L d64_155 (by decide) rfl (by omega) ?_
      refine mq_istore d64_156 (Nat.le_of_ble_eq_true rfl) rfl ?_
      refine mq_aload_n d64_158 rfl rfl ?_
      refine zg_getR L 111 d64_159 rfl rfl (by decide) rfl (by decide) rfl ?_
      refine mq_iload_n d64_162 rfl rfl ?_
      refine mq_iload d64_163 rfl ?_
      refine zq_iadd d64_165 ?_
      rw [e81]
      refine mq_aload_n d64_166 rfl rfl ?_
      refine zg_getR L 111 d64_167 rfl rfl (by decide) rfl (by decide) rfl ?_
      refine mq_iload_n d64_170 rfl rfl ?_
      refine mq_iload d64_171 rfl ?_
      refine zq_iadd d64_173 ?_
      rw [e81]
      refine zg_ialdN L d64_174 (by decide) rfl (by omega) ?_
      refine zg_iastN L d64_175 (by decide) rfl (by omega) ?_
      refine mq_aload_n d64_176 rfl rfl ?_
      refine zg_getR L 111 d64_177 rfl rfl (by decide) rfl (by decide) rfl ?_
      refine mq_iload_n d64_180 rfl rfl ?_
      refine mq_iload d64_181 rfl ?_
      refine zq_iadd d64_183 ?_
      rw [e81]
      have e1 : ((t + 1 + i : Nat) : Int) + 1 = ((t + 1 + (i + 1) : Nat) : Int) := by omega
      have e2 : ((n - 1 - i : Nat) : Int) + -1 = ((n - 1 - (i + 1) : Nat) : Int) := by omega
      refine mq_iload d64_184 rfl ?_
      refine zg_iastN L d64_186 (by decide) rfl (by omega) ?_
      refine zq_iinc d64_187 rfl rfl ?_
      refine zq_iinc d64_190 rfl rfl ?_
      refine mq_goto (tgt := 140) d64_193 (by decide) ?_
      rw [e1, e2]
      refine nx_3 L hl hn ht kk j (i + 1) _ _ (by omega) (by omega) (rwE_u2 (rwE_u2 hE (by omega)) (by omega)) (fun q hq => ?_)
      rw [← rv_s hlt q, u2_upf, u2_upf]
      unfold upf exF
      by_cases a1 : q = n - 1 - i
      · rw [if_pos (by omega), if_pos a1, hI _ (by omega)]
      · rw [if_neg (by omega), if_neg a1]
        by_cases a2 : q = t + 1 + i
        · rw [if_pos (by omega), if_pos a2, hI _ (by omega)]
        · rw [if_neg (by omega), if_neg a2, hI _ hq]
set_option maxRecDepth 100000 in
theorem s_next0 (L : Lay K ρ) (hl : l < 12) (hn : n ≤ 36) (h112 : A 112 l = (n : Nat)) (hA : ∀ j, j < n → A 111 (80 * l + j) = f j ∧ 0 ≤ f j ∧ f j < 72) (hinj : ∀ i j, i < n → j < n → f i = f j → i = j)
    (k0 : (∀ i, i + 1 < n → f (i + 1) < f i) → post (some (.inl (iZ 0))) (123, K, zs (A), ρ))
    (k1 : ∀ t o A2 A3, nxP n f t o → rwE A l n A3 → eo [113] A3 A2 → (∀ j, j < n → A2 111 (80 * l + j) = nxF n f t o j) → A2 113 = nbr (nxF n f t o) (A 113) n → post (some (.inl (iZ 1))) (123, K, zs (A2), ρ)) : mj_lv (d + 2) m_Mod_next [.inr (.inl (some 93)), .inl (iZ (l : Nat))] (123, K, zs (A), ρ) post := by
  have eb : (80 : Int) * ((l : Nat) : Int) = ((80 * l : Nat) : Int) := by omega
  show mj_W (mj_lv (d + 1)) prog_11_method_40_code 9 2 0 0 post 0 [some (.inr (.inl (some 93))), some (.inl (iZ ((l : Nat)))), none, none, none, none, none, none] [] (123, K, zs (A), ρ) 0 0
  refine zq_bipush d64_0 rfl ?_
  refine mq_iload_n d64_2 rfl rfl ?_
  refine zq_imul d64_3 ?_
  rw [eb]
  refine mq_istore_n d64_4 rfl (Nat.le_of_ble_eq_true rfl) rfl ?_
  refine mq_aload_n d64_5 rfl rfl ?_
  refine zg_getR L 112 d64_6 rfl rfl (by decide) rfl (by decide) rfl ?_
  refine mq_iload_n d64_9 rfl rfl ?_
  refine zr_ialdV L ((n : Nat)) d64_10 (by decide) rfl (by omega) (h112) ?_
  refine zq_iconst d64_11 ?_
  refine zq_isub d64_12 ?_
  refine mq_istore_n d64_13 rfl (Nat.le_of_ble_eq_true rfl) rfl ?_
  refine nx_1 L hl hn hA hinj (fun x h1 h2 h3 => ?_) (fun t ht h1 h2 => ?_) (n + 1) _ (by omega) (by omega) (by omega) (fun i hi his => by omega)
  · refine mq_iload_n d64_45 rfl rfl ?_
    refine zq_if_ge (tgt := 51) d64_46 (by decide) (by omega) (fun g1 => ?_) (fun g1 => ?_)
    · omega
    · refine zq_iconst d64_49 ?_
      refine zg_retz d64_50 rfl (by first | decide | omega) ?_
      exact k0 h3
  · refine mq_iload_n d64_45 rfl rfl ?_
    refine zq_if_ge (tgt := 51) d64_46 (by decide) (by omega) (fun g1 => ?_) (fun g1 => ?_)
    · have e1 : ((n : Nat) : Int) - 1 = ((n - 1 : Nat) : Int) := by omega
      refine mq_aload_n d64_51 rfl rfl ?_
      refine zg_getR L 112 d64_52 rfl rfl (by decide) rfl (by decide) rfl ?_
      refine mq_iload_n d64_55 rfl rfl ?_
      refine zr_ialdV L ((n : Nat)) d64_56 (by decide) rfl (by omega) (h112) ?_
      refine zq_iconst d64_57 ?_
      refine zq_isub d64_58 ?_
      rw [e1]
      refine mq_istore d64_59 (Nat.le_of_ble_eq_true rfl) rfl ?_
      refine nx_2 L hl hn hA hinj ht h1 (fun o ho hos h3 h4 => ?_) n (n - 1) (by omega) (by omega) (by omega) (fun i hi his => by omega)
      have hN : nxP n f t o := ⟨ho, hos, h1, h2, h3, h4⟩
      have a1 := (hA t (by omega)).1
      have b1 := (hA o hos).1
      refine mq_aload_n d64_87 rfl rfl ?_
      refine zg_getR L 111 d64_88 rfl rfl (by decide) rfl (by decide) rfl ?_
      refine mq_iload_n d64_91 rfl rfl ?_
      refine mq_iload_n d64_92 rfl rfl ?_
      refine zq_iadd d64_93 ?_
      rw [e81]
      refine zr_ialdV L (f t) d64_94 (by decide) rfl (by omega) (a1) ?_
      refine mq_istore d64_95 (Nat.le_of_ble_eq_true rfl) rfl ?_
      refine mq_aload_n d64_97 rfl rfl ?_
      refine zg_getR L 111 d64_98 rfl rfl (by decide) rfl (by decide) rfl ?_
      refine mq_iload_n d64_101 rfl rfl ?_
      refine mq_iload_n d64_102 rfl rfl ?_
      refine zq_iadd d64_103 ?_
      rw [e81]
      refine mq_aload_n d64_104 rfl rfl ?_
      refine zg_getR L 111 d64_105 rfl rfl (by decide) rfl (by decide) rfl ?_
      refine mq_iload_n d64_108 rfl rfl ?_
      refine mq_iload d64_109 rfl ?_
      refine zq_iadd d64_111 ?_
      rw [e81]
      refine zr_ialdV L (f o) d64_112 (by decide) rfl (by omega) (b1) ?_
      refine zg_iastN L d64_113 (by decide) rfl (by omega) ?_
      refine mq_aload_n d64_114 rfl rfl ?_
      refine zg_getR L 111 d64_115 rfl rfl (by decide) rfl (by decide) rfl ?_
      refine mq_iload_n d64_118 rfl rfl ?_
      refine mq_iload d64_119 rfl ?_
      refine zq_iadd d64_121 ?_
      rw [e81]
      have e2 : ((t : Nat) : Int) + 1 = ((t + 1 + 0 : Nat) : Int) := by omega
      have e3 : ((n : Nat) : Int) - 1 = ((n - 1 - 0 : Nat) : Int) := by omega
      refine mq_iload d64_122 rfl ?_
      refine zg_iastN L d64_124 (by decide) rfl (by omega) ?_
      refine mq_iload_n d64_125 rfl rfl ?_
      refine zq_iconst d64_126 ?_
      refine zq_iadd d64_127 ?_
      rw [e2]
      refine mq_istore d64_128 (Nat.le_of_ble_eq_true rfl) rfl ?_
      refine mq_aload_n d64_130 rfl rfl ?_
      refine zg_getR L 112 d64_131 rfl rfl (by decide) rfl (by decide) rfl ?_
      refine mq_iload_n d64_134 rfl rfl ?_
      refine zr_ialdV L ((n : Nat)) d64_135 (by decide) rfl (by omega) ((by rw [u2_c (by decide), u2_c (by decide)]; exact h112)) ?_
      refine zq_iconst d64_136 ?_
      refine zq_isub d64_137 ?_
      rw [e3]
      refine mq_istore d64_138 (Nat.le_of_ble_eq_true rfl) rfl ?_
      have E0 : rwE A l n (mj_u2 (mj_u2 A 111 (80 * l + t) (f o)) 111 (80 * l + o) (f t)) := rwE_u2 (rwE_u2 ⟨eo_refl, fun _ _ => rfl⟩ (by omega)) (by omega)
      refine nx_3 (u := exF f t o) L hl hn ht (fun A2 i y5 y6 y7 i1 i2 hE hI => ?_) (n + 1) 0 _ _ (by omega) (by omega) E0 (fun q hq => ?_)
      · have hI2 : ∀ j, j < n → A2 111 (80 * l + j) = nxF n f t o j := fun j hj => by
          rw [hI j hj, rv_end ho hos i1 i2 hj]
        refine mq_aload_n d64_196 rfl rfl ?_
        refine mq_iload_n d64_197 rfl rfl ?_
        refine zg_callV (c := 93) L [_] d64_198 rfl rfl ⟨rfl, rfl⟩ rfl ⟨rfl, rfl⟩ ⟨by decide, by decide⟩ (by decide) rfl ?_
        refine s_setSpots L hl (by rw [hE.1 112 rfl]; exact h112) hn (r := nxF n f t o) (fun j hj => ⟨hI2 j hj, ?_⟩) (fun A3 e3 h3 => ?_)
        · unfold nxF
          have r : ∀ b, b < n → 0 ≤ f b ∧ f b < 72 := fun b hb => (hA b hb).2
          split
          · exact r j hj
          · split
            · exact r o hos
            · split
              · exact r t (by omega)
              · exact r _ (by omega)
        · refine zq_iconst d64_201 ?_
          refine zg_retz d64_202 rfl (by first | decide | omega) ?_
          refine k1 t o A3 A2 hN hE e3 (fun j hj => ?_) ?_
          · rw [e3 111 rfl]
            exact hI2 j hj
          · rw [h3, hE.1 113 rfl]
      · rw [rv_0, u2_upf, u2_upf]
        unfold upf exF
        by_cases a1 : q = o
        · rw [if_pos (by omega), if_pos a1]
        · rw [if_neg (by omega), if_neg a1]
          by_cases a2 : q = t
          · rw [if_pos (by omega), if_pos a2]
          · rw [if_neg (by omega), if_neg a2]
            exact (hA q hq).1
    · omega
end nx
end sp_mf
