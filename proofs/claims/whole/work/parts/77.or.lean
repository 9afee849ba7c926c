theorem u2_upf {A : Nat → Nat → Int} {c k : Nat} {v : Int} : mj_u2 A c k v c = upf (A c) k v := by
  funext j
  rw [u2_at]
  unfold upf
  by_cases e : j = k
  · rw [if_pos ⟨rfl, e⟩, if_pos e]
  · rw [if_neg (fun q => e q.2), if_neg e]
/-- by fractions -/
def ltF (SS CC : Nat → Int) (x y : Int) : Bool := decide (SS x.toNat * CC y.toNat < SS y.toNat * CC x.toNat)
theorem mul_rng {a b : Int} (ha : 0 ≤ a ∧ a ≤ 10000) (hb : 0 ≤ b ∧ b ≤ 1000) : 0 ≤ a * b ∧ a * b ≤ 10000000 := by
  refine ⟨Int.mul_nonneg ha.1 hb.1, ?_⟩
  have h1 := Int.mul_le_mul ha.2 hb.2 hb.1 (show (0 : Int) ≤ 10000 by decide)
  omega
section sp_or
variable {d : Nat} {post : Option mj_V → mj_H → Prop} {K : Nat → Nat × Nat} {ρ : Nat → Nat → Option Nat} {A : Nat → Nat → Int}
set_option maxRecDepth 100000 in
theorem nr_1 (L : Lay K ρ) {l s : Nat} (hl : l < 12) (h47 : A 47 l = (s : Nat)) (hs : s ≤ 36) {r : Nat → Int} (hr : ∀ j, j < s → A (49 + l) j = r j ∧ 0 ≤ r j ∧ r j < 72) (kk : ∀ A2, eo [74] A A2 → A2 74 = nbr r (A 74) s → post none (123, K, zs (A2), ρ)) : ∀ (j i : Nat) (A2 : Nat → Nat → Int), s - i < j → i ≤ s → eo [74] A A2 → A2 74 = nbr r (A 74) i → mj_W (mj_lv d) prog_4_method_11_code 2 0 0 0 post 2 [some (.inr (.inl (some 46))), some (.inl (iZ ((l : Nat)))), some (.inl (iZ ((i : Nat))))] [] (123, K, zs (A2), ρ) 0 0
  | 0, i, _, hj, _, _, _ => absurd hj (by omega)
  | j + 1, i, A2, hj, hi, hE, hI => by
    have e1 : A2 (49 + l) = A (49 + l) := hE _ (by simp; omega)
    refine mq_iload_n d99_2 rfl rfl ?_
    refine mq_aload_n d99_3 rfl rfl ?_
    refine zg_getR L 47 d99_4 rfl rfl (by decide) rfl (by decide) rfl ?_
    refine mq_iload_n d99_7 rfl rfl ?_
    refine zr_ialdV L ((s : Nat)) d99_8 (by decide) rfl (by omega) ((by rw [hE 47 rfl]; exact h47)) ?_
    refine zq_icmp_ge (tgt := 32) d99_9 (by decide) (by omega) (by omega) (fun g => ?_) (fun g => ?_)
    · have e : i = s := by omega
      subst e
      refine zg_retv d99_32 (by decide) ?_
      exact kk A2 hE hI
    · obtain ⟨r1, r2, r3⟩ := hr i (by omega)
      refine mq_aload_n d99_12 rfl rfl ?_
      refine zg_getR L 74 d99_13 rfl rfl (by decide) rfl (by decide) rfl ?_
      refine mq_aload_n d99_16 rfl rfl ?_
      refine zg_getR L 48 d99_17 rfl rfl (by decide) rfl (by decide) rfl ?_
      refine mq_iload_n d99_20 rfl rfl ?_
      refine zr_aald L (49 + l) d99_21 (by decide) rfl (by omega) (rf48 hl) ?_
      refine mq_iload_n d99_22 rfl rfl ?_
      refine zr_ialdV L (r i) d99_23 (by omega) (kd49 hl) (by omega) ((by rw [e1]; exact r1)) ?_
      refine mq_iload_n d99_24 rfl rfl ?_
      refine zg_iast L d99_25 (by decide) rfl (by omega) ?_
      refine zq_iinc d99_26 rfl rfl ?_
      refine mq_goto (tgt := 2) d99_29 (by decide) ?_
      refine nr_1 L hl h47 hs hr kk j (i + 1) _ (by omega) (by omega) (eo_u2 rfl hE) ?_
      rw [u2_upf, hI]
      rfl
set_option maxRecDepth 100000 in
theorem s_numberRow (L : Lay K ρ) {l s : Nat} (hl : l < 12) (h47 : A 47 l = (s : Nat)) (hs : s ≤ 36) {r : Nat → Int} (hr : ∀ j, j < s → A (49 + l) j = r j ∧ 0 ≤ r j ∧ r j < 72) (kk : ∀ A2, eo [74] A A2 → A2 74 = nbr r (A 74) s → post none (123, K, zs (A2), ρ)) : mj_lv (d + 1) m_Orders_numberRow [.inr (.inl (some 46)), .inl (iZ (l : Nat))] (123, K, zs (A), ρ) post := by
  show mj_W (mj_lv d) prog_4_method_11_code 2 0 0 0 post 0 [some (.inr (.inl (some 46))), some (.inl (iZ ((l : Nat)))), none] [] (123, K, zs (A), ρ) 0 0
  refine zq_iconst d99_0 ?_
  refine mq_istore_n d99_1 rfl (Nat.le_of_ble_eq_true rfl) rfl ?_
  exact nr_1 L hl h47 hs hr kk (s + 1) 0 A (by omega) (by omega) eo_refl rfl
set_option maxRecDepth 100000 in
theorem s_isBefore (L : Lay K ρ) {SS CC : Nat → Int} {x y : Int} (hx : 0 ≤ x ∧ x < 72) (hy : 0 ≤ y ∧ y < 72) (ex : A 75 x.toNat = SS x.toNat ∧ A 76 x.toNat = CC x.toNat) (ey : A 75 y.toNat = SS y.toNat ∧ A 76 y.toNat = CC y.toNat) (rx : (0 ≤ SS x.toNat ∧ SS x.toNat ≤ 10000) ∧ (0 ≤ CC x.toNat ∧ CC x.toNat ≤ 1000)) (ry : (0 ≤ SS y.toNat ∧ SS y.toNat ≤ 10000) ∧ (0 ≤ CC y.toNat ∧ CC y.toNat ≤ 1000)) (k1 : ltF SS CC x y = true → post (some (.inl (iZ 1))) (123, K, zs (A), ρ)) (k0 : ltF SS CC x y = false → post (some (.inl (iZ 0))) (123, K, zs (A), ρ)) : mj_lv (d + 1) m_Orders_isBefore [.inr (.inl (some 46)), .inl (iZ x), .inl (iZ y)] (123, K, zs (A), ρ) post := by
  show mj_W (mj_lv d) prog_4_method_10_code 2 2 0 0 post 0 [some (.inr (.inl (some 46))), some (.inl (iZ (x))), some (.inl (iZ (y)))] [] (123, K, zs (A), ρ) 0 0
  have m1 := mul_rng rx.1 ry.2
  have m2 := mul_rng ry.1 rx.2
  refine mq_aload_n d98_0 rfl rfl ?_
  refine zg_getR L 75 d98_1 rfl rfl (by decide) rfl (by decide) rfl ?_
  refine mq_iload_n d98_4 rfl rfl ?_
  refine zg_ialde L (SS x.toNat) d98_5 (by decide) rfl (by omega) ex.1 ?_
  refine mq_aload_n d98_6 rfl rfl ?_
  refine zg_getR L 76 d98_7 rfl rfl (by decide) rfl (by decide) rfl ?_
  refine mq_iload_n d98_10 rfl rfl ?_
  refine zg_ialde L (CC y.toNat) d98_11 (by decide) rfl (by omega) ey.2 ?_
  refine zq_imul d98_12 ?_
  refine mq_aload_n d98_13 rfl rfl ?_
  refine zg_getR L 75 d98_14 rfl rfl (by decide) rfl (by decide) rfl ?_
  refine mq_iload_n d98_17 rfl rfl ?_
  refine zg_ialde L (SS y.toNat) d98_18 (by decide) rfl (by omega) ey.1 ?_
  refine mq_aload_n d98_19 rfl rfl ?_
  refine zg_getR L 76 d98_20 rfl rfl (by decide) rfl (by decide) rfl ?_
  refine mq_iload_n d98_23 rfl rfl ?_
  refine zg_ialde L (CC x.toNat) d98_24 (by decide) rfl (by omega) ex.2 ?_
  refine zq_imul d98_25 ?_
  refine zq_icmp_ge (tgt := 33) d98_26 (by decide) (by omega) (by omega) (fun g => ?_) (fun g => ?_)
  · refine zq_iconst d98_33 ?_
    refine zg_retz d98_34 rfl (by first | decide | omega) ?_
    refine k0 ?_
    unfold ltF
    simp
    omega
  · refine zq_iconst d98_29 ?_
    refine mq_goto (tgt := 34) d98_30 (by decide) ?_
    refine zg_retz d98_34 rfl (by first | decide | omega) ?_
    refine k1 ?_
    unfold ltF
    simp
    omega
/-- what the sums say of the items -/
def fcO (A : Nat → Nat → Int) (SS CC : Nat → Int) (P : Int → Prop) : Prop := ∀ x, P x → (0 ≤ x ∧ x < 72) ∧ (A 75 x.toNat = SS x.toNat ∧ A 76 x.toNat = CC x.toNat) ∧ (0 ≤ SS x.toNat ∧ SS x.toNat ≤ 10000) ∧ (0 ≤ CC x.toNat ∧ CC x.toNat ≤ 1000)
set_option maxRecDepth 100000 in
theorem so_w (L : Lay K ρ) {l s i : Nat} (hl : l < 12) (hs : s ≤ 36) (his : i < s) {SS CC : Nat → Int} {P : Int → Prop} (hF : fcO A SS CC P) {x : Int} (hx : P x) (G : Nat → Int)
    (kk : ∀ A2 x5, eo [49 + l] A A2 → (∀ j, j < s → A2 (49 + l) j = G j) → mj_W (mj_lv (d + 1)) prog_4_method_9_code 2 0 0 0 post 69 [some (.inr (.inl (some 46))), some (.inl (iZ ((l : Nat)))), some (.inr (.inl (some (49 + l)))), some (.inl (iZ ((i : Nat)))), some (.inl (iZ (x))), some (.inl x5)] [] (123, K, zs (A2), ρ) 0 0) : ∀ (k : Nat) (A2 : Nat → Nat → Int) (g : Nat → Int), k ≤ i → eo [49 + l] A A2 → (∀ j, j < s → A2 (49 + l) j = g j) → (∀ j, j < s → P (g j)) → (∀ j, j < s → shf (ltF SS CC) x k g j = G j) → mj_W (mj_lv (d + 1)) prog_4_method_9_code 2 0 0 0 post 27 [some (.inr (.inl (some 46))), some (.inl (iZ ((l : Nat)))), some (.inr (.inl (some (49 + l)))), some (.inl (iZ ((i : Nat)))), some (.inl (iZ (x))), some (.inl (iZ ((k : Nat))))] [] (123, K, zs (A2), ρ) 0 0
  | 0, A2, g, hk, hE, hg, hP, hG => by
    have hxr := (hF x hx).1
    refine mq_iload d97_27 rfl ?_
    refine zq_if_le (tgt := 63) d97_29 (by decide) (by omega) (fun g1 => ?_) (fun g1 => ?_)
    · refine mq_aload_n d97_63 rfl rfl ?_
      refine mq_iload d97_64 rfl ?_
      refine mq_iload d97_66 rfl ?_
      refine zg_iastN L d97_68 (by omega) (kd49 hl) (by omega) ?_
      refine kk _ _ (eo_u2 (by simp) hE) (fun j hj => ?_)
      rw [u2_upf, ← hG j hj]
      show upf (A2 (49 + l)) 0 x j = upf g 0 x j
      unfold upf
      rw [hg j hj]
    · omega
  | k + 1, A2, g, hk, hE, hg, hP, hG => by
    obtain ⟨hx1, hx2, hx3⟩ := hF x hx
    have hPk := hP k (by omega)
    obtain ⟨y1, y2, y3⟩ := hF (g k) hPk
    have e75 : A2 75 = A 75 := hE _ (by simp; omega)
    have e76 : A2 76 = A 76 := hE _ (by simp; omega)
    have ek : ((k + 1 : Nat) : Int) - 1 = (k : Nat) := by omega
    have eS : shf (ltF SS CC) x (k + 1) g = if ltF SS CC x (g k) = true then shf (ltF SS CC) x k (upf g (k + 1) (g k)) else upf g (k + 1) x := rfl
    have put : ltF SS CC x (g k) = false → mj_W (mj_lv (d + 1)) prog_4_method_9_code 2 0 0 0 post 63 [some (.inr (.inl (some 46))), some (.inl (iZ ((l : Nat)))), some (.inr (.inl (some (49 + l)))), some (.inl (iZ ((i : Nat)))), some (.inl (iZ (x))), some (.inl (iZ ((k + 1 : Nat))))] [] (123, K, zs (A2), ρ) 0 0 := fun q => by
      refine mq_aload_n d97_63 rfl rfl ?_
      refine mq_iload d97_64 rfl ?_
      refine mq_iload d97_66 rfl ?_
      refine zg_iastN L d97_68 (by omega) (kd49 hl) (by omega) ?_
      refine kk _ _ (eo_u2 (by simp) hE) (fun j hj => ?_)
      rw [u2_upf, ← hG j hj, eS, if_neg (by rw [q]; decide)]
      unfold upf
      rw [hg j hj]
    refine mq_iload d97_27 rfl ?_
    refine zq_if_le (tgt := 63) d97_29 (by decide) (by omega) (fun g1 => ?_) (fun g1 => ?_)
    · omega
    · refine mq_aload_n d97_32 rfl rfl ?_
      refine mq_iload d97_33 rfl ?_
      refine mq_aload_n d97_35 rfl rfl ?_
      refine mq_iload d97_36 rfl ?_
      refine zq_iconst d97_38 ?_
      refine zq_isub d97_39 ?_
      rw [ek]
      refine zr_ialdV L (g k) d97_40 (by omega) (kd49 hl) (by omega) (hg k (by omega)) ?_
      refine zg_callV (c := 46) L [_, _] d97_41 rfl rfl ⟨rfl, rfl⟩ rfl ⟨rfl, rfl⟩ ⟨by decide, by decide⟩ (by decide) rfl ?_
      refine s_isBefore L hx1 y1 (by rw [e75, e76]; exact hx2) (by rw [e75, e76]; exact y2) hx3 y3 (fun q => ?_) (fun q => ?_)
      · refine zq_if_eq (tgt := 63) d97_44 (by decide) (by omega) (fun g2 => ?_) (fun g2 => ?_)
        · exact absurd g2 (by decide)
        · refine mq_aload_n d97_47 rfl rfl ?_
          refine mq_iload d97_48 rfl ?_
          refine mq_aload_n d97_50 rfl rfl ?_
          refine mq_iload d97_51 rfl ?_
          refine zq_iconst d97_53 ?_
          refine zq_isub d97_54 ?_
          rw [ek]
          refine zr_ialdV L (g k) d97_55 (by omega) (kd49 hl) (by omega) (hg k (by omega)) ?_
          refine zg_iastN L d97_56 (by omega) (kd49 hl) (by omega) ?_
          refine zq_iinc d97_57 rfl rfl ?_
          refine mq_goto (tgt := 27) d97_60 (by decide) ?_
          have e2 : ((k + 1 : Nat) : Int) + -1 = (k : Nat) := by omega
          rw [e2]
          refine so_w L hl hs his hF hx G kk k _ (upf g (k + 1) (g k)) (by omega) (eo_u2 (by simp) hE) (fun j hj => ?_) (fun j hj => ?_) (fun j hj => ?_)
          · rw [u2_upf]
            unfold upf
            rw [hg j hj]
          · unfold upf
            split
            · exact hPk
            · exact hP j hj
          · rw [← hG j hj, eS, if_pos q]
      · refine zq_if_eq (tgt := 63) d97_44 (by decide) (by omega) (fun g2 => ?_) (fun g2 => ?_)
        · exact put q
        · exact absurd rfl g2
set_option maxRecDepth 100000 in
theorem so_2 (L : Lay K ρ) {l s : Nat} (hl : l < 12) (h47 : A 47 l = (s : Nat)) (hs : s ≤ 36) {SS CC : Nat → Int} {P : Int → Prop} (hF : fcO A SS CC P) {f : Nat → Int} (hf : prw P s f)
    (kk : ∀ A2, eo [49 + l, 74] A A2 → (∀ j, j < s → A2 (49 + l) j = isr (ltF SS CC) (s - 1) f j) → A2 74 = nbr (isr (ltF SS CC) (s - 1) f) (A 74) s → post none (123, K, zs (A2), ρ)) : ∀ (j i : Nat) (A2 : Nat → Nat → Int) (x4 x5 : Option mj_V), s - i < j → 1 ≤ i → (i ≤ s ∨ i = 1) → (∀ y, x4 = some y → ∃ w, y = .inl w) → (∀ y, x5 = some y → ∃ w, y = .inl w) → eo [49 + l] A A2 → (∀ j, j < s → A2 (49 + l) j = isr (ltF SS CC) (i - 1) f j) → mj_W (mj_lv (d + 1)) prog_4_method_9_code 2 0 0 0 post 9 [some (.inr (.inl (some 46))), some (.inl (iZ ((l : Nat)))), some (.inr (.inl (some (49 + l)))), some (.inl (iZ ((i : Nat)))), x4, x5] [] (123, K, zs (A2), ρ) 0 0
  | 0, i, _, _, _, hj, _, _, _, _, _, _ => absurd hj (by omega)
  | j + 1, i, A2, x4, x5, hj, i1, hi, hx4, hx5, hE, hI => by
    have e47 : A2 47 = A 47 := hE _ (by simp; omega)
    have hp := isr_prw (lt := ltF SS CC) (k := i - 1) (s := s) (P := P) (f := f) (by omega) hf
    refine mq_iload_n d97_9 rfl rfl ?_
    refine mq_aload_n d97_10 rfl rfl ?_
    refine zg_getR L 47 d97_11 rfl rfl (by decide) rfl (by decide) rfl ?_
    refine mq_iload_n d97_14 rfl rfl ?_
    refine zr_ialdV L ((s : Nat)) d97_15 (by decide) rfl (by omega) ((by rw [e47]; exact h47)) ?_
    refine zq_icmp_ge (tgt := 75) d97_16 (by decide) (by omega) (by omega) (fun g1 => ?_) (fun g1 => ?_)
    · have e : i - 1 = s - 1 := by omega
      rw [e] at hI hp
      refine mq_aload_n d97_75 rfl rfl ?_
      refine mq_iload_n d97_76 rfl rfl ?_
      refine zg_callV (c := 46) L [_] d97_77 rfl rfl ⟨rfl, rfl⟩ rfl ⟨rfl, rfl⟩ ⟨by decide, by decide⟩ (by decide) rfl ?_
      refine s_numberRow L hl (by rw [e47]; exact h47) hs (r := isr (ltF SS CC) (s - 1) f) (fun j hj => ⟨hI j hj, (hF _ (hp.1 j hj)).1⟩) (fun A3 e3 h3 => ?_)
      refine zg_retv d97_80 (by decide) ?_
      refine kk A3 (fun c hc => ?_) (fun j hj => ?_) ?_
      · simp at hc
        rw [e3 c (by simp; omega), hE c (by simp; omega)]
      · rw [e3 _ (by simp; omega)]
        exact hI j hj
      · rw [h3, hE 74 (by simp; omega)]
    · have his : i < s := by omega
      obtain ⟨k, hk⟩ : ∃ k, i = k + 1 := ⟨i - 1, by omega⟩
      subst hk
      rw [Nat.add_sub_cancel] at hI hp
      have hPi := hp.1 (k + 1) his
      have okL : ∀ (v : Option mj_V), (∀ y, v = some y → ∃ w, y = .inl w) → v = none ∨ ∃ w, v = some (.inl w) := fun v hv => by
        cases v with
        | none => exact Or.inl rfl
        | some y =>
          obtain ⟨w, rfl⟩ := hv y rfl
          exact Or.inr ⟨w, rfl⟩
      have st : ∀ v : Int, mj_ok [some (.inr (.inl (some 46))), some (.inl (iZ ((l : Nat)))), some (.inr (.inl (some (49 + l)))), some (.inl (iZ ((k + 1 : Nat)))), x4, x5] 4 = true ∧ mj_ok [some (.inr (.inl (some 46))), some (.inl (iZ ((l : Nat)))), some (.inr (.inl (some (49 + l)))), some (.inl (iZ ((k + 1 : Nat)))), some (.inl (iZ (v))), x5] 5 = true := fun v => by
        rcases okL x4 hx4 with e | ⟨w, e⟩ <;> rcases okL x5 hx5 with e2 | ⟨w2, e2⟩ <;> rw [e, e2] <;> exact ⟨rfl, rfl⟩
      refine mq_aload_n d97_19 rfl rfl ?_
      refine mq_iload_n d97_20 rfl rfl ?_
      refine zr_ialdV L (isr (ltF SS CC) k f (k + 1)) d97_21 (by omega) (kd49 hl) (by omega) (hI (k + 1) his) ?_
      refine mq_istore d97_22 (Nat.le_of_ble_eq_true rfl) (st 0).1 ?_
      refine mq_iload_n d97_24 rfl rfl ?_
      refine mq_istore d97_25 (Nat.le_of_ble_eq_true rfl) (st _).2 ?_
      have hFA : fcO A2 SS CC P := by
        intro y hy
        have := hF y hy
        rw [hE 75 (by simp; omega), hE 76 (by simp; omega)]
        exact this
      refine so_w (A := A2) L hl hs his hFA hPi (isr (ltF SS CC) (k + 1) f) (fun A3 y5 e3 h3 => ?_) (k + 1) A2 (isr (ltF SS CC) k f) (Nat.le_refl _) eo_refl hI hp.1 (fun j hj => rfl)
      refine zq_iinc d97_69 rfl rfl ?_
      refine mq_goto (tgt := 9) d97_72 (by decide) ?_
      exact so_2 L hl h47 hs hF hf kk j (k + 1 + 1) A3 _ _ (by omega) (by omega) (by omega) (fun y e => ⟨_, (Option.some.inj e).symm⟩) (fun y e => ⟨_, (Option.some.inj e).symm⟩) (eo_trans hE e3) h3
set_option maxRecDepth 100000 in
theorem s_sortRow (L : Lay K ρ) {l s : Nat} (hl : l < 12) (h47 : A 47 l = (s : Nat)) (hs : s ≤ 36) {SS CC : Nat → Int} {P : Int → Prop} (hF : fcO A SS CC P) {f : Nat → Int} (hf : prw P s f) (hr : ∀ j, j < s → A (49 + l) j = f j)
    (kk : ∀ A2, eo [49 + l, 74] A A2 → (∀ j, j < s → A2 (49 + l) j = isr (ltF SS CC) (s - 1) f j) → A2 74 = nbr (isr (ltF SS CC) (s - 1) f) (A 74) s → post none (123, K, zs (A2), ρ)) : mj_lv (d + 2) m_Orders_sortRow [.inr (.inl (some 46)), .inl (iZ (l : Nat))] (123, K, zs (A), ρ) post := by
  show mj_W (mj_lv (d + 1)) prog_4_method_9_code 2 0 0 0 post 0 [some (.inr (.inl (some 46))), some (.inl (iZ ((l : Nat)))), none, none, none, none] [] (123, K, zs (A), ρ) 0 0
  refine mq_aload_n d97_0 rfl rfl ?_
  refine zg_getR L 48 d97_1 rfl rfl (by decide) rfl (by decide) rfl ?_
  refine mq_iload_n d97_4 rfl rfl ?_
  refine zr_aald L (49 + l) d97_5 (by decide) rfl (by omega) (rf48 hl) ?_
  refine mq_astore_n d97_6 rfl (Nat.le_of_ble_eq_true rfl) rfl ?_
  refine zq_iconst d97_7 ?_
  refine mq_istore_n d97_8 rfl (Nat.le_of_ble_eq_true rfl) rfl ?_
  exact so_2 L hl h47 hs hF hf kk (s + 1) 1 A _ _ (by omega) (by omega) (by omega) (fun y e => absurd e (by simp)) (fun y e => absurd e (by simp)) eo_refl hr
end sp_or
