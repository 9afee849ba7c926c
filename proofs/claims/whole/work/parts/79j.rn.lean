section sp_rn
variable {d : Nat} {post : Option mj_V → mj_H → Prop} {K : Nat → Nat × Nat} {ρ : Nat → Nat → Option Nat} {A : Nat → Nat → Int}
section tl
variable {Q : Nat → Int → Prop} {sz : Nat → Nat} {h N : Nat} {g pu pd : Nat → Nat} {z : wSt} {w : Nat → Int}
set_option maxRecDepth 100000 in
theorem mr_4 (L : Lay K ρ) {x1 x2 : Int32} {x4 : Option mj_V} (kk : ∀ A2, eo [111] A A2 → (∀ q, q < 960 → A2 111 q = A 114 q) → mj_W (mj_lv (d + 2)) prog_11_method_31_code 9 1 0 0 post 159 [some (.inr (.inl (some 93))), some (.inl x1), some (.inl x2), some (.inl (iZ ((960 : Nat)))), x4] [] (123, K, zs (A2), ρ) 0 0) : ∀ (j i : Nat) (A2 : Nat → Nat → Int), 960 - i < j → i ≤ 960 → eo [111] A A2 → (∀ q, q < i → A2 111 q = A 114 q) → mj_W (mj_lv (d + 2)) prog_11_method_31_code 9 1 0 0 post 134 [some (.inr (.inl (some 93))), some (.inl x1), some (.inl x2), some (.inl (iZ ((i : Nat)))), x4] [] (123, K, zs (A2), ρ) 0 0
  | 0, i, _, hj, _, _, _ => absurd hj (by omega)
  | j + 1, i, A2, hj, hi, hE, hI => by
    refine mq_iload_n d55_134 rfl rfl ?_
    refine zq_sipush d55_135 rfl ?_
    refine zq_icmp_ge (tgt := 159) d55_138 (by decide) (by omega) (by omega) (fun g => ?_) (fun g => ?_)
    · have e : i = 960 := by omega
      subst e
      exact kk A2 hE hI
    · refine mq_aload_n d55_141 rfl rfl ?_
      refine zg_getR L 111 d55_142 rfl rfl (by decide) rfl (by decide) rfl ?_
      refine mq_iload_n d55_145 rfl rfl ?_
      refine mq_aload_n d55_146 rfl rfl ?_
      refine zg_getR L 114 d55_147 rfl rfl (by decide) rfl (by decide) rfl ?_
      refine mq_iload_n d55_150 rfl rfl ?_
      refine zr_ialdV L (A 114 i) d55_151 (by decide) rfl (by omega) ((by rw [hE 114 rfl])) ?_
      refine zg_iastN L d55_152 (by decide) rfl (by omega) ?_
      refine zq_iinc d55_153 rfl rfl ?_
      refine mq_goto (tgt := 134) d55_156 (by decide) ?_
      refine mr_4 L kk j (i + 1) _ (by omega) (by omega) (eo_u2 rfl hE) (fun q hq => ?_)
      by_cases e : q = i
      · rw [e, u2_self]
      · rw [u2_k e]
        exact hI q (by omega)
set_option maxRecDepth 100000 in
theorem mr_5 (L : Lay K ρ) (hx : cxO Q sz h N g pu pd) (hz : wok Q sz h z) {x1 : Int32} {x4 : Option mj_V} (kk : ∀ A2, eo [113] A A2 → roM A2 Q sz h z → mj_W (mj_lv (d + 2)) prog_11_method_31_code 9 1 0 0 post 177 [some (.inr (.inl (some 93))), some (.inl x1), some (.inl (iZ ((h : Nat)))), some (.inl (iZ ((h : Nat)))), x4] [] (123, K, zs (A2), ρ) 0 0) (h112 : ∀ l, l < h → A 112 l = (sz l : Nat)) (h111 : ∀ l, l < h → ∀ j, j < sz l → A 111 (80 * l + j) = z.1 l j) : ∀ (j k : Nat) (A2 : Nat → Nat → Int), h - k < j → k ≤ h → eo [113] A A2 → (∀ l, l < k → ∀ j, j < sz l → A2 113 (z.1 l j).toNat = (j : Nat)) → mj_W (mj_lv (d + 2)) prog_11_method_31_code 9 1 0 0 post 161 [some (.inr (.inl (some 93))), some (.inl x1), some (.inl (iZ ((h : Nat)))), some (.inl (iZ ((k : Nat)))), x4] [] (123, K, zs (A2), ρ) 0 0
  | 0, k, _, hj, _, _, _ => absurd hj (by omega)
  | j + 1, k, A2, hj, hk, hE, hI => by
    obtain ⟨q1, q2, q3, y4, y5, y6, y7⟩ := id hx
    refine mq_iload_n d55_161 rfl rfl ?_
    refine mq_iload_n d55_162 rfl rfl ?_
    refine zq_icmp_ge (tgt := 177) d55_163 (by decide) (by omega) (by omega) (fun g1 => ?_) (fun g1 => ?_)
    · have e : k = h := by omega
      subst e
      refine kk A2 hE ⟨fun l hl => by rw [hE 112 rfl]; exact h112 l hl, fun l hl j hj => by rw [hE 111 rfl]; exact h111 l hl j hj, fun l hl x hq => ?_⟩
      obtain ⟨i, hi, e⟩ := (hz l hl).1.2.2 _ hq
      have a1 := hI l hl i hi
      have a2 := (hz l hl).2 i hi
      rw [e, Int.toNat_natCast] at a1 a2
      rw [a1, a2]
    · have hkh : k < h := by omega
      refine mq_aload_n d55_166 rfl rfl ?_
      refine mq_iload_n d55_167 rfl rfl ?_
      refine zg_callV (c := 93) L [_] d55_168 rfl rfl ⟨rfl, rfl⟩ rfl ⟨rfl, rfl⟩ ⟨by decide, by decide⟩ (by decide) rfl ?_
      refine s_setSpots (d := d + 1) L (by omega) (by rw [hE 112 rfl]; exact h112 k hkh) (q2 k hkh) (r := z.1 k) (fun i hi => ⟨by rw [hE 111 rfl]; exact h111 k hkh i hi, y4 k _ ((hz k hkh).1.1 i hi)⟩) (fun A3 e3 f113 => ?_)
      refine zq_iinc d55_171 rfl rfl ?_
      refine mq_goto (tgt := 161) d55_174 (by decide) ?_
      refine mr_5 L hx hz kk h112 h111 j (k + 1) A3 (by omega) (by omega) (eo_trans hE e3) (fun l hl i hi => ?_)
      have hlh : l < h := by omega
      rw [f113]
      by_cases y : l = k
      · subst y
        exact nbr_at (fun a b ha hb q => (hz l hlh).1.2.1 a b ha hb (y5 _ _ _ _ ((hz l hlh).1.1 a ha) ((hz l hlh).1.1 b hb) q).2) hi
      · rw [nbr_in (fun b hb q => y (y5 _ _ _ _ ((hz k hkh).1.1 b hb) ((hz l hlh).1.1 i hi) q).1.symm)]
        exact hI l (by omega) i hi
end tl
section rnd
variable {n m : Nat} {U W Y : Nat → Nat} {th w : Nat → Int} {z : wSt}
theorem lc_hY {y : Nat → Int} : ∀ {k : Nat}, (∀ v, v < k → y v = (Y v : Nat)) → lcV y k = (hY Y k : Nat)
  | 0, _ => rfl
  | k + 1, h => by
    have h1 := lc_hY (k := k) (fun v hv => h v (by omega))
    have h2 := h k (by omega)
    unfold lcV hY
    rw [h1, h2]
    by_cases q : hY Y k < Y k + 1
    · rw [if_pos (by omega), if_pos q]
      omega
    · rw [if_neg (by omega), if_neg q]
theorem bd_wF (hU : ∀ a, a < m → U a < n ∧ W a < n) (hf : ∀ a, a < m → th a = 1 → Y (U a) + 1 ≤ Y (W a)) {y : Nat → Int} (hy : ∀ v, v < n → y v = (Y v : Nat)) : ∀ {a : Nat}, a ≤ m → bdV a U W th y + 12 = (wF U W Y th a : Nat)
  | 0, _ => rfl
  | a + 1, ha => by
    have ih := bd_wF hU hf hy (a := a) (by omega)
    have e : bdV (a + 1) U W th y = bdV a U W th y + (if th a = 1 then y (W a) - y (U a) - 1 else 0) := rfl
    rw [e]
    by_cases q : th a = 1
    · have sp := hf a (by omega) q
      have hb := hU a (by omega)
      have es : wS U W Y a = Y (W a) - Y (U a) := rfl
      rw [if_pos q, wF_s q, hy _ hb.1, hy _ hb.2]
      omega
    · rw [if_neg q, wF_n q]
      omega
/-- the class's side of a settled graph -/
theorem clC (G : cgOK A) (hS : SCc A) : lyC A (A 1 4).toNat (A 1 5).toNat (fun a => (A 11 a).toNat) (fun a => (A 12 a).toNat) (A 5) ∧ (∀ v, v < (A 1 4).toNat → A 14 v = ((A 14 v).toNat : Nat) ∧ (A 14 v).toNat < (A 1 4).toNat) ∧ (∀ a, a < (A 1 5).toNat → A 5 a = 1 → (A 14 (A 11 a).toNat).toNat + 1 ≤ (A 14 (A 12 a).toNat).toNat) := by
  obtain ⟨x, x1, x2, x3, x4, x5, x6, x7, x8⟩ := hS
  obtain ⟨g1, g2, g9⟩ := G
  have ends : ∀ a, a < (A 1 5).toNat → (0 ≤ A 11 a ∧ A 11 a < A 1 4) ∧ (0 ≤ A 12 a ∧ A 12 a < A 1 4) := fun a ha => by
    have h1 := x4 a ha
    have h2 := g9 a (by omega)
    rw [h1.1, h1.2]
    split <;> omega
  have w : ∀ a, a < (A 1 5).toNat → A 11 a = ((A 11 a).toNat : Int) ∧ A 12 a = ((A 12 a).toNat : Int) ∧ (A 11 a).toNat < (A 1 4).toNat ∧ (A 12 a).toNat < (A 1 4).toNat := fun a ha => by
    have := ends a ha
    omega
  have n0 : A 1 4 = ((A 1 4).toNat : Int) := by omega
  have m0 : A 1 5 = ((A 1 5).toNat : Int) := by omega
  have hl := lay_lt (fun a ha => ⟨(w a ha).2.2.1, (w a ha).2.2.2⟩) x5
  have hy : ∀ v, v < (A 1 4).toNat → A 14 v = ((A 14 v).toNat : Nat) ∧ (A 14 v).toNat < (A 1 4).toNat := fun v hv => by
    have := hl v hv
    omega
  refine ⟨⟨n0, m0, by omega, by omega, fun a ha => ?_⟩, hy, fun a ha t => ?_⟩
  · have h2 := w a ha
    exact ⟨⟨h2.1, h2.2.1⟩, ⟨h2.2.2.1, h2.2.2.2⟩, rfl, (g9 a (by omega)).2.2.2⟩
  · have h2 := w a ha
    have h3 := x5.1.1.2 a ha t
    have h4 := hy _ h2.2.2.1
    have h5 := hy _ h2.2.2.2
    have h3' : A 14 (A 11 a).toNat + 1 ≤ A 14 (A 12 a).toNat := h3
    omega
/-- the numbers are those of the class -/
def caN (A : Nat → Nat → Int) (n m : Nat) (U W Y : Nat → Nat) (th : Nat → Int) : Prop := n = (A 1 4).toNat ∧ m = (A 1 5).toNat ∧ U = (fun a => (A 11 a).toNat) ∧ W = (fun a => (A 12 a).toNat) ∧ Y = (fun v => (A 14 v).toNat) ∧ th = A 5
/-- what both hold of a run -/
def RNx (A : Nat → Nat → Int) (n m : Nat) (U W Y : Nat → Nat) (th : Nat → Int) (z : wSt) (w pl : Nat → Int) : Prop :=
  (rcC A n m U W Y th ∧ mrC A n m U W Y th) ∧ (wok (wQ n m U W Y th) (wZ n m U W Y th) (hY Y n) z ∧ roC A (wQ n m U W Y th) (wZ n m U W Y th) (hY Y n) z ∧ roM A (wQ n m U W Y th) (wZ n m U W Y th) (hY Y n) z) ∧
  (∀ l, l < hY Y n → ∀ j, j < wZ n m U W Y th l → A 114 (80 * l + j) = z.1 l j) ∧
  (pcC A (wG m U W Y th) (wU m U W Y th) (wD m U W Y th) (wB U W Y th m) ∧ pcM A (wB U W Y th m) (wG m U W Y th) (wU m U W Y th) (wD m U W Y th)) ∧
  (∀ b, b < m → th b = 1 → A 17 b = (wF U W Y th b : Nat) ∧ A 108 b = (wF U W Y th b : Nat)) ∧ A 16 5 = (wF U W Y th m : Nat) ∧
  (∀ b, b < 80 → A 107 b = (if b < n ∨ (12 ≤ b ∧ b < wF U W Y th m) then 1 else 0)) ∧
  (A 93 27 = A 46 8 ∧ A 93 28 = A 46 7) ∧
  (∀ x, wT n m U W Y th x → (x < 12 → A 94 x = w x) ∧ (¬ x < 12 → w x = 1) ∧ 1 ≤ w x ∧ w x ≤ 9) ∧
  (∀ x, wT n m U W Y th x → A 85 x = pl x ∧ A 115 x = pl x ∧ 0 ≤ pl x ∧ pl x ≤ 6000 ∧ pl x + w x ≤ A 84 3) ∧ (A 84 3 = 0 ∨ ∃ x, wT n m U W Y th x ∧ A 84 3 = pl x + w x) ∧ caN A n m U W Y th
def RNc (A : Nat → Nat → Int) : Prop := ∃ n m U W Y th z w pl, RNx A n m U W Y th z w pl
/-- RNc speaks of these cells alone -/
theorem RN_fr {B : Nat → Nat → Int} (e : ∀ c, c ≠ 0 → ¬ (77 ≤ c ∧ c ≤ 83) → ¬ (88 ≤ c ∧ c ≤ 92) → ¬ (118 ≤ c ∧ c ≤ 122) → B c = A c) (h : RNc A) : RNc B := by
  obtain ⟨n, m, U, W, Y, th, z, w, pl, ⟨h1, h2⟩, ⟨h3, h4, h5⟩, h6, ⟨h7, h8⟩, h9⟩ := h
  have h12 : hY Y n ≤ 12 := by
    have := h_n h1.2.1
    have := h1.2.1.1
    omega
  have ec : ∀ c, c ≠ 0 ∧ (c < 77 ∨ (83 < c ∧ c < 88) ∨ (92 < c ∧ c < 118)) → B c = A c := fun c hc => e c hc.1 (by omega) (by omega) (by omega)
  have g12 : ∀ q, q < wB U W Y th m → wG m U W Y th q < 12 := fun q hq => by
    have := (wP_p h1.2.1 hq).2.2.2.2.2.2
    have := h1.2.1.1
    omega
  refine ⟨n, m, U, W, Y, th, z, w, pl, ⟨?_, ?_⟩, ⟨h3, ?_, ?_⟩, ?_, ⟨?_, ?_⟩, ?_⟩
  · exact ⟨lyC_eo h1.1 (ec 1 (by decide)) (ec 5 (by decide)) (ec 11 (by decide)) (ec 12 (by decide)), h1.2.1, by rw [ec 14 (by decide)]; exact h1.2.2⟩
  · unfold mrC mgC at *
    rw [ec 93 (by decide), ec 97 (by decide), ec 99 (by decide), ec 100 (by decide), ec 101 (by decide)]
    exact h2
  · exact roC_eo h4 h12 (fun c hc => ec c (by omega))
  · unfold roM at *
    rw [ec 112 (by decide), ec 111 (by decide), ec 113 (by decide)]
    exact h5
  · rw [ec 114 (by decide)]
    exact h6
  · exact pcC_eo g12 h7 (fun c a b => ec c (by omega))
  · unfold pcM at *
    rw [ec 93 (by decide), ec 109 (by decide), ec 110 (by decide), ec 106 (by decide)]
    exact h8
  · unfold caN at *
    rw [ec 1 (by decide), ec 5 (by decide), ec 11 (by decide), ec 12 (by decide), ec 14 (by decide), ec 17 (by decide), ec 108 (by decide), ec 16 (by decide), ec 107 (by decide), ec 93 (by decide), ec 46 (by decide), ec 94 (by decide), ec 85 (by decide), ec 115 (by decide), ec 84 (by decide)]
    exact h9
end rnd
end sp_rn
