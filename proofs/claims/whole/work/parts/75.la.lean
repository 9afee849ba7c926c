section lam
variable {A : Nat → Nat → Int} {key : Nat → Nat}
/-- the model's rows: the items below k -/
def rwM (A : Nat → Nat → Int) (key : Nat → Nat) (k : Nat) : Prop := (∀ l, l < 12 → A 112 l = (ctg key l k : Nat)) ∧ ∀ i, i < k → key i < 12 → A 111 (80 * key i + ctg key (key i) i) = (i : Nat) ∧ A 113 i = (ctg key (key i) i : Nat)
theorem rwM_s {k : Nat} (h80 : k < 80) (hk : key k < 12) (h : rwM A key k) : rwM (mj_u2 (mj_u2 (mj_u2 A 111 (80 * key k + ctg key (key k) k) (k : Nat)) 113 k (ctg key (key k) k : Nat)) 112 (key k) ((ctg key (key k) k : Nat) + 1)) key (k + 1) := by
  obtain ⟨h1, h2⟩ := h
  refine ⟨fun l hl => ?_, fun i hi hk2 => ?_⟩
  · rw [u2_at]
    by_cases e : l = key k
    · rw [if_pos ⟨rfl, e⟩, e, ctg_s rfl]
      omega
    · rw [if_neg (fun y => e y.2), u2_c (by omega), u2_c (by omega), ctg_n (fun y => e y.symm)]
      exact h1 l hl
  · by_cases e : i = k
    · subst e
      refine ⟨?_, ?_⟩
      · rw [u2_c (by omega), u2_c (by omega), u2_self]
      · rw [u2_c (by omega), u2_self]
    · have h3 := h2 i (by omega) hk2
      have c1 := ctg_le (g := key) (l := key i) i
      have c2 := ctg_le (g := key) (l := key k) k
      refine ⟨?_, ?_⟩
      · rw [u2_c (by omega), u2_c (by omega), u2_at, if_neg (fun y => ?_)]
        · exact h3.1
        · have := ctg_lt (g := key) (l := key i) (a := i) (b := k) (by omega) rfl
          have e2 : key i = key k := by omega
          rw [e2] at this y
          omega
      · rw [u2_c (by omega), u2_k e, u2_c (by omega)]
        exact h3.2
theorem rwM_n {k : Nat} (hk : ¬ key k < 12) (h : rwM A key k) : rwM A key (k + 1) := by
  obtain ⟨h1, h2⟩ := h
  refine ⟨fun l hl => ?_, fun i hi hk2 => ?_⟩
  · rw [ctg_n (by omega)]
    exact h1 l hl
  · by_cases e : i = k
    · rw [e] at hk2
      exact absurd hk2 hk
    · exact h2 i (by omega) hk2
end lam
section sp_la
variable {d : Nat} {post : Option mj_V → mj_H → Prop} {K : Nat → Nat × Nat} {ρ : Nat → Nat → Option Nat} {A : Nat → Nat → Int} {n m : Nat} {U W Y : Nat → Nat} {th : Nat → Int}
def mrC (A : Nat → Nat → Int) (n m : Nat) (U W Y : Nat → Nat) (th : Nat → Int) : Prop := mgC A n m U W th ∧ dr n m U W Y th ∧ ∀ v, v < n → A 99 v = (Y v : Nat)
/-- items and layers below i -/
def la1 (A : Nat → Nat → Int) (n : Nat) (Y : Nat → Nat) (i : Nat) (A2 : Nat → Nat → Int) : Prop := eo [106, 107] A A2 ∧ ∀ b, b < i → A2 107 b = (if b < n then 1 else 0) ∧ A2 106 b = (if b < n then ((Y b : Nat) : Int) else 0)
set_option maxRecDepth 100000 in
theorem la_1 (L : Lay K ρ) (h : mrC A n m U W Y th) (kk : ∀ A2, la1 A n Y 80 A2 → mj_W (mj_lv d) prog_11_method_26_code 9 0 0 0 post 57 [some (.inr (.inl (some 93))), some (.inl (iZ (80))), none, none, none, none] [] (123, K, zs (A2), ρ) 0 0) : ∀ (j i : Nat) (A2 : Nat → Nat → Int), 80 - i < j → i ≤ 80 → la1 A n Y i A2 → mj_W (mj_lv d) prog_11_method_26_code 9 0 0 0 post 2 [some (.inr (.inl (some 93))), some (.inl (iZ ((i : Int)))), none, none, none, none] [] (123, K, zs (A2), ρ) 0 0
  | 0, i, _, hj, _, _ => absurd hj (by omega)
  | j + 1, i, A2, hj, hi, hI => by
    obtain ⟨h1, h2, h3⟩ := id h
    have hn12 := h2.1
    obtain ⟨hE, hb⟩ := id hI
    refine mq_iload_n d50_2 rfl rfl ?_
    refine zq_bipush d50_3 rfl ?_
    refine zq_icmp_ge (tgt := 57) d50_5 (by decide) (by omega) (by omega) (fun g => ?_) (fun g => ?_)
    · have e : i = 80 := by omega
      subst e
      exact kk A2 hI
    · refine mq_aload_n d50_8 rfl rfl ?_
      refine zg_getR L 107 d50_9 rfl rfl (by decide) rfl (by decide) rfl ?_
      refine mq_iload_n d50_12 rfl rfl ?_
      refine mq_iload_n d50_13 rfl rfl ?_
      refine mq_aload_n d50_14 rfl rfl ?_
      refine zg_getIe L ((n : Int)) d50_15 rfl rfl (by decide) rfl ((by rw [hE 93 rfl]; exact h1.1)) ?_
      refine zq_icmp_ge (tgt := 25) d50_18 (by decide) (by omega) (by omega) (fun g2 => ?_) (fun g2 => ?_)
      · refine zq_iconst d50_25 ?_
        refine zg_zastN L d50_26 (by decide) rfl (by omega) (by first | decide | omega) ?_
        refine mq_aload_n d50_27 rfl rfl ?_
        refine zg_getR L 106 d50_28 rfl rfl (by decide) rfl (by decide) rfl ?_
        refine mq_iload_n d50_31 rfl rfl ?_
        refine mq_iload_n d50_32 rfl rfl ?_
        refine mq_aload_n d50_33 rfl rfl ?_
        refine zg_getIe L ((n : Int)) d50_34 rfl rfl (by decide) rfl ((by rw [u2_c (by decide), hE 93 rfl]; exact h1.1)) ?_
        refine zq_icmp_ge (tgt := 49) d50_37 (by decide) (by omega) (by omega) (fun g3 => ?_) (fun g3 => ?_)
        · refine zq_iconst d50_49 ?_
          refine zg_iastN L d50_50 (by decide) rfl (by omega) ?_
          refine zq_iinc d50_51 rfl rfl ?_
          refine mq_goto (tgt := 2) d50_54 (by decide) ?_
          refine la_1 L h kk j (i + 1) _ (by omega) (by omega) ⟨eo_u2 rfl (eo_u2 rfl hE), fun b hb2 => ?_⟩
          by_cases e : b = i
          · subst e
            rw [u2_c (by decide), u2_self, u2_self, if_neg (by omega), if_neg (by omega)]
            exact ⟨rfl, rfl⟩
          · rw [u2_c (by decide), u2_k e, u2_k e, u2_c (by decide)]
            exact hb b (by omega)
        · omega
      · refine zq_iconst d50_21 ?_
        refine mq_goto (tgt := 26) d50_22 (by decide) ?_
        refine zg_zastN L d50_26 (by decide) rfl (by omega) (by first | decide | omega) ?_
        refine mq_aload_n d50_27 rfl rfl ?_
        refine zg_getR L 106 d50_28 rfl rfl (by decide) rfl (by decide) rfl ?_
        refine mq_iload_n d50_31 rfl rfl ?_
        refine mq_iload_n d50_32 rfl rfl ?_
        refine mq_aload_n d50_33 rfl rfl ?_
        refine zg_getIe L ((n : Int)) d50_34 rfl rfl (by decide) rfl ((by rw [u2_c (by decide), hE 93 rfl]; exact h1.1)) ?_
        refine zq_icmp_ge (tgt := 49) d50_37 (by decide) (by omega) (by omega) (fun g3 => ?_) (fun g3 => ?_)
        · omega
        · refine mq_aload_n d50_40 rfl rfl ?_
          refine zg_getR L 99 d50_41 rfl rfl (by decide) rfl (by decide) rfl ?_
          refine mq_iload_n d50_44 rfl rfl ?_
          refine zr_ialdV L ((Y i : Nat)) d50_45 (by decide) rfl (by omega) ((by rw [u2_c (by decide), hE 99 rfl]; exact h3 i (by omega))) ?_
          refine mq_goto (tgt := 50) d50_46 (by decide) ?_
          refine zg_iastN L d50_50 (by decide) rfl (by omega) ?_
          refine zq_iinc d50_51 rfl rfl ?_
          refine mq_goto (tgt := 2) d50_54 (by decide) ?_
          refine la_1 L h kk j (i + 1) _ (by omega) (by omega) ⟨eo_u2 rfl (eo_u2 rfl hE), fun b hb2 => ?_⟩
          by_cases e : b = i
          · subst e
            rw [u2_c (by decide), u2_self, u2_self, if_pos (by omega), if_pos (by omega)]
            exact ⟨rfl, rfl⟩
          · rw [u2_c (by decide), u2_k e, u2_k e, u2_c (by decide)]
            exact hb b (by omega)
/-- pieces below p, items below nx -/
def laI (A : Nat → Nat → Int) (n m : Nat) (U W Y : Nat → Nat) (th : Nat → Int) (a p nx : Nat) (A2 : Nat → Nat → Int) : Prop := eo [93, 106, 107, 108, 109, 110] A A2 ∧ (∀ j, j ≠ 22 → A2 93 j = A 93 j) ∧ A2 93 22 = (p : Nat) ∧ (∀ b, b < 80 → A2 107 b = (if b < n ∨ (12 ≤ b ∧ b < nx) then 1 else 0)) ∧ (∀ b, b < 80 → b < n ∨ (12 ≤ b ∧ b < nx) → A2 106 b = (wL m U W Y th b : Nat)) ∧ (∀ q, q < p → A2 109 q = (wU m U W Y th q : Nat) ∧ A2 110 q = (wD m U W Y th q : Nat)) ∧ ∀ b, b < a → th b = 1 → A2 108 b = (wF U W Y th b : Nat)
set_option maxRecDepth 100000 in
theorem la_2 (L : Lay K ρ) (h : mrC A n m U W Y th) {a : Nat} (ha : a < m) (ht : th a = 1)
    (kk : ∀ A2 x3 x4 x5, laI A n m U W Y th (a + 1) (wB U W Y th a + wS U W Y a) (wF U W Y th a + (wS U W Y a - 1)) A2 → (∀ y, x5 = some y → ∃ w, y = .inl w) → mj_W (mj_lv d) prog_11_method_26_code 9 0 0 0 post 224 [some (.inr (.inl (some 93))), some (.inl (iZ ((wF U W Y th a + (wS U W Y a - 1) : Nat)))), some (.inl (iZ ((a : Int)))), some (.inl x3), some (.inl x4), x5] [] (123, K, zs (A2), ρ) 0 0) : ∀ (j k : Nat) (A2 : Nat → Nat → Int) (x5 : Option mj_V), wS U W Y a - k < j → k ≤ wS U W Y a → (∀ y, x5 = some y → ∃ w, y = .inl w) → laI A n m U W Y th (a + 1) (wB U W Y th a + k) (wF U W Y th a + (if k < wS U W Y a then k else k - 1)) A2 → mj_W (mj_lv d) prog_11_method_26_code 9 0 0 0 post 116 [some (.inr (.inl (some 93))), some (.inl (iZ ((wF U W Y th a + (if k < wS U W Y a then k else k - 1) : Nat)))), some (.inl (iZ ((a : Int)))), some (.inl (iZ ((wI U W Y th a k : Nat)))), some (.inl (iZ ((Y (U a) + 1 + k : Nat)))), x5] [] (123, K, zs (A2), ρ) 0 0
  | 0, k, _, _, hj, _, _, _ => absurd hj (by omega)
  | j + 1, k, A2, x5, hj, hk, hx5, hI => by
    obtain ⟨h1, h2, h3⟩ := id h
    have hn12 := h2.1
    have hm24 := h2.2.1
    have hF72 := h2.2.2.2.2
    have sp := wS_p h2 ha ht
    obtain ⟨⟨a1, a2⟩, ⟨a3, a4⟩, a5, a6⟩ := h1.2.2.2.2 a ha
    obtain ⟨hE, e93, e22, e107, e106, ePP, e108⟩ := id hI
    have hY := h2.2.2.2.1 _ a4
    have B84 := wB_84 h2 (Nat.le_refl m)
    have Bm := mono_le (B := wB U W Y th) wB_mono (a := a + 1) (m := m) (by omega)
    rw [wB_s ht] at Bm
    have Fm := mono_le (B := wF U W Y th) wF_mono (a := a + 1) (m := m) (by omega)
    rw [wF_s ht] at Fm
    have F12 := wF_12 (U := U) (L := W) (Y := Y) (th := th) a
    refine mq_iload d50_116 rfl ?_
    refine mq_aload_n d50_118 rfl rfl ?_
    refine zg_getR L 99 d50_119 rfl rfl (by decide) rfl (by decide) rfl ?_
    refine mq_aload_n d50_122 rfl rfl ?_
    refine zg_getR L 101 d50_123 rfl rfl (by decide) rfl (by decide) rfl ?_
    refine mq_iload_n d50_126 rfl rfl ?_
    refine zr_ialdV L ((W a : Int)) d50_127 (by decide) rfl (by omega) ((by rw [hE 101 rfl]; exact a2)) ?_
    refine zr_ialdV L ((Y (W a) : Nat)) d50_128 (by decide) rfl (by omega) ((by rw [hE 99 rfl]; exact h3 _ a4)) ?_
    refine zq_icmp_gt (tgt := 224) d50_129 (by decide) (by omega) (by omega) (fun g => ?_) (fun g => ?_)
    · have e : k = wS U W Y a := by omega
      subst e
      rw [if_neg (by omega)] at hI ⊢
      exact kk A2 _ _ x5 hI hx5
    · have kS : k < wS U W Y a := by omega
      rw [if_pos kS] at hI e107 e106 ⊢
      have eu := wU_at (m := m) (U := U) (L := W) (Y := Y) ha ht kS
      have ed := wD_at (m := m) (U := U) (L := W) (Y := Y) ha ht kS
      have wi := wI_p h2 ha ht (k := k) (by omega)
      have st5 : ∀ l1 : mj_V, mj_ok [some (.inr (.inl (some 93))), some (.inl (iZ ((wF U W Y th a + k : Nat)))), some (.inl (iZ ((a : Int)))), some (.inl (iZ ((wI U W Y th a k : Nat)))), some (.inl (iZ ((Y (U a) + 1 + k : Nat)))), x5] 5 = true := fun _ => by
        cases x5 with
        | none => rfl
        | some y =>
          obtain ⟨w, rfl⟩ := hx5 y rfl
          rfl
      -- behind the bend
      have fin : ∀ A3 : Nat → Nat → Int, eo [93, 106, 107, 108, 109, 110] A A3 → (∀ j, j ≠ 22 → A3 93 j = A 93 j) → A3 93 22 = (wB U W Y th a + k : Nat) → (∀ b, b < 80 → A3 107 b = (if b < n ∨ (12 ≤ b ∧ b < wF U W Y th a + (if k + 1 < wS U W Y a then k + 1 else k)) then 1 else 0)) → (∀ b, b < 80 → b < n ∨ (12 ≤ b ∧ b < wF U W Y th a + (if k + 1 < wS U W Y a then k + 1 else k)) → A3 106 b = (wL m U W Y th b : Nat)) → (∀ q, q < wB U W Y th a + k → A3 109 q = (wU m U W Y th q : Nat) ∧ A3 110 q = (wD m U W Y th q : Nat)) → (∀ b, b < a + 1 → th b = 1 → A3 108 b = (wF U W Y th b : Nat)) → mj_W (mj_lv d) prog_11_method_26_code 9 0 0 0 post 184 [some (.inr (.inl (some 93))), some (.inl (iZ ((wF U W Y th a + (if k + 1 < wS U W Y a then k + 1 else k) : Nat)))), some (.inl (iZ ((a : Int)))), some (.inl (iZ ((wI U W Y th a k : Nat)))), some (.inl (iZ ((Y (U a) + 1 + k : Nat)))), some (.inl (iZ ((wI U W Y th a (k + 1) : Nat))))] [] (123, K, zs (A3), ρ) 0 0 := fun A3 f1 f2 f3 f4 f5 f6 f7 => by
        refine mq_aload_n d50_184 rfl rfl ?_
        refine zg_getR L 109 d50_185 rfl rfl (by decide) rfl (by decide) rfl ?_
        refine mq_aload_n d50_188 rfl rfl ?_
        refine zg_getIe L ((wB U W Y th a + k : Nat)) d50_189 rfl rfl (by decide) rfl (f3) ?_
        refine mq_iload_n d50_192 rfl rfl ?_
        refine zg_iastN L d50_193 (by decide) rfl (by omega) ?_
        refine mq_aload_n d50_194 rfl rfl ?_
        refine zg_getR L 110 d50_195 rfl rfl (by decide) rfl (by decide) rfl ?_
        refine mq_aload_n d50_198 rfl rfl ?_
        refine zg_getIe L ((wB U W Y th a + k : Nat)) d50_199 rfl rfl (by decide) rfl ((by rw [u2_c (by decide)]; exact f3)) ?_
        refine mq_iload d50_202 rfl ?_
        refine zg_iastN L d50_204 (by decide) rfl (by omega) ?_
        refine mq_aload_n d50_205 rfl rfl ?_
        refine mq_dup d50_206 rfl ?_
        refine zg_getIe L ((wB U W Y th a + k : Nat)) d50_207 rfl rfl (by decide) rfl ((by rw [u2_c (by decide), u2_c (by decide)]; exact f3)) ?_
        refine zq_iconst d50_210 ?_
        refine zq_iadd d50_211 ?_
        refine zg_putI L d50_212 rfl rfl rfl rfl (by decide) rfl ?_
        refine mq_iload d50_215 rfl ?_
        refine mq_istore_n d50_217 rfl (Nat.le_of_ble_eq_true rfl) rfl ?_
        refine zq_iinc d50_218 rfl rfl ?_
        refine mq_goto (tgt := 116) d50_221 (by decide) ?_
        have ek : (((Y (U a) + 1 + k : Nat) : Int)) + 1 = ((Y (U a) + 1 + (k + 1) : Nat) : Int) := by omega
        rw [ek]
        have ei : (if k + 1 < wS U W Y a then k + 1 else k) = (if k + 1 < wS U W Y a then k + 1 else k + 1 - 1) := by split <;> omega
        rw [ei] at f4 f5 ⊢
        refine la_2 L h ha ht kk j (k + 1) _ _ (by omega) (by omega) (fun y e => ⟨_, (Option.some.inj e).symm⟩) ⟨eo_u2 rfl (eo_u2 rfl (eo_u2 rfl f1)), fun j hj => ?_, ?_, fun b hb => ?_, fun b hb hb2 => ?_, fun q hq => ?_, fun b hb tb => ?_⟩
        · rw [u2_k hj, u2_c (by decide), u2_c (by decide)]
          exact f2 j hj
        · rw [u2_self]
          omega
        · rw [u2_c (by decide), u2_c (by decide), u2_c (by decide)]
          exact f4 b hb
        · rw [u2_c (by decide), u2_c (by decide), u2_c (by decide)]
          exact f5 b hb hb2
        · by_cases y : q = wB U W Y th a + k
          · subst y
            refine ⟨?_, ?_⟩
            · rw [u2_c (by decide), u2_c (by decide), u2_self, eu]
            · rw [u2_c (by decide), u2_self, ed]
          · have := f6 q (by omega)
            refine ⟨?_, ?_⟩
            · rw [u2_c (by decide), u2_c (by decide), u2_k y]
              exact this.1
            · rw [u2_c (by decide), u2_k y, u2_c (by decide)]
              exact this.2
        · rw [u2_c (by decide), u2_c (by decide), u2_c (by decide)]
          exact f7 b hb tb
      refine mq_iload d50_132 rfl ?_
      refine mq_aload_n d50_134 rfl rfl ?_
      refine zg_getR L 99 d50_135 rfl rfl (by decide) rfl (by decide) rfl ?_
      refine mq_aload_n d50_138 rfl rfl ?_
      refine zg_getR L 101 d50_139 rfl rfl (by decide) rfl (by decide) rfl ?_
      refine mq_iload_n d50_142 rfl rfl ?_
      refine zr_ialdV L ((W a : Int)) d50_143 (by decide) rfl (by omega) ((by rw [hE 101 rfl]; exact a2)) ?_
      refine zr_ialdV L ((Y (W a) : Nat)) d50_144 (by decide) rfl (by omega) ((by rw [hE 99 rfl]; exact h3 _ a4)) ?_
      refine zq_icmp_ne (tgt := 157) d50_145 (by decide) (by omega) (by omega) (fun g2 => ?_) (fun g2 => ?_)
      · have kl : k + 1 < wS U W Y a := by omega
        have ei : wI U W Y th a (k + 1) = wF U W Y th a + k := by
          unfold wI
          rw [if_neg (by omega), if_neg (by omega)]
          omega
        obtain ⟨b1, b2, b3⟩ := wL_bend (m := m) (U := U) (L := W) (Y := Y) ha ht (k := k + 1) (by omega) kl
        rw [show wF U W Y th a + (k + 1) - 1 = wF U W Y th a + k by omega] at b1 b2 b3
        rw [if_pos kl, ei] at fin
        refine mq_iload_n d50_157 rfl rfl ?_
        refine mq_istore d50_158 (Nat.le_of_ble_eq_true rfl) (st5 (.inl 0)) ?_
        refine mq_iload d50_160 rfl ?_
        refine mq_iload_n d50_162 rfl rfl ?_
        refine zq_icmp_ne (tgt := 184) d50_163 (by decide) (by omega) (by omega) (fun g3 => ?_) (fun g3 => ?_)
        · exact absurd rfl g3
        · refine mq_aload_n d50_166 rfl rfl ?_
          refine zg_getR L 107 d50_167 rfl rfl (by decide) rfl (by decide) rfl ?_
          refine mq_iload_n d50_170 rfl rfl ?_
          refine zq_iconst d50_171 ?_
          refine zg_zastN L d50_172 (by decide) rfl (by omega) (by first | decide | omega) ?_
          refine mq_aload_n d50_173 rfl rfl ?_
          refine zg_getR L 106 d50_174 rfl rfl (by decide) rfl (by decide) rfl ?_
          refine mq_iload_n d50_177 rfl rfl ?_
          refine mq_iload d50_178 rfl ?_
          refine zg_iastN L d50_180 (by decide) rfl (by omega) ?_
          refine zq_iinc d50_181 rfl rfl ?_
          have ek : (((wF U W Y th a + k : Nat) : Int)) + 1 = ((wF U W Y th a + (k + 1) : Nat) : Int) := by omega
          rw [ek]
          refine fin _ (eo_u2 rfl (eo_u2 rfl hE)) (fun j hj => ?_) ?_ (fun b hb => ?_) (fun b hb hb2 => ?_) (fun q hq => ?_) (fun b hb tb => ?_)
          · rw [u2_c (by decide), u2_c (by decide)]
            exact e93 j hj
          · rw [u2_c (by decide), u2_c (by decide)]
            exact e22
          · rw [u2_c (by decide)]
            by_cases y : b = wF U W Y th a + k
            · subst y
              rw [u2_self, if_pos (by omega)]
            · rw [u2_k y, e107 b hb]
              by_cases z : b < n ∨ (12 ≤ b ∧ b < wF U W Y th a + k)
              · rw [if_pos z, if_pos (by omega)]
              · rw [if_neg z, if_neg (by omega)]
          · by_cases y : b = wF U W Y th a + k
            · subst y
              rw [u2_self, b1]
              omega
            · rw [u2_k y, u2_c (by decide)]
              exact e106 b hb (by omega)
          · rw [u2_c (by decide), u2_c (by decide), u2_c (by decide), u2_c (by decide)]
            exact ePP q hq
          · rw [u2_c (by decide), u2_c (by decide)]
            exact e108 b hb tb
      · have kl : k + 1 = wS U W Y a := by omega
        have ei : wI U W Y th a (k + 1) = W a := by
          unfold wI
          rw [if_neg (by omega), if_pos kl]
        rw [if_neg (by omega), ei] at fin
        refine mq_aload_n d50_148 rfl rfl ?_
        refine zg_getR L 101 d50_149 rfl rfl (by decide) rfl (by decide) rfl ?_
        refine mq_iload_n d50_152 rfl rfl ?_
        refine zr_ialdV L (W a : Int) d50_153 (by decide) rfl (by omega) (by rw [hE 101 rfl]; exact a2) ?_
        refine mq_goto (tgt := 158) d50_154 (by decide) ?_
        refine mq_istore d50_158 (Nat.le_of_ble_eq_true rfl) (st5 (.inl 0)) ?_
        refine mq_iload d50_160 rfl ?_
        refine mq_iload_n d50_162 rfl rfl ?_
        refine zq_icmp_ne (tgt := 184) d50_163 (by decide) (by omega) (by omega) (fun g3 => ?_) (fun g3 => ?_)
        · exact fin A2 hE e93 e22 e107 e106 ePP e108
        · omega
set_option maxRecDepth 100000 in
theorem la_3 (L : Lay K ρ) (h : mrC A n m U W Y th)
    (kk : ∀ A2 x3 x4 x5, laI A n m U W Y th m (wB U W Y th m) (wF U W Y th m) A2 → (∀ y, x3 = some y → ∃ w, y = .inl w) → mj_W (mj_lv d) prog_11_method_26_code 9 0 0 0 post 230 [some (.inr (.inl (some 93))), some (.inl (iZ ((wF U W Y th m : Nat)))), some (.inl (iZ ((m : Int)))), x3, x4, x5] [] (123, K, zs (A2), ρ) 0 0) : ∀ (j a : Nat) (A2 : Nat → Nat → Int) (x3 x4 x5 : Option mj_V), m - a < j → a ≤ m → (∀ y, x3 = some y → ∃ w, y = .inl w) → (∀ y, x4 = some y → ∃ w, y = .inl w) → (∀ y, x5 = some y → ∃ w, y = .inl w) → laI A n m U W Y th a (wB U W Y th a) (wF U W Y th a) A2 → mj_W (mj_lv d) prog_11_method_26_code 9 0 0 0 post 67 [some (.inr (.inl (some 93))), some (.inl (iZ ((wF U W Y th a : Nat)))), some (.inl (iZ ((a : Int)))), x3, x4, x5] [] (123, K, zs (A2), ρ) 0 0
  | 0, a, _, _, _, _, hj, _, _, _, _, _ => absurd hj (by omega)
  | j + 1, a, A2, x3, x4, x5, hj, ha, hx3, hx4, hx5, hI => by
    obtain ⟨h1, h2, h3⟩ := id h
    have hn12 := h2.1
    have hm24 := h2.2.1
    have hF72 := h2.2.2.2.2
    obtain ⟨hE, e93, e22, e107, e106, ePP, e108⟩ := id hI
    refine mq_iload_n d50_67 rfl rfl ?_
    refine mq_aload_n d50_68 rfl rfl ?_
    refine zg_getIe L ((m : Int)) d50_69 rfl rfl (by decide) rfl ((by rw [e93 1 (by decide)]; exact h1.2.1)) ?_
    refine zq_icmp_ge (tgt := 230) d50_72 (by decide) (by omega) (by omega) (fun g => ?_) (fun g => ?_)
    · have e : a = m := by omega
      subst e
      exact kk A2 _ _ _ hI hx3
    · have ham : a < m := by omega
      obtain ⟨⟨a1, a2⟩, ⟨a3, a4⟩, a5, a6⟩ := h1.2.2.2.2 a ham
      refine mq_aload_n d50_75 rfl rfl ?_
      refine zg_getR L 97 d50_76 rfl rfl (by decide) rfl (by decide) rfl ?_
      refine mq_iload_n d50_79 rfl rfl ?_
      refine zr_zaldV L (th a) d50_80 (by decide) rfl (by omega) ((by rw [hE 97 rfl]; exact a5)) ?_
      refine zq_if_ne (tgt := 87) d50_81 (by decide) (by omega) (fun g2 => ?_) (fun g2 => ?_)
      · have t1 : th a = 1 := by omega
        have sp := wS_p h2 ham t1
        have Fm := mono_le (B := wF U W Y th) wF_mono (a := a + 1) (m := m) (by omega)
        have hYU := h2.2.2.2.1 _ a3
        have okL : ∀ (v : Option mj_V), (∀ y, v = some y → ∃ w, y = .inl w) → v = none ∨ ∃ w, v = some (.inl w) := fun v hv => by
          cases v with
          | none => exact Or.inl rfl
          | some y =>
            obtain ⟨w, rfl⟩ := hv y rfl
            exact Or.inr ⟨w, rfl⟩
        have st : ∀ v : Int, mj_ok [some (.inr (.inl (some 93))), some (.inl (iZ ((wF U W Y th a : Nat)))), some (.inl (iZ ((a : Int)))), x3, x4, x5] 3 = true ∧ mj_ok [some (.inr (.inl (some 93))), some (.inl (iZ ((wF U W Y th a : Nat)))), some (.inl (iZ ((a : Int)))), some (.inl (iZ (v))), x4, x5] 4 = true := fun v => by
          rcases okL x3 hx3 with e | ⟨w, e⟩ <;> rcases okL x4 hx4 with e2 | ⟨w2, e2⟩ <;> rw [e, e2] <;> exact ⟨rfl, rfl⟩
        refine mq_aload_n d50_87 rfl rfl ?_
        refine zg_getR L 108 d50_88 rfl rfl (by decide) rfl (by decide) rfl ?_
        refine mq_iload_n d50_91 rfl rfl ?_
        refine mq_iload_n d50_92 rfl rfl ?_
        refine zg_iastN L d50_93 (by decide) rfl (by omega) ?_
        refine mq_aload_n d50_94 rfl rfl ?_
        refine zg_getR L 100 d50_95 rfl rfl (by decide) rfl (by decide) rfl ?_
        refine mq_iload_n d50_98 rfl rfl ?_
        refine zr_ialdV L ((U a : Int)) d50_99 (by decide) rfl (by omega) ((by rw [u2_c (by decide), hE 100 rfl]; exact a1)) ?_
        refine mq_istore_n d50_100 rfl (Nat.le_of_ble_eq_true rfl) (st 0).1 ?_
        refine mq_aload_n d50_101 rfl rfl ?_
        refine zg_getR L 99 d50_102 rfl rfl (by decide) rfl (by decide) rfl ?_
        refine mq_aload_n d50_105 rfl rfl ?_
        refine zg_getR L 100 d50_106 rfl rfl (by decide) rfl (by decide) rfl ?_
        refine mq_iload_n d50_109 rfl rfl ?_
        refine zr_ialdV L ((U a : Int)) d50_110 (by decide) rfl (by omega) ((by rw [u2_c (by decide), hE 100 rfl]; exact a1)) ?_
        refine zr_ialdV L ((Y (U a) : Nat)) d50_111 (by decide) rfl (by omega) ((by rw [u2_c (by decide), hE 99 rfl]; exact h3 _ a3)) ?_
        refine zq_iconst d50_112 ?_
        refine zq_iadd d50_113 ?_
        refine mq_istore d50_114 (Nat.le_of_ble_eq_true rfl) (st _).2 ?_
        have e0 : ((Y (U a) : Nat) : Int) + 1 = ((Y (U a) + 1 + 0 : Nat) : Int) := by omega
        have e1 : wF U W Y th a = wF U W Y th a + (if 0 < wS U W Y a then 0 else 0 - 1) := by rw [if_pos (by omega)]; rfl
        have e2 : U a = wI U W Y th a 0 := rfl
        have fin := la_2 (post := post) (d := d) L h ham t1 (fun A3 y3 y4 y5 hI3 hy5 => by
          refine zq_iinc d50_224 rfl rfl ?_
          refine mq_goto (tgt := 67) d50_227 (by decide) ?_
          rw [← wF_s t1]
          rw [← wF_s t1, ← wB_s t1] at hI3
          exact la_3 L h kk j (a + 1) A3 _ _ _ (by omega) (by omega) (fun y e => ⟨_, (Option.some.inj e).symm⟩) (fun y e => ⟨_, (Option.some.inj e).symm⟩) hy5 hI3) (wS U W Y a + 1) 0 (mj_u2 A2 108 a (wF U W Y th a : Nat)) x5 (by omega) (by omega) hx5 (by
          rw [← e1]
          refine ⟨eo_u2 rfl hE, fun j hj => ?_, ?_, fun b hb => ?_, fun b hb hb2 => ?_, fun q hq => ?_, fun b hb tb => ?_⟩
          · rw [u2_c (by decide)]
            exact e93 j hj
          · rw [u2_c (by decide)]
            exact e22
          · rw [u2_c (by decide)]
            exact e107 b hb
          · rw [u2_c (by decide)]
            exact e106 b hb hb2
          · rw [u2_c (by decide), u2_c (by decide)]
            exact ePP q hq
          · by_cases y : b = a
            · rw [y, u2_self]
            · rw [u2_k y]
              exact e108 b (by omega) tb)
        rw [← e1, ← e2, ← e0] at fin
        exact fin
      · have t0 : th a ≠ 1 := by omega
        refine mq_goto (tgt := 224) d50_84 (by decide) ?_
        refine zq_iinc d50_224 rfl rfl ?_
        refine mq_goto (tgt := 67) d50_227 (by decide) ?_
        rw [← wF_n (U := U) (L := W) (Y := Y) t0]
        refine la_3 L h kk j (a + 1) A2 _ _ _ (by omega) (by omega) hx3 hx4 hx5 ?_
        rw [wF_n t0, wB_n t0]
        refine ⟨hE, e93, e22, e107, e106, ePP, fun b hb tb => ?_⟩
        by_cases y : b = a
        · rw [y] at tb
          exact absurd tb t0
        · exact e108 b (by omega) tb
end sp_la
