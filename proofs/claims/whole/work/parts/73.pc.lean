-- pieces by their layers
section pcm
variable {A : Nat → Nat → Int} {g pu pd key : Nat → Nat}
/-- the first p pieces stand in their layers' rows -/
def pcC (A : Nat → Nat → Int) (g pu pd : Nat → Nat) (p : Nat) : Prop := (∀ l, l < 12 → A 19 l = (ctg g l p : Nat)) ∧ ∀ q, q < p → A (21 + g q) (ctg g (g q) q) = (pu q : Nat) ∧ A (34 + g q) (ctg g (g q) q) = (pd q : Nat)
theorem pcC_s {p : Nat} (hg : ∀ q, q ≤ p → g q < 12) (h : pcC A g pu pd p) : pcC (mj_u2 (mj_u2 (mj_u2 A (21 + g p) (ctg g (g p) p) (pu p : Nat)) (34 + g p) (ctg g (g p) p) (pd p : Nat)) 19 (g p) ((ctg g (g p) p : Nat) + 1)) g pu pd (p + 1) := by
  obtain ⟨h1, h2⟩ := h
  have gp := hg p (Nat.le_refl _)
  refine ⟨fun l hl => ?_, fun q hq => ?_⟩
  · rw [u2_at]
    by_cases e : l = g p
    · rw [if_pos ⟨rfl, e⟩, e, ctg_s rfl]
      omega
    · rw [if_neg (fun y => e y.2), u2_c (by omega), u2_c (by omega), ctg_n (fun y => e y.symm)]
      exact h1 l hl
  · have gq := hg q (by omega)
    by_cases e : q = p
    · subst e
      refine ⟨?_, ?_⟩
      · rw [u2_c (by omega), u2_c (by omega), u2_self]
      · rw [u2_c (by omega), u2_self]
    · have hne : ¬ (g q = g p ∧ ctg g (g q) q = ctg g (g p) p) := fun y => by
        have := ctg_lt (g := g) (l := g q) (a := q) (b := p) (by omega) rfl
        rw [y.1] at this
        rw [y.1] at y
        omega
      have h3 := h2 q (by omega)
      refine ⟨?_, ?_⟩
      · rw [u2_c (by omega), u2_c (by omega), u2_at, if_neg (fun y => hne ⟨by omega, y.2⟩)]
        exact h3.1
      · rw [u2_c (by omega), u2_at, if_neg (fun y => hne ⟨by omega, y.2⟩), u2_c (by omega)]
        exact h3.2
/-- the items below k stand in their rows -/
def rwC (A : Nat → Nat → Int) (key : Nat → Nat) (k : Nat) : Prop := (∀ l, l < 12 → A 47 l = (ctg key l k : Nat)) ∧ ∀ i, i < k → key i < 12 → A (49 + key i) (ctg key (key i) i) = (i : Nat) ∧ A 74 i = (ctg key (key i) i : Nat)
theorem rwC_s {k : Nat} (hk : key k < 12) (h : rwC A key k) : rwC (mj_u2 (mj_u2 (mj_u2 A (49 + key k) (ctg key (key k) k) (k : Nat)) 74 k (ctg key (key k) k : Nat)) 47 (key k) ((ctg key (key k) k : Nat) + 1)) key (k + 1) := by
  obtain ⟨h1, h2⟩ := h
  refine ⟨fun l hl => ?_, fun i hi hk2 => ?_⟩
  · rw [u2_at]
    by_cases e : l = key k
    · rw [if_pos ⟨rfl, e⟩, e, ctg_s rfl]
      omega
    · rw [if_neg (fun y => e y.2), u2_c (by omega), u2_c (by omega), ctg_n (fun y => e y.symm)]
      exact h1 l hl
  · by_cases e : i = k
    · subst e
      refine ⟨?_, ?_⟩
      · rw [u2_c (by omega), u2_c (by omega), u2_self]
      · rw [u2_c (by omega), u2_self]
    · have h3 := h2 i (by omega) hk2
      refine ⟨?_, ?_⟩
      · rw [u2_c (by omega), u2_c (by omega), u2_at, if_neg (fun y => ?_)]
        · exact h3.1
        · have := ctg_lt (g := key) (l := key i) (a := i) (b := k) (by omega) rfl
          have e2 : key i = key k := by omega
          rw [e2] at this y
          omega
      · rw [u2_c (by omega), u2_k e, u2_c (by omega)]
        exact h3.2
theorem rwC_n {k : Nat} (hk : ¬ key k < 12) (h : rwC A key k) : rwC A key (k + 1) := by
  obtain ⟨h1, h2⟩ := h
  refine ⟨fun l hl => ?_, fun i hi hk2 => ?_⟩
  · rw [ctg_n (by omega)]
    exact h1 l hl
  · by_cases e : i = k
    · rw [e] at hk2
      exact absurd hk2 hk
    · exact h2 i (by omega) hk2
end pcm
section sp_pc
variable {d : Nat} {post : Option mj_V → mj_H → Prop} {K : Nat → Nat × Nat} {ρ : Nat → Nat → Option Nat} {A : Nat → Nat → Int} {n m : Nat} {U W Y : Nat → Nat} {th : Nat → Int}
/-- the layering that is drawn -/
def rcC (A : Nat → Nat → Int) (n m : Nat) (U W Y : Nat → Nat) (th : Nat → Int) : Prop := lyC A n m U W th ∧ dr n m U W Y th ∧ ∀ v, v < n → A 14 v = (Y v : Nat)
theorem rcC_eo {B : Nat → Nat → Int} (h : rcC A n m U W Y th) (e : ∀ c, c < 16 → B c = A c) : rcC B n m U W Y th := ⟨lyC_eo h.1 (e 1 (by decide)) (e 5 (by decide)) (e 11 (by decide)) (e 12 (by decide)), h.2.1, by rw [e 14 (by decide)]; exact h.2.2⟩
theorem rc_sp (h : rcC A n m U W Y th) {a : Nat} (ha : a < m) (ht : th a = 1) : A 14 (W a) - A 14 (U a) = (wS U W Y a : Nat) := by
  obtain ⟨h1, h2, h3⟩ := h
  have e := (h1.2.2.2.2 a ha).2.1
  rw [h3 _ e.1, h3 _ e.2]
  have := wS_p h2 ha ht
  omega
set_option maxRecDepth 100000 in
theorem s_itemOf (L : Lay K ρ) (h : rcC A n m U W Y th) {a k : Nat} (ha : a < m) (ht : th a = 1) (hk : k ≤ wS U W Y a) (h17 : A 17 a = (wF U W Y th a : Nat)) (kk : post (some (.inl (iZ (wI U W Y th a k : Nat)))) (123, K, zs (A), ρ)) : mj_lv (d + 2) m_Pieces_itemOf [.inr (.inl (some 16)), .inr (.inl (some 10)), .inl (iZ (a : Int)), .inl (iZ (k : Int))] (123, K, zs (A), ρ) post := by
  obtain ⟨h1, h2, h3⟩ := id h
  obtain ⟨q1, q2, q3, q4, q5⟩ := id h1
  obtain ⟨⟨a1, a2⟩, ⟨a3, a4⟩, a5, a6⟩ := q5 a ha
  have sp := wS_p h2 ha ht
  show mj_W (mj_lv (d + 1)) prog_6_method_3_code 4 1 0 0 post 0 [some (.inr (.inl (some 16))), some (.inr (.inl (some 10))), some (.inl (iZ ((a : Int)))), some (.inl (iZ ((k : Int))))] [] (123, K, zs (A), ρ) 0 0
  have ei : wI U W Y th a k = if k = 0 then U a else if k = wS U W Y a then W a else wF U W Y th a + k - 1 := rfl
  rw [ei] at kk
  refine mq_iload_n d115_0 rfl rfl ?_
  refine zq_if_ne (tgt := 11) d115_1 (by decide) (by omega) (fun g => ?_) (fun g => ?_)
  · refine mq_iload_n d115_11 rfl rfl ?_
    refine mq_aload_n d115_12 rfl rfl ?_
    refine mq_iload_n d115_13 rfl rfl ?_
    refine zg_callV (c := 10) L [_] d115_14 rfl rfl ⟨rfl, rfl⟩ rfl ⟨rfl, rfl⟩ ⟨by decide, by decide⟩ (by decide) rfl ?_
    refine s_span L h1 ha ?_
    rw [rc_sp h ha ht]
    rw [if_neg (by omega)] at kk
    refine zq_icmp_ne (tgt := 29) d115_17 (by decide) (by omega) (by omega) (fun g2 => ?_) (fun g2 => ?_)
    · rw [if_neg (by omega)] at kk
      refine mq_aload_n d115_29 rfl rfl ?_
      refine zg_getR L 17 d115_30 rfl rfl (by decide) rfl (by decide) rfl ?_
      refine mq_iload_n d115_33 rfl rfl ?_
      refine zr_ialdV L ((wF U W Y th a : Nat)) d115_34 (by decide) rfl (by omega) (h17) ?_
      refine mq_iload_n d115_35 rfl rfl ?_
      refine zq_iadd d115_36 ?_
      refine zq_iconst d115_37 ?_
      refine zq_isub d115_38 ?_
      refine zg_reti d115_39 rfl ?_
      have : ((wF U W Y th a : Nat) : Int) + (k : Int) - 1 = ((wF U W Y th a + k - 1 : Nat) : Int) := by omega
      rw [this]
      exact kk
    · rw [if_pos (by omega)] at kk
      refine mq_aload_n d115_20 rfl rfl ?_
      refine zg_getR L 12 d115_21 rfl rfl (by decide) rfl (by decide) rfl ?_
      refine mq_iload_n d115_24 rfl rfl ?_
      refine zr_ialdV L ((W a : Int)) d115_25 (by decide) rfl (by omega) (a2) ?_
      refine mq_goto (tgt := 39) d115_26 (by decide) ?_
      refine zg_reti d115_39 rfl ?_
      exact kk
  · rw [if_pos (by omega)] at kk
    refine mq_aload_n d115_4 rfl rfl ?_
    refine zg_getR L 11 d115_5 rfl rfl (by decide) rfl (by decide) rfl ?_
    refine mq_iload_n d115_8 rfl rfl ?_
    refine zr_ialdV L ((U a : Int)) d115_9 (by decide) rfl (by omega) (a1) ?_
    refine zg_reti d115_10 rfl ?_
    exact kk
/-- the cells of pieces -/
def pcL : List Nat := [16, 17, 18, 19, 21, 22, 23, 24, 25, 26, 27, 28, 29, 30, 31, 32, 34, 35, 36, 37, 38, 39, 40, 41, 42, 43, 44, 45]
theorem pcL21 {g : Nat} (h : g < 12) : pcL.elem (21 + g) = true := (by decide : ∀ g, g < 12 → pcL.elem (21 + g) = true) g h
theorem pcL34 {g : Nat} (h : g < 12) : pcL.elem (34 + g) = true := (by decide : ∀ g, g < 12 → pcL.elem (34 + g) = true) g h
set_option maxRecDepth 100000 in
theorem ca_1 (L : Lay K ρ) (h : rcC A n m U W Y th) {a : Nat} (ha : a < m) (ht : th a = 1) (h17 : A 17 a = (wF U W Y th a : Nat))
    (kk : ∀ A2, eo pcL A A2 → A2 16 = A 16 → A2 17 = A 17 → A2 18 = A 18 → pcC A2 (wG m U W Y th) (wU m U W Y th) (wD m U W Y th) (wB U W Y th a + wS U W Y a) → post none (123, K, zs (A2), ρ)) : ∀ (j k : Nat) (A2 : Nat → Nat → Int) (x6 : Option mj_V), wS U W Y a - k < j → k ≤ wS U W Y a → (∀ y, x6 = some y → ∃ w, y = .inl w) → eo pcL A A2 → A2 16 = A 16 → A2 17 = A 17 → A2 18 = A 18 → pcC A2 (wG m U W Y th) (wU m U W Y th) (wD m U W Y th) (wB U W Y th a + k) → mj_W (mj_lv (d + 2)) prog_6_method_5_code 4 0 0 0 post 22 [some (.inr (.inl (some 16))), some (.inr (.inl (some 10))), some (.inl (iZ ((a : Int)))), some (.inl (iZ ((wS U W Y a : Nat)))), some (.inl (iZ ((Y (U a) : Nat)))), some (.inl (iZ ((k : Int)))), x6] [] (123, K, zs (A2), ρ) 0 0
  | 0, k, _, _, hj, _, _, _, _, _, _, _ => absurd hj (by omega)
  | j + 1, k, A2, x6, hj, hk, hx6, hE, h16, hE17, h18, hP => by
    obtain ⟨h1, h2, h3⟩ := id h
    have sp := wS_p h2 ha ht
    have hn12 := h2.1
    have hm24 := h2.2.1
    refine mq_iload d117_22 rfl ?_
    refine mq_iload_n d117_24 rfl rfl ?_
    refine zq_icmp_ge (tgt := 100) d117_25 (by decide) (by omega) (by omega) (fun g => ?_) (fun g => ?_)
    · have e : k = wS U W Y a := by omega
      subst e
      refine zg_retv d117_100 (by decide) ?_
      exact kk A2 hE h16 hE17 h18 hP
    · have kS : k < wS U W Y a := by omega
      have hC2 := rcC_eo h (B := A2) (fun c hc => hE c (by simp [pcL]; omega))
      obtain ⟨G, hG⟩ : ∃ G, G = Y (U a) + k := ⟨_, rfl⟩
      have eg : wG m U W Y th (wB U W Y th a + k) = G := by rw [wG_at ha ht kS, hG]
      have eu := wU_at (m := m) (U := U) (L := W) (Y := Y) ha ht kS
      have ed := wD_at (m := m) (U := U) (L := W) (Y := Y) ha ht kS
      have g12 : G < 12 := by omega
      have c24 := wG_24 h2 ha ht (j := k) (by omega)
      rw [← hG] at c24
      have c19 := hP.1 G g12
      have eG : ((Y (U a) : Nat) : Int) + (k : Int) = (G : Nat) := by omega
      refine mq_iload d117_28 rfl ?_
      refine mq_iload d117_30 rfl ?_
      refine zq_iadd d117_32 ?_
      rw [eG]
      have st6 : mj_ok [some (.inr (.inl (some 16))), some (.inr (.inl (some 10))), some (.inl (iZ ((a : Int)))), some (.inl (iZ ((wS U W Y a : Nat)))), some (.inl (iZ ((Y (U a) : Nat)))), some (.inl (iZ ((k : Int)))), x6] 6 = true := by
        cases x6 with
        | none => rfl
        | some y =>
          obtain ⟨w, rfl⟩ := hx6 y rfl
          rfl
      refine mq_istore d117_33 (Nat.le_of_ble_eq_true rfl) st6 ?_
      refine mq_aload_n d117_35 rfl rfl ?_
      refine zg_getR L 20 d117_36 rfl rfl (by decide) rfl (by decide) rfl ?_
      refine mq_iload d117_39 rfl ?_
      refine zr_aald L (21 + G) d117_41 (by decide) rfl (by omega) (rf20 g12) ?_
      refine mq_aload_n d117_42 rfl rfl ?_
      refine zg_getR L 19 d117_43 rfl rfl (by decide) rfl (by decide) rfl ?_
      refine mq_iload d117_46 rfl ?_
      refine zr_ialdV L ((ctg (wG m U W Y th) G (wB U W Y th a + k) : Nat)) d117_48 (by decide) rfl (by omega) (c19) ?_
      refine mq_aload_n d117_49 rfl rfl ?_
      refine mq_aload_n d117_50 rfl rfl ?_
      refine mq_iload_n d117_51 rfl rfl ?_
      refine mq_iload d117_52 rfl ?_
      refine zg_callV (c := 16) L [_, _, _] d117_54 rfl rfl ⟨rfl, rfl⟩ rfl ⟨rfl, rfl⟩ ⟨by decide, by decide⟩ (by decide) rfl ?_
      refine s_itemOf L hC2 ha ht (by omega) (by rw [hE17]; exact h17) ?_
      refine zg_iastN L d117_57 (by omega) (kd21 g12) (by omega) ?_
      refine mq_aload_n d117_58 rfl rfl ?_
      refine zg_getR L 33 d117_59 rfl rfl (by decide) rfl (by decide) rfl ?_
      refine mq_iload d117_62 rfl ?_
      refine zr_aald L (34 + G) d117_64 (by decide) rfl (by omega) (rf33 g12) ?_
      refine mq_aload_n d117_65 rfl rfl ?_
      refine zg_getR L 19 d117_66 rfl rfl (by decide) rfl (by decide) rfl ?_
      refine mq_iload d117_69 rfl ?_
      refine zr_ialdV L ((ctg (wG m U W Y th) G (wB U W Y th a + k) : Nat)) d117_71 (by decide) rfl (by omega) ((by rw [u2_c (by omega)]; exact c19)) ?_
      refine mq_aload_n d117_72 rfl rfl ?_
      refine mq_aload_n d117_73 rfl rfl ?_
      refine mq_iload_n d117_74 rfl rfl ?_
      refine mq_iload d117_75 rfl ?_
      refine zq_iconst d117_77 ?_
      refine zq_iadd d117_78 ?_
      have hB : eo pcL A (mj_u2 A2 (21 + G) (ctg (wG m U W Y th) G (wB U W Y th a + k)) (wI U W Y th a k : Nat)) := eo_u2 (pcL21 g12) hE
      have ek : (k : Int) + 1 = ((k + 1 : Nat) : Int) := by omega
      rw [ek]
      refine zg_callV (c := 16) L [_, _, _] d117_79 rfl rfl ⟨rfl, rfl⟩ rfl ⟨rfl, rfl⟩ ⟨by decide, by decide⟩ (by decide) rfl ?_
      refine s_itemOf L (rcC_eo h (fun c hc => hB c (by simp [pcL]; omega))) ha ht (by omega) (by rw [u2_c (by omega), hE17]; exact h17) ?_
      refine zg_iastN L d117_82 (by omega) (kd34 g12) (by omega) ?_
      refine mq_aload_n d117_83 rfl rfl ?_
      refine zg_getR L 19 d117_84 rfl rfl (by decide) rfl (by decide) rfl ?_
      refine mq_iload d117_87 rfl ?_
      refine mq_dup2 d117_89 rfl rfl ?_
      refine zr_ialdV L ((ctg (wG m U W Y th) G (wB U W Y th a + k) : Nat)) d117_90 (by decide) rfl (by omega) ((by rw [u2_c (by omega), u2_c (by omega)]; exact c19)) ?_
      refine zq_iconst d117_91 ?_
      refine zq_iadd d117_92 ?_
      refine zg_iastN L d117_93 (by decide) rfl (by omega) ?_
      refine zq_iinc d117_94 rfl rfl ?_
      refine mq_goto (tgt := 22) d117_97 (by decide) ?_
      have hs := pcC_s (A := A2) (p := wB U W Y th a + k) (fun q hq => by
        have hlt : wB U W Y th a + k < wB U W Y th m := by
          have := mono_le (B := wB U W Y th) wB_mono (a := a + 1) (m := m) (by omega)
          rw [wB_s ht] at this
          omega
        have := (wP_p h2 (p := q) (by omega)).2.2.2.2.2.2
        omega) hP
      rw [eg, eu, ed] at hs
      refine ca_1 L h ha ht h17 kk j (k + 1) _ _ (by omega) (by omega) (fun y e => ⟨_, (Option.some.inj e).symm⟩) (eo_u2 rfl (eo_u2 (pcL34 g12) hB)) ?_ ?_ ?_ hs
      · rw [u2_cell (by omega), u2_cell (by omega), u2_cell (by omega)]
        exact h16
      · rw [u2_cell (by omega), u2_cell (by omega), u2_cell (by omega)]
        exact hE17
      · rw [u2_cell (by omega), u2_cell (by omega), u2_cell (by omega)]
        exact h18
set_option maxRecDepth 100000 in
theorem s_cutArc (L : Lay K ρ) (h : rcC A n m U W Y th) {a : Nat} (ha : a < m) (ht : th a = 1) (h17 : A 17 a = (wF U W Y th a : Nat)) (hP : pcC A (wG m U W Y th) (wU m U W Y th) (wD m U W Y th) (wB U W Y th a))
    (kk : ∀ A2, eo pcL A A2 → A2 16 = A 16 → A2 17 = A 17 → A2 18 = A 18 → pcC A2 (wG m U W Y th) (wU m U W Y th) (wD m U W Y th) (wB U W Y th a + wS U W Y a) → post none (123, K, zs (A2), ρ)) : mj_lv (d + 3) m_Pieces_cutArc [.inr (.inl (some 16)), .inr (.inl (some 10)), .inl (iZ (a : Int))] (123, K, zs (A), ρ) post := by
  obtain ⟨h1, h2, h3⟩ := id h
  obtain ⟨⟨a1, a2⟩, ⟨a3, a4⟩, a5, a6⟩ := h1.2.2.2.2 a ha
  have hn12 := h2.1
  have hm24 := h2.2.1
  show mj_W (mj_lv (d + 2)) prog_6_method_5_code 4 0 0 0 post 0 [some (.inr (.inl (some 16))), some (.inr (.inl (some 10))), some (.inl (iZ ((a : Int)))), none, none, none, none] [] (123, K, zs (A), ρ) 0 0
  refine mq_aload_n d117_0 rfl rfl ?_
  refine mq_iload_n d117_1 rfl rfl ?_
  refine zg_callV (c := 10) L [_] d117_2 rfl rfl ⟨rfl, rfl⟩ rfl ⟨rfl, rfl⟩ ⟨by decide, by decide⟩ (by decide) rfl ?_
  refine s_span L h1 ha ?_
  rw [rc_sp h ha ht]
  refine mq_istore_n d117_5 rfl (Nat.le_of_ble_eq_true rfl) rfl ?_
  refine mq_aload_n d117_6 rfl rfl ?_
  refine zg_getR L 14 d117_7 rfl rfl (by decide) rfl (by decide) rfl ?_
  refine mq_aload_n d117_10 rfl rfl ?_
  refine zg_getR L 11 d117_11 rfl rfl (by decide) rfl (by decide) rfl ?_
  refine mq_iload_n d117_14 rfl rfl ?_
  refine zr_ialdV L ((U a : Int)) d117_15 (by decide) rfl (by omega) (a1) ?_
  refine zr_ialdV L ((Y (U a) : Nat)) d117_16 (by decide) rfl (by omega) (h3 _ a3) ?_
  refine mq_istore d117_17 (Nat.le_of_ble_eq_true rfl) rfl ?_
  refine zq_iconst d117_19 ?_
  refine mq_istore d117_20 (Nat.le_of_ble_eq_true rfl) rfl ?_
  exact ca_1 L h ha ht h17 kk (wS U W Y a + 1) 0 A _ (by omega) (by omega) (fun y e => absurd e (by simp)) eo_refl rfl rfl rfl hP
/-- at arc a of cut -/
def cuI (A : Nat → Nat → Int) (m : Nat) (U W Y : Nat → Nat) (th : Nat → Int) (a : Nat) (A2 : Nat → Nat → Int) : Prop := eo pcL A A2 ∧ A2 18 = A 18 ∧ A2 16 5 = (wF U W Y th a : Nat) ∧ (∀ b, b < a → th b = 1 → A2 17 b = (wF U W Y th b : Nat)) ∧ pcC A2 (wG m U W Y th) (wU m U W Y th) (wD m U W Y th) (wB U W Y th a)
set_option maxRecDepth 100000 in
theorem cu_1 (L : Lay K ρ) (h : rcC A n m U W Y th) (kk : ∀ A2, cuI A m U W Y th m A2 → post none (123, K, zs (A2), ρ)) : ∀ (j a : Nat) (A2 : Nat → Nat → Int), m - a < j → a ≤ m → cuI A m U W Y th a A2 → mj_W (mj_lv (d + 3)) prog_6_method_4_code 4 0 0 0 post 41 [some (.inr (.inl (some 16))), some (.inr (.inl (some 1))), some (.inr (.inl (some 10))), some (.inl (iZ ((a : Int))))] [] (123, K, zs (A2), ρ) 0 0
  | 0, a, _, hj, _, _ => absurd hj (by omega)
  | j + 1, a, A2, hj, ha, hI => by
    obtain ⟨h1, h2, h3⟩ := id h
    obtain ⟨hE, h18, h16, h17, hP⟩ := id hI
    have hn12 := h2.1
    have hm24 := h2.2.1
    have nx : ∀ A3, cuI A m U W Y th (a + 1) A3 → a < m → mj_W (mj_lv (d + 3)) prog_6_method_4_code 4 0 0 0 post 90 [some (.inr (.inl (some 16))), some (.inr (.inl (some 1))), some (.inr (.inl (some 10))), some (.inl (iZ ((a : Int))))] [] (123, K, zs (A3), ρ) 0 0 := fun A3 hI3 q => by
      refine zq_iinc d116_90 rfl rfl ?_
      refine mq_goto (tgt := 41) d116_93 (by decide) ?_
      exact cu_1 L h kk j (a + 1) A3 (by omega) (by omega) hI3
    refine mq_iload_n d116_41 rfl rfl ?_
    refine mq_aload_n d116_42 rfl rfl ?_
    refine zg_getIe L ((m : Int)) d116_43 rfl rfl (by decide) rfl ((by rw [hE 1 rfl]; exact h1.2.1)) ?_
    refine zq_icmp_ge (tgt := 96) d116_46 (by decide) (by omega) (by omega) (fun g => ?_) (fun g => ?_)
    · have e : a = m := by omega
      subst e
      refine zg_retv d116_96 (by decide) ?_
      exact kk A2 hI
    · have ham : a < m := by omega
      obtain ⟨⟨a1, a2⟩, ⟨a3, a4⟩, a5, a6⟩ := h1.2.2.2.2 a ham
      refine mq_aload_n d116_49 rfl rfl ?_
      refine zg_getR L 5 d116_50 rfl rfl (by decide) rfl (by decide) rfl ?_
      refine mq_iload_n d116_53 rfl rfl ?_
      refine zr_zaldV L (th a) d116_54 (by decide) rfl (by omega) ((by rw [hE 5 rfl]; exact a5)) ?_
      refine zq_if_eq (tgt := 90) d116_55 (by decide) (by omega) (fun g2 => ?_) (fun g2 => ?_)
      · have t0 : th a ≠ 1 := by omega
        refine nx A2 ⟨hE, h18, by rw [wF_n t0]; exact h16, fun b hb tb => ?_, by rw [wB_n t0]; exact hP⟩ ham
        by_cases e : b = a
        · rw [e] at tb
          exact absurd tb t0
        · exact h17 b (by omega) tb
      · have t1 : th a = 1 := by omega
        have sp := wS_p h2 ham t1
        refine mq_aload_n d116_58 rfl rfl ?_
        refine zg_getR L 17 d116_59 rfl rfl (by decide) rfl (by decide) rfl ?_
        refine mq_iload_n d116_62 rfl rfl ?_
        refine mq_aload_n d116_63 rfl rfl ?_
        refine zg_getIe L ((wF U W Y th a : Nat)) d116_64 rfl rfl (by decide) rfl (h16) ?_
        refine zg_iastN L d116_67 (by decide) rfl (by omega) ?_
        obtain ⟨B, hB⟩ : ∃ B, B = mj_u2 A2 17 a (wF U W Y th a : Nat) := ⟨_, rfl⟩
        rw [← hB]
        have eB : eo pcL A B := by rw [hB]; exact eo_u2 rfl hE
        have b17 : B 17 a = (wF U W Y th a : Nat) := by rw [hB, u2_self]
        have b17n : ∀ b, b < a → th b = 1 → B 17 b = (wF U W Y th b : Nat) := fun b hb tb => by
          rw [hB, u2_k (by omega)]
          exact h17 b hb tb
        have bc : ∀ c, c ≠ 17 → B c = A2 c := fun c hc => by rw [hB, u2_cell hc]
        have hCB := rcC_eo h (B := B) (fun c hc => eB c (by simp [pcL]; omega))
        refine mq_aload_n d116_68 rfl rfl ?_
        refine mq_dup d116_69 rfl ?_
        refine zg_getIe L ((wF U W Y th a : Nat)) d116_70 rfl rfl (by decide) rfl ((by rw [bc 16 (by decide)]; exact h16)) ?_
        refine mq_aload_n d116_73 rfl rfl ?_
        refine mq_iload_n d116_74 rfl rfl ?_
        refine zg_callV (c := 10) L [_] d116_75 rfl rfl ⟨rfl, rfl⟩ rfl ⟨rfl, rfl⟩ ⟨by decide, by decide⟩ (by decide) rfl ?_
        refine s_span L hCB.1 ham ?_
        rw [rc_sp hCB ham t1]
        refine zq_iconst d116_78 ?_
        refine zq_isub d116_79 ?_
        refine zq_iadd d116_80 ?_
        refine zg_putI L d116_81 rfl rfl rfl rfl (by decide) rfl ?_
        obtain ⟨C, hC⟩ : ∃ C, C = mj_u2 B 16 5 ((wF U W Y th a : Nat) + ((wS U W Y a : Nat) - 1)) := ⟨_, rfl⟩
        rw [← hC]
        have eC : eo pcL A C := by rw [hC]; exact eo_u2 rfl eB
        have cc : ∀ c, c ≠ 16 → C c = B c := fun c hc => by rw [hC, u2_cell hc]
        refine mq_aload_n d116_84 rfl rfl ?_
        refine mq_aload_n d116_85 rfl rfl ?_
        refine mq_iload_n d116_86 rfl rfl ?_
        refine zg_callV (c := 16) L [_, _] d116_87 rfl rfl ⟨rfl, rfl⟩ rfl ⟨rfl, rfl⟩ ⟨by decide, by decide⟩ (by decide) rfl ?_
        refine s_cutArc L (rcC_eo h (fun c hc => eC c (by simp [pcL]; omega))) ham t1 (by rw [cc 17 (by decide)]; exact b17) ?_ (fun A3 e3 f16 f17 f18 hP3 => ?_)
        · obtain ⟨p1, p2⟩ := hP
          refine ⟨fun l hl => by rw [cc 19 (by decide), bc 19 (by decide)]; exact p1 l hl, fun q hq => ?_⟩
          rw [cc _ (by omega), cc _ (by omega), bc _ (by omega), bc _ (by omega)]
          exact p2 q hq
        · refine nx A3 ⟨eo_trans eC e3, ?_, ?_, fun b hb tb => ?_, by rw [wB_s t1]; exact hP3⟩ ham
          · rw [f18, cc 18 (by decide), bc 18 (by decide)]
            exact h18
          · rw [f16, hC, u2_self, wF_s t1]
            omega
          · rw [f17, cc 17 (by decide)]
            by_cases e : b = a
            · rw [e]
              exact b17
            · exact b17n b (by omega) tb
/-- the items' widths -/
def wWd (A : Nat → Nat → Int) (n : Nat) (i : Nat) : Int := if i < n then A 2 i else 1
set_option maxRecDepth 100000 in
theorem s_cut (L : Lay K ρ) (h : rcC A n m U W Y th) (kk : ∀ A2, eo pcL A A2 → (∀ i, i < 72 → A2 18 i = wWd A n i) → A2 16 5 = (wF U W Y th m : Nat) → (∀ b, b < m → th b = 1 → A2 17 b = (wF U W Y th b : Nat)) → pcC A2 (wG m U W Y th) (wU m U W Y th) (wD m U W Y th) (wB U W Y th m) → post none (123, K, zs (A2), ρ)) : mj_lv (d + 4) m_Pieces_cut [.inr (.inl (some 16)), .inr (.inl (some 1)), .inr (.inl (some 10))] (123, K, zs (A), ρ) post := by
  obtain ⟨h1, h2, h3⟩ := id h
  have hn12 := h2.1
  have hm24 := h2.2.1
  show mj_W (mj_lv (d + 3)) prog_6_method_4_code 4 0 0 0 post 0 [some (.inr (.inl (some 16))), some (.inr (.inl (some 1))), some (.inr (.inl (some 10))), none] [] (123, K, zs (A), ρ) 0 0
  refine mq_aload_n d116_0 rfl rfl ?_
  refine zg_getR L 18 d116_1 rfl rfl (by decide) rfl (by decide) rfl ?_
  refine zq_iconst d116_4 ?_
  refine zg_callS [_, _] d116_5 rfl rfl ⟨rfl, rfl⟩ rfl ⟨rfl, rfl⟩ ⟨by decide, by decide⟩ ?_
  refine s_fill L (by decide) rfl (by decide) ?_
  refine mq_aload_n d116_8 rfl rfl ?_
  refine zg_getR L 2 d116_9 rfl rfl (by decide) rfl (by decide) rfl ?_
  refine zq_iconst d116_12 ?_
  refine mq_aload_n d116_13 rfl rfl ?_
  refine zg_getR L 18 d116_14 rfl rfl (by decide) rfl (by decide) rfl ?_
  refine zq_iconst d116_17 ?_
  refine mq_aload_n d116_18 rfl rfl ?_
  refine zg_getIe L ((n : Int)) d116_19 rfl rfl (by decide) rfl ((by rw [fl_c (by decide)]; exact h1.1)) ?_
  refine zr_copy L d116_22 rfl (by decide) rfl (by decide) rfl (by omega) rfl ?_
  refine mq_aload_n d116_25 rfl rfl ?_
  refine zg_getR L 19 d116_26 rfl rfl (by decide) rfl (by decide) rfl ?_
  refine zq_iconst d116_29 ?_
  refine zg_callS [_, _] d116_30 rfl rfl ⟨rfl, rfl⟩ rfl ⟨rfl, rfl⟩ ⟨by decide, by decide⟩ ?_
  refine s_fill L (by decide) rfl (by decide) ?_
  refine mq_aload_n d116_33 rfl rfl ?_
  refine zq_bipush d116_34 rfl ?_
  refine zg_putI L d116_36 rfl rfl rfl rfl (by decide) rfl ?_
  refine zq_iconst d116_39 ?_
  refine mq_istore_n d116_40 rfl (Nat.le_of_ble_eq_true rfl) rfl ?_
  obtain ⟨B, hB⟩ : ∃ B, B = mj_u2 (fl (cpA (fl A 18 72 1) 2 18 n) 19 12 0) 16 5 12 := ⟨_, rfl⟩
  rw [← hB]
  have bc : ∀ c, c ≠ 16 → c ≠ 18 → c ≠ 19 → B c = A c := fun c q1 q2 q3 => by rw [hB, u2_cell q1, fl_c q3, cpA_c q2, fl_c q2]
  have eB : eo pcL A B := fun c hc => bc c (fun q => by rw [q] at hc; exact absurd hc (by decide)) (fun q => by rw [q] at hc; exact absurd hc (by decide)) (fun q => by rw [q] at hc; exact absurd hc (by decide))
  have b18 : ∀ i, i < 72 → B 18 i = wWd A n i := fun i hi => by
    rw [hB, u2_c (by decide), fl_c (by decide)]
    unfold wWd
    by_cases q : i < n
    · rw [cpA_in q, fl_c (by decide), if_pos q]
    · rw [cpA_out q, fl_lt hi, if_neg q]
  refine cu_1 (A := B) L (rcC_eo h (fun c hc => bc c (by omega) (by omega) (by omega))) (fun A2 hI => ?_) (m + 1) 0 B (by omega) (by omega) ⟨eo_refl, rfl, ?_, fun b hb => absurd hb (by omega), fun l hl => ?_, fun q hq => absurd hq (by show ¬ q < 0; omega)⟩
  · obtain ⟨e1, e2, e3, e4, e5⟩ := hI
    exact kk A2 (eo_trans eB e1) (fun i hi => by rw [e2]; exact b18 i hi) e3 e4 e5
  · rw [hB, u2_self]
    rfl
  · rw [hB, u2_c (by decide), fl_lt hl]
    rfl
end sp_pc
