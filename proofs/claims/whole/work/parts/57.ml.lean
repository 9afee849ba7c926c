section sp_fl
variable {d : Nat} {post : Option mj_V → mj_H → Prop} {K : Nat → Nat × Nat} {ρ : Nat → Nat → Option Nat} {A : Nat → Nat → Int}
/-- what findLayers is given -/
def fyOK (A : Nat → Nat → Int) : Prop := (0 ≤ A 93 0 ∧ A 93 0 ≤ 12) ∧ (0 ≤ A 93 1 ∧ A 93 1 ≤ 24) ∧ ∀ a : Nat, (a : Int) < A 93 1 → (0 ≤ A 100 a ∧ A 100 a < A 93 0) ∧ (0 ≤ A 101 a ∧ A 101 a < A 93 0) ∧ (A 97 a = 0 ∨ A 97 a = 1)
abbrev mUp (A : Nat → Nat → Int) : Nat → Nat := fun a => (A 100 a).toNat
abbrev mLo (A : Nat → Nat → Int) : Nat → Nat := fun a => (A 101 a).toNat
def lgA (A : Nat → Nat → Int) (pos : Nat → Nat) (t k : Nat) (A2 : Nat → Nat → Int) : Prop := eo [99] A A2 ∧ lgI (A 93 0).toNat (A 93 1).toNat (mUp A) (mLo A) (A 97) pos t k (A2 99)
theorem fy_in (h : fyOK A) : ∀ a, a < (A 93 1).toNat → mUp A a < (A 93 0).toNat ∧ mLo A a < (A 93 0).toNat := fun a ha => by
  have := h.2.2 a (by omega)
  show (A 100 a).toNat < _ ∧ (A 101 a).toNat < _
  omega
set_option maxRecDepth 100000 in
theorem fl_loop0 (L : Lay K ρ) (hn : 0 ≤ A 93 0 ∧ A 93 0 ≤ 12) {x2 : Option mj_V} (kk : mj_W (mj_lv d) prog_11_method_16_code 9 0 0 0 post 23 [some (.inr (.inl (some 93))), some (.inl (iZ (A 93 0))), x2] [] (123, K, zs (fl A 99 (A 93 0).toNat 0), ρ) 0 0) : ∀ (j i : Nat), (A 93 0).toNat - i < j → i ≤ (A 93 0).toNat → mj_W (mj_lv d) prog_11_method_16_code 9 0 0 0 post 2 [some (.inr (.inl (some 93))), some (.inl (iZ ((i : Int)))), x2] [] (123, K, zs (fl A 99 i 0), ρ) 0 0
  | 0, i, h, _ => absurd h (by omega)
  | j + 1, i, h, hi => by
    refine mq_iload_n d40_2 rfl rfl ?_
    refine mq_aload_n d40_3 rfl rfl ?_
    refine zg_getIe L (A 93 0) d40_4 rfl rfl (by decide) rfl (by rw [fl_c (by decide)]) ?_
    refine zq_icmp_ge (tgt := 23) d40_7 (by decide) (by omega) (by omega) (fun g => ?_) (fun g => ?_)
    · have e : (i : Int) = A 93 0 := by omega
      have e2 : i = (A 93 0).toNat := by omega
      rw [e]
      rw [← e2] at kk
      exact kk
    · refine mq_aload_n d40_10 rfl rfl ?_
      refine zg_getR L 99 d40_11 rfl rfl (by decide) rfl (by decide) rfl ?_
      refine mq_iload_n d40_14 rfl rfl ?_
      refine zq_iconst d40_15 ?_
      refine zg_iastN L d40_16 (by decide) rfl (by omega) ?_
      rw [fl_s]
      refine zq_iinc d40_17 rfl rfl ?_
      refine mq_goto (tgt := 2) d40_20 (by decide) ?_
      exact fl_loop0 L hn kk j (i + 1) (by omega) (by omega)
set_option maxRecDepth 100000 in
theorem fl_arcs (L : Lay K ρ) (hA : fyOK A) {pos : Nat → Nat} (hp : ∀ a, a < (A 93 1).toNat → A 97 a = 1 → pos (mUp A a) < pos (mLo A a)) (hpn : ∀ v, v < (A 93 0).toNat → pos v < (A 93 0).toNat) {t : Nat}
    (kk : ∀ A2 x2, lgA A pos (t + 1) 0 A2 → mj_W (mj_lv d) prog_11_method_16_code 9 0 0 0 post 107 [some (.inr (.inl (some 93))), some (.inl (iZ ((t : Int)))), some (.inl x2)] [] (123, K, zs (A2), ρ) 0 0) : ∀ (j i : Nat) (A2 : Nat → Nat → Int), (A 93 1).toNat - i < j → i ≤ (A 93 1).toNat → lgA A pos t i A2 → mj_W (mj_lv d) prog_11_method_16_code 9 0 0 0 post 35 [some (.inr (.inl (some 93))), some (.inl (iZ ((t : Int)))), some (.inl (iZ ((i : Int))))] [] (123, K, zs (A2), ρ) 0 0
  | 0, i, _, h, _, _ => absurd h (by omega)
  | j + 1, i, A2, h, hi, hI => by
    obtain ⟨hE, hI2⟩ := id hI
    obtain ⟨a1, a2, a3⟩ := id hA
    refine mq_iload_n d40_35 rfl rfl ?_
    refine mq_aload_n d40_36 rfl rfl ?_
    refine zg_getIe L (A 93 1) d40_37 rfl rfl (by decide) rfl (by rw [hE 93 rfl]) ?_
    refine zq_icmp_ge (tgt := 107) d40_40 (by decide) (by omega) (by omega) (fun g => ?_) (fun g => ?_)
    · have e2 : i = (A 93 1).toNat := by omega
      rw [e2] at hI2
      exact kk A2 _ ⟨hE, lg_pass hI2⟩
    · have next : ∀ A3, lgA A pos t (i + 1) A3 → mj_W (mj_lv d) prog_11_method_16_code 9 0 0 0 post 101 [some (.inr (.inl (some 93))), some (.inl (iZ ((t : Int)))), some (.inl (iZ ((i : Int))))] [] (123, K, zs (A3), ρ) 0 0 := fun A3 h3 => by
        refine zq_iinc d40_101 rfl rfl ?_
        refine mq_goto (tgt := 35) d40_104 (by decide) ?_
        exact fl_arcs L hA hp hpn kk j (i + 1) A3 (by omega) (by omega) h3
      have z := a3 i g
      have e100 := hE 100 rfl
      have e101 := hE 101 rfl
      have e97 := hE 97 rfl
      refine mq_aload_n d40_43 rfl rfl ?_
      refine zg_getR L 97 d40_44 rfl rfl (by decide) rfl (by decide) rfl ?_
      refine mq_iload_n d40_47 rfl rfl ?_
      refine zg_zaldN L d40_48 (by decide) rfl (by omega) ?_
      refine zv (congrFun e97 i) ?_
      refine zq_if_eq (tgt := 101) d40_49 (by decide) (by omega) (fun g2 => ?_) (fun g2 => ?_)
      · exact next A2 ⟨hE, lg_keep hI2 (fun q => absurd q (by omega))⟩
      · have q1 := hI2.1 (A 101 i).toNat (by omega)
        have q2 := hI2.1 (A 100 i).toNat (by omega)
        have p1 := hpn (A 101 i).toNat (by omega)
        have p2 := hpn (A 100 i).toNat (by omega)
        refine mq_aload_n d40_52 rfl rfl ?_
        refine zg_getR L 99 d40_53 rfl rfl (by decide) rfl (by decide) rfl ?_
        refine mq_aload_n d40_56 rfl rfl ?_
        refine zg_getR L 101 d40_57 rfl rfl (by decide) rfl (by decide) rfl ?_
        refine mq_iload_n d40_60 rfl rfl ?_
        refine zg_ialdN L d40_61 (by decide) rfl (by omega) ?_
        refine zv (congrFun e101 i) ?_
        refine zg_iald L d40_62 (by decide) rfl (by omega) ?_
        refine mq_aload_n d40_63 rfl rfl ?_
        refine zg_getR L 99 d40_64 rfl rfl (by decide) rfl (by decide) rfl ?_
        refine mq_aload_n d40_67 rfl rfl ?_
        refine zg_getR L 100 d40_68 rfl rfl (by decide) rfl (by decide) rfl ?_
        refine mq_iload_n d40_71 rfl rfl ?_
        refine zg_ialdN L d40_72 (by decide) rfl (by omega) ?_
        refine zv (congrFun e100 i) ?_
        refine zg_iald L d40_73 (by decide) rfl (by omega) ?_
        refine zq_icmp_gt (tgt := 101) d40_74 (by decide) (by omega) (by omega) (fun g3 => ?_) (fun g3 => ?_)
        · exact next A2 ⟨hE, lg_keep hI2 (fun _ => by show A2 99 (A 100 i).toNat + 1 ≤ A2 99 (A 101 i).toNat; omega)⟩
        · refine mq_aload_n d40_77 rfl rfl ?_
          refine zg_getR L 99 d40_78 rfl rfl (by decide) rfl (by decide) rfl ?_
          refine mq_aload_n d40_81 rfl rfl ?_
          refine zg_getR L 101 d40_82 rfl rfl (by decide) rfl (by decide) rfl ?_
          refine mq_iload_n d40_85 rfl rfl ?_
          refine zg_ialdN L d40_86 (by decide) rfl (by omega) ?_
          refine zv (congrFun e101 i) ?_
          refine mq_aload_n d40_87 rfl rfl ?_
          refine zg_getR L 99 d40_88 rfl rfl (by decide) rfl (by decide) rfl ?_
          refine mq_aload_n d40_91 rfl rfl ?_
          refine zg_getR L 100 d40_92 rfl rfl (by decide) rfl (by decide) rfl ?_
          refine mq_iload_n d40_95 rfl rfl ?_
          refine zg_ialdN L d40_96 (by decide) rfl (by omega) ?_
          refine zv (congrFun e100 i) ?_
          refine zg_iald L d40_97 (by decide) rfl (by omega) ?_
          refine zq_iconst d40_98 ?_
          refine zq_iadd d40_99 ?_
          refine zg_iast L d40_100 (by decide) rfl (by omega) ?_
          refine next _ ⟨eo_u2 rfl hE, lg_set (fy_in hA) hp (by omega) hI2 (by omega) g3 (fun v => ?_)⟩
          rw [u2_at]
          simp
set_option maxRecDepth 100000 in
theorem fl_passes (L : Lay K ρ) (hA : fyOK A) {pos : Nat → Nat} (hp : ∀ a, a < (A 93 1).toNat → A 97 a = 1 → pos (mUp A a) < pos (mLo A a)) (hpn : ∀ v, v < (A 93 0).toNat → pos v < (A 93 0).toNat)
    (kk : ∀ A2 x1 x2, eo [99] A A2 → feas (A 93 0).toNat (A 93 1).toNat (mUp A) (mLo A) (A 97) (A2 99) → (∀ v, v < (A 93 0).toNat → A2 99 v ≤ 11) → mj_W (mj_lv d) prog_11_method_16_code 9 0 0 0 post 113 [some (.inr (.inl (some 93))), some (.inl x1), some (.inl x2)] [] (123, K, zs (A2), ρ) 0 0) : ∀ (j t : Nat) (x2 : Option mj_V) (A2 : Nat → Nat → Int), (x2 = none → t = 0) → (∀ y, x2 = some y → ∃ w, y = .inl w) → (A 93 0).toNat + 1 - t < j → t ≤ (A 93 0).toNat + 1 → lgA A pos t 0 A2 → mj_W (mj_lv d) prog_11_method_16_code 9 0 0 0 post 25 [some (.inr (.inl (some 93))), some (.inl (iZ ((t : Int)))), x2] [] (123, K, zs (A2), ρ) 0 0
  | 0, t, _, _, _, _, h, _, _ => absurd h (by omega)
  | j + 1, t, x2, A2, hx, hx2, h, hi, hI => by
    obtain ⟨hE, hI2⟩ := id hI
    obtain ⟨a1, a2, a3⟩ := id hA
    refine mq_iload_n d40_25 rfl rfl ?_
    refine mq_aload_n d40_26 rfl rfl ?_
    refine zg_getIe L (A 93 0) d40_27 rfl rfl (by decide) rfl (by rw [hE 93 rfl]) ?_
    refine zq_icmp_gt (tgt := 113) d40_30 (by decide) (by omega) (by omega) (fun g => ?_) (fun g => ?_)
    · cases x2 with
      | none =>
        have := hx rfl
        omega
      | some y =>
        obtain ⟨w, rfl⟩ := hx2 y rfl
        exact kk A2 _ w hE (lg_end (fy_in hA) hpn (by omega) hI2) (fun v hv => by
          have := (hI2.1 v hv).2
          have := hpn v hv
          omega)
    · refine zq_iconst d40_33 ?_
      refine mq_istore_n d40_34 rfl (Nat.le_of_ble_eq_true rfl) rfl ?_
      refine fl_arcs L hA hp hpn (fun A3 w h3 => ?_) ((A 93 1).toNat + 1) 0 A2 (by omega) (by omega) hI
      refine zq_iinc d40_107 rfl rfl ?_
      refine mq_goto (tgt := 25) d40_110 (by decide) ?_
      exact fl_passes L hA hp hpn kk j (t + 1) _ A3 (fun q => absurd q (by simp)) (fun y e => ⟨w, (Option.some.inj e).symm⟩) (by omega) (by omega) h3
/-- while it moves -/
def mvI (A A2 : Nat → Nat → Int) : Prop := eo [99] A A2 ∧ feas (A 93 0).toNat (A 93 1).toNat (mUp A) (mLo A) (A 97) (A2 99) ∧ ∀ v, v < (A 93 0).toNat → A2 99 v + len (A 93 1).toNat (mUp A) (mLo A) (A 97) (A2 99) ≤ 300
abbrev muA (A A2 : Nat → Nat → Int) : Nat := muL (A 93 0).toNat (A 93 1).toNat (mUp A) (mLo A) (A 97) (A2 99)
def nUp (A A2 : Nat → Nat → Int) (s : Nat) : Prop := (∀ a, a < (A 93 1).toNat → A 97 a = 1 → ¬ (sB s (mLo A a) - sB s (mUp A a) < 0 ∧ A2 99 (mLo A a) - A2 99 (mUp A a) = 1)) → 0 ≤ len (A 93 1).toNat (mUp A) (mLo A) (A 97) (sB s)
def nDn (A A2 : Nat → Nat → Int) (s : Nat) : Prop := (∀ v, v < (A 93 0).toNat → sB s v = 1 → A2 99 v ≠ 0) → (∀ a, a < (A 93 1).toNat → A 97 a = 1 → ¬ (sB s (mUp A a) - sB s (mLo A a) < 0 ∧ A2 99 (mLo A a) - A2 99 (mUp A a) = 1)) → len (A 93 1).toNat (mUp A) (mLo A) (A 97) (sB s) < 0
theorem mv_ok {A2 : Nat → Nat → Int} (hA : fyOK A) (h : mvI A A2) : lyOK A2 := by
  obtain ⟨hE, hf, hB⟩ := h
  obtain ⟨a1, a2, a3⟩ := hA
  have l0 := feas_len hf
  unfold lyOK
  rw [hE 93 rfl, hE 100 rfl, hE 101 rfl, hE 97 rfl]
  refine ⟨a1, a2, a3, fun v hv => ?_⟩
  have h1 := hf.1 v (by omega)
  have h2 := hB v (by omega)
  omega
/-- chR in words of A -/
theorem ch_of {A2 : Nat → Nat → Int} (hE : eo [99] A A2) {s : Nat} {bb c : Int} (h : chR A2 s bb c) : (c = 100 ∧ ∃ a, a < (A 93 1).toNat ∧ A 97 a = 1 ∧ bb * (sB s (mLo A a) - sB s (mUp A a)) < 0 ∧ A2 99 (mLo A a) - A2 99 (mUp A a) = 1) ∨ ((∀ a, a < (A 93 1).toNat → A 97 a = 1 → ¬ (bb * (sB s (mLo A a) - sB s (mUp A a)) < 0 ∧ A2 99 (mLo A a) - A2 99 (mUp A a) = 1)) ∧ c = bb * len (A 93 1).toNat (mUp A) (mLo A) (A 97) (sB s)) := by
  unfold chR blk at h
  rw [hE 93 rfl, hE 97 rfl, hE 100 rfl, hE 101 rfl] at h
  rcases h with ⟨h1, a, h2, h3⟩ | ⟨h1, h2⟩
  · exact Or.inl ⟨h1, a, h2, h3⟩
  · exact Or.inr ⟨fun a q1 q2 q3 => h1 a q1 ⟨q2, q3⟩, h2⟩
theorem mvA_at {A2 : Nat → Nat → Int} {s n v : Nat} {bb : Int} (h : v < n) : mvA A2 s bb n 99 v = A2 99 v + sB s v * bb := by
  unfold mvA
  rw [if_pos ⟨rfl, h⟩]
theorem mv_upA {A2 : Nat → Nat → Int} (hA : fyOK A) (h : mvI A A2) {s : Nat} {c : Int} (hc : chR A2 s 1 c) (c0 : c < 0) : mvI A (mvA A2 s 1 (A2 93 0).toNat) ∧ muA A (mvA A2 s 1 (A2 93 0).toNat) < muA A A2 := by
  obtain ⟨hE, hf, hB⟩ := h
  rcases ch_of hE hc with ⟨h1, -⟩ | ⟨h1, h2⟩
  · omega
  · have := mv_up (z := mvA A2 s 1 (A2 93 0).toNat 99) (fy_in hA) (by have := hA.1; omega) hf hB (sB01 s) (fun a q1 q2 q3 => h1 a q1 q2 (by omega)) (by omega) (fun v hv => by rw [hE 93 rfl, mvA_at hv]; omega)
    exact ⟨⟨fun c hc => (mvA_c (fun q => by rw [q] at hc; exact absurd hc (by decide))).trans (hE c hc), this.1, this.2.1⟩, this.2.2⟩
theorem mv_dnA {A2 : Nat → Nat → Int} (hA : fyOK A) (h : mvI A A2) {s : Nat} (s0 : s ≠ 0) (s1 : s < 2 ^ (A 93 0).toNat) {c : Int} (hab : ∀ v, v < (A2 93 0).toNat → sB s v = 1 → A2 99 v ≠ 0) (hc : chR A2 s (-1) c) (c0 : c ≤ 0) : mvI A (mvA A2 s (-1) (A2 93 0).toNat) ∧ muA A (mvA A2 s (-1) (A2 93 0).toNat) < muA A A2 := by
  obtain ⟨hE, hf, hB⟩ := h
  rw [hE 93 rfl] at hab
  rcases ch_of hE hc with ⟨h1, -⟩ | ⟨h1, h2⟩
  · omega
  · have := mv_dn (z := mvA A2 s (-1) (A2 93 0).toNat 99) (fy_in hA) hf hB (sB01 s) (fun a q1 q2 q3 => h1 a q1 q2 (by omega)) hab (sb_ex s0 s1) (by omega) (fun v hv => by rw [hE 93 rfl, mvA_at hv]; omega)
    exact ⟨⟨fun c hc => (mvA_c (fun q => by rw [q] at hc; exact absurd hc (by decide))).trans (hE c hc), this.1, this.2.1⟩, this.2.2⟩
theorem nUp_of {A2 : Nat → Nat → Int} (hE : eo [99] A A2) {s : Nat} {c : Int} (hc : chR A2 s 1 c) (c0 : 0 ≤ c) : nUp A A2 s := fun q => by
  rcases ch_of hE hc with ⟨-, a, h1, h2, h3, h4⟩ | ⟨h1, h2⟩
  · exact absurd ⟨by omega, h4⟩ (q a h1 h2)
  · omega
theorem nDn_of {A2 : Nat → Nat → Int} (hE : eo [99] A A2) {s : Nat} {c : Int} (hc : chR A2 s (-1) c) (c0 : 0 < c) : nDn A A2 s := fun _ q => by
  rcases ch_of hE hc with ⟨-, a, h1, h2, h3, h4⟩ | ⟨h1, h2⟩
  · exact absurd ⟨by omega, h4⟩ (q a h1 h2)
  · omega
theorem chR_rng (hA : lyOK A) {s : Nat} {bb c : Int} (hb : bb = 1 ∨ bb = -1) (hc : chR A s bb c) : -100 ≤ c ∧ c ≤ 100 := by
  rcases hc with ⟨e, -⟩ | ⟨-, e⟩
  · omega
  · have h5 := cnt_bnd (b := 1) (m := (A 93 1).toNat) (g := fun a => if A 97 a = 1 then sB s (A 101 a).toNat - sB s (A 100 a).toNat else 0) (fun a _ => by
      split
      · have := sB01 s (A 101 a).toNat
        have := sB01 s (A 100 a).toNat
        omega
      · decide)
    have h6 := cnt_up (b := -1) (m := (A 93 1).toNat) (f := fun a => if A 97 a = 1 then sB s (A 101 a).toNat - sB s (A 100 a).toNat else 0) (fun a _ => by
      split
      · have := sB01 s (A 101 a).toNat
        have := sB01 s (A 100 a).toNat
        omega
      · decide)
    have h7 := hA.2.1
    have e2 : len (A 93 1).toNat (fun a => (A 100 a).toNat) (fun a => (A 101 a).toNat) (A 97) (sB s) = cnt (fun a => if A 97 a = 1 then sB s (A 101 a).toNat - sB s (A 100 a).toNat else 0) (A 93 1).toNat := rfl
    rw [e2] at e
    rcases hb with q | q <;> rw [q] at e <;> omega
set_option maxRecDepth 100000 in
theorem fl_sets (L : Lay K ρ) (hA : fyOK A) {A2 : Nat → Nat → Int} (h2 : mvI A A2)
    (k0 : (∀ s, s ≠ 0 → s < 2 ^ (A 93 0).toNat → nUp A A2 s ∧ nDn A A2 s) → mj_W (mj_lv (d + 1)) prog_11_method_16_code 9 0 0 0 post 181 [some (.inr (.inl (some 93))), some (.inl (iZ (0))), some (.inl (iZ (((2 ^ (A 93 0).toNat : Nat) : Int))))] [] (123, K, zs (A2), ρ) 0 0)
    (k1 : ∀ A3 x2, mvI A A3 → muA A A3 < muA A A2 → mj_W (mj_lv (d + 1)) prog_11_method_16_code 9 0 0 0 post 181 [some (.inr (.inl (some 93))), some (.inl (iZ (1))), some (.inl x2)] [] (123, K, zs (A3), ρ) 0 0) : ∀ (j i : Nat) (b : Int) (A3 : Nat → Nat → Int), 2 ^ (A 93 0).toNat - i < j → 1 ≤ i → i ≤ 2 ^ (A 93 0).toNat → mvI A A3 → ((b = 0 ∧ A3 = A2 ∧ ∀ s, s ≠ 0 → s < i → nUp A A2 s ∧ nDn A A2 s) ∨ (b = 1 ∧ muA A A3 < muA A A2)) → mj_W (mj_lv (d + 1)) prog_11_method_16_code 9 0 0 0 post 123 [some (.inr (.inl (some 93))), some (.inl (iZ (b))), some (.inl (iZ ((i : Int))))] [] (123, K, zs (A3), ρ) 0 0
  | 0, i, _, _, h, _, _, _, _ => absurd h (by omega)
  | j + 1, i, b, A3, h, hi0, hi, hI, hb => by
    have a1 := hA.1
    have e93 : A3 93 = A 93 := hI.1 93 rfl
    have hp2 : 2 ^ (A 93 0).toNat ≤ 2 ^ 12 := Nat.pow_le_pow_right (by decide) (by omega)
    refine mq_iload_n d40_123 rfl rfl ?_
    refine zq_iconst d40_124 ?_
    refine mq_aload_n d40_125 rfl rfl ?_
    refine zg_getIe L (A 93 0) d40_126 rfl rfl (by decide) rfl (by rw [e93]) ?_
    refine zn_shl1 d40_129 (by omega) ?_
    refine zq_icmp_ge (tgt := 181) d40_130 (by decide) (by omega) (by omega) (fun g => ?_) (fun g => ?_)
    · have e : i = 2 ^ (A 93 0).toNat := by omega
      rcases hb with ⟨b0, b1, b2⟩ | ⟨b0, b1⟩
      · rw [b0, b1, e]
        rw [e] at b2
        exact k0 b2
      · rw [b0]
        exact k1 A3 _ hI b1
    · have s1 : i < 2 ^ (A 93 0).toNat := by omega
      have last : ∀ (b4 : Int) (A4 : Nat → Nat → Int), mvI A A4 → ((b4 = 0 ∧ A4 = A2 ∧ ∀ s, s ≠ 0 → s < i + 1 → nUp A A2 s ∧ nDn A A2 s) ∨ (b4 = 1 ∧ muA A A4 < muA A A2)) → mj_W (mj_lv (d + 1)) prog_11_method_16_code 9 0 0 0 post 175 [some (.inr (.inl (some 93))), some (.inl (iZ (b4))), some (.inl (iZ ((i : Int))))] [] (123, K, zs (A4), ρ) 0 0 := fun b4 A4 h4 q4 => by
        refine zq_iinc d40_175 rfl rfl ?_
        refine mq_goto (tgt := 123) d40_178 (by decide) ?_
        exact fl_sets L hA h2 k0 k1 j (i + 1) b4 A4 (by omega) (by omega) (by omega) h4 q4
      have mid : ∀ (b4 : Int) (A4 : Nat → Nat → Int), mvI A A4 → ((b4 = 0 ∧ A4 = A2 ∧ (∀ s, s ≠ 0 → s < i → nUp A A2 s ∧ nDn A A2 s) ∧ nUp A A2 i) ∨ (b4 = 1 ∧ muA A A4 < muA A A2)) → mj_W (mj_lv (d + 1)) prog_11_method_16_code 9 0 0 0 post 150 [some (.inr (.inl (some 93))), some (.inl (iZ (b4))), some (.inl (iZ ((i : Int))))] [] (123, K, zs (A4), ρ) 0 0 := fun b4 A4 h4 q4 => by
        have keep : nDn A A4 i → ((b4 = 0 ∧ A4 = A2 ∧ ∀ s, s ≠ 0 → s < i + 1 → nUp A A2 s ∧ nDn A A2 s) ∨ (b4 = 1 ∧ muA A A4 < muA A A2)) := fun qd => by
          rcases q4 with ⟨c1, c2, c3, c4⟩ | c
          · refine Or.inl ⟨c1, c2, fun s t0 t1 => ?_⟩
            by_cases e : s = i
            · rw [e]
              rw [c2] at qd
              exact ⟨c4, qd⟩
            · exact c3 s t0 (by omega)
          · exact Or.inr c
        have qm : muA A A4 ≤ muA A A2 := by
          rcases q4 with ⟨-, c2, -⟩ | ⟨-, c⟩
          · rw [c2]
            exact Nat.le_refl _
          · exact Nat.le_of_lt c
        refine mq_aload_n d40_150 rfl rfl ?_
        refine mq_iload_n d40_151 rfl rfl ?_
        refine zg_callV (c := 93) L [_] d40_152 rfl rfl ⟨rfl, rfl⟩ rfl ⟨rfl, rfl⟩ ⟨by decide, by decide⟩ (by decide) rfl ?_
        refine s_isAbove L (mv_ok hA h4) (by omega) (fun hab => ?_) (fun hab => ?_)
        · refine zq_if_eq (tgt := 175) d40_155 (by decide) (by omega) (fun q => absurd q (by decide)) (fun _ => ?_)
          refine mq_aload_n d40_158 rfl rfl ?_
          refine mq_iload_n d40_159 rfl rfl ?_
          refine zq_iconst d40_160 ?_
          refine zg_callV (c := 93) L [_, _] d40_161 rfl rfl ⟨rfl, rfl⟩ rfl ⟨rfl, rfl⟩ ⟨by decide, by decide⟩ (by decide) rfl ?_
          refine s_change L (mv_ok hA h4) (by omega) (Or.inr rfl) (fun c hc => ?_)
          have hcr := chR_rng (mv_ok hA h4) (Or.inr rfl) hc
          refine zq_if_gt (tgt := 175) d40_164 (by decide) (by omega) (fun g5 => ?_) (fun g5 => ?_)
          · exact last b4 A4 h4 (keep (nDn_of h4.1 hc g5))
          · refine mq_aload_n d40_167 rfl rfl ?_
            refine mq_iload_n d40_168 rfl rfl ?_
            refine zq_iconst d40_169 ?_
            refine zg_callV (c := 93) L [_, _] d40_170 rfl rfl ⟨rfl, rfl⟩ rfl ⟨rfl, rfl⟩ ⟨by decide, by decide⟩ (by decide) rfl ?_
            refine s_move L (mv_ok hA h4).1 (by omega) ?_
            refine zq_iconst d40_173 ?_
            refine mq_istore_n d40_174 rfl (Nat.le_of_ble_eq_true rfl) rfl ?_
            have h6 := mv_dnA hA h4 (by omega) s1 hab hc g5
            exact last 1 _ h6.1 (Or.inr ⟨rfl, by omega⟩)
        · refine zq_if_eq (tgt := 175) d40_155 (by decide) (by omega) (fun _ => ?_) (fun q => absurd rfl q)
          refine last b4 A4 h4 (keep (fun q1 _ => ?_))
          obtain ⟨v, v1, v2, v3⟩ := hab
          rw [h4.1 93 rfl] at v1
          exact absurd v3 (q1 v v1 v2)
      refine mq_aload_n d40_133 rfl rfl ?_
      refine mq_iload_n d40_134 rfl rfl ?_
      refine zq_iconst d40_135 ?_
      refine zg_callV (c := 93) L [_, _] d40_136 rfl rfl ⟨rfl, rfl⟩ rfl ⟨rfl, rfl⟩ ⟨by decide, by decide⟩ (by decide) rfl ?_
      refine s_change L (mv_ok hA hI) (by omega) (Or.inl rfl) (fun c hc => ?_)
      have hcr := chR_rng (mv_ok hA hI) (Or.inl rfl) hc
      refine zq_if_ge (tgt := 150) d40_139 (by decide) (by omega) (fun g5 => ?_) (fun g5 => ?_)
      · refine mid b A3 hI ?_
        rcases hb with ⟨b0, b1, b2⟩ | b
        · refine Or.inl ⟨b0, b1, b2, ?_⟩
          rw [← b1]
          exact nUp_of hI.1 hc g5
        · exact Or.inr b
      · refine mq_aload_n d40_142 rfl rfl ?_
        refine mq_iload_n d40_143 rfl rfl ?_
        refine zq_iconst d40_144 ?_
        refine zg_callV (c := 93) L [_, _] d40_145 rfl rfl ⟨rfl, rfl⟩ rfl ⟨rfl, rfl⟩ ⟨by decide, by decide⟩ (by decide) rfl ?_
        refine s_move L (mv_ok hA hI).1 (by omega) ?_
        refine zq_iconst d40_148 ?_
        refine mq_istore_n d40_149 rfl (Nat.le_of_ble_eq_true rfl) rfl ?_
        have h6 := mv_upA hA hI hc g5
        refine mid 1 _ h6.1 (Or.inr ⟨rfl, ?_⟩)
        rcases hb with ⟨-, b1, -⟩ | ⟨-, b⟩
        · rw [← b1]
          exact h6.2
        · omega
set_option maxRecDepth 100000 in
theorem fl_while (L : Lay K ρ) (hA : fyOK A) (k : ∀ A2, eo [99] A A2 → isLay (A 93 0).toNat (A 93 1).toNat (mUp A) (mLo A) (A 97) (A2 99) → post none (123, K, zs (A2), ρ)) : ∀ (M : Nat) (A2 : Nat → Nat → Int) (x2 : Int32), muA A A2 < M → mvI A A2 → mj_W (mj_lv (d + 1)) prog_11_method_16_code 9 0 0 0 post 115 [some (.inr (.inl (some 93))), some (.inl (iZ (1))), some (.inl x2)] [] (123, K, zs (A2), ρ) 0 0
  | 0, _, _, h, _ => absurd h (by omega)
  | M + 1, A2, x2, h, hI => by
    have a1 := hA.1
    have hp2 := Nat.two_pow_pos (A 93 0).toNat
    refine mq_iload_n d40_115 rfl rfl ?_
    refine zq_if_eq (tgt := 184) d40_116 (by decide) (by omega) (fun q => absurd q (by decide)) (fun _ => ?_)
    refine zq_iconst d40_119 ?_
    refine mq_istore_n d40_120 rfl (Nat.le_of_ble_eq_true rfl) rfl ?_
    refine zq_iconst d40_121 ?_
    refine mq_istore_n d40_122 rfl (Nat.le_of_ble_eq_true rfl) rfl ?_
    refine fl_sets L hA hI (fun hN => ?_) (fun A3 w h3 m3 => ?_) (2 ^ (A 93 0).toNat + 1) 1 0 A2 (by omega) (by omega) (by omega) hI (Or.inl ⟨rfl, rfl, fun s t0 t1 => absurd t1 (by omega)⟩)
    · refine mq_goto (tgt := 115) d40_181 (by decide) ?_
      refine mq_iload_n d40_115 rfl rfl ?_
      refine zq_if_eq (tgt := 184) d40_116 (by decide) (by omega) (fun _ => ?_) (fun q => absurd rfl q)
      refine zg_retv d40_184 (by decide) ?_
      exact k A2 hI.1 (lay_bits (fy_in hA) hI.2.1 (fun s q1 q2 => (hN s q1 q2).1) (fun s q1 q2 => (hN s q1 q2).2))
    · refine mq_goto (tgt := 115) d40_181 (by decide) ?_
      exact fl_while L hA k M A3 w (by omega) h3
set_option maxRecDepth 100000 in
theorem s_findLayers (L : Lay K ρ) (hA : fyOK A) {pos : Nat → Nat} (hp : ∀ a, a < (A 93 1).toNat → A 97 a = 1 → pos (mUp A a) < pos (mLo A a)) (hpn : ∀ v, v < (A 93 0).toNat → pos v < (A 93 0).toNat) (k : ∀ A2, eo [99] A A2 → isLay (A 93 0).toNat (A 93 1).toNat (mUp A) (mLo A) (A 97) (A2 99) → post none (123, K, zs (A2), ρ)) : mj_lv (d + 2) m_Mod_findLayers [.inr (.inl (some 93))] (123, K, zs (A), ρ) post := by
  show mj_W (mj_lv (d + 1)) prog_11_method_16_code 9 0 0 0 post 0 [some (.inr (.inl (some 93))), none, none] [] (123, K, zs (A), ρ) 0 0
  refine zq_iconst d40_0 ?_
  refine mq_istore_n d40_1 rfl (Nat.le_of_ble_eq_true rfl) rfl ?_
  have A0 := fl_loop0 (d := d + 1) (post := post) (x2 := none) L hA.1 ?_ ((A 93 0).toNat + 1) 0 (by omega) (by omega)
  · rw [fl_0] at A0
    exact A0
  have eB : eo [99] A (fl A 99 (A 93 0).toNat 0) := fun c hc => fl_c (fun q => by rw [q] at hc; exact absurd hc (by decide))
  refine zq_iconst d40_23 ?_
  refine mq_istore_n d40_24 rfl (Nat.le_of_ble_eq_true rfl) rfl ?_
  refine fl_passes L hA hp hpn (fun A2 x1 x2 h2 f2 b2 => ?_) ((A 93 0).toNat + 2) 0 none _ (fun _ => rfl) (fun y e => absurd e (by simp)) (by omega) (by omega) ⟨eB, fun v hv => ?_, fun a q1 q2 q3 => absurd q3 (by omega), fun a q1 => absurd q1 (by omega)⟩
  · refine zq_iconst d40_113 ?_
    refine mq_istore_n d40_114 rfl (Nat.le_of_ble_eq_true rfl) rfl ?_
    have hB : ∀ v, v < (A 93 0).toNat → A2 99 v + len (A 93 1).toNat (mUp A) (mLo A) (A 97) (A2 99) ≤ 300 := fun v hv => by
      have h5 := cnt_bnd (b := 11) (m := (A 93 1).toNat) (g := fun a => if A 97 a = 1 then A2 99 (mLo A a) - A2 99 (mUp A a) else 0) (fun a ha => by
        have q1 := fy_in hA a ha
        have q2 := b2 _ q1.2
        have q3 := f2.1 _ q1.1
        split
        · omega
        · decide)
      have h6 := b2 v hv
      have h7 := hA.2.1
      unfold len
      omega
    exact fl_while L hA k (muA A A2 + 1) A2 x2 (by omega) ⟨h2, f2, hB⟩
  · rw [fl_lt hv]
    exact ⟨by decide, by omega⟩
end sp_fl
