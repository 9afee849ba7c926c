section sp_ru
variable {d : Nat} {post : Option mj_V → mj_H → Prop} {K : Nat → Nat × Nat} {ρ : Nat → Nat → Option Nat} {A : Nat → Nat → Int} {n m : Nat} {U W Y : Nat → Nat} {th w : Nat → Int}
/-- the state that is meant after R rounds -/
def rzM (n m : Nat) (U W Y : Nat → Nat) (th : Nat → Int) (R : Nat) : wSt := rnS (wU m U W Y th) (wD m U W Y th) (wB U W Y th m) (wZ n m U W Y th) (hY Y n) (wz0 n m U W Y th) (kpS (wG m U W Y th) (wU m U W Y th) (wD m U W Y th) (wB U W Y th m) (wZ n m U W Y th) (hY Y n) (wz0 n m U W Y th) R)
def rkM (n m : Nat) (U W Y : Nat → Nat) (th : Nat → Int) (R : Nat) : Nat := kpS (wG m U W Y th) (wU m U W Y th) (wD m U W Y th) (wB U W Y th m) (wZ n m U W Y th) (hY Y n) (wz0 n m U W Y th) R
def plM (n m : Nat) (U W Y : Nat → Nat) (th w : Nat → Int) (R : Nat) : Nat → Int := alP (wU m U W Y th) (wD m U W Y th) (wB U W Y th m) w (rzM n m U W Y th R).1 (wZ n m U W Y th) (hY Y n)
def cvM (n m : Nat) (U W Y : Nat → Nat) (th : Nat → Int) (R : Nat) : Int := crV (wG m U W Y th) (wU m U W Y th) (wD m U W Y th) (rzM n m U W Y th R).2 (wB U W Y th m)
theorem rz_ok (h2 : dr n m U W Y th) (R : Nat) : wok (wQ n m U W Y th) (wZ n m U W Y th) (hY Y n) (rzM n m U W Y th R) := rnS_ok (cx_0 h2).2.2.2.2.1 (wz0_ok h2) _
/-- the class after a run -/
def crR (n m : Nat) (U W Y : Nat → Nat) (th w : Nat → Int) (R : Nat) (A2 : Nat → Nat → Int) : Prop := roC A2 (wQ n m U W Y th) (wZ n m U W Y th) (hY Y n) (rzM n m U W Y th R) ∧ (A2 46 7 = cvM n m U W Y th R ∧ A2 46 8 = (rkM n m U W Y th R : Nat)) ∧ pcC A2 (wG m U W Y th) (wU m U W Y th) (wD m U W Y th) (wB U W Y th m) ∧ (∀ b, b < m → th b = 1 → A2 17 b = (wF U W Y th b : Nat)) ∧ A2 16 5 = (wF U W Y th m : Nat) ∧ paR (wQ n m U W Y th) (hY Y n) w (plM n m U W Y th w R) A2
set_option maxRecDepth 100000 in
theorem s_runC (L : Lay K ρ) (h : rcC A n m U W Y th) (h10 : A 10 5 = (hY Y n : Nat)) (hw : ∀ v, v < n → 1 ≤ A 2 v ∧ A 2 v ≤ 9) {R : Nat} (hR : R ≤ 20) {x1 : Int}
    (hx1 : x1 = (R : Nat))
    (kk : ∀ A2, (∀ c, c ≠ 0 → (c < 16 ∨ (76 < c ∧ c < 84) ∨ 87 < c) → A2 c = A c) → (∀ j, j ≠ 9 → A2 0 j = A 0 j) → A2 0 9 = 1 → crR n m U W Y th (wWd A n) R A2 → post (some (.inl (iZ (cvM n m U W Y th R)))) (123, K, zs (A2), ρ)) : mj_W (mj_lv (d + 5)) prog_1_method_13_code 8 1 0 0 post 32 [some (.inr (.inl (some 0))), some (.inl (iZ (x1)))] [] (123, K, zs (A), ρ) 0 0 := by
  obtain ⟨h1, h2, h3⟩ := id h
  have hx := cx_0 h2
  subst hx1
  refine mq_aload_n d12_32 rfl rfl ?_
  refine zg_getR L 16 d12_33 rfl rfl (by decide) rfl (by decide) rfl ?_
  refine mq_aload_n d12_36 rfl rfl ?_
  refine zg_getR L 1 d12_37 rfl rfl (by decide) rfl (by decide) rfl ?_
  refine mq_aload_n d12_40 rfl rfl ?_
  refine zg_getR L 10 d12_41 rfl rfl (by decide) rfl (by decide) rfl ?_
  refine zg_callV (c := 16) L [_, _] d12_44 rfl rfl ⟨rfl, rfl⟩ rfl ⟨rfl, rfl⟩ ⟨by decide, by decide⟩ (by decide) rfl ?_
  refine s_cut (d := d + 1) L h (fun A2 e2 w18 f16 f17 hP => ?_)
  have c2 : ∀ c, c < 16 ∨ 45 < c → A2 c = A c := fun c hc => e2 c (by simp [pcL]; omega)
  have hC2 := rcC_eo h (B := A2) (fun c hc => c2 c (by omega))
  refine mq_aload_n d12_47 rfl rfl ?_
  refine zg_getR L 46 d12_48 rfl rfl (by decide) rfl (by decide) rfl ?_
  refine mq_aload_n d12_51 rfl rfl ?_
  refine zg_getR L 1 d12_52 rfl rfl (by decide) rfl (by decide) rfl ?_
  refine mq_aload_n d12_55 rfl rfl ?_
  refine zg_getR L 10 d12_56 rfl rfl (by decide) rfl (by decide) rfl ?_
  refine mq_aload_n d12_59 rfl rfl ?_
  refine zg_getR L 16 d12_60 rfl rfl (by decide) rfl (by decide) rfl ?_
  refine mq_iload_n d12_63 rfl rfl ?_
  refine zg_callV (c := 46) L [_, _, _, _] d12_64 rfl rfl ⟨rfl, rfl⟩ rfl ⟨rfl, rfl⟩ ⟨by decide, by decide⟩ (by decide) rfl ?_
  refine s_osearch (d := d) L hC2 f17 hP (by rw [c2 10 (by decide)]; exact h10) hR (fun A3 hF => ?_)
  obtain ⟨e3, hro, f7, f8⟩ := hF
  have c3 : ∀ c, c < 46 ∨ 76 < c → A3 c = A2 c := fun c hc => e3 c (os_ge hc)
  have g12 : ∀ q, q < wB U W Y th m → wG m U W Y th q < 12 := fun q hq => by
    have := (wP_p h2 hq).2.2.2.2.2.2
    have := h2.1
    omega
  have hP3 := pcC_eo g12 hP (fun c a b => c3 c (by omega))
  have hz := rz_ok h2 R
  refine mq_aload_n d12_67 rfl rfl ?_
  refine zg_getR L 84 d12_68 rfl rfl (by decide) rfl (by decide) rfl ?_
  refine mq_aload_n d12_71 rfl rfl ?_
  refine zg_getR L 16 d12_72 rfl rfl (by decide) rfl (by decide) rfl ?_
  refine mq_aload_n d12_75 rfl rfl ?_
  refine zg_getR L 46 d12_76 rfl rfl (by decide) rfl (by decide) rfl ?_
  refine zg_callV (c := 84) L [_, _] d12_79 rfl rfl ⟨rfl, rfl⟩ rfl ⟨rfl, rfl⟩ ⟨by decide, by decide⟩ (by decide) rfl ?_
  refine s_assign (d := d + 3) (w := wWd A n) L hx hP3 hz hro (fun x hx2 => ?_) (fun A4 e4 hpa => ?_)
  · rw [c3 18 (by decide), w18 x hx2]
    refine ⟨rfl, ?_⟩
    unfold wWd
    split
    · rename_i q
      exact hw x q
    · decide
  · have c4 : ∀ c, c < 84 ∨ 87 < c → A4 c = A3 c := fun c hc => e4 c (by simp; omega)
    refine mq_aload_n d12_82 rfl rfl ?_
    refine zq_iconst d12_83 ?_
    refine zg_putZ L d12_84 rfl rfl rfl rfl (by first | decide | omega) (by decide) rfl ?_
    refine mq_aload_n d12_87 rfl rfl ?_
    refine zg_getR L 46 d12_88 rfl rfl (by decide) rfl (by decide) rfl ?_
    refine zg_getIe L (cvM n m U W Y th R) d12_91 rfl rfl (by decide) rfl ((by rw [u2_c (by decide), c4 46 (by decide)]; exact f7)) ?_
    refine zg_reti d12_94 rfl ?_
    obtain ⟨B, hB⟩ : ∃ B, B = mj_u2 A4 0 9 1 := ⟨_, rfl⟩
    rw [← hB]
    have bc : ∀ c, c ≠ 0 → B c = A4 c := fun c hc => by rw [hB, u2_cell hc]
    refine kk B (fun c q1 q2 => ?_) (fun j hj => ?_) (by rw [hB, u2_self]) ⟨?_, ?_, ?_, ?_, ?_, ?_⟩
    · rw [bc c q1, c4 c (by omega), c3 c (by omega), c2 c (by omega)]
    · rw [hB, u2_k hj, c4 0 (by decide), c3 0 (by decide), c2 0 (by decide)]
    · exact roC_eo hro hx.1 (fun c hc => by rw [bc c (by omega), c4 c (by omega)])
    · rw [bc 46 (by decide), c4 46 (by decide)]
      exact ⟨f7, f8⟩
    · exact pcC_eo g12 hP3 (fun c a b => by rw [bc c (by omega), c4 c (by omega)])
    · intro b hb tb
      rw [bc 17 (by decide), c4 17 (by decide), c3 17 (by decide)]
      exact f17 b hb tb
    · rw [bc 16 (by decide), c4 16 (by decide), c3 16 (by decide)]
      exact f16
    · unfold paR at *
      rw [bc 85 (by decide), bc 84 (by decide)]
      exact hpa
/-- the model after a run -/
def mrR (n m : Nat) (U W Y : Nat → Nat) (th w : Nat → Int) (R : Nat) (A2 : Nat → Nat → Int) : Prop := roM A2 (wQ n m U W Y th) (wZ n m U W Y th) (hY Y n) (rzM n m U W Y th R) ∧ (∀ l, l < hY Y n → ∀ j, j < wZ n m U W Y th l → A2 114 (80 * l + j) = (rzM n m U W Y th R).1 l j) ∧ pcM A2 (wB U W Y th m) (wG m U W Y th) (wU m U W Y th) (wD m U W Y th) ∧ (∀ b, b < m → th b = 1 → A2 108 b = (wF U W Y th b : Nat)) ∧ (∀ b, b < 80 → A2 107 b = (if b < n ∨ (12 ≤ b ∧ b < wF U W Y th m) then 1 else 0)) ∧ (A2 93 28 = cvM n m U W Y th R ∧ A2 93 27 = (rkM n m U W Y th R : Nat)) ∧ ∀ l, l < hY Y n → ∀ x : Nat, wQ n m U W Y th l (x : Nat) → A2 115 x = plM n m U W Y th w R x
theorem roM_0 (h2 : dr n m U W Y th) (h : rwM A (wK n m U W Y th) 80) : roM A (wQ n m U W Y th) (wZ n m U W Y th) (hY Y n) (wz0 n m U W Y th) := by
  obtain ⟨h1, h3⟩ := h
  have hn := h2.1
  have hh := h_n h2
  have F72 := h2.2.2.2.2
  have h12 := wF_12 (U := U) (L := W) (Y := Y) (th := th) m
  refine ⟨fun l hl => ?_, fun l hl j hj => ?_, fun l hl x hx => ?_⟩
  · rw [h1 l (by omega), wZ_80 h2 (by omega)]
  · obtain ⟨i, i1, i2, i3⟩ := ctg_ex hj
    have := (h3 i (by omega) (by omega)).1
    rw [i2, i3] at this
    rw [this]
    show _ = rw0 (wK n m U W Y th) l (wF U W Y th m) j
    rw [← i3]
    exact (rw0_at i1 i2).symm
  · obtain ⟨i, i1, i2, i3⟩ := hx
    have e : x = i := by omega
    subst e
    have hi : x < 80 := by have := wT_lt h2 i2; omega
    have ek : wK n m U W Y th x = l := by rw [wK_t i2, i3]
    exact (h3 x hi (by omega)).2
set_option maxRecDepth 100000 in
theorem s_runM (L : Lay K ρ) (h : mrC A n m U W Y th) (hw : ∀ k, k < hY Y n → ∀ x : Nat, wQ n m U W Y th k (x : Nat) → (x < 12 → A 94 x = w x) ∧ (¬ x < 12 → w x = 1) ∧ 1 ≤ w x ∧ w x ≤ 9) {R : Nat} (hR : R ≤ 20) {x1 : Int}
    (hx1 : x1 = (R : Nat))
    (kk : ∀ A2, (∀ c, c ≠ 93 → (c < 106 ∨ 117 < c) → A2 c = A c) → (∀ j, j ≠ 8 → j ≠ 22 → j ≠ 27 → j ≠ 28 → A2 93 j = A 93 j) → A2 93 8 = 1 → mrR n m U W Y th w R A2 → post (some (.inl (iZ (cvM n m U W Y th R)))) (123, K, zs (A2), ρ)) : mj_W (mj_lv (d + 2)) prog_11_method_31_code 9 1 0 0 post 29 [some (.inr (.inl (some 93))), some (.inl (iZ (x1))), none, none, none] [] (123, K, zs (A), ρ) 0 0 := by
  obtain ⟨h1, h2, h3⟩ := id h
  have hx := cx_0 h2
  obtain ⟨q1, q2, q3, y4, y5, y6, y7⟩ := id hx
  have hz0 := wz0_ok h2
  subst hx1
  refine mq_aload_n d55_29 rfl rfl ?_
  refine zq_iconst d55_30 ?_
  refine zg_putZ L d55_31 rfl rfl rfl rfl (by first | decide | omega) (by decide) rfl ?_
  obtain ⟨B, hB⟩ : ∃ B, B = mj_u2 A 93 8 1 := ⟨_, rfl⟩
  rw [← hB]
  have bc : ∀ c, c ≠ 93 → B c = A c := fun c hc => by rw [hB, u2_cell hc]
  have b93 : ∀ j, j ≠ 8 → B 93 j = A 93 j := fun j hj => by rw [hB, u2_k hj]
  have hCB : mrC B n m U W Y th := by
    unfold mrC mgC at *
    rw [b93 0 (by decide), b93 1 (by decide), bc 97 (by decide), bc 99 (by decide), bc 100 (by decide), bc 101 (by decide)]
    exact h
  refine mq_aload_n d55_34 rfl rfl ?_
  refine zg_callV (c := 93) L [] d55_35 rfl rfl ⟨rfl, rfl⟩ rfl ⟨rfl, rfl⟩ ⟨by decide, by decide⟩ (by decide) rfl ?_
  refine s_lay (d := d + 1) L hCB (fun A2 hL hrw => ?_)
  obtain ⟨e2, f93, f22, f107, f106, fPP, f108⟩ := hL
  have c2 : ∀ c, c ≠ 93 → (c < 106 ∨ 113 < c) → A2 c = A c := fun c a b => by rw [e2 c (by simp [laL]; omega), bc c a]
  have hro := roM_0 h2 hrw
  have hpc : pcM A2 (wB U W Y th m) (wG m U W Y th) (wU m U W Y th) (wD m U W Y th) := ⟨f22, fun p hp => by
    obtain ⟨p1, p2, p3, p4, p5, p6, p7⟩ := wP_p h2 hp
    have := h2.1
    refine ⟨(fPP p hp).1, (fPP p hp).2, ?_, p5, p6, by omega⟩
    rw [f106 _ (by omega) p3, p1]⟩
  refine mq_aload_n d55_38 rfl rfl ?_
  refine zq_iconst d55_39 ?_
  refine mq_aload_n d55_40 rfl rfl ?_
  refine zg_callV (c := 93) L [] d55_41 rfl rfl ⟨rfl, rfl⟩ rfl ⟨rfl, rfl⟩ ⟨by decide, by decide⟩ (by decide) rfl ?_
  refine s_mcross (d := d + 1) L hx hpc hz0 hro ?_
  refine zg_callV (c := 93) L [_, _] d55_44 rfl rfl ⟨rfl, rfl⟩ rfl ⟨rfl, rfl⟩ ⟨by decide, by decide⟩ (by decide) rfl ?_
  refine s_keep (d := d + 1) L (fun A3 e3 g93 g27 g28 g114 => ?_)
  have hn0 : A3 93 0 = (n : Nat) := by rw [g93 0 (by decide) (by decide), f93 0 (by decide)]; exact hCB.1.1
  have hy3 : ∀ v, v < n → A3 99 v = (Y v : Nat) := fun v hv => by rw [e3 99 rfl, e2 99 rfl]; exact hCB.2.2 v hv
  refine mq_aload_n d55_47 rfl rfl ?_
  refine zg_callV (c := 93) L [] d55_48 rfl rfl ⟨rfl, rfl⟩ rfl ⟨rfl, rfl⟩ ⟨by decide, by decide⟩ (by decide) rfl ?_
  refine s_layerCount (d := d + 1) (n := n) L hn0 h2.1 (fun v hv => ?_) ?_
  · have := h2.2.2.2.1 v hv
    have := h2.1
    rw [hy3 v hv]
    omega
  · rw [lc_hY hy3]
    have hpc3 : pcM A3 (wB U W Y th m) (wG m U W Y th) (wU m U W Y th) (wD m U W Y th) := by
      unfold pcM
      rw [g93 22 (by decide) (by decide), e3 109 rfl, e3 110 rfl, e3 106 rfl]
      exact hpc
    have hro3 : roM A3 (wQ n m U W Y th) (wZ n m U W Y th) (hY Y n) (wz0 n m U W Y th) := by
      unfold roM
      rw [e3 112 rfl, e3 111 rfl, e3 113 rfl]
      exact hro
    refine mq_istore_n d55_51 rfl (Nat.le_of_ble_eq_true rfl) rfl ?_
    refine zq_iconst d55_52 ?_
    refine mq_istore_n d55_53 rfl (Nat.le_of_ble_eq_true rfl) rfl ?_
    refine mr_3 (A := A3) (z := wz0 n m U W Y th) L hx hpc3 hz0 hR (fun A4 z3 z4 hI4 => ?_) (R + 1) 0 A3 _ (by omega) (by omega) (fun y e => absurd e (by simp)) ⟨eo_refl, fun _ _ _ => rfl, hro3, g28, g27, fun l hl j hj => ?_⟩
    · have hpc4 := mI_pc hpc3 hI4
      obtain ⟨e4, k93, hro4, k28, k27, k114⟩ := hI4
      refine zq_iconst d55_132 ?_
      refine mq_istore_n d55_133 rfl (Nat.le_of_ble_eq_true rfl) rfl ?_
      refine mr_4 L (fun A5 e5 k111 => ?_) 961 0 A4 (by omega) (by omega) eo_refl (fun q hq => absurd hq (by omega))
      refine zq_iconst d55_159 ?_
      refine mq_istore_n d55_160 rfl (Nat.le_of_ble_eq_true rfl) rfl ?_
      refine mr_5 (A := A5) (z := rzM n m U W Y th R) L hx (rz_ok h2 R) (fun A6 e6 hro6 => ?_) (fun l hl => by rw [e5 112 rfl]; exact hro4.1 l hl) (fun l hl j hj => ?_) (hY Y n + 1) 0 A5 (by omega) (by omega) eo_refl (fun l hl => absurd hl (by omega))
      · have hpc6 : pcM A6 (wB U W Y th m) (wG m U W Y th) (wU m U W Y th) (wD m U W Y th) := by
          unfold pcM
          rw [e6 93 rfl, e6 109 rfl, e6 110 rfl, e6 106 rfl, e5 93 rfl, e5 109 rfl, e5 110 rfl, e5 106 rfl]
          exact hpc4
        have c6 : ∀ c, c ≠ 93 → c ≠ 111 → c ≠ 113 → c ≠ 114 → c ≠ 116 → c ≠ 117 → A6 c = A2 c := fun c a1 a2 a3 a4 a5 a6 => by
          rw [e6 c (by simp; omega), e5 c (by simp; omega), e4 c (by simp; omega), e3 c (by simp; omega)]
        have d93 : A6 93 = A4 93 := (e6 93 rfl).trans (e5 93 rfl)
        refine mq_aload_n d55_177 rfl rfl ?_
        refine mq_iload_n d55_178 rfl rfl ?_
        refine zg_callV (c := 93) L [_] d55_179 rfl rfl ⟨rfl, rfl⟩ rfl ⟨rfl, rfl⟩ ⟨by decide, by decide⟩ (by decide) rfl ?_
        refine s_findPlaces (d := d) (w := w) L hx hpc6 (rz_ok h2 R) hro6 (fun k hk x hq => ?_) (fun A7 e7 hpl => ?_)
        · rw [c6 94 (by decide) (by decide) (by decide) (by decide) (by decide) (by decide), c2 94 (by decide) (by decide)]
          exact hw k hk x hq
        · have i93 : A7 93 = A4 93 := (e7 93 rfl).trans d93
          refine mq_aload_n d55_182 rfl rfl ?_
          refine zg_getIe L (cvM n m U W Y th R) d55_183 rfl rfl (by decide) rfl ((by rw [i93]; exact k28)) ?_
          refine zg_reti d55_186 rfl ?_
          refine kk A7 (fun c a b => ?_) (fun j a1 a2 a3 a4 => ?_) ?_ ⟨?_, ?_, ?_, ?_, ?_, ?_, ?_⟩
          · rw [e7 c (by simp; omega), c6 c a (by omega) (by omega) (by omega) (by omega) (by omega), c2 c a (by omega)]
          · rw [i93, k93 j a3 a4, g93 j a3 a4, f93 j a2, b93 j a1]
          · rw [i93, k93 8 (by decide) (by decide), g93 8 (by decide) (by decide), f93 8 (by decide), hB, u2_self]
          · unfold roM at *
            rw [e7 112 rfl, e7 111 rfl, e7 113 rfl]
            exact hro6
          · intro l hl j hj
            rw [e7 114 rfl, e6 114 rfl, e5 114 rfl]
            exact k114 l hl j hj
          · unfold pcM
            rw [e7 93 rfl, e7 109 rfl, e7 110 rfl, e7 106 rfl]
            exact hpc6
          · intro b hb tb
            rw [e7 108 rfl, c6 108 (by decide) (by decide) (by decide) (by decide) (by decide) (by decide)]
            exact f108 b hb tb
          · rw [e7 107 rfl, c6 107 (by decide) (by decide) (by decide) (by decide) (by decide) (by decide)]
            exact f107
          · rw [i93]
            exact ⟨k28, k27⟩
          · exact hpl
      · have := q2 l hl
        rw [k111 _ (by omega)]
        exact k114 l hl j hj
    · have := q2 l hl
      rw [g114 _ (by omega)]
      exact hro.2.1 l hl j hj
end sp_ru
