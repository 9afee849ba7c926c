section sp_rr
variable {RN PM GW : (Nat → Nat → Int) → Prop} {A B : Nat → Nat → Int}
theorem SM_fr2 (e0 : B 93 0 = A 93 0) (e1 : B 93 1 = A 93 1) (e : ∀ c, 95 ≤ c → c ≤ 101 → B c = A c) (h : SMm A) : SMm B := by
  unfold SMm tuR mUp mLo at *
  rw [e0, e1, e 95 (by decide) (by decide), e 96 (by decide) (by decide), e 97 (by decide) (by decide), e 98 (by decide) (by decide), e 99 (by decide) (by decide), e 100 (by decide) (by decide), e 101 (by decide) (by decide)]
  exact h
theorem Gr_fr2 (e93 : ∀ j, j < 3 → B 93 j = A 93 j) (e : ∀ c, (1 ≤ c ∧ c ≤ 5) ∨ (94 ≤ c ∧ c ≤ 97) → B c = A c) (h : GrOK A) : GrOK B := by
  unfold GrOK at *
  rw [e93 0 (by decide), e93 1 (by decide), e93 2 (by decide), e 1 (by decide), e 2 (by decide), e 3 (by decide), e 4 (by decide), e 5 (by decide), e 94 (by decide), e 95 (by decide), e 96 (by decide), e 97 (by decide)]
  exact h
/-- PM speaks of the graph, its layers and permuting alone -/
def PMf (PM : (Nat → Nat → Int) → Prop) : Prop := ∀ A B : Nat → Nat → Int, (∀ c, (1 ≤ c ∧ c < 16) ∨ (77 ≤ c ∧ c ≤ 83) → B c = A c) → PM A → PM B
set_option maxRecDepth 100000 in
set_option maxHeartbeats 4000000 in
theorem op_run (hPM : PMf PM) (hGW : GWf GW) (x0 : Int32) : lw_op (InvP (JJ SCc SMm RNc PM GW)) m_Main_run m_Mod_run [.inl x0] := by
  rintro h ⟨K, A, ρ, rfl, L, H⟩
  refine ⟨lyk L (by decide) rfl, ?_⟩
  have rx := i32r x0
  rw [iZ_of x0]
  generalize x0.toInt = y at rx
  -- out of bounds
  have bad : (y < 0 ∨ 20 < y) → ∃ z, (some (.inl (iZ (-2))) : Option mj_V) = some (.inl z) ∧ (93 < 123 ∧ K 93 = (0, 9)) ∧ mj_lv 6 m_Mod_run [.inr (.inl (some 93)), .inl (iZ y)] (123, K, zs (A), ρ) (fun r2 h2 => r2 = some (.inl z) ∧ InvP (JJ SCc SMm RNc PM GW) h2) := fun q => by
    refine ⟨_, rfl, lyk L (by decide) rfl, ?_⟩
    show mj_W (mj_lv 5) prog_11_method_31_code 9 1 0 0 _ 0 [some (.inr (.inl (some 93))), some (.inl (iZ (y))), none, none, none] [] (123, K, zs (A), ρ) 0 0
    refine mq_iload_n d55_0 rfl rfl ?_
    refine zq_if_lt (tgt := 10) d55_1 (by decide) (by omega) (fun g1 => ?_) (fun g1 => ?_)
    · refine zq_bipush d55_10 rfl ?_
      refine zg_reti d55_12 rfl ?_
      exact ⟨rfl, K, A, ρ, rfl, L, H⟩
    · refine mq_iload_n d55_4 rfl rfl ?_
      refine zq_bipush d55_5 rfl ?_
      refine zq_icmp_le (tgt := 13) d55_7 (by decide) (by omega) (by omega) (fun g2 => ?_) (fun g2 => ?_)
      · omega
      · refine zq_bipush d55_10 rfl ?_
        refine zg_reti d55_12 rfl ?_
        exact ⟨rfl, K, A, ρ, rfl, L, H⟩
  show mj_W (mj_lv 5) prog_1_method_13_code 8 1 0 0 _ 0 [some (.inr (.inl (some 0))), some (.inl (iZ (y)))] [] (123, K, zs (A), ρ) 0 0
  refine mq_iload_n d12_0 rfl rfl ?_
  refine zq_if_lt (tgt := 10) d12_1 (by decide) (by omega) (fun g1 => ?_) (fun g1 => ?_)
  · refine zq_bipush d12_10 rfl ?_
    refine zg_reti d12_12 rfl ?_
    exact bad (by omega)
  · refine mq_iload_n d12_4 rfl rfl ?_
    refine zq_bipush d12_5 rfl ?_
    refine zq_icmp_le (tgt := 13) d12_7 (by decide) (by omega) (by omega) (fun g2 => ?_) (fun g2 => ?_)
    · refine mq_aload_n d12_13 rfl rfl ?_
      refine zg_callV (c := 0) L [] d12_14 rfl rfl ⟨rfl, rfl⟩ rfl ⟨rfl, rfl⟩ ⟨by decide, by decide⟩ (by decide) rfl ?_
      refine s_settle (d := 0) L (gr_cg H.1) H.2.1.1 H.2.2.1 (fun A1 e1 hS => ?_)
      have H1 := jj_se H e1 hS
      obtain ⟨hC, hYv, hfe⟩ := clC (gr_cg H1.1) hS
      obtain ⟨x, x1, x2, x3, x4, x5, x6, x7, x8⟩ := id hS
      obtain ⟨k1, k2, ⟨k3, k4, k5⟩, k6, k7, k8, k9, k10⟩ := id H1.1
      have c1 : A1 0 8 = 1 := e1.2.2.1
      have hends := fun a ha => (hC.2.2.2.2 a ha).2.1
      have h01 : ∀ a, a < (A1 1 5).toNat → A1 5 a = 0 ∨ A1 5 a = 1 := fun a ha => (hC.2.2.2.2 a ha).2.2.2
      have hbd : A1 10 7 = bdV (A1 1 5).toNat (fun a => (A1 11 a).toNat) (fun a => (A1 12 a).toNat) (A1 5) (A1 14) := by
        rw [bdV_len h01, x8, x7, k10]
      have hwF := bd_wF (U := fun a => (A1 11 a).toNat) (W := fun a => (A1 12 a).toNat) (Y := fun v => (A1 14 v).toNat) (th := A1 5) hends hfe (y := A1 14) (fun v hv => (hYv v hv).1) (Nat.le_refl _)
      have rb : -2147483648 ≤ A1 10 7 ∧ A1 10 7 < 2147483648 := by
        have hb1 := cnt_bnd (b := 12) (m := (A1 1 5).toNat) (g := fun a => if A1 5 a = 1 then A1 14 (A1 12 a).toNat - A1 14 (A1 11 a).toNat - 1 else 0) (fun a ha => by
          have h1 := hends a ha
          have h2 := hYv _ h1.1
          have h3 := hYv _ h1.2
          have h4 : A1 14 (A1 11 a).toNat = ((A1 14 (A1 11 a).toNat).toNat : Nat) := h2.1
          have h5 : A1 14 (A1 12 a).toNat = ((A1 14 (A1 12 a).toNat).toNat : Nat) ∧ (A1 14 (A1 12 a).toNat).toNat < (A1 1 4).toNat := h3
          split <;> omega)
        have : bdV (A1 1 5).toNat (fun a => (A1 11 a).toNat) (fun a => (A1 12 a).toNat) (A1 5) (A1 14) ≤ 12 * ((A1 1 5).toNat : Int) := hb1
        omega
      refine mq_aload_n d12_17 rfl rfl ?_
      refine zg_getR L 10 d12_18 rfl rfl (by decide) rfl (by decide) rfl ?_
      refine zg_getI L d12_21 rfl rfl (by decide) rfl ?_
      refine zq_bipush d12_24 rfl ?_
      refine zq_icmp_le (tgt := 32) d12_26 (by decide) (by omega) (by omega) (fun g3 => ?_) (fun g3 => ?_)
      · -- few bends
        obtain ⟨R, hRe⟩ : ∃ R : Nat, y = R := ⟨y.toNat, by omega⟩
        subst hRe
        obtain ⟨n, hn⟩ : ∃ n, n = (A1 1 4).toNat := ⟨_, rfl⟩
        obtain ⟨m, hm⟩ : ∃ m, m = (A1 1 5).toNat := ⟨_, rfl⟩
        obtain ⟨U, hU⟩ : ∃ U : Nat → Nat, U = fun a => (A1 11 a).toNat := ⟨_, rfl⟩
        obtain ⟨W, hW⟩ : ∃ W : Nat → Nat, W = fun a => (A1 12 a).toNat := ⟨_, rfl⟩
        obtain ⟨Y, hY'⟩ : ∃ Y : Nat → Nat, Y = fun v => (A1 14 v).toNat := ⟨_, rfl⟩
        obtain ⟨th, hth⟩ : ∃ th : Nat → Int, th = A1 5 := ⟨_, rfl⟩
        rw [← hn, ← hm, ← hU, ← hW, ← hth] at hC
        rw [← hm, ← hU, ← hW, ← hth] at hbd
        rw [← hU, ← hW, ← hY', ← hth, ← hm] at hwF
        have hYn : ∀ v, v < n → A1 14 v = (Y v : Nat) ∧ Y v < n := fun v hv => by
          rw [hY', hn]
          exact hYv v (by rw [← hn]; exact hv)
        have hdr : dr n m U W Y th := by
          refine ⟨by omega, by omega, fun a ha => ?_, fun v hv => (hYn v hv).2, by omega⟩
          have h1 := hC.2.2.2.2 a ha
          refine ⟨h1.2.1.1, h1.2.1.2, h1.2.2.2, fun t => ?_⟩
          rw [hU, hW, hY']
          exact hfe a (by rw [← hm]; exact ha) (by rw [← hth]; exact t)
        have hrc : rcC A1 n m U W Y th := ⟨hC, hdr, fun v hv => (hYn v hv).1⟩
        have h10 : A1 10 5 = (hY Y n : Nat) := by rw [x6, ← hn, lc_hY (fun v hv => (hYn v hv).1)]
        have hw2 : ∀ v, v < n → 1 ≤ A1 2 v ∧ A1 2 v ≤ 9 := fun v hv => k8 v (by omega)
        refine s_runC (d := 0) (R := R) L hrc h10 hw2 (by omega) rfl (fun A4 c4 f4 f9 hcr => ?_)
        refine ⟨_, rfl, lyk L (by decide) rfl, ?_⟩
        have c93 : A4 93 = A1 93 := c4 93 (by decide) (by decide)
        have G4 : GrOK A4 := Gr_fr2 (fun j _ => by rw [c93]) (fun c hc => c4 c (by omega) (by omega)) H1.1
        have S4 : SCc A4 := SC_fr (fun c a b _ => c4 c b (by omega)) hS
        show mj_W (mj_lv 5) prog_11_method_31_code 9 1 0 0 _ 0 [some (.inr (.inl (some 93))), some (.inl (iZ ((R : Int)))), none, none, none] [] (123, K, zs (A4), ρ) 0 0
        refine mq_iload_n d55_0 rfl rfl ?_
        refine zq_if_lt (tgt := 10) d55_1 (by decide) (by omega) (fun g4 => ?_) (fun g4 => ?_)
        · omega
        · refine mq_iload_n d55_4 rfl rfl ?_
          refine zq_bipush d55_5 rfl ?_
          refine zq_icmp_le (tgt := 13) d55_7 (by decide) (by omega) (by omega) (fun g5 => ?_) (fun g5 => ?_)
          · refine mq_aload_n d55_13 rfl rfl ?_
            refine zg_callV (c := 93) L [] d55_14 rfl rfl ⟨rfl, rfl⟩ rfl ⟨rfl, rfl⟩ ⟨by decide, by decide⟩ (by decide) rfl ?_
            refine s_make2 (d := 2) L (mg_gr G4) (by rw [c93]; exact H1.2.1.2.2.2.2.1) (fun q => SM_fr2 (by rw [c93]) (by rw [c93]) (fun c a b => c4 c (by omega) (by omega)) (H1.2.2.2.1 (by rw [c93] at q; exact q))) (fun A5 e5 hM hB => ?_)
            have G5 : GrOK A5 := Gr_fr2 (fun j hj => e5.2.1 j (by omega)) (fun c hc => e5.1 c (by simp; omega)) G4
            have S5 : SCc A5 := SC_fr (fun c a b _ => e5.1 c (by simp; omega)) S4
            have c5 : ∀ c, c < 16 → c ≠ 0 → A5 c = A1 c := fun c a b => by rw [e5.1 c (by simp; omega), c4 c b (by omega)]
            obtain ⟨z, z1, z2, z3, z4, z5, z6, z7, z8, z9⟩ := both G5 S5 hM
            obtain ⟨l1, l2, ⟨l3, l4, l5⟩, l6, l7, l8, l9, l10⟩ := id G5
            rw [c5 1 (by decide) (by decide)] at z4 z6 l3 l4
            rw [c5 11 (by decide) (by decide), c5 12 (by decide) (by decide)] at z4
            rw [c5 14 (by decide) (by decide)] at z6
            have hmr : mrC A5 n m U W Y th := by
              refine ⟨⟨by rw [l3]; exact hC.1, by rw [l4]; exact hC.2.1, hC.2.2.1, hC.2.2.2.1, fun a ha => ?_⟩, hdr, fun v hv => ?_⟩
              · have h1 := hC.2.2.2.2 a ha
                have h2 := z4 a (by rw [← hm]; exact ha)
                have h3 := (l7 a (by have := hC.2.2.2.1; omega)).2.2
                exact ⟨⟨by rw [h2.2.1]; exact h1.1.1, by rw [h2.2.2.1]; exact h1.1.2⟩, h1.2.1, by rw [h3, c5 5 (by decide) (by decide)]; exact h1.2.2.1, h1.2.2.2⟩
              · rw [z6 v (by rw [← hn]; exact hv)]
                exact (hYn v hv).1
            refine mq_aload_n d55_17 rfl rfl ?_
            refine zg_callV (c := 93) L [] d55_18 rfl rfl ⟨rfl, rfl⟩ rfl ⟨rfl, rfl⟩ ⟨by decide, by decide⟩ (by decide) rfl ?_
            refine s_bendCount (d := 4) L hmr.1 ?_
            have eb : bdV m U W th (A5 99) = A1 10 7 := by
              have q1 := bd_wF (n := n) (Y := Y) (fun a ha => (hmr.1.2.2.2.2 a ha).2.1) (fun a ha t => (hdr.2.2.1 a ha).2.2.2 t) hmr.2.2 (Nat.le_refl m)
              omega
            rw [eb]
            refine zq_bipush d55_21 rfl ?_
            refine zq_icmp_le (tgt := 29) d55_23 (by decide) (by omega) (by omega) (fun g6 => ?_) (fun g6 => ?_)
            · have hitem : ∀ x, wT n m U W Y th x → (x < 12 → A5 94 x = wWd A1 n x) ∧ (¬ x < 12 → wWd A1 n x = 1) ∧ 1 ≤ wWd A1 n x ∧ wWd A1 n x ≤ 9 := fun x hx => by
                have hn12 := hdr.1
                unfold wWd
                rcases hx with q | q
                · have := hw2 x q
                  rw [if_pos q]
                  refine ⟨fun _ => ?_, fun q2 => by omega, this.1, this.2⟩
                  rw [l6 x (by omega), c5 2 (by decide) (by decide)]
                · rw [if_neg (by omega)]
                  exact ⟨fun q2 => by omega, fun _ => rfl, by decide, by decide⟩
              refine s_runM (d := 3) (w := wWd A1 n) (R := R) L hmr (fun k hk x hq => ?_) (by omega) rfl (fun A9 c9 f93 f8 hmm => ?_)
              · obtain ⟨i, i1, i2, i3⟩ := hq
                have : x = i := by omega
                rw [this]
                exact hitem i i2
              · refine ⟨rfl, K, A9, ρ, rfl, L, ?_⟩
                obtain ⟨F1, F2, F3, F4, F5, F6, F7, F8, F9⟩ := id H1.2.1
                have d9 : ∀ c, c < 16 → c ≠ 0 → A9 c = A1 c := fun c a b => by rw [c9 c (by omega) (by omega), c5 c a b]
                have t0 : A9 0 = A4 0 := by rw [c9 0 (by decide) (by decide), e5.1 0 rfl]
                have t937 : A9 93 7 = 0 := by rw [f93 7 (by decide) (by decide) (by decide) (by decide)]; exact e5.2.2
                obtain ⟨r1, ⟨r2, r3⟩, r4, r5, r6, r7⟩ := hcr
                obtain ⟨s1, s2, s3, s4, s5, ⟨s6, s7⟩, s8⟩ := hmm
                have k9' : ∀ c, (16 ≤ c ∧ c < 93) → A9 c = A4 c := fun c hc => by rw [c9 c (by omega) (by omega), e5.1 c (by simp; omega)]
                have hh12 : hY Y n ≤ 12 := (cx_0 hdr).1
                have g12 : ∀ q, q < wB U W Y th m → wG m U W Y th q < 12 := fun q hq => by
                  have := (wP_p hdr hq).2.2.2.2.2.2
                  have := hdr.1
                  omega
                refine ⟨Gr_fr2 (fun j hj => f93 j (by omega) (by omega) (by omega) (by omega)) (fun c hc => c9 c (by omega) (by omega)) G5, ?_, fun _ => SC_fr (fun c a b _ => d9 c a b) hS, fun _ => SM_fr2 (f93 0 (by decide) (by decide) (by decide) (by decide)) (f93 1 (by decide) (by decide) (by decide) (by decide)) (fun c a b => c9 c (by omega) (by omega)) hM, fun _ => ?_, fun q => ?_, fun q => ?_⟩
                · unfold FlOK
                  rw [t0, f9, f4 8 (by decide), f4 10 (by decide), f4 11 (by decide), c1, t937, f8]
                  exact ⟨Or.inr rfl, Or.inr rfl, F3, F4, Or.inl rfl, rfl, fun _ => ⟨rfl, rfl⟩, fun _ => rfl, fun _ => rfl⟩
                · refine ⟨n, m, U, W, Y, th, rzM n m U W Y th R, wWd A1 n, plM n m U W Y th (wWd A1 n) R, ⟨?_, ?_⟩, ⟨rz_ok hdr R, ?_, s1⟩, s2, ⟨?_, s3⟩, fun b hb tb => ⟨?_, s4 b hb tb⟩, ?_, s5, ⟨?_, ?_⟩, fun x hx => ?_, fun x hx => ?_, ?_, ?_⟩
                  · exact ⟨lyC_eo hC (d9 1 (by decide) (by decide)) (d9 5 (by decide) (by decide)) (d9 11 (by decide) (by decide)) (d9 12 (by decide) (by decide)), hdr, by rw [d9 14 (by decide) (by decide)]; exact hrc.2.2⟩
                  · unfold mrC mgC at *
                    rw [f93 0 (by decide) (by decide) (by decide) (by decide), f93 1 (by decide) (by decide) (by decide) (by decide), c9 97 (by decide) (by decide), c9 99 (by decide) (by decide), c9 100 (by decide) (by decide), c9 101 (by decide) (by decide)]
                    exact hmr
                  · exact roC_eo r1 hh12 (fun c hc => k9' c (by omega))
                  · exact pcC_eo g12 r4 (fun c a b => k9' c (by omega))
                  · rw [k9' 17 (by decide)]
                    exact r5 b hb tb
                  · rw [k9' 16 (by decide)]
                    exact r6
                  · rw [k9' 46 (by decide), s7, r3]
                  · rw [k9' 46 (by decide), s6, r2]
                  · rw [c9 94 (by decide) (by decide)]
                    exact hitem x hx
                  · have hl := wL_h hdr hx
                    have hq : wQ n m U W Y th (wL m U W Y th x) (x : Nat) := ⟨x, rfl, hx, rfl⟩
                    have a1 := r7.1 _ hl x hq
                    have a2 := s8 _ hl x hq
                    rw [k9' 85 (by decide), k9' 84 (by decide)]
                    exact ⟨a1.1, a2, a1.2⟩
                  · rw [k9' 84 (by decide)]
                    rcases r7.2 with e | ⟨l, hl, x, ⟨i, i1, i2, i3⟩, e⟩
                    · exact Or.inl e
                    · have ix : x = i := by omega
                      exact Or.inr ⟨x, by rw [ix]; exact i2, e⟩
                  · unfold caN
                    rw [d9 1 (by decide) (by decide), d9 5 (by decide) (by decide), d9 11 (by decide) (by decide), d9 12 (by decide) (by decide), d9 14 (by decide) (by decide)]
                    exact ⟨hn, hm, hU, hW, hY', hth⟩
                · rw [t0, f4 10 (by decide)] at q
                  refine hPM A1 A9 (fun c hc => ?_) (H1.2.2.2.2.2.1 q)
                  rcases hc with hc | hc
                  · exact d9 c hc.2 (by omega)
                  · rw [k9' c (by omega), c4 c (by omega) (by omega)]
                · rw [t0, f4 11 (by decide)] at q
                  refine hGW A1 A9 (fun c hc => ?_) (H1.2.2.2.2.2.2 q)
                  rcases hc with hc | hc
                  · exact d9 c (by omega) (by omega)
                  · rw [k9' c (by omega), c4 c (by omega) (by omega)]
            · omega
          · omega
      · -- too many bends
        refine zq_bipush d12_29 rfl ?_
        refine zg_reti d12_31 rfl ?_
        refine ⟨_, rfl, lyk L (by decide) rfl, ?_⟩
        show mj_W (mj_lv 5) prog_11_method_31_code 9 1 0 0 _ 0 [some (.inr (.inl (some 93))), some (.inl (iZ (y))), none, none, none] [] (123, K, zs (A1), ρ) 0 0
        refine mq_iload_n d55_0 rfl rfl ?_
        refine zq_if_lt (tgt := 10) d55_1 (by decide) (by omega) (fun g4 => ?_) (fun g4 => ?_)
        · omega
        · refine mq_iload_n d55_4 rfl rfl ?_
          refine zq_bipush d55_5 rfl ?_
          refine zq_icmp_le (tgt := 13) d55_7 (by decide) (by omega) (by omega) (fun g5 => ?_) (fun g5 => ?_)
          · refine mq_aload_n d55_13 rfl rfl ?_
            refine zg_callV (c := 93) L [] d55_14 rfl rfl ⟨rfl, rfl⟩ rfl ⟨rfl, rfl⟩ ⟨by decide, by decide⟩ (by decide) rfl ?_
            refine s_make2 (d := 2) L (mg_gr H1.1) H1.2.1.2.2.2.2.1 H1.2.2.2.1 (fun A2 e2 hM hB => ?_)
            have H2 := jj_mk hGW H1 e2 hM hB
            have e8 : A2 0 8 = 1 := by rw [e2.1 0 rfl]; exact c1
            obtain ⟨z, z1, z2, z3, z4, z5, z6, z7, z8, z9⟩ := bothJ H2 e8 e2.2.2
            obtain ⟨hCm, -, hYm⟩ := bothM H2 e8 e2.2.2
            refine mq_aload_n d55_17 rfl rfl ?_
            refine zg_callV (c := 93) L [] d55_18 rfl rfl ⟨rfl, rfl⟩ rfl ⟨rfl, rfl⟩ ⟨by decide, by decide⟩ (by decide) rfl ?_
            refine s_bendCount (d := 4) L hCm ?_
            have eb : bdV (A2 1 5).toNat (fun a => (A2 11 a).toNat) (fun a => (A2 12 a).toNat) (A2 5) (A2 99) = A1 10 7 := by
              rw [bdV_len (fun a ha => (hCm.2.2.2.2 a ha).2.2.2), len_congr (fun a ha => (hCm.2.2.2.2 a ha).2.1) z6, ← z8, ← H2.1.2.2.2.2.2.2.2, ← z9, e2.1 10 rfl]
            rw [eb]
            refine zq_bipush d55_21 rfl ?_
            refine zq_icmp_le (tgt := 29) d55_23 (by decide) (by omega) (by omega) (fun g6 => ?_) (fun g6 => ?_)
            · omega
            · refine zq_bipush d55_26 rfl ?_
              refine zg_reti d55_28 rfl ?_
              exact ⟨rfl, K, A2, ρ, rfl, L, H2⟩
          · omega
    · refine zq_bipush d12_10 rfl ?_
      refine zg_reti d12_12 rfl ?_
      exact bad (by omega)
end sp_rr
