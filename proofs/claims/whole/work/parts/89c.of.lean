/-- a fact put aside -/
def hideP (p : Prop) : Prop := True ∧ p
theorem hideP.out {p : Prop} (h : hideP p) : p := h.2
section sp_of
variable {GW : (Nat → Nat → Int) → Prop} {A : Nat → Nat → Int}
def PMq (n m : Nat) (U W Y : Nat → Nat) (th : Nat → Int) (v : Int) : Prop := PMv (wQ n m U W Y th) (wZ n m U W Y th) (hY Y n) (wB U W Y th m) (wG m U W Y th) (wU m U W Y th) (wD m U W Y th) v
/-- the fewest crossings are kept -/
def PMc (A : Nat → Nat → Int) : Prop := PMq (A 1 4).toNat (A 1 5).toNat (fun a => (A 11 a).toNat) (fun a => (A 12 a).toNat) (fun v => (A 14 v).toNat) (A 5) (A 77 6)
theorem PMf_c : PMf PMc := fun A B e h => by
  unfold PMc at *
  rw [e 1 (by decide), e 5 (by decide), e 11 (by decide), e 12 (by decide), e 14 (by decide), e 77 (by decide)]
  exact h
theorem PMv_one {Q : Nat → Int → Prop} {sz : Nat → Nat} {h N : Nat} {g pu pd : Nat → Nat} {v w : Int} (h1 : PMv Q sz h N g pu pd v) (h2 : PMv Q sz h N g pu pd w) : v = w := by
  rcases Nat.lt_or_ge 5000 (totF sz h) with q | q
  · rw [h1.1 q, h2.1 q]
  · exact mnV_one (h1.2 q) (h2.2 q)
set_option maxRecDepth 100000 in
set_option maxHeartbeats 4000000 in
theorem op_fewest (hGW : GWf GW) : lw_op (InvP (JJ SCc SMm RNc PMc GW)) m_Main_fewest m_Mod_fewest [] := by
  rintro h ⟨K, A, ρ, rfl, L, H⟩
  refine ⟨lyk L (by decide) rfl, ?_⟩
  obtain ⟨HG, HF, H3, H4, H5, H6, H7⟩ := id H
  obtain ⟨F1, F2, F3, F4, F5, F6, F7, F8, F9⟩ := id HF
  show mj_W (mj_lv 5) prog_1_method_17_code 8 1 0 0 _ 0 [some (.inr (.inl (some 0)))] [] (123, K, zs (A), ρ) 0 0
  refine mq_aload_n d16_0 rfl rfl ?_
  refine zg_getI L d16_1 rfl rfl (by decide) rfl ?_
  refine zq_if_ne (tgt := 10) d16_4 (by decide) (by omega) (fun g1 => ?_) (fun g1 => ?_)
  · have r9 : A 0 9 = 1 := by omega
    -- the model, once the class has its answer
    have mod : ∀ A2 : Nat → Nat → Int, (∀ c, c ≠ 0 → ¬ (77 ≤ c ∧ c ≤ 83) → A2 c = A c) → (∀ j, j ≠ 10 → A2 0 j = A 0 j) → A2 0 10 = 1 → PMc A2 → ∃ x, (some (.inl (iZ (A2 77 6))) : Option mj_V) = some (.inl x) ∧ (93 < 123 ∧ K 93 = (0, 9)) ∧ mj_lv 6 m_Mod_fewest [.inr (.inl (some 93))] (123, K, zs (A2), ρ) (fun r2 h2 => r2 = some (.inl x) ∧ InvP (JJ SCc SMm RNc PMc GW) h2) := fun A2 e2 e0 e10 hPM => by
      refine ⟨_, rfl, lyk L (by decide) rfl, ?_⟩
      have c93 : A2 93 = A 93 := e2 93 (by decide) (by decide)
      obtain ⟨n, m, U, W, Y, th, z, w, pl, ⟨hc, hmr⟩, ⟨hz, hro, hrm⟩, h114, ⟨hpc, hpm⟩, h17, h16, h107, h27, hw, hpl, hwd, hca⟩ := RN_fr (B := A2) (fun c a b _ _ => e2 c a b) (H5 r9)
      have hx := cx_0 hc.2.1
      have hn12 := hc.2.1.1
      have hlc : ∀ v, v < n → 0 ≤ A2 99 v ∧ A2 99 v ≤ 100000 := fun v hv => by
        have := hc.2.1.2.2.2.1 v hv
        rw [hmr.2.2 v hv]
        omega
      have elc := lc_hY hmr.2.2
      have hPM2 : PMq n m U W Y th (A2 77 6) := by
        obtain ⟨a1, a2, a3, a4, a5, a6⟩ := hca
        rw [a1, a2, a3, a4, a5, a6]
        exact hPM
      have hwd : hideP (A2 84 3 = 0 ∨ ∃ x, wT n m U W Y th x ∧ A2 84 3 = pl x + w x) := ⟨trivial, hwd⟩
      show mj_W (mj_lv 5) prog_11_method_38_code 9 1 0 0 _ 0 [some (.inr (.inl (some 93))), none, none, none, none, none, none, none] [] (123, K, zs (A2), ρ) 0 0
      refine mq_aload_n d62_0 rfl rfl ?_
      refine zg_getIe L (1) d62_1 rfl rfl (by decide) rfl ((by rw [c93, F6]; exact r9)) ?_
      refine zq_if_ne (tgt := 10) d62_4 (by decide) (by omega) (fun g2 => ?_) (fun g2 => ?_)
      · refine mq_aload_n d62_10 rfl rfl ?_
        refine zg_callV (c := 93) L [] d62_11 rfl rfl ⟨rfl, rfl⟩ rfl ⟨rfl, rfl⟩ ⟨by decide, by decide⟩ (by decide) rfl ?_
        refine s_layerCount (d := 4) (n := n) L hmr.1.1 hn12 hlc ?_
        rw [elc]
        refine s_mfewest (d := 2) (v2 := none) L hx hpm hz hrm h114 (fun A3 v e3 hr3 hv => ?_)
        refine ⟨by rw [PMv_one hv hPM2], K, A3, ρ, rfl, L, ?_⟩
        have d3 : ∀ c, c ≠ 0 → ¬ (77 ≤ c ∧ c ≤ 83) → c ≠ 111 → c ≠ 113 → A3 c = A c := fun c a b c1 c2 => by rw [e3 c (by simp; omega), e2 c a b]
        have t0 : A3 0 = A2 0 := e3 0 rfl
        refine ⟨Gr_fr2 (fun j _ => by rw [d3 93 (by decide) (by decide) (by decide) (by decide)]) (fun c hc => d3 c (by omega) (by omega) (by omega) (by omega)) HG, ?_, fun q => ?_, fun q => ?_, fun q => ?_, fun q => ?_, fun q => ?_⟩
        · unfold FlOK
          rw [t0, e10, e0 8 (by decide), e0 9 (by decide), e0 11 (by decide), d3 93 (by decide) (by decide) (by decide) (by decide)]
          exact ⟨F1, F2, Or.inr rfl, F4, F5, F6, F7, fun _ => r9, F9⟩
        · rw [t0, e0 8 (by decide)] at q
          exact SC_fr (fun c a b _ => d3 c b (by omega) (by omega) (by omega)) (H3 q)
        · rw [d3 93 (by decide) (by decide) (by decide) (by decide)] at q
          exact SM_fr2 (by rw [d3 93 (by decide) (by decide) (by decide) (by decide)]) (by rw [d3 93 (by decide) (by decide) (by decide) (by decide)]) (fun c a b => d3 c (by omega) (by omega) (by omega) (by omega)) (H4 q)
        · have ec : ∀ c, c ≠ 111 → c ≠ 113 → A3 c = A2 c := fun c a b => e3 c (by simp; omega)
          have g12 : ∀ q, q < wB U W Y th m → wG m U W Y th q < 12 := fun q hq => by
            have := (wP_p hc.2.1 hq).2.2.2.2.2.2
            omega
          refine ⟨n, m, U, W, Y, th, z, w, pl, ⟨?_, ?_⟩, ⟨hz, ?_, hr3⟩, ?_, ⟨?_, pcM_eo hpm e3⟩, ?_⟩
          · exact ⟨lyC_eo hc.1 (ec 1 (by decide) (by decide)) (ec 5 (by decide) (by decide)) (ec 11 (by decide) (by decide)) (ec 12 (by decide) (by decide)), hc.2.1, by rw [ec 14 (by decide) (by decide)]; exact hc.2.2⟩
          · unfold mrC mgC at *
            rw [ec 93 (by decide) (by decide), ec 97 (by decide) (by decide), ec 99 (by decide) (by decide), ec 100 (by decide) (by decide), ec 101 (by decide) (by decide)]
            exact hmr
          · exact roC_eo hro hx.1 (fun c hc => ec c (by omega) (by omega))
          · rw [ec 114 (by decide) (by decide)]
            exact h114
          · exact pcC_eo g12 hpc (fun c a b => ec c (by omega) (by omega))
          · unfold caN at *
            rw [ec 1 (by decide) (by decide), ec 5 (by decide) (by decide), ec 11 (by decide) (by decide), ec 12 (by decide) (by decide), ec 14 (by decide) (by decide), ec 17 (by decide) (by decide), ec 108 (by decide) (by decide), ec 16 (by decide) (by decide), ec 107 (by decide) (by decide), ec 93 (by decide) (by decide), ec 46 (by decide) (by decide), ec 94 (by decide) (by decide), ec 85 (by decide) (by decide), ec 115 (by decide) (by decide), ec 84 (by decide) (by decide)]
            exact ⟨h17, h16, h107, h27, hw, hpl, hwd.out, hca⟩
        · refine PMf_c A2 A3 (fun c hc => e3 c (by simp; omega)) hPM
        · rw [t0, e0 11 (by decide)] at q
          exact hGW A A3 (fun c hc => d3 c (by omega) (by omega) (by omega) (by omega)) (H7 q)
      · exact absurd g2 (by decide)
    refine mq_aload_n d16_10 rfl rfl ?_
    refine zg_getI L d16_11 rfl rfl (by decide) rfl ?_
    refine zq_if_ne (tgt := 37) d16_14 (by decide) (by omega) (fun g2 => ?_) (fun g2 => ?_)
    · refine mq_aload_n d16_37 rfl rfl ?_
      refine zg_getR L 77 d16_38 rfl rfl (by decide) rfl (by decide) rfl ?_
      refine zg_getI L d16_41 rfl rfl (by decide) rfl ?_
      refine zg_reti d16_44 rfl ?_
      exact mod A (fun _ _ _ => rfl) (fun _ _ => rfl) (by omega) (H6 (by omega))
    · obtain ⟨n, m, U, W, Y, th, z, w, pl, ⟨hc, hmr⟩, ⟨hz, hro, hrm⟩, h114, ⟨hpc, hpm⟩, h17, h16, h107, h27, hw, hpl, hwd, hca⟩ := H5 r9
      clear hwd
      refine mq_aload_n d16_17 rfl rfl ?_
      refine zg_getR L 77 d16_18 rfl rfl (by decide) rfl (by decide) rfl ?_
      refine mq_aload_n d16_21 rfl rfl ?_
      refine zg_getR L 16 d16_22 rfl rfl (by decide) rfl (by decide) rfl ?_
      refine mq_aload_n d16_25 rfl rfl ?_
      refine zg_getR L 46 d16_26 rfl rfl (by decide) rfl (by decide) rfl ?_
      refine zg_callV (c := 77) L [_, _] d16_29 rfl rfl ⟨rfl, rfl⟩ rfl ⟨rfl, rfl⟩ ⟨by decide, by decide⟩ (by decide) rfl ?_
      refine s_psearch (d := 1) L (cx_0 hc.2.1) hpc hz hro (fun A1 e1 hPM => ?_)
      refine mq_aload_n d16_32 rfl rfl ?_
      refine zq_iconst d16_33 ?_
      refine zg_putZ L d16_34 rfl rfl rfl rfl (by first | decide | omega) (by decide) rfl ?_
      obtain ⟨B, hB⟩ : ∃ B, B = mj_u2 A1 0 10 1 := ⟨_, rfl⟩
      rw [← hB]
      have bc : ∀ c, c ≠ 0 → B c = A1 c := fun c hc => by rw [hB, u2_cell hc]
      refine mq_aload_n d16_37 rfl rfl ?_
      refine zg_getR L 77 d16_38 rfl rfl (by decide) rfl (by decide) rfl ?_
      refine zg_getI L d16_41 rfl rfl (by decide) rfl ?_
      refine zg_reti d16_44 rfl ?_
      refine mod B (fun c a b => by rw [bc c a, e1 c (by omega)]) (fun j hj => by rw [hB, u2_k hj, e1 0 (by omega)]) (by rw [hB, u2_self]) ?_
      obtain ⟨a1, a2, a3, a4, a5, a6⟩ := hca
      unfold PMc
      rw [bc 1 (by decide), bc 5 (by decide), bc 11 (by decide), bc 12 (by decide), bc 14 (by decide), bc 77 (by decide), e1 1 (by omega), e1 5 (by omega), e1 11 (by omega), e1 12 (by omega), e1 14 (by omega), ← a1, ← a2, ← a3, ← a4, ← a5, ← a6]
      exact hPM
  · have H' : InvP (JJ SCc SMm RNc PMc GW) (123, K, zs (A), ρ) := ⟨K, A, ρ, rfl, L, H⟩
    refine zq_bipush d16_7 rfl ?_
    refine zg_reti d16_9 rfl ?_
    refine ⟨_, rfl, lyk L (by decide) rfl, ?_⟩
    show mj_W (mj_lv 5) prog_11_method_38_code 9 1 0 0 _ 0 [some (.inr (.inl (some 93))), none, none, none, none, none, none, none] [] (123, K, zs (A), ρ) 0 0
    refine mq_aload_n d62_0 rfl rfl ?_
    refine zg_getI L d62_1 rfl rfl (by decide) rfl ?_
    refine zq_if_ne (tgt := 10) d62_4 (by decide) (by omega) (fun g2 => ?_) (fun g2 => ?_)
    · omega
    · refine zq_bipush d62_7 rfl ?_
      refine zg_reti d62_9 rfl ?_
      exact ⟨rfl, H'⟩
end sp_of
