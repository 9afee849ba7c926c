section sp_sn
variable {RN PM GW : (Nat → Nat → Int) → Prop} {d : Nat} {post : Option mj_V → mj_H → Prop} {K : Nat → Nat × Nat} {ρ : Nat → Nat → Option Nat} {A : Nat → Nat → Int}
set_option maxRecDepth 100000 in
theorem op_route (x0 x1 : Int32) : lw_op (InvP (JJ SCc SMm RNc PM GW)) m_Main_route m_Mod_route [.inl x0, .inl x1] := by
  rintro h ⟨K, A, ρ, rfl, L, H⟩
  refine ⟨lyk L (by decide) rfl, ?_⟩
  have rx := i32r x0
  have ry := i32r x1
  rw [iZ_of x0, iZ_of x1]
  generalize x0.toInt = y at rx
  generalize x1.toInt = u at ry
  obtain ⟨F1, F2, F3, F4, F5, F6, F7, F8, F9⟩ := id H.2.1
  have G := H.1
  have H' : InvP (JJ SCc SMm RNc PM GW) (123, K, zs (A), ρ) := ⟨K, A, ρ, rfl, L, H⟩
  show mj_W (mj_lv 5) prog_1_method_19_code 8 1 0 0 _ 0 [some (.inr (.inl (some 0))), some (.inl (iZ (y))), some (.inl (iZ (u)))] [] (123, K, zs (A), ρ) 0 0
  refine mq_aload_n d18_0 rfl rfl ?_
  refine zg_getI L d18_1 rfl rfl (by decide) rfl ?_
  refine zq_if_ne (tgt := 10) d18_4 (by decide) (by omega) (fun g1 => ?_) (fun g1 => ?_)
  · obtain ⟨n, m, U, W, Y, th, z, w, pl, ⟨hc, hmr⟩, ⟨hz, hro, hrm⟩, h114, hpp, h17, -⟩ := H.2.2.2.2.1 (by omega)
    have hn12 := hc.2.1.1
    have hm24 := hc.2.1.2.1
    have hmm : A 1 5 = (m : Nat) := hc.1.2.1
    have hmm2 : A 93 1 = (m : Nat) := hmr.1.2.1
    -- the arc and the step
    have good : ∀ b k : Nat, y = (b : Nat) → u = (k : Nat) → b < m → th b = 1 → k ≤ wS U W Y b → mj_lv 6 m_Mod_route [.inr (.inl (some 93)), .inl (iZ y), .inl (iZ u)] (123, K, zs (A), ρ) (fun r2 h2 => r2 = some (.inl (iZ (wI U W Y th b k : Nat))) ∧ InvP (JJ SCc SMm RNc PM GW) h2) := fun b k hb hk hbm tb hks => by
      subst hb
      subst hk
      obtain ⟨⟨a1, a2⟩, ⟨a3, a4⟩, a5, a6⟩ := hmr.1.2.2.2.2 b hbm
      have yU := hmr.2.2 _ a3
      have yW := hmr.2.2 _ a4
      have sp := wS_p hc.2.1 hbm tb
      have f8 := (h17 b hbm tb).2
      have ei : wI U W Y th b k = if k = 0 then U b else if k = wS U W Y b then W b else wF U W Y th b + k - 1 := rfl
      show mj_W (mj_lv 5) prog_11_method_42_code 9 1 0 0 _ 0 [some (.inr (.inl (some 93))), some (.inl (iZ ((b : Int)))), some (.inl (iZ ((k : Int))))] [] (123, K, zs (A), ρ) 0 0
      refine mq_aload_n d66_0 rfl rfl ?_
      refine zg_getI L d66_1 rfl rfl (by decide) rfl ?_
      refine zq_if_ne (tgt := 10) d66_4 (by decide) (by omega) (fun g3 => ?_) (fun g3 => ?_)
      · refine mq_aload_n d66_10 rfl rfl ?_
        refine mq_iload_n d66_11 rfl rfl ?_
        refine zg_callV (c := 93) L [_] d66_12 rfl rfl ⟨rfl, rfl⟩ rfl ⟨rfl, rfl⟩ ⟨by decide, by decide⟩ (by decide) rfl ?_
        refine s_isArc L rx (by omega) (fun a ha => by have := hmr.1.2.2.2.2 a (by omega); omega) (fun q => ?_) (fun q => ?_)
        · refine zq_if_eq (tgt := 49) d66_15 (by decide) (by omega) (fun g4 => ?_) (fun g4 => ?_)
          · omega
          · refine mq_iload_n d66_18 rfl rfl ?_
            refine zq_if_lt (tgt := 49) d66_19 (by decide) (by omega) (fun g5 => ?_) (fun g5 => ?_)
            · omega
            · refine mq_iload_n d66_22 rfl rfl ?_
              refine mq_aload_n d66_23 rfl rfl ?_
              refine zg_getR L 99 d66_24 rfl rfl (by decide) rfl (by decide) rfl ?_
              refine mq_aload_n d66_27 rfl rfl ?_
              refine zg_getR L 101 d66_28 rfl rfl (by decide) rfl (by decide) rfl ?_
              refine mq_iload_n d66_31 rfl rfl ?_
              refine zr_ialdV L ((W b : Int)) d66_32 (by decide) rfl (by omega) (a2) ?_
              refine zr_ialdV L ((Y (W b) : Nat)) d66_33 (by decide) rfl (by omega) (yW) ?_
              refine mq_aload_n d66_34 rfl rfl ?_
              refine zg_getR L 99 d66_35 rfl rfl (by decide) rfl (by decide) rfl ?_
              refine mq_aload_n d66_38 rfl rfl ?_
              refine zg_getR L 100 d66_39 rfl rfl (by decide) rfl (by decide) rfl ?_
              refine mq_iload_n d66_42 rfl rfl ?_
              refine zr_ialdV L ((U b : Int)) d66_43 (by decide) rfl (by omega) (a1) ?_
              refine zr_ialdV L ((Y (U b) : Nat)) d66_44 (by decide) rfl (by omega) (yU) ?_
              refine zq_isub d66_45 ?_
              refine zq_icmp_le (tgt := 51) d66_46 (by decide) (by omega) (by omega) (fun g6 => ?_) (fun g6 => ?_)
              · refine mq_iload_n d66_51 rfl rfl ?_
                refine zq_if_ne (tgt := 64) d66_52 (by decide) (by omega) (fun g7 => ?_) (fun g7 => ?_)
                · refine mq_iload_n d66_64 rfl rfl ?_
                  refine mq_aload_n d66_65 rfl rfl ?_
                  refine zg_getR L 99 d66_66 rfl rfl (by decide) rfl (by decide) rfl ?_
                  refine mq_aload_n d66_69 rfl rfl ?_
                  refine zg_getR L 101 d66_70 rfl rfl (by decide) rfl (by decide) rfl ?_
                  refine mq_iload_n d66_73 rfl rfl ?_
                  refine zr_ialdV L ((W b : Int)) d66_74 (by decide) rfl (by omega) (a2) ?_
                  refine zr_ialdV L ((Y (W b) : Nat)) d66_75 (by decide) rfl (by omega) (yW) ?_
                  refine mq_aload_n d66_76 rfl rfl ?_
                  refine zg_getR L 99 d66_77 rfl rfl (by decide) rfl (by decide) rfl ?_
                  refine mq_aload_n d66_80 rfl rfl ?_
                  refine zg_getR L 100 d66_81 rfl rfl (by decide) rfl (by decide) rfl ?_
                  refine mq_iload_n d66_84 rfl rfl ?_
                  refine zr_ialdV L ((U b : Int)) d66_85 (by decide) rfl (by omega) (a1) ?_
                  refine zr_ialdV L ((Y (U b) : Nat)) d66_86 (by decide) rfl (by omega) (yU) ?_
                  refine zq_isub d66_87 ?_
                  refine zq_icmp_ne (tgt := 100) d66_88 (by decide) (by omega) (by omega) (fun g8 => ?_) (fun g8 => ?_)
                  · refine mq_aload_n d66_100 rfl rfl ?_
                    refine zg_getR L 108 d66_101 rfl rfl (by decide) rfl (by decide) rfl ?_
                    refine mq_iload_n d66_104 rfl rfl ?_
                    refine zr_ialdV L ((wF U W Y th b : Nat)) d66_105 (by decide) rfl (by omega) (f8) ?_
                    refine mq_iload_n d66_106 rfl rfl ?_
                    refine zq_iadd d66_107 ?_
                    refine zq_iconst d66_108 ?_
                    refine zq_isub d66_109 ?_
                    refine zg_reti d66_110 rfl ?_
                    refine ⟨?_, H'⟩
                    rw [ei, if_neg (by omega), if_neg (by omega)]
                    have e3 : ((wF U W Y th b : Nat) : Int) + (k : Int) - 1 = ((wF U W Y th b + k - 1 : Nat) : Int) := by omega
                    rw [e3]
                  · refine mq_aload_n d66_91 rfl rfl ?_
                    refine zg_getR L 101 d66_92 rfl rfl (by decide) rfl (by decide) rfl ?_
                    refine mq_iload_n d66_95 rfl rfl ?_
                    refine zr_ialdV L ((W b : Int)) d66_96 (by decide) rfl (by omega) (a2) ?_
                    refine mq_goto (tgt := 110) d66_97 (by decide) ?_
                    refine zg_reti d66_110 rfl ?_
                    refine ⟨?_, H'⟩
                    rw [ei, if_neg (by omega), if_pos (by omega)]
                · refine mq_aload_n d66_55 rfl rfl ?_
                  refine zg_getR L 100 d66_56 rfl rfl (by decide) rfl (by decide) rfl ?_
                  refine mq_iload_n d66_59 rfl rfl ?_
                  refine zr_ialdV L ((U b : Int)) d66_60 (by decide) rfl (by omega) (a1) ?_
                  refine mq_goto (tgt := 110) d66_61 (by decide) ?_
                  refine zg_reti d66_110 rfl ?_
                  refine ⟨?_, H'⟩
                  rw [ei, if_pos (by omega)]
              · omega
        · exfalso
          exact q ⟨by omega, by omega, by rw [Int.toNat_natCast, a5]; exact tb⟩
      · omega
    -- no
    have bad : ¬ (∃ b k : Nat, y = (b : Nat) ∧ u = (k : Nat) ∧ b < m ∧ th b = 1 ∧ k ≤ wS U W Y b) → mj_lv 6 m_Mod_route [.inr (.inl (some 93)), .inl (iZ y), .inl (iZ u)] (123, K, zs (A), ρ) (fun r2 h2 => r2 = some (.inl (iZ (-1))) ∧ InvP (JJ SCc SMm RNc PM GW) h2) := fun nq => by
      show mj_W (mj_lv 5) prog_11_method_42_code 9 1 0 0 _ 0 [some (.inr (.inl (some 93))), some (.inl (iZ (y))), some (.inl (iZ (u)))] [] (123, K, zs (A), ρ) 0 0
      refine mq_aload_n d66_0 rfl rfl ?_
      refine zg_getI L d66_1 rfl rfl (by decide) rfl ?_
      refine zq_if_ne (tgt := 10) d66_4 (by decide) (by omega) (fun g3 => ?_) (fun g3 => ?_)
      · refine mq_aload_n d66_10 rfl rfl ?_
        refine mq_iload_n d66_11 rfl rfl ?_
        refine zg_callV (c := 93) L [_] d66_12 rfl rfl ⟨rfl, rfl⟩ rfl ⟨rfl, rfl⟩ ⟨by decide, by decide⟩ (by decide) rfl ?_
        refine s_isArc L rx (by omega) (fun a ha => by have := hmr.1.2.2.2.2 a (by omega); omega) (fun q => ?_) (fun q => ?_)
        · obtain ⟨b, hb⟩ : ∃ b : Nat, y = b := ⟨y.toNat, by omega⟩
          subst hb
          have hbm : b < m := by omega
          obtain ⟨⟨a1, a2⟩, ⟨a3, a4⟩, a5, a6⟩ := hmr.1.2.2.2.2 b hbm
          have tb : th b = 1 := by
            have := q.2.2
            rw [Int.toNat_natCast] at this
            omega
          have yU := hmr.2.2 _ a3
          have yW := hmr.2.2 _ a4
          have sp := wS_p hc.2.1 hbm tb
          refine zq_if_eq (tgt := 49) d66_15 (by decide) (by omega) (fun g4 => ?_) (fun g4 => ?_)
          · omega
          · refine mq_iload_n d66_18 rfl rfl ?_
            refine zq_if_lt (tgt := 49) d66_19 (by decide) (by omega) (fun g5 => ?_) (fun g5 => ?_)
            · refine zq_iconst d66_49 ?_
              refine zg_reti d66_50 rfl ?_
              exact ⟨rfl, H'⟩
            · refine mq_iload_n d66_22 rfl rfl ?_
              refine mq_aload_n d66_23 rfl rfl ?_
              refine zg_getR L 99 d66_24 rfl rfl (by decide) rfl (by decide) rfl ?_
              refine mq_aload_n d66_27 rfl rfl ?_
              refine zg_getR L 101 d66_28 rfl rfl (by decide) rfl (by decide) rfl ?_
              refine mq_iload_n d66_31 rfl rfl ?_
              refine zr_ialdV L ((W b : Int)) d66_32 (by decide) rfl (by omega) (a2) ?_
              refine zr_ialdV L ((Y (W b) : Nat)) d66_33 (by decide) rfl (by omega) (yW) ?_
              refine mq_aload_n d66_34 rfl rfl ?_
              refine zg_getR L 99 d66_35 rfl rfl (by decide) rfl (by decide) rfl ?_
              refine mq_aload_n d66_38 rfl rfl ?_
              refine zg_getR L 100 d66_39 rfl rfl (by decide) rfl (by decide) rfl ?_
              refine mq_iload_n d66_42 rfl rfl ?_
              refine zr_ialdV L ((U b : Int)) d66_43 (by decide) rfl (by omega) (a1) ?_
              refine zr_ialdV L ((Y (U b) : Nat)) d66_44 (by decide) rfl (by omega) (yU) ?_
              refine zq_isub d66_45 ?_
              refine zq_icmp_le (tgt := 51) d66_46 (by decide) (by omega) (by omega) (fun g6 => ?_) (fun g6 => ?_)
              · exact absurd ⟨b, u.toNat, rfl, by omega, hbm, tb, by omega⟩ nq
              · refine zq_iconst d66_49 ?_
                refine zg_reti d66_50 rfl ?_
                exact ⟨rfl, H'⟩
        · refine zq_if_eq (tgt := 49) d66_15 (by decide) (by omega) (fun g4 => ?_) (fun g4 => ?_)
          · refine zq_iconst d66_49 ?_
            refine zg_reti d66_50 rfl ?_
            exact ⟨rfl, H'⟩
          · omega
      · omega
    refine mq_aload_n d18_10 rfl rfl ?_
    refine zg_getR L 1 d18_11 rfl rfl (by decide) rfl (by decide) rfl ?_
    refine mq_iload_n d18_14 rfl rfl ?_
    refine zg_callV (c := 1) L [_] d18_15 rfl rfl ⟨rfl, rfl⟩ rfl ⟨rfl, rfl⟩ ⟨by decide, by decide⟩ (by decide) rfl ?_
    refine s_hasArc L rx (by omega) (gr_rt G) (fun q => ?_) (fun q => ?_)
    · obtain ⟨b, hb⟩ : ∃ b : Nat, y = b := ⟨y.toNat, by omega⟩
      subst hb
      have hbm : b < m := by omega
      obtain ⟨⟨a1, a2⟩, ⟨a3, a4⟩, a5, a6⟩ := hc.1.2.2.2.2 b hbm
      have tb : th b = 1 := by
        have := q.2.2
        rw [Int.toNat_natCast] at this
        omega
      have sp := wS_p hc.2.1 hbm tb
      have hn12' : wS U W Y b ≤ 12 := by omega
      refine zq_if_eq (tgt := 37) d18_18 (by decide) (by omega) (fun g2 => ?_) (fun g2 => ?_)
      · omega
      · refine mq_iload_n d18_21 rfl rfl ?_
        refine zq_if_lt (tgt := 37) d18_22 (by decide) (by omega) (fun g3 => ?_) (fun g3 => ?_)
        · refine zq_iconst d18_37 ?_
          refine zg_reti d18_38 rfl ?_
          refine ⟨_, rfl, lyk L (by decide) rfl, bad (fun ⟨b', k', e1, e2, _⟩ => by omega)⟩
        · refine mq_iload_n d18_25 rfl rfl ?_
          refine mq_aload_n d18_26 rfl rfl ?_
          refine zg_getR L 10 d18_27 rfl rfl (by decide) rfl (by decide) rfl ?_
          refine mq_iload_n d18_30 rfl rfl ?_
          refine zg_callV (c := 10) L [_] d18_31 rfl rfl ⟨rfl, rfl⟩ rfl ⟨rfl, rfl⟩ ⟨by decide, by decide⟩ (by decide) rfl ?_
          refine s_span L hc.1 hbm ?_
          rw [rc_sp hc hbm tb]
          refine zq_icmp_le (tgt := 39) d18_34 (by decide) (by omega) (by omega) (fun g4 => ?_) (fun g4 => ?_)
          · obtain ⟨k, hk⟩ : ∃ k : Nat, u = k := ⟨u.toNat, by omega⟩
            subst hk
            refine mq_aload_n d18_39 rfl rfl ?_
            refine zg_getR L 16 d18_40 rfl rfl (by decide) rfl (by decide) rfl ?_
            refine mq_aload_n d18_43 rfl rfl ?_
            refine zg_getR L 10 d18_44 rfl rfl (by decide) rfl (by decide) rfl ?_
            refine mq_iload_n d18_47 rfl rfl ?_
            refine mq_iload_n d18_48 rfl rfl ?_
            refine zg_callV (c := 16) L [_, _, _] d18_49 rfl rfl ⟨rfl, rfl⟩ rfl ⟨rfl, rfl⟩ ⟨by decide, by decide⟩ (by decide) rfl ?_
            refine s_itemOf (d := 3) L hc hbm tb (by omega) (h17 b hbm tb).1 ?_
            refine zg_reti d18_52 rfl ?_
            exact ⟨_, rfl, lyk L (by decide) rfl, good b k rfl rfl hbm tb (by omega)⟩
          · refine zq_iconst d18_37 ?_
            refine zg_reti d18_38 rfl ?_
            refine ⟨_, rfl, lyk L (by decide) rfl, bad (fun ⟨b', k', e1, e2, e3, e4, e5⟩ => ?_)⟩
            have : b' = b := by omega
            subst this
            omega
    · refine zq_if_eq (tgt := 37) d18_18 (by decide) (by omega) (fun g2 => ?_) (fun g2 => ?_)
      · refine zq_iconst d18_37 ?_
        refine zg_reti d18_38 rfl ?_
        refine ⟨_, rfl, lyk L (by decide) rfl, bad (fun ⟨b', k', e1, e2, e3, e4, e5⟩ => q ⟨by omega, by omega, ?_⟩)⟩
        rw [e1, Int.toNat_natCast, (hc.1.2.2.2.2 b' e3).2.2.1]
        exact e4
      · omega
  · refine zq_bipush d18_7 rfl ?_
    refine zg_reti d18_9 rfl ?_
    refine ⟨_, rfl, lyk L (by decide) rfl, ?_⟩
    show mj_W (mj_lv 5) prog_11_method_42_code 9 1 0 0 _ 0 [some (.inr (.inl (some 93))), some (.inl (iZ (y))), some (.inl (iZ (u)))] [] (123, K, zs (A), ρ) 0 0
    refine mq_aload_n d66_0 rfl rfl ?_
    refine zg_getI L d66_1 rfl rfl (by decide) rfl ?_
    refine zq_if_ne (tgt := 10) d66_4 (by decide) (by omega) (fun g2 => ?_) (fun g2 => ?_)
    · omega
    · refine zq_bipush d66_7 rfl ?_
      refine zg_reti d66_9 rfl ?_
      exact ⟨rfl, H'⟩
/-- the right end of the items below i -/
def wiI (T : Nat → Prop) (pl w : Nat → Int) (i : Nat) (a b : Int) : Prop := (b = 0 ∧ a = 0 ∧ ∀ x, x < i → ¬ T x) ∨ (b = 1 ∧ (∀ x, x < i → T x → pl x + w x ≤ a) ∧ ∃ x, x < i ∧ T x ∧ a = pl x + w x)
set_option maxRecDepth 100000 in
theorem wi_1 (L : Lay K ρ) {T : Nat → Prop} {pl w : Nat → Int} (hT : ∀ x, T x → x < 72) (h107 : ∀ b, b < 80 → (T b → A 107 b = 1) ∧ (¬ T b → A 107 b = 0)) (hw : ∀ x, T x → (x < 12 → A 94 x = w x) ∧ (¬ x < 12 → w x = 1) ∧ 1 ≤ w x ∧ w x ≤ 9) (hpl : ∀ x, T x → A 115 x = pl x ∧ 0 ≤ pl x ∧ pl x ≤ 6000)
    (kk : ∀ a b, wiI T pl w 80 a b → post (some (.inl (iZ a))) (123, K, zs (A), ρ)) : ∀ (j i : Nat) (a b : Int) (x4 : Option mj_V), 80 - i < j → i ≤ 80 → (∀ y, x4 = some y → ∃ w, y = .inl w) → (0 ≤ a ∧ a ≤ 10000) → (b = 0 ∨ b = 1) → wiI T pl w i a b → mj_W (mj_lv (d + 1)) prog_11_method_43_code 9 1 0 0 post 16 [some (.inr (.inl (some 93))), some (.inl (iZ (a))), some (.inl (iZ (b))), some (.inl (iZ ((i : Nat)))), x4] [] (123, K, zs (A), ρ) 0 0
  | 0, i, _, _, _, hj, _, _, _, _, _ => absurd hj (by omega)
  | j + 1, i, a, b, x4, hj, hi, hx4, ra, rb, hI => by
    have m0 : i < 80 → 80 - (i + 1) < j := by omega
    refine mq_iload_n d67_16 rfl rfl ?_
    refine zq_bipush d67_17 rfl ?_
    refine zq_icmp_ge (tgt := 70) d67_19 (by decide) (by omega) (by omega) (fun g1 => ?_) (fun g1 => ?_)
    · have e : i = 80 := by omega
      subst e
      refine mq_iload_n d67_70 rfl rfl ?_
      refine zg_reti d67_71 rfl ?_
      exact kk a b hI
    · have i80 : i < 80 := by omega
      have st4 : mj_ok [some (.inr (.inl (some 93))), some (.inl (iZ (a))), some (.inl (iZ (b))), some (.inl (iZ ((i : Nat)))), x4] 4 = true := by
        cases x4 with
        | none => rfl
        | some y =>
          obtain ⟨w, rfl⟩ := hx4 y rfl
          rfl
      by_cases q : T i
      · have i72 := hT i q
        obtain ⟨w1, w2, w3, w4⟩ := hw i q
        obtain ⟨p1, p2, p3⟩ := hpl i q
        have fin : ∀ v : Int, (b = 1 ∧ pl i + w i ≤ a → v = a) → (¬ (b = 1 ∧ pl i + w i ≤ a) → v = pl i + w i) → mj_W (mj_lv (d + 1)) prog_11_method_43_code 9 1 0 0 post 61 [some (.inr (.inl (some 93))), some (.inl (iZ (a))), some (.inl (iZ (b))), some (.inl (iZ ((i : Nat)))), some (.inl (iZ (pl i + w i)))] [.inl (iZ v)] (123, K, zs (A), ρ) 0 0 := fun v v1 v2 => by
          refine mq_istore_n d67_61 rfl (Nat.le_of_ble_eq_true rfl) rfl ?_
          refine zq_iconst d67_62 ?_
          refine mq_istore_n d67_63 rfl (Nat.le_of_ble_eq_true rfl) rfl ?_
          refine zq_iinc d67_64 rfl rfl ?_
          refine mq_goto (tgt := 16) d67_67 (by decide) ?_
          refine wi_1 L hT h107 hw hpl kk j (i + 1) v 1 _ (m0 i80) i80 (fun y e => ⟨_, (Option.some.inj e).symm⟩) ?_ (Or.inr rfl) (Or.inr ⟨rfl, fun x hx tx => ?_, ?_⟩)
          · by_cases y : b = 1 ∧ pl i + w i ≤ a
            · rw [v1 y]
              exact ra
            · rw [v2 y]
              omega
          · by_cases y : b = 1 ∧ pl i + w i ≤ a
            · rw [v1 y]
              by_cases e : x = i
              · rw [e]
                exact y.2
              · rcases hI with ⟨h1, -, h3⟩ | ⟨h1, h2, -⟩
                · exact absurd tx (h3 x (by omega))
                · exact h2 x (by omega) tx
            · rw [v2 y]
              by_cases e : x = i
              · rw [e]
                exact Int.le_refl _
              · rcases hI with ⟨h1, -, h3⟩ | ⟨h1, h2, -⟩
                · exact absurd tx (h3 x (by omega))
                · have := h2 x (by omega) tx
                  have : ¬ pl i + w i ≤ a := fun z => y ⟨h1, z⟩
                  omega
          · by_cases y : b = 1 ∧ pl i + w i ≤ a
            · rw [v1 y]
              rcases hI with ⟨h1, -, h3⟩ | ⟨h1, h2, x, x1, x2, x3⟩
              · omega
              · exact ⟨x, by omega, x2, x3⟩
            · rw [v2 y]
              exact ⟨i, by omega, q, rfl⟩
        clear hI
        refine mq_aload_n d67_22 rfl rfl ?_
        refine zg_getR L 107 d67_23 rfl rfl (by decide) rfl (by decide) rfl ?_
        refine mq_iload_n d67_26 rfl rfl ?_
        refine zr_zaldV L (1) d67_27 (by decide) rfl (by omega) ((h107 i i80).1 q) ?_
        refine zq_if_eq (tgt := 64) d67_28 (by decide) (by omega) (fun g2 => ?_) (fun g2 => ?_)
        · exact absurd g2 (by decide)
        · refine mq_aload_n d67_31 rfl rfl ?_
          refine zg_getR L 115 d67_32 rfl rfl (by decide) rfl (by decide) rfl ?_
          refine mq_iload_n d67_35 rfl rfl ?_
          refine zr_ialdV L (pl i) d67_36 (by decide) rfl (by omega) (p1) ?_
          refine mq_aload_n d67_37 rfl rfl ?_
          refine mq_iload_n d67_38 rfl rfl ?_
          refine zg_callV (c := 93) L [_] d67_39 rfl rfl ⟨rfl, rfl⟩ rfl ⟨rfl, rfl⟩ ⟨by decide, by decide⟩ (by decide) rfl ?_
          refine s_widthOf L i72 w1 w2 ?_
          refine zq_iadd d67_42 ?_
          refine mq_istore d67_43 (Nat.le_of_ble_eq_true rfl) st4 ?_
          refine mq_iload_n d67_45 rfl rfl ?_
          refine zq_if_eq (tgt := 55) d67_46 (by decide) (by omega) (fun g3 => ?_) (fun g3 => ?_)
          · refine mq_iload d67_55 rfl ?_
            refine mq_goto (tgt := 61) d67_57 (by decide) ?_
            exact fin _ (fun y => by omega) (fun _ => rfl)
          · refine mq_iload d67_49 rfl ?_
            refine mq_iload_n d67_51 rfl rfl ?_
            refine zq_icmp_le (tgt := 60) d67_52 (by decide) (by omega) (by omega) (fun g4 => ?_) (fun g4 => ?_)
            · refine mq_iload_n d67_60 rfl rfl ?_
              exact fin _ (fun _ => rfl) (fun y => by omega)
            · refine mq_iload d67_55 rfl ?_
              refine mq_goto (tgt := 61) d67_57 (by decide) ?_
              exact fin _ (fun y => by omega) (fun _ => rfl)
      · have nx : wiI T pl w (i + 1) a b := by
          rcases hI with ⟨h1, h2, h3⟩ | ⟨h1, h2, x, x1, x2, x3⟩
          · refine Or.inl ⟨h1, h2, fun x hx => ?_⟩
            by_cases e : x = i
            · rw [e]
              exact q
            · exact h3 x (by omega)
          · refine Or.inr ⟨h1, fun x hx tx => ?_, x, by omega, x2, x3⟩
            by_cases e : x = i
            · rw [e] at tx
              exact absurd tx q
            · exact h2 x (by omega) tx
        clear hI
        refine mq_aload_n d67_22 rfl rfl ?_
        refine zg_getR L 107 d67_23 rfl rfl (by decide) rfl (by decide) rfl ?_
        refine mq_iload_n d67_26 rfl rfl ?_
        refine zr_zaldV L (0) d67_27 (by decide) rfl (by omega) ((h107 i i80).2 q) ?_
        refine zq_if_eq (tgt := 64) d67_28 (by decide) (by omega) (fun g2 => ?_) (fun g2 => ?_)
        · refine zq_iinc d67_64 rfl rfl ?_
          refine mq_goto (tgt := 16) d67_67 (by decide) ?_
          exact wi_1 L hT h107 hw hpl kk j (i + 1) a b _ (m0 i80) i80 hx4 ra rb nx
        · exact absurd rfl g2
set_option maxRecDepth 100000 in
theorem op_wide : lw_op (InvP (JJ SCc SMm RNc PM GW)) m_Main_wide m_Mod_wide [] := by
  rintro h ⟨K, A, ρ, rfl, L, H⟩
  refine ⟨lyk L (by decide) rfl, ?_⟩
  obtain ⟨F1, F2, F3, F4, F5, F6, F7, F8, F9⟩ := id H.2.1
  have H' : InvP (JJ SCc SMm RNc PM GW) (123, K, zs (A), ρ) := ⟨K, A, ρ, rfl, L, H⟩
  show mj_W (mj_lv 5) prog_1_method_20_code 8 1 0 0 _ 0 [some (.inr (.inl (some 0)))] [] (123, K, zs (A), ρ) 0 0
  refine mq_aload_n d19_0 rfl rfl ?_
  refine zg_getI L d19_1 rfl rfl (by decide) rfl ?_
  refine zq_if_eq (tgt := 17) d19_4 (by decide) (by omega) (fun g1 => ?_) (fun g1 => ?_)
  · refine zq_bipush d19_17 rfl ?_
    refine zg_reti d19_19 rfl ?_
    refine ⟨_, rfl, lyk L (by decide) rfl, ?_⟩
    show mj_W (mj_lv 5) prog_11_method_43_code 9 1 0 0 _ 0 [some (.inr (.inl (some 93))), none, none, none, none] [] (123, K, zs (A), ρ) 0 0
    refine mq_aload_n d67_0 rfl rfl ?_
    refine zg_getI L d67_1 rfl rfl (by decide) rfl ?_
    refine zq_if_ne (tgt := 10) d67_4 (by decide) (by omega) (fun g2 => ?_) (fun g2 => ?_)
    · omega
    · refine zq_bipush d67_7 rfl ?_
      refine zg_reti d67_9 rfl ?_
      exact ⟨rfl, H'⟩
  · have hRN := H.2.2.2.2.1 (by omega)
    refine mq_aload_n d19_7 rfl rfl ?_
    refine zg_getR L 84 d19_8 rfl rfl (by decide) rfl (by decide) rfl ?_
    refine zg_getI L d19_11 rfl rfl (by decide) rfl ?_
    refine mq_goto (tgt := 19) d19_14 (by decide) ?_
    refine zg_reti d19_19 rfl ?_
    refine ⟨_, rfl, lyk L (by decide) rfl, ?_⟩
    show mj_W (mj_lv 5) prog_11_method_43_code 9 1 0 0 _ 0 [some (.inr (.inl (some 93))), none, none, none, none] [] (123, K, zs (A), ρ) 0 0
    refine mq_aload_n d67_0 rfl rfl ?_
    refine zg_getI L d67_1 rfl rfl (by decide) rfl ?_
    refine zq_if_ne (tgt := 10) d67_4 (by decide) (by omega) (fun g2 => ?_) (fun g2 => ?_)
    · refine zq_iconst d67_10 ?_
      refine mq_istore_n d67_11 rfl (Nat.le_of_ble_eq_true rfl) rfl ?_
      refine zq_iconst d67_12 ?_
      refine mq_istore_n d67_13 rfl (Nat.le_of_ble_eq_true rfl) rfl ?_
      refine zq_iconst d67_14 ?_
      refine mq_istore_n d67_15 rfl (Nat.le_of_ble_eq_true rfl) rfl ?_
      obtain ⟨n, m, U, W, Y, th, z, w, pl, ⟨hc, hmr⟩, ⟨hz, hro, hrm⟩, h114, hpp, h17, h16, h107, h27, hw, hpl, hwd, -⟩ := hRN
      refine wi_1 (d := 4) (T := wT n m U W Y th) (pl := pl) (w := w) L (fun x hx => wT_lt hc.2.1 hx) (fun b hb => ⟨fun q => (h107 b hb).trans (if_pos q), fun q => (h107 b hb).trans (if_neg q)⟩) hw (fun x hx => ⟨(hpl x hx).2.1, (hpl x hx).2.2.1, (hpl x hx).2.2.2.1⟩) (fun a b hI => ?_) 81 0 0 0 _ (Nat.lt_succ_self _) (Nat.zero_le _) (fun y e => absurd e (by simp)) ⟨by decide, by decide⟩ (Or.inl rfl) (Or.inl ⟨rfl, rfl, fun x hx => absurd hx (Nat.not_lt_zero _)⟩)
      refine ⟨?_, H'⟩
      have ea : a = A 84 3 := by
        rcases hI with ⟨-, h2, h3⟩ | ⟨-, h2, x, x1, x2, x3⟩
        · rcases hwd with e | ⟨x, y1, y2⟩
          · rw [h2, e]
          · have := wT_lt hc.2.1 y1
            exact absurd y1 (h3 x (by omega))
        · rcases hwd with e | ⟨x', y1, y2⟩
          · have b1 := hpl x x2
            have b2 := hw x x2
            omega
          · have b1 := hpl x x2
            have b2 := wT_lt hc.2.1 y1
            have b3 := h2 x' (by omega) y1
            omega
      rw [ea]
    · exfalso
      omega
end sp_sn
