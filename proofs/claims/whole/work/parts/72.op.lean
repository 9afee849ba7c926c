theorem isTurn_th {n m : Nat} {f t : Nat → Nat} {th x : Nat → Int} (h : isTurn n m f t th x) {a : Nat} (ha : a < m) (e : x a = 1) : th a = 1 := by
  obtain ⟨l, -, h2, -⟩ := h
  rw [h2 a ha] at e
  unfold ind at e
  split at e
  · rename_i q
    exact q.1
  · omega
section sp_op
variable {RN PM GW : (Nat → Nat → Int) → Prop} {A B : Nat → Nat → Int}
/-- both have been made -/
theorem bothJ (H : JJ SCc SMm RN PM GW A) (e8 : A 0 8 = 1) (e7 : A 93 7 = 0) : ∃ x, isTurn (A 1 4).toNat (A 1 5).toNat (fun a => (A 3 a).toNat) (fun a => (A 4 a).toNat) (A 5) x ∧ A 6 4 = cnt x (A 1 5).toNat ∧ A 6 3 = cnt (fun a => x a * mk2 a) (A 1 5).toNat ∧ (∀ a, a < (A 1 5).toNat → A 98 a = x a ∧ A 100 a = A 11 a ∧ A 101 a = A 12 a ∧ A 11 a = (if x a = 1 then A 4 a else A 3 a) ∧ A 12 a = (if x a = 1 then A 3 a else A 4 a)) ∧ isLay (A 1 4).toNat (A 1 5).toNat (fun a => (A 11 a).toNat) (fun a => (A 12 a).toNat) (A 5) (A 14) ∧ (∀ v, v < (A 1 4).toNat → A 99 v = A 14 v) ∧ A 10 5 = lcV (A 14) (A 1 4).toNat ∧ A 10 6 = len (A 1 5).toNat (fun a => (A 11 a).toNat) (fun a => (A 12 a).toNat) (A 5) (A 14) ∧ A 10 7 = A 10 6 - A 1 6 := both H.1 (H.2.2.1 e8) (H.2.2.2.1 e7)
/-- the model's arcs and the layers' ranges -/
theorem bothM (H : JJ SCc SMm RN PM GW A) (e8 : A 0 8 = 1) (e7 : A 93 7 = 0) : mgC A (A 1 4).toNat (A 1 5).toNat (fun a => (A 11 a).toNat) (fun a => (A 12 a).toNat) (A 5) ∧ lyC A (A 1 4).toNat (A 1 5).toNat (fun a => (A 11 a).toNat) (fun a => (A 12 a).toNat) (A 5) ∧ ∀ v, v < (A 1 4).toNat → A 99 v = A 14 v ∧ 0 ≤ A 14 v ∧ A 14 v < (A 1 4).toNat := by
  obtain ⟨x, x1, x2, x3, x4, x5, x6, x7, x8, x9⟩ := bothJ H e8 e7
  obtain ⟨g1, g2, ⟨g3, g4, g5⟩, g6, g7, g8, g9, g10⟩ := H.1
  have ends : ∀ a, a < (A 1 5).toNat → (0 ≤ A 11 a ∧ A 11 a < A 1 4) ∧ (0 ≤ A 12 a ∧ A 12 a < A 1 4) := fun a ha => by
    have h1 := x4 a ha
    have h2 := g9 a (by omega)
    rw [h1.2.2.2.1, h1.2.2.2.2]
    split <;> omega
  have w : ∀ a, a < (A 1 5).toNat → A 11 a = ((A 11 a).toNat : Int) ∧ A 12 a = ((A 12 a).toNat : Int) ∧ (A 11 a).toNat < (A 1 4).toNat ∧ (A 12 a).toNat < (A 1 4).toNat := fun a ha => by
    have := ends a ha
    omega
  have n0 : A 1 4 = ((A 1 4).toNat : Int) := by omega
  have m0 : A 1 5 = ((A 1 5).toNat : Int) := by omega
  have hl := lay_lt (fun a ha => ⟨(w a ha).2.2.1, (w a ha).2.2.2⟩) x5
  refine ⟨⟨by omega, by omega, by omega, by omega, fun a ha => ?_⟩, ⟨n0, m0, by omega, by omega, fun a ha => ?_⟩, fun v hv => ⟨x6 v hv, hl v hv⟩⟩
  · have h1 := x4 a ha
    have h2 := w a ha
    exact ⟨⟨by rw [h1.2.1]; exact h2.1, by rw [h1.2.2.1]; exact h2.2.1⟩, ⟨h2.2.2.1, h2.2.2.2⟩, (g7 a (by omega)).2.2, (g9 a (by omega)).2.2.2⟩
  · have h2 := w a ha
    exact ⟨⟨h2.1, h2.2.1⟩, ⟨h2.2.2.1, h2.2.2.2⟩, rfl, (g9 a (by omega)).2.2.2⟩
set_option maxRecDepth 100000 in
theorem op_turns (hGW : GWf GW) : lw_op (InvP (JJ SCc SMm RN PM GW)) m_Main_turns m_Mod_turns [] := by
  rintro h ⟨K, A, ρ, rfl, L, H⟩
  refine ⟨lyk L (by decide) rfl, ?_⟩
  show mj_W (mj_lv 5) prog_1_method_7_code 8 1 0 0 _ 0 [some (.inr (.inl (some 0)))] [] (123, K, zs (A), ρ) 0 0
  refine mq_aload_n d6_0 rfl rfl ?_
  refine zg_callV (c := 0) L [] d6_1 rfl rfl ⟨rfl, rfl⟩ rfl ⟨rfl, rfl⟩ ⟨by decide, by decide⟩ (by decide) rfl ?_
  refine s_settle (d := 0) L (gr_cg H.1) H.2.1.1 H.2.2.1 (fun A1 e1 hS => ?_)
  have H1 := jj_se H e1 hS
  refine mq_aload_n d6_4 rfl rfl ?_
  refine zg_getR L 6 d6_5 rfl rfl (by decide) rfl (by decide) rfl ?_
  refine zg_getI L d6_8 rfl rfl (by decide) rfl ?_
  refine zg_reti d6_11 rfl ?_
  refine ⟨_, rfl, lyk L (by decide) rfl, ?_⟩
  show mj_W (mj_lv 5) prog_11_method_18_code 9 1 0 0 _ 0 [some (.inr (.inl (some 93))), none, none] [] (123, K, zs (A1), ρ) 0 0
  refine mq_aload_n d42_0 rfl rfl ?_
  refine zg_callV (c := 93) L [] d42_1 rfl rfl ⟨rfl, rfl⟩ rfl ⟨rfl, rfl⟩ ⟨by decide, by decide⟩ (by decide) rfl ?_
  refine s_make2 (d := 2) L (mg_gr H1.1) H1.2.1.2.2.2.2.1 H1.2.2.2.1 (fun A2 e2 hM hB => ?_)
  have H2 := jj_mk hGW H1 e2 hM hB
  have e8 : A2 0 8 = 1 := by rw [e2.1 0 rfl]; exact e1.2.2.1
  obtain ⟨x, x1, x2, x3, x4, x5, x6, x7, x8, x9⟩ := bothJ H2 e8 e2.2.2
  obtain ⟨g1, g2, ⟨g3, g4, g5⟩, g6, g7, g8, g9, g10⟩ := H2.1
  refine zq_iconst d42_4 ?_
  refine mq_istore_n d42_5 rfl (Nat.le_of_ble_eq_true rfl) rfl ?_
  refine zq_iconst d42_6 ?_
  refine mq_istore_n d42_7 rfl (Nat.le_of_ble_eq_true rfl) rfl ?_
  refine mtu_1 (m := (A2 1 5).toNat) L (by omega) (by omega) (isTurn_01 x1) (fun a ha => (x4 a ha).1) (fun a ha => ?_) ?_ ((A2 1 5).toNat + 1) 0 (by omega) (by omega)
  · have := g7 a (by omega)
    have := g9 a (by omega)
    refine ⟨by omega, fun e => ?_⟩
    have := isTurn_th x1 ha e
    omega
  · refine ⟨?_, K, A2, ρ, rfl, L, H2⟩
    rw [← x2, e2.1 6 rfl]
set_option maxRecDepth 100000 in
theorem op_turned (hGW : GWf GW) (x0 : Int32) : lw_op (InvP (JJ SCc SMm RN PM GW)) m_Main_turned m_Mod_turned [.inl x0] := by
  rintro h ⟨K, A, ρ, rfl, L, H⟩
  refine ⟨lyk L (by decide) rfl, ?_⟩
  have rx := i32r x0
  rw [iZ_of x0]
  generalize x0.toInt = y at rx
  obtain ⟨g1, g2, ⟨g3, g4, g5⟩, g6, g7, g8, g9, g10⟩ := id H.1
  show mj_W (mj_lv 5) prog_1_method_8_code 8 1 0 0 _ 0 [some (.inr (.inl (some 0))), some (.inl (iZ (y)))] [] (123, K, zs (A), ρ) 0 0
  refine mq_aload_n d7_0 rfl rfl ?_
  refine zg_getR L 1 d7_1 rfl rfl (by decide) rfl (by decide) rfl ?_
  refine mq_iload_n d7_4 rfl rfl ?_
  refine zg_callV (c := 1) L [_] d7_5 rfl rfl ⟨rfl, rfl⟩ rfl ⟨rfl, rfl⟩ ⟨by decide, by decide⟩ (by decide) rfl ?_
  refine s_hasArc L rx g2 (gr_rt H.1) (fun q => ?_) (fun q => ?_)
  · refine zq_if_ne (tgt := 13) d7_8 (by decide) (by omega) (fun g => ?_) (fun g => ?_)
    · refine mq_aload_n d7_13 rfl rfl ?_
      refine zg_callV (c := 0) L [] d7_14 rfl rfl ⟨rfl, rfl⟩ rfl ⟨rfl, rfl⟩ ⟨by decide, by decide⟩ (by decide) rfl ?_
      refine s_settle (d := 0) L (gr_cg H.1) H.2.1.1 H.2.2.1 (fun A1 e1 hS => ?_)
      have H1 := jj_se H e1 hS
      obtain ⟨x, x1, x2, x3, -⟩ := id hS
      have c1 : A1 1 = A 1 := e1.1 1 rfl
      obtain ⟨b, hb⟩ : ∃ b : Nat, y = b := ⟨y.toNat, by omega⟩
      subst hb
      have hbm : b < (A1 1 5).toNat := by rw [c1]; omega
      have h01 := isTurn_01 x1 b hbm
      refine mq_aload_n d7_17 rfl rfl ?_
      refine zg_getR L 6 d7_18 rfl rfl (by decide) rfl (by decide) rfl ?_
      refine mq_iload_n d7_21 rfl rfl ?_
      refine zg_callV (c := 6) L [_] d7_22 rfl rfl ⟨rfl, rfl⟩ rfl ⟨rfl, rfl⟩ ⟨by decide, by decide⟩ (by decide) rfl ?_
      refine s_has L (by rw [c1]; omega) (isTurn_01 x1) hbm x3 ?_
      have tail : ∀ v : Int, v = x b → ∃ z, (some (.inl (iZ v)) : Option mj_V) = some (.inl z) ∧ (93 < 123 ∧ K 93 = (0, 9)) ∧ mj_lv 6 m_Mod_turned [.inr (.inl (some 93)), .inl (iZ (b : Int))] (123, K, zs (A1), ρ) (fun r2 h2 => r2 = some (.inl z) ∧ InvP (JJ SCc SMm RN PM GW) h2) := fun v ev => by
        refine ⟨_, rfl, lyk L (by decide) rfl, ?_⟩
        show mj_W (mj_lv 5) prog_11_method_19_code 9 1 0 0 _ 0 [some (.inr (.inl (some 93))), some (.inl (iZ ((b : Int))))] [] (123, K, zs (A1), ρ) 0 0
        obtain ⟨k1, k2, ⟨k3, k4, k5⟩, k6, k7, k8, k9, k10⟩ := id H1.1
        refine mq_aload_n d43_0 rfl rfl ?_
        refine mq_iload_n d43_1 rfl rfl ?_
        refine zg_callV (c := 93) L [_] d43_2 rfl rfl ⟨rfl, rfl⟩ rfl ⟨rfl, rfl⟩ ⟨by decide, by decide⟩ (by decide) rfl ?_
        refine s_isArc L rx (by omega) (gr_rtm H1.1) (fun q2 => ?_) (fun q2 => ?_)
        · refine zq_if_ne (tgt := 10) d43_5 (by decide) (by omega) (fun gg => ?_) (fun gg => ?_)
          · refine mq_aload_n d43_10 rfl rfl ?_
            refine zg_callV (c := 93) L [] d43_11 rfl rfl ⟨rfl, rfl⟩ rfl ⟨rfl, rfl⟩ ⟨by decide, by decide⟩ (by decide) rfl ?_
            refine s_make2 (d := 2) L (mg_gr H1.1) H1.2.1.2.2.2.2.1 H1.2.2.2.1 (fun A2 e2 hM hB => ?_)
            have H2 := jj_mk hGW H1 e2 hM hB
            have e8 : A2 0 8 = 1 := by rw [e2.1 0 rfl]; exact e1.2.2.1
            obtain ⟨z, z1, z2, z3, z4, z5, z6, z7, z8, z9⟩ := bothJ H2 e8 e2.2.2
            rw [e2.1 1 rfl, e2.1 3 rfl, e2.1 4 rfl, e2.1 5 rfl] at z1
            have ez : A2 98 b = x b := by
              rw [(z4 b (by rw [e2.1 1 rfl]; exact hbm)).1]
              exact isTurn_one (by rw [c1]; omega) z1 x1 b hbm
            refine mq_aload_n d43_14 rfl rfl ?_
            refine zg_getR L 98 d43_15 rfl rfl (by decide) rfl (by decide) rfl ?_
            refine mq_iload_n d43_18 rfl rfl ?_
            refine zr_zaldV L (x b) d43_19 (by decide) rfl (by omega) (ez) ?_
            refine zq_if_eq (tgt := 27) d43_20 (by decide) (by omega) (fun g3 => ?_) (fun g3 => ?_)
            · refine zq_iconst d43_27 ?_
              refine zg_reti d43_28 rfl ?_
              refine ⟨?_, K, A2, ρ, rfl, L, H2⟩
              rw [ev, g3]
            · refine zq_iconst d43_23 ?_
              refine mq_goto (tgt := 28) d43_24 (by decide) ?_
              refine zg_reti d43_28 rfl ?_
              refine ⟨?_, K, A2, ρ, rfl, L, H2⟩
              rw [ev, show x b = 1 by omega]
          · omega
        · exfalso
          refine q2 ⟨by omega, ?_, ?_⟩
          · rw [k4, c1]
            exact q.2.1
          · rw [(k7 _ (by omega)).2.2, e1.1 5 rfl]
            exact q.2.2
      refine zq_if_eq (tgt := 32) d7_25 (by decide) (by omega) (fun g2 => ?_) (fun g2 => ?_)
      · refine zq_iconst d7_32 ?_
        refine zg_reti d7_33 rfl ?_
        exact tail 0 (by omega)
      · refine zq_iconst d7_28 ?_
        refine mq_goto (tgt := 33) d7_29 (by decide) ?_
        refine zg_reti d7_33 rfl ?_
        exact tail 1 (by omega)
    · omega
  · refine zq_if_ne (tgt := 13) d7_8 (by decide) (by omega) (fun g => ?_) (fun g => ?_)
    · omega
    · refine zq_iconst d7_11 ?_
      refine zg_reti d7_12 rfl ?_
      refine ⟨_, rfl, lyk L (by decide) rfl, ?_⟩
      show mj_W (mj_lv 5) prog_11_method_19_code 9 1 0 0 _ 0 [some (.inr (.inl (some 93))), some (.inl (iZ (y)))] [] (123, K, zs (A), ρ) 0 0
      refine mq_aload_n d43_0 rfl rfl ?_
      refine mq_iload_n d43_1 rfl rfl ?_
      refine zg_callV (c := 93) L [_] d43_2 rfl rfl ⟨rfl, rfl⟩ rfl ⟨rfl, rfl⟩ ⟨by decide, by decide⟩ (by decide) rfl ?_
      refine s_isArc L rx (by omega) (gr_rtm H.1) (fun q2 => ?_) (fun q2 => ?_)
      · exfalso
        refine q ⟨q2.1, by omega, ?_⟩
        have := g7 y.toNat (by omega)
        omega
      · refine zq_if_ne (tgt := 10) d43_5 (by decide) (by omega) (fun gg => ?_) (fun gg => ?_)
        · omega
        · refine zq_iconst d43_8 ?_
          refine zg_reti d43_9 rfl ?_
          exact ⟨rfl, K, A, ρ, rfl, L, H⟩
set_option maxRecDepth 100000 in
theorem op_layer (hGW : GWf GW) (x0 : Int32) : lw_op (InvP (JJ SCc SMm RN PM GW)) m_Main_layer m_Mod_layer [.inl x0] := by
  rintro h ⟨K, A, ρ, rfl, L, H⟩
  refine ⟨lyk L (by decide) rfl, ?_⟩
  have rx := i32r x0
  rw [iZ_of x0]
  generalize x0.toInt = y at rx
  obtain ⟨g1, g2, ⟨g3, g4, g5⟩, g6, g7, g8, g9, g10⟩ := id H.1
  show mj_W (mj_lv 5) prog_1_method_9_code 8 1 0 0 _ 0 [some (.inr (.inl (some 0))), some (.inl (iZ (y)))] [] (123, K, zs (A), ρ) 0 0
  refine mq_aload_n d8_0 rfl rfl ?_
  refine zg_getR L 1 d8_1 rfl rfl (by decide) rfl (by decide) rfl ?_
  refine mq_iload_n d8_4 rfl rfl ?_
  refine zg_callV (c := 1) L [_] d8_5 rfl rfl ⟨rfl, rfl⟩ rfl ⟨rfl, rfl⟩ ⟨by decide, by decide⟩ (by decide) rfl ?_
  refine s_hasNode L rx g1 (fun q => ?_) (fun q => ?_)
  · refine zq_if_ne (tgt := 13) d8_8 (by decide) (by omega) (fun g => ?_) (fun g => ?_)
    · refine mq_aload_n d8_13 rfl rfl ?_
      refine zg_callV (c := 0) L [] d8_14 rfl rfl ⟨rfl, rfl⟩ rfl ⟨rfl, rfl⟩ ⟨by decide, by decide⟩ (by decide) rfl ?_
      refine s_settle (d := 0) L (gr_cg H.1) H.2.1.1 H.2.2.1 (fun A1 e1 hS => ?_)
      have H1 := jj_se H e1 hS
      have c1 : A1 1 = A 1 := e1.1 1 rfl
      obtain ⟨b, hb⟩ : ∃ b : Nat, y = b := ⟨y.toNat, by omega⟩
      subst hb
      refine mq_aload_n d8_17 rfl rfl ?_
      refine zg_getR L 10 d8_18 rfl rfl (by decide) rfl (by decide) rfl ?_
      refine zg_getR L 14 d8_21 rfl rfl (by decide) rfl (by decide) rfl ?_
      refine mq_iload_n d8_24 rfl rfl ?_
      refine zg_ialdN L d8_25 (by decide) rfl (by omega) ?_
      refine zg_reti d8_26 rfl ?_
      refine ⟨_, rfl, lyk L (by decide) rfl, ?_⟩
      show mj_W (mj_lv 5) prog_11_method_20_code 9 1 0 0 _ 0 [some (.inr (.inl (some 93))), some (.inl (iZ ((b : Int))))] [] (123, K, zs (A1), ρ) 0 0
      obtain ⟨k1, k2, ⟨k3, k4, k5⟩, k6, k7, k8, k9, k10⟩ := id H1.1
      refine mq_aload_n d44_0 rfl rfl ?_
      refine mq_iload_n d44_1 rfl rfl ?_
      refine zg_callV (c := 93) L [_] d44_2 rfl rfl ⟨rfl, rfl⟩ rfl ⟨rfl, rfl⟩ ⟨by decide, by decide⟩ (by decide) rfl ?_
      refine s_isNode L rx (by omega) (fun q2 => ?_) (fun q2 => ?_)
      · refine zq_if_ne (tgt := 10) d44_5 (by decide) (by omega) (fun gg => ?_) (fun gg => ?_)
        · refine mq_aload_n d44_10 rfl rfl ?_
          refine zg_callV (c := 93) L [] d44_11 rfl rfl ⟨rfl, rfl⟩ rfl ⟨rfl, rfl⟩ ⟨by decide, by decide⟩ (by decide) rfl ?_
          refine s_make2 (d := 2) L (mg_gr H1.1) H1.2.1.2.2.2.2.1 H1.2.2.2.1 (fun A2 e2 hM hB => ?_)
          have H2 := jj_mk hGW H1 e2 hM hB
          have e8 : A2 0 8 = 1 := by rw [e2.1 0 rfl]; exact e1.2.2.1
          obtain ⟨z, z1, z2, z3, z4, z5, z6, z7, z8, z9⟩ := bothJ H2 e8 e2.2.2
          refine mq_aload_n d44_14 rfl rfl ?_
          refine zg_getR L 99 d44_15 rfl rfl (by decide) rfl (by decide) rfl ?_
          refine mq_iload_n d44_18 rfl rfl ?_
          refine zg_ialdN L d44_19 (by decide) rfl (by omega) ?_
          refine zg_reti d44_20 rfl ?_
          refine ⟨?_, K, A2, ρ, rfl, L, H2⟩
          rw [z6 b (by rw [e2.1 1 rfl, c1]; omega), e2.1 14 rfl]
        · omega
      · exfalso
        refine q2 ⟨by omega, ?_⟩
        rw [k3, c1]
        exact q.2
    · omega
  · refine zq_if_ne (tgt := 13) d8_8 (by decide) (by omega) (fun g => ?_) (fun g => ?_)
    · omega
    · refine zq_iconst d8_11 ?_
      refine zg_reti d8_12 rfl ?_
      refine ⟨_, rfl, lyk L (by decide) rfl, ?_⟩
      show mj_W (mj_lv 5) prog_11_method_20_code 9 1 0 0 _ 0 [some (.inr (.inl (some 93))), some (.inl (iZ (y)))] [] (123, K, zs (A), ρ) 0 0
      refine mq_aload_n d44_0 rfl rfl ?_
      refine mq_iload_n d44_1 rfl rfl ?_
      refine zg_callV (c := 93) L [_] d44_2 rfl rfl ⟨rfl, rfl⟩ rfl ⟨rfl, rfl⟩ ⟨by decide, by decide⟩ (by decide) rfl ?_
      refine s_isNode L rx (by omega) (fun q2 => ?_) (fun q2 => ?_)
      · exfalso
        exact q ⟨q2.1, by omega⟩
      · refine zq_if_ne (tgt := 10) d44_5 (by decide) (by omega) (fun gg => ?_) (fun gg => ?_)
        · omega
        · refine zq_iconst d44_8 ?_
          refine zg_reti d44_9 rfl ?_
          exact ⟨rfl, K, A, ρ, rfl, L, H⟩
set_option maxRecDepth 100000 in
theorem op_layers (hGW : GWf GW) : lw_op (InvP (JJ SCc SMm RN PM GW)) m_Main_layers m_Mod_layers [] := by
  rintro h ⟨K, A, ρ, rfl, L, H⟩
  refine ⟨lyk L (by decide) rfl, ?_⟩
  show mj_W (mj_lv 5) prog_1_method_10_code 8 1 0 0 _ 0 [some (.inr (.inl (some 0)))] [] (123, K, zs (A), ρ) 0 0
  refine mq_aload_n d9_0 rfl rfl ?_
  refine zg_callV (c := 0) L [] d9_1 rfl rfl ⟨rfl, rfl⟩ rfl ⟨rfl, rfl⟩ ⟨by decide, by decide⟩ (by decide) rfl ?_
  refine s_settle (d := 0) L (gr_cg H.1) H.2.1.1 H.2.2.1 (fun A1 e1 hS => ?_)
  have H1 := jj_se H e1 hS
  refine mq_aload_n d9_4 rfl rfl ?_
  refine zg_getR L 10 d9_5 rfl rfl (by decide) rfl (by decide) rfl ?_
  refine zg_getI L d9_8 rfl rfl (by decide) rfl ?_
  refine zg_reti d9_11 rfl ?_
  refine ⟨_, rfl, lyk L (by decide) rfl, ?_⟩
  show mj_W (mj_lv 5) prog_11_method_22_code 9 1 0 0 _ 0 [some (.inr (.inl (some 93)))] [] (123, K, zs (A1), ρ) 0 0
  refine mq_aload_n d46_0 rfl rfl ?_
  refine zg_callV (c := 93) L [] d46_1 rfl rfl ⟨rfl, rfl⟩ rfl ⟨rfl, rfl⟩ ⟨by decide, by decide⟩ (by decide) rfl ?_
  refine s_make2 (d := 2) L (mg_gr H1.1) H1.2.1.2.2.2.2.1 H1.2.2.2.1 (fun A2 e2 hM hB => ?_)
  have H2 := jj_mk hGW H1 e2 hM hB
  have e8 : A2 0 8 = 1 := by rw [e2.1 0 rfl]; exact e1.2.2.1
  obtain ⟨x, x1, x2, x3, x4, x5, x6, x7, x8, x9⟩ := bothJ H2 e8 e2.2.2
  obtain ⟨hC, -, hY⟩ := bothM H2 e8 e2.2.2
  refine mq_aload_n d46_4 rfl rfl ?_
  refine zg_callV (c := 93) L [] d46_5 rfl rfl ⟨rfl, rfl⟩ rfl ⟨rfl, rfl⟩ ⟨by decide, by decide⟩ (by decide) rfl ?_
  refine s_layerCount (d := 4) (n := (A2 1 4).toNat) L hC.1 hC.2.2.1 (fun v hv => by have := hY v hv; have := hC.2.2.1; omega) ?_
  refine zg_reti d46_8 rfl ?_
  refine ⟨?_, K, A2, ρ, rfl, L, H2⟩
  rw [lcV_congr x6, ← x7, e2.1 10 rfl]
set_option maxRecDepth 100000 in
theorem op_length (hGW : GWf GW) : lw_op (InvP (JJ SCc SMm RN PM GW)) m_Main_length m_Mod_length [] := by
  rintro h ⟨K, A, ρ, rfl, L, H⟩
  refine ⟨lyk L (by decide) rfl, ?_⟩
  show mj_W (mj_lv 5) prog_1_method_11_code 8 1 0 0 _ 0 [some (.inr (.inl (some 0)))] [] (123, K, zs (A), ρ) 0 0
  refine mq_aload_n d10_0 rfl rfl ?_
  refine zg_callV (c := 0) L [] d10_1 rfl rfl ⟨rfl, rfl⟩ rfl ⟨rfl, rfl⟩ ⟨by decide, by decide⟩ (by decide) rfl ?_
  refine s_settle (d := 0) L (gr_cg H.1) H.2.1.1 H.2.2.1 (fun A1 e1 hS => ?_)
  have H1 := jj_se H e1 hS
  refine mq_aload_n d10_4 rfl rfl ?_
  refine zg_getR L 10 d10_5 rfl rfl (by decide) rfl (by decide) rfl ?_
  refine zg_getI L d10_8 rfl rfl (by decide) rfl ?_
  refine zg_reti d10_11 rfl ?_
  refine ⟨_, rfl, lyk L (by decide) rfl, ?_⟩
  show mj_W (mj_lv 5) prog_11_method_23_code 9 1 0 0 _ 0 [some (.inr (.inl (some 93)))] [] (123, K, zs (A1), ρ) 0 0
  refine mq_aload_n d47_0 rfl rfl ?_
  refine zg_callV (c := 93) L [] d47_1 rfl rfl ⟨rfl, rfl⟩ rfl ⟨rfl, rfl⟩ ⟨by decide, by decide⟩ (by decide) rfl ?_
  refine s_make2 (d := 2) L (mg_gr H1.1) H1.2.1.2.2.2.2.1 H1.2.2.2.1 (fun A2 e2 hM hB => ?_)
  have H2 := jj_mk hGW H1 e2 hM hB
  have e8 : A2 0 8 = 1 := by rw [e2.1 0 rfl]; exact e1.2.2.1
  obtain ⟨x, x1, x2, x3, x4, x5, x6, x7, x8, x9⟩ := bothJ H2 e8 e2.2.2
  obtain ⟨hC, -, hY⟩ := bothM H2 e8 e2.2.2
  refine mq_aload_n d47_4 rfl rfl ?_
  refine mq_aload_n d47_5 rfl rfl ?_
  refine zg_getR L 99 d47_6 rfl rfl (by decide) rfl (by decide) rfl ?_
  refine zg_callV (c := 93) L [_] d47_9 rfl rfl ⟨rfl, rfl⟩ rfl ⟨rfl, rfl⟩ ⟨by decide, by decide⟩ (by decide) rfl ?_
  refine s_lengthOf (d := 4) L hC ?_
  refine zg_reti d47_12 rfl ?_
  refine ⟨?_, K, A2, ρ, rfl, L, H2⟩
  rw [len_congr (fun a ha => (hC.2.2.2.2 a ha).2.1) x6, ← x8, e2.1 10 rfl]
set_option maxRecDepth 100000 in
theorem op_bends (hGW : GWf GW) : lw_op (InvP (JJ SCc SMm RN PM GW)) m_Main_bends m_Mod_bends [] := by
  rintro h ⟨K, A, ρ, rfl, L, H⟩
  refine ⟨lyk L (by decide) rfl, ?_⟩
  show mj_W (mj_lv 5) prog_1_method_12_code 8 1 0 0 _ 0 [some (.inr (.inl (some 0)))] [] (123, K, zs (A), ρ) 0 0
  refine mq_aload_n d11_0 rfl rfl ?_
  refine zg_callV (c := 0) L [] d11_1 rfl rfl ⟨rfl, rfl⟩ rfl ⟨rfl, rfl⟩ ⟨by decide, by decide⟩ (by decide) rfl ?_
  refine s_settle (d := 0) L (gr_cg H.1) H.2.1.1 H.2.2.1 (fun A1 e1 hS => ?_)
  have H1 := jj_se H e1 hS
  refine mq_aload_n d11_4 rfl rfl ?_
  refine zg_getR L 10 d11_5 rfl rfl (by decide) rfl (by decide) rfl ?_
  refine zg_getI L d11_8 rfl rfl (by decide) rfl ?_
  refine zg_reti d11_11 rfl ?_
  refine ⟨_, rfl, lyk L (by decide) rfl, ?_⟩
  show mj_W (mj_lv 5) prog_11_method_25_code 9 1 0 0 _ 0 [some (.inr (.inl (some 93)))] [] (123, K, zs (A1), ρ) 0 0
  refine mq_aload_n d49_0 rfl rfl ?_
  refine zg_callV (c := 93) L [] d49_1 rfl rfl ⟨rfl, rfl⟩ rfl ⟨rfl, rfl⟩ ⟨by decide, by decide⟩ (by decide) rfl ?_
  refine s_make2 (d := 2) L (mg_gr H1.1) H1.2.1.2.2.2.2.1 H1.2.2.2.1 (fun A2 e2 hM hB => ?_)
  have H2 := jj_mk hGW H1 e2 hM hB
  have e8 : A2 0 8 = 1 := by rw [e2.1 0 rfl]; exact e1.2.2.1
  obtain ⟨x, x1, x2, x3, x4, x5, x6, x7, x8, x9⟩ := bothJ H2 e8 e2.2.2
  obtain ⟨hC, -, hY⟩ := bothM H2 e8 e2.2.2
  refine mq_aload_n d49_4 rfl rfl ?_
  refine zg_callV (c := 93) L [] d49_5 rfl rfl ⟨rfl, rfl⟩ rfl ⟨rfl, rfl⟩ ⟨by decide, by decide⟩ (by decide) rfl ?_
  refine s_bendCount (d := 4) L hC ?_
  refine zg_reti d49_8 rfl ?_
  refine ⟨?_, K, A2, ρ, rfl, L, H2⟩
  rw [bdV_len (fun a ha => (hC.2.2.2.2 a ha).2.2.2), len_congr (fun a ha => (hC.2.2.2.2 a ha).2.1) x6, ← x8, ← H2.1.2.2.2.2.2.2.2, ← x9, e2.1 10 rfl]
end sp_op
