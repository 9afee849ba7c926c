section sp_ot2
variable {A B : Nat → Nat → Int}
/-- the tidy places are kept -/
def GWc (A : Nat → Nat → Int) : Prop := ∀ u, u < (A 1 4).toNat → A 89 u = tdV (A 1 4).toNat (A 1 5).toNat (fun a => (A 3 a).toNat) (fun a => (A 4 a).toNat) (A 5) (A 2) (prP (fun a => (A 3 a).toNat) (fun a => (A 4 a).toNat) (A 5) (A 1 5).toNat) u
theorem GWf_c : GWf GWc := fun A B e h => by
  unfold GWc at *
  rw [e 1 (by decide), e 2 (by decide), e 3 (by decide), e 4 (by decide), e 5 (by decide), e 89 (by decide)]
  exact h
theorem jj_tr (H : JJ SCc SMm RNc PMc GWc A) (e : ∀ c, c ≠ 0 → ¬ (88 ≤ c ∧ c ≤ 92) → B c = A c) (e0 : ∀ j, j ≠ 11 → B 0 j = A 0 j) (e11 : B 0 11 = 0 ∨ B 0 11 = 1) (h8 : A 0 8 = 1) (hg : B 0 11 = 1 → GWc B) : JJ SCc SMm RNc PMc GWc B := by
  obtain ⟨HG, HF, H3, H4, H5, H6, H7⟩ := H
  obtain ⟨F1, F2, F3, F4, F5, F6, F7, F8, F9⟩ := HF
  have c93 : B 93 = A 93 := e 93 (by decide) (by decide)
  refine ⟨Gr_fr2 (fun j _ => by rw [c93]) (fun c hc => e c (by omega) (by omega)) HG, ?_, fun q => ?_, fun q => ?_, fun q => ?_, fun q => ?_, hg⟩
  · unfold FlOK
    rw [e0 8 (by decide), e0 9 (by decide), e0 10 (by decide), c93]
    exact ⟨F1, F2, F3, e11, F5, F6, F7, F8, fun _ => h8⟩
  · rw [e0 8 (by decide)] at q
    exact SC_fr (fun c a b _ => e c b (by omega)) (H3 q)
  · rw [c93] at q
    exact SM_fr2 (by rw [c93]) (by rw [c93]) (fun c a b => e c (by omega) (by omega)) (H4 q)
  · rw [e0 9 (by decide)] at q
    exact RN_fr (fun c a _ b _ => e c a b) (H5 q)
  · rw [e0 10 (by decide)] at q
    exact PMf_c A B (fun c hc => e c (by omega) (by omega)) (H6 q)
theorem jj_tm (H : JJ SCc SMm RNc PMc GWc A) (e : ∀ c, ¬ (118 ≤ c ∧ c ≤ 122) → B c = A c) : JJ SCc SMm RNc PMc GWc B := by
  obtain ⟨HG, HF, H3, H4, H5, H6, H7⟩ := H
  have c0 : B 0 = A 0 := e 0 (by decide)
  have c93 : B 93 = A 93 := e 93 (by decide)
  refine ⟨Gr_fr2 (fun j _ => by rw [c93]) (fun c hc => e c (by omega)) HG, ?_, fun q => ?_, fun q => ?_, fun q => ?_, fun q => ?_, fun q => ?_⟩
  · unfold FlOK at *
    rw [c0, c93]
    exact HF
  · rw [c0] at q
    exact SC_fr (fun c a b _ => e c (by omega)) (H3 q)
  · rw [c93] at q
    exact SM_fr2 (by rw [c93]) (by rw [c93]) (fun c a b => e c (by omega)) (H4 q)
  · rw [c0] at q
    exact RN_fr (fun c _ _ _ a => e c a) (H5 q)
  · rw [c0] at q
    exact PMf_c A B (fun c hc => e c (by omega)) (H6 q)
  · rw [c0] at q
    exact GWf_c A B (fun c hc => e c (by omega)) (H7 q)
set_option maxRecDepth 100000 in
set_option maxHeartbeats 4000000 in
theorem op_tidy (x0 : Int32) : lw_op (InvP (JJ SCc SMm RNc PMc GWc)) m_Main_tidy m_Mod_tidy [.inl x0] := by
  rintro h ⟨K, A, ρ, rfl, L, H⟩
  refine ⟨lyk L (by decide) rfl, ?_⟩
  have rx := i32r x0
  rw [iZ_of x0]
  generalize x0.toInt = y at rx
  obtain ⟨p1, p2, ⟨p3, p4, p5⟩, -⟩ := id H.1
  show mj_W (mj_lv 5) prog_1_method_21_code 8 1 0 0 _ 0 [some (.inr (.inl (some 0))), some (.inl (iZ (y)))] [] (123, K, zs (A), ρ) 0 0
  refine mq_aload_n d20_0 rfl rfl ?_
  refine zg_getR L 1 d20_1 rfl rfl (by decide) rfl (by decide) rfl ?_
  refine mq_iload_n d20_4 rfl rfl ?_
  refine zg_callV (c := 1) L [_] d20_5 rfl rfl ⟨rfl, rfl⟩ rfl ⟨rfl, rfl⟩ ⟨by decide, by decide⟩ (by decide) rfl ?_
  refine s_hasNode L rx p1 (fun q => ?_) (fun q => ?_)
  · refine zq_if_ne (tgt := 13) d20_8 (by decide) (by omega) (fun g1 => ?_) (fun g1 => ?_)
    · refine mq_aload_n d20_13 rfl rfl ?_
      refine zg_callV (c := 0) L [] d20_14 rfl rfl ⟨rfl, rfl⟩ rfl ⟨rfl, rfl⟩ ⟨by decide, by decide⟩ (by decide) rfl ?_
      refine s_settle (d := 0) L (gr_cg H.1) H.2.1.1 H.2.2.1 (fun A1 e1 hS => ?_)
      have H1 := jj_se H e1 hS
      have c1 : A1 1 = A 1 := e1.1 1 rfl
      have s8 : A1 0 8 = 1 := e1.2.2.1
      obtain ⟨b, hb⟩ : ∃ b : Nat, y = b := ⟨y.toNat, by omega⟩
      subst hb
      obtain ⟨g1', g2', ⟨g3, g4, g5⟩, g6, g7, g8, g9, g10⟩ := id H1.1
      obtain ⟨x, x1, x2, x3, x4, x5, x6, x7, x8⟩ := id hS
      have hx01 := isTurn_01 x1
      obtain ⟨pos, pp1, pp2⟩ := turn_pos x1 (fun a ha => by have := g9 a (by omega); omega)
      obtain ⟨n, hn⟩ : ∃ n, n = (A1 1 4).toNat := ⟨_, rfl⟩
      obtain ⟨m, hm⟩ : ∃ m, m = (A1 1 5).toNat := ⟨_, rfl⟩
      obtain ⟨fr, hfr⟩ : ∃ fr : Nat → Nat, fr = fun a => (A1 3 a).toNat := ⟨_, rfl⟩
      obtain ⟨to, hto⟩ : ∃ to : Nat → Nat, to = fun a => (A1 4 a).toNat := ⟨_, rfl⟩
      obtain ⟨th, hth⟩ : ∃ th : Nat → Int, th = A1 5 := ⟨_, rfl⟩
      obtain ⟨w, hw⟩ : ∃ w : Nat → Int, w = A1 2 := ⟨_, rfl⟩
      rw [← hn] at pp1
      rw [← hm] at hx01 pp2 x2
      have hbn : b < n := by
        have := q.2
        rw [hn, c1]
        omega
      have hG : tgC A1 n m fr to th w := by
        refine ⟨by omega, by omega, by omega, by omega, fun a ha => ?_, fun v hv => ?_⟩
        · have h1 := g9 a (by omega)
          rw [hfr, hto, hth]
          have e3 : A1 3 a = ((A1 3 a).toNat : Nat) := by omega
          have e4 : A1 4 a = ((A1 4 a).toNat : Nat) := by omega
          have l3 : (A1 3 a).toNat < n := by omega
          have l4 : (A1 4 a).toNat < n := by omega
          exact ⟨⟨e3, e4⟩, ⟨l3, l4⟩, rfl, h1.2.2.2⟩
        · rw [hw]
          exact ⟨rfl, g8 v (by omega)⟩
      have h16 : A1 1 6 = cnt th m := by rw [g10, hth, hm]
      have hfn : ∀ a, a < m → fr a = (A1 3 a).toNat ∧ to a = (A1 4 a).toNat := fun a _ => by rw [hfr, hto]; exact ⟨rfl, rfl⟩
      have hpos : (∀ a, a < m → th a = 1 → x a = 0) → ∀ a, a < m → th a = 1 → pos (fr a) < pos (to a) := fun h0 a ha t => by
        have h1 := pp2 a ha (by rw [← hth]; exact t)
        have h2 := h0 a ha t
        rw [if_neg (by omega), if_neg (by omega)] at h1
        rw [(hfn a ha).1, (hfn a ha).2]
        exact h1
      -- what the class has answered, and the model behind it
      have mod : ∀ (A3 : Nat → Nat → Int) (v : Int), (∀ c, c ≠ 0 → ¬ (88 ≤ c ∧ c ≤ 92) → A3 c = A1 c) → JJ SCc SMm RNc PMc GWc A3 → A3 0 8 = 1 → ((∃ a, a < m ∧ th a = 1 ∧ x a = 1) ∨ ¬ (noCf to th m ∧ cnt th m = (n : Int) - 1) → v = -3) → (noCf to th m → cnt th m = (n : Int) - 1 → (∀ a, a < m → th a = 1 → x a = 0) → v = tdV n m fr to th w (prP fr to th m) b) → ∃ z, (some (.inl (iZ v)) : Option mj_V) = some (.inl z) ∧ (93 < 123 ∧ K 93 = (0, 9)) ∧ mj_lv 6 m_Mod_tidy [.inr (.inl (some 93)), .inl (iZ (b : Int))] (123, K, zs (A3), ρ) (fun r2 h2 => r2 = some (.inl z) ∧ InvP (JJ SCc SMm RNc PMc GWc) h2) := fun A3 v e3 H3 s83 hv0 hv1 => by
        refine ⟨_, rfl, lyk L (by decide) rfl, ?_⟩
        obtain ⟨k1, k2, ⟨k3, k4, k5⟩, -⟩ := id H3.1
        have d1 : A3 1 = A1 1 := e3 1 (by decide) (by decide)
        show mj_W (mj_lv 5) prog_11_method_45_code 9 1 0 0 _ 0 [some (.inr (.inl (some 93))), some (.inl (iZ ((b : Int)))), none, none] [] (123, K, zs (A3), ρ) 0 0
        refine mq_aload_n d69_0 rfl rfl ?_
        refine mq_iload_n d69_1 rfl rfl ?_
        refine zg_callV (c := 93) L [_] d69_2 rfl rfl ⟨rfl, rfl⟩ rfl ⟨rfl, rfl⟩ ⟨by decide, by decide⟩ (by decide) rfl ?_
        refine s_isNode L rx (by omega) (fun q2 => ?_) (fun q2 => ?_)
        · refine zq_if_ne (tgt := 10) d69_5 (by decide) (by omega) (fun g2 => ?_) (fun g2 => ?_)
          · refine mq_aload_n d69_10 rfl rfl ?_
            refine zg_callV (c := 93) L [] d69_11 rfl rfl ⟨rfl, rfl⟩ rfl ⟨rfl, rfl⟩ ⟨by decide, by decide⟩ (by decide) rfl ?_
            refine s_make2 (d := 2) L (mg_gr H3.1) H3.2.1.2.2.2.2.1 H3.2.2.2.1 (fun A4 e4 hM hB => ?_)
            have H4 := jj_mk GWf_c H3 e4 hM hB
            have e8 : A4 0 8 = 1 := by rw [e4.1 0 rfl]; exact s83
            obtain ⟨z, z1, z2, z3, z4, z5, z6, z7, z8, z9⟩ := bothJ H4 e8 e4.2.2
            obtain ⟨l1, l2, ⟨l3, l4, l5⟩, l6, l7, l8, l9, l10⟩ := id H4.1
            have c4 : ∀ c, 1 ≤ c → c < 16 → A4 c = A1 c := fun c a b => by rw [e4.1 c (by simp; omega), e3 c (by omega) (by omega)]
            rw [c4 1 (by decide) (by decide)] at z1 z4 l3 l4
            rw [c4 3 (by decide) (by decide), c4 4 (by decide) (by decide), c4 5 (by decide) (by decide)] at z1
            have ex : ∀ a, a < m → A4 98 a = x a := fun a ha => by
              rw [(z4 a (by rw [← hm]; exact ha)).1]
              exact isTurn_one (by omega) z1 x1 a (by rw [← hm]; exact ha)
            have hGM : tgM A4 n m fr to th w := by
              obtain ⟨t1, t2, t3, t4, t5, t6⟩ := hG
              refine ⟨by rw [l3]; exact t1, by rw [l4]; exact t2, t3, t4, fun a ha => ?_, fun v hv => ?_⟩
              · have h1 := t5 a ha
                have h2 := l7 a (by omega)
                rw [h2.1, h2.2.1, h2.2.2, c4 3 (by decide) (by decide), c4 4 (by decide) (by decide), c4 5 (by decide) (by decide)]
                exact h1
              · rw [l6 v (by omega), c4 2 (by decide) (by decide)]
                exact t6 v hv
            refine mq_aload_n d69_14 rfl rfl ?_
            refine zg_callV (c := 93) L [] d69_15 rfl rfl ⟨rfl, rfl⟩ rfl ⟨rfl, rfl⟩ ⟨by decide, by decide⟩ (by decide) rfl ?_
            refine s_misTree (d := 4) (pos := pos) L hGM (fun a ha => by rw [ex a ha]; exact hx01 a ha) pp1 (fun h0 => hpos (fun a ha t => by rw [← ex a ha]; exact h0 a ha t)) (fun A5 e5 h5 => ?_) (fun A5 e5 hC hcnt hX h119 => ?_)
            · have : v = -3 := by
                refine hv0 ?_
                rcases h5 with ⟨a, a1, a2, a3⟩ | h5
                · exact Or.inl ⟨a, a1, a2, by rw [← ex a a1]; exact a3⟩
                · exact Or.inr h5
              subst this
              refine zq_if_ne (tgt := 24) d69_18 (by decide) (by omega) (fun g3 => ?_) (fun g3 => ?_)
              · exact absurd rfl g3
              · refine zq_bipush d69_21 rfl ?_
                refine zg_reti d69_23 rfl ?_
                exact ⟨rfl, K, A5, ρ, rfl, L, jj_tm H4 (fun c hc => e5 c (by simp; omega))⟩
            · have hX2 : ∀ a, a < m → th a = 1 → x a = 0 := fun a ha t => by rw [← ex a ha]; exact hX a ha t
              have hvv := hv1 hC hcnt hX2
              have ht := pr_tr (w := w) (n := n) (m := m) (by omega) (fun a ha => (hG.2.2.2.2.1 a ha).2.1) hC pp1 (hpos hX2) (fun v hv => (hG.2.2.2.2.2 v hv).2)
              refine zq_if_ne (tgt := 24) d69_18 (by decide) (by omega) (fun g3 => ?_) (fun g3 => ?_)
              · refine s_mtidy (d := 2) L (tgM_eo hGM (fun c h1 h2 => e5 c (by simp; omega))) ht h119 hbn (fun A6 e6 => ?_)
                refine ⟨by rw [hvv], K, A6, ρ, rfl, L, jj_tm H4 (fun c hc => ?_)⟩
                rw [e6 c (by simp; omega), e5 c (by simp; omega)]
              · exact absurd g3 (by decide)
          · omega
        · exfalso
          refine q2 ⟨by omega, ?_⟩
          rw [k3, d1]
          omega
      have hsz : A1 6 4 = cnt x m := x2
      have szr := cnt_range (f := x) (m := m) hx01
      have g24 : m ≤ 24 := hG.2.2.2.1
      refine mq_aload_n d20_17 rfl rfl ?_
      refine zg_getR L 6 d20_18 rfl rfl (by decide) rfl (by decide) rfl ?_
      refine zg_getI L d20_21 rfl rfl (by decide) rfl ?_
      refine zq_if_ne (tgt := 41) d20_24 (by decide) (by omega) (fun g2 => ?_) (fun g2 => ?_)
      · refine zq_bipush d20_41 rfl ?_
        refine zg_reti d20_43 rfl ?_
        refine mod A1 (-3) (fun _ _ _ => rfl) H1 s8 (fun _ => rfl) (fun _ _ hX => ?_)
        exfalso
        apply g2
        rw [hsz, cnt_congr (g := fun _ => 0) (fun a ha => ?_), cnt_zero]
        by_cases t : th a = 1
        · exact hX a ha t
        · rcases hx01 a ha with e | e
          · exact e
          · exact absurd (by rw [hth]; exact isTurn_th x1 (by rw [← hm]; exact ha) e) t
      · have hX0 : ∀ a, a < m → x a = 0 := cnt_all0 (fun a ha => by have := hx01 a ha; omega) (by omega)
        have nox : ¬ ∃ a, a < m ∧ th a = 1 ∧ x a = 1 := fun ⟨a, a1, a2, a3⟩ => by
          have := hX0 a a1
          omega
        refine mq_aload_n d20_27 rfl rfl ?_
        refine zg_getR L 88 d20_28 rfl rfl (by decide) rfl (by decide) rfl ?_
        refine mq_aload_n d20_31 rfl rfl ?_
        refine zg_getR L 1 d20_32 rfl rfl (by decide) rfl (by decide) rfl ?_
        refine zg_callV (c := 88) L [_] d20_35 rfl rfl ⟨rfl, rfl⟩ rfl ⟨rfl, rfl⟩ ⟨by decide, by decide⟩ (by decide) rfl ?_
        refine s_cisTree (d := 3) L hG h16 (fun A2 e2 hno => ?_) (fun A2 e2 hC hcnt hP => ?_)
        · have H2 : JJ SCc SMm RNc PMc GWc A2 := jj_tr H1 (fun c a b => e2 c (by simp; omega)) (fun j _ => by rw [e2 0 rfl]) (by rw [e2 0 rfl]; exact H1.2.1.2.2.2.1) s8 (fun q => by
            rw [e2 0 rfl] at q
            have hg := H1.2.2.2.2.2.2 q
            unfold GWc at hg ⊢
            rw [e2 1 rfl, e2 2 rfl, e2 3 rfl, e2 4 rfl, e2 5 rfl, e2 89 rfl]
            exact hg)
          refine zq_if_ne (tgt := 44) d20_38 (by decide) (by omega) (fun g3 => ?_) (fun g3 => ?_)
          · exact absurd rfl g3
          · refine zq_bipush d20_41 rfl ?_
            refine zg_reti d20_43 rfl ?_
            exact mod A2 (-3) (fun c a b => e2 c (by simp; omega)) H2 (by rw [e2 0 rfl]; exact s8) (fun _ => rfl) (fun h1 h2 _ => absurd ⟨h1, h2⟩ hno)
        · have ht := pr_tr (w := w) (n := n) (m := m) (by omega) (fun a ha => (hG.2.2.2.2.1 a ha).2.1) hC pp1 (hpos (fun a ha _ => hX0 a ha)) (fun v hv => (hG.2.2.2.2.2 v hv).2)
          have G2 := tgC_eo hG (B := A2) (fun c h1 h2 => e2 c (by simp; omega))
          -- with the places there
          have last : ∀ A3 : Nat → Nat → Int, (∀ c, c ≠ 0 → ¬ (88 ≤ c ∧ c ≤ 92) → A3 c = A1 c) → JJ SCc SMm RNc PMc GWc A3 → A3 0 8 = 1 → (∀ u, u < n → A3 89 u = tdV n m fr to th w (prP fr to th m) u) → ∃ z, (some (.inl (iZ (A3 89 b))) : Option mj_V) = some (.inl z) ∧ (93 < 123 ∧ K 93 = (0, 9)) ∧ mj_lv 6 m_Mod_tidy [.inr (.inl (some 93)), .inl (iZ (b : Int))] (123, K, zs (A3), ρ) (fun r2 h2 => r2 = some (.inl z) ∧ InvP (JJ SCc SMm RNc PMc GWc) h2) := fun A3 e3 H3 s83 hT => mod A3 _ e3 H3 s83 (fun h1 => by
            rcases h1 with h1 | h1
            · exact absurd h1 nox
            · exact absurd ⟨hC, hcnt⟩ h1) (fun _ _ _ => hT b hbn)
          have gwE : ∀ A3 : Nat → Nat → Int, (∀ c, c ≠ 0 → ¬ (88 ≤ c ∧ c ≤ 92) → A3 c = A1 c) → (GWc A3 ↔ ∀ u, u < n → A3 89 u = tdV n m fr to th w (prP fr to th m) u) := fun A3 e3 => by
            unfold GWc
            rw [e3 1 (by decide) (by decide), e3 2 (by decide) (by decide), e3 3 (by decide) (by decide), e3 4 (by decide) (by decide), e3 5 (by decide) (by decide), ← hn, ← hm, ← hfr, ← hto, ← hth, ← hw]
          refine zq_if_ne (tgt := 44) d20_38 (by decide) (by omega) (fun g3 => ?_) (fun g3 => ?_)
          · have r11 := H1.2.1.2.2.2.1
            refine mq_aload_n d20_44 rfl rfl ?_
            refine zg_getIe L (A1 0 11) d20_45 rfl rfl (by decide) rfl ((by rw [e2 0 rfl])) ?_
            refine zq_if_ne (tgt := 67) d20_48 (by decide) (by omega) (fun g4 => ?_) (fun g4 => ?_)
            · have e2' : ∀ c, c ≠ 0 → ¬ (88 ≤ c ∧ c ≤ 92) → A2 c = A1 c := fun c a b => e2 c (by simp; omega)
              have hg1 := (gwE A1 (fun _ _ _ => rfl)).mp (H1.2.2.2.2.2.2 (by omega))
              have hT : ∀ u, u < n → A2 89 u = tdV n m fr to th w (prP fr to th m) u := fun u hu => by rw [e2 89 rfl]; exact hg1 u hu
              have H2 : JJ SCc SMm RNc PMc GWc A2 := jj_tr H1 e2' (fun j _ => by rw [e2 0 rfl]) (by rw [e2 0 rfl]; exact r11) s8 (fun _ => (gwE A2 e2').mpr hT)
              refine mq_aload_n d20_67 rfl rfl ?_
              refine zg_getR L 88 d20_68 rfl rfl (by decide) rfl (by decide) rfl ?_
              refine zg_getR L 89 d20_71 rfl rfl (by decide) rfl (by decide) rfl ?_
              refine mq_iload_n d20_74 rfl rfl ?_
              refine zg_ialdN L d20_75 (by decide) rfl (by omega) ?_
              refine zg_reti d20_76 rfl ?_
              exact last A2 e2' H2 (by rw [e2 0 rfl]; exact s8) hT
            · refine mq_aload_n d20_51 rfl rfl ?_
              refine zg_getR L 88 d20_52 rfl rfl (by decide) rfl (by decide) rfl ?_
              refine mq_aload_n d20_55 rfl rfl ?_
              refine zg_getR L 1 d20_56 rfl rfl (by decide) rfl (by decide) rfl ?_
              refine zg_callV (c := 88) L [_] d20_59 rfl rfl ⟨rfl, rfl⟩ rfl ⟨rfl, rfl⟩ ⟨by decide, by decide⟩ (by decide) rfl ?_
              refine s_arrange (d := 0) L G2 ht hP (by omega) (fun A3 e3 hT => ?_)
              refine mq_aload_n d20_62 rfl rfl ?_
              refine zq_iconst d20_63 ?_
              refine zg_putZ L d20_64 rfl rfl rfl rfl (by first | decide | omega) (by decide) rfl ?_
              obtain ⟨C, hC3⟩ : ∃ C, C = mj_u2 A3 0 11 1 := ⟨_, rfl⟩
              rw [← hC3]
              have cc : ∀ c, c ≠ 0 → C c = A3 c := fun c hc => by rw [hC3, u2_cell hc]
              have eC : ∀ c, c ≠ 0 → ¬ (88 ≤ c ∧ c ≤ 92) → C c = A1 c := fun c a b => by rw [cc c a, e3 c (by simp; omega), e2 c (by simp; omega)]
              have c0 : ∀ j, j ≠ 11 → C 0 j = A1 0 j := fun j hj => by rw [hC3, u2_k hj, e3 0 rfl, e2 0 rfl]
              have c11 : C 0 11 = 1 := by rw [hC3, u2_self]
              have hT2 : ∀ u, u < n → C 89 u = tdV n m fr to th w (prP fr to th m) u := fun u hu => by rw [cc 89 (by decide)]; exact hT u hu
              have HC : JJ SCc SMm RNc PMc GWc C := jj_tr H1 eC c0 (Or.inr c11) s8 (fun _ => (gwE C eC).mpr hT2)
              refine mq_aload_n d20_67 rfl rfl ?_
              refine zg_getR L 88 d20_68 rfl rfl (by decide) rfl (by decide) rfl ?_
              refine zg_getR L 89 d20_71 rfl rfl (by decide) rfl (by decide) rfl ?_
              refine mq_iload_n d20_74 rfl rfl ?_
              refine zg_ialdN L d20_75 (by decide) rfl (by omega) ?_
              refine zg_reti d20_76 rfl ?_
              exact last C eC HC (by rw [c0 8 (by decide)]; exact s8) hT2
          · exact absurd g3 (by decide)
    · omega
  · refine zq_if_ne (tgt := 13) d20_8 (by decide) (by omega) (fun g1 => ?_) (fun g1 => ?_)
    · omega
    · refine zq_iconst d20_11 ?_
      refine zg_reti d20_12 rfl ?_
      refine ⟨_, rfl, lyk L (by decide) rfl, ?_⟩
      show mj_W (mj_lv 5) prog_11_method_45_code 9 1 0 0 _ 0 [some (.inr (.inl (some 93))), some (.inl (iZ (y))), none, none] [] (123, K, zs (A), ρ) 0 0
      refine mq_aload_n d69_0 rfl rfl ?_
      refine mq_iload_n d69_1 rfl rfl ?_
      refine zg_callV (c := 93) L [_] d69_2 rfl rfl ⟨rfl, rfl⟩ rfl ⟨rfl, rfl⟩ ⟨by decide, by decide⟩ (by decide) rfl ?_
      refine s_isNode L rx (by omega) (fun q2 => ?_) (fun q2 => ?_)
      · exfalso
        exact q ⟨q2.1, by omega⟩
      · refine zq_if_ne (tgt := 10) d69_5 (by decide) (by omega) (fun g2 => ?_) (fun g2 => ?_)
        · omega
        · refine zq_iconst d69_8 ?_
          refine zg_reti d69_9 rfl ?_
          exact ⟨rfl, K, A, ρ, rfl, L, H⟩
end sp_ot2
