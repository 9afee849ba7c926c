theorem cnt_mono2 {f : Nat → Int} (h : ∀ b, 0 ≤ f b) {a m : Nat} (hm : a ≤ m) : cnt f a ≤ cnt f m := by
  have := cnt_mono (g := f) (k := a) (j := m - a) (fun b _ => h b)
  rwa [show a + (m - a) = m by omega] at this
section sp_td
variable {d : Nat} {post : Option mj_V → mj_H → Prop} {K : Nat → Nat × Nat} {ρ : Nat → Nat → Option Nat} {A : Nat → Nat → Int} {n m : Nat} {fr to : Nat → Nat} {th w pr : Nat → Int} {pos : Nat → Nat}
theorem dn_mono {dd v u : Nat} (h : dnA pr dd v u) : dnA pr dd (v + 1) u := by
  unfold dnA at *
  omega
/-- the class's places and parts of the nodes that are put -/
def tvC (A : Nat → Nat → Int) (n : Nat) (pr : Nat → Int) (dd v : Nat) (T : Nat → Int) (B : Nat → Nat) : Prop := ∀ u, u < n → dnA pr dd v u → A 89 u = T u ∧ A 92 u = (B u : Nat)
noncomputable abbrev jAq (n : Nat) (fr to : Nat → Nat) (th w pr : Nat → Int) (v : Nat) (z : (Nat → Int) × (Nat → Nat)) (a : Nat) := jA n fr to th w (dpV pr) v z.1 z.2 a
theorem jA_no {v a : Nat} {z : (Nat → Int) × (Nat → Nat)} (e : ¬ (th a = 1 ∧ fr a = v)) : jAq n fr to th w pr v z (a + 1) = jAq n fr to th w pr v z a := if_neg e
theorem jA_yes {v a : Nat} {z : (Nat → Int) × (Nat → Nat)} {r : Int} (e : th a = 1 ∧ fr a = v) (hr : rmX n w (dpV pr) (jAq n fr to th w pr v z a).1 (jAq n fr to th w pr v z a).2.1 (z.2 (to a)) r) : jAq n fr to th w pr v z (a + 1) = (shT (jAq n fr to th w pr v z a).1 (z.2 (to a)) r, (jAq n fr to th w pr v z a).2.1 ||| z.2 (to a), (if (jAq n fr to th w pr v z a).2.2.1 < 0 then ((to a : Nat) : Int) else (jAq n fr to th w pr v z a).2.2.1), ((to a : Nat) : Int)) := by
  refine (if_pos e).trans ?_
  rw [rmV_eq hr]
/-- at arc a of putPart -/
def ppI (A : Nat → Nat → Int) (n : Nat) (fr to : Nat → Nat) (th w pr : Nat → Int) (dd v : Nat) (z : (Nat → Int) × (Nat → Nat)) (a : Nat) (A2 : Nat → Nat → Int) : Prop := eo [89] A A2 ∧ jI n fr to th w pr dd v z a (jAq n fr to th w pr v z a) ∧ ∀ u, u < n → dnA pr dd v u → A2 89 u = (jAq n fr to th w pr v z a).1 u
set_option maxRecDepth 100000 in
theorem pp_1 (L : Lay K ρ) (hG : tgC A n m fr to th w) (ht : trOK n m fr to th w pr pos) (h91 : ∀ u, u < n → A 91 u = (dpV pr u : Nat) ∧ dpV pr u < 12) {dd v : Nat} (hv : v < n) (hd : dpV pr v = dd) {z : (Nat → Int) × (Nat → Nat)} (hz : ptI n w pr dd v z) (hC : tvC A n pr dd v z.1 z.2)
    (kk : ∀ A2 x6, ppI A n fr to th w pr dd v z m A2 → mj_W (mj_lv (d + 3)) prog_8_method_5_code 6 0 0 0 post 105 [some (.inr (.inl (some 88))), some (.inr (.inl (some 1))), some (.inl (iZ ((v : Nat)))), some (.inl (iZ (((jAq n fr to th w pr v z m).2.1 : Nat)))), some (.inl (iZ ((jAq n fr to th w pr v z m).2.2.1))), some (.inl (iZ ((jAq n fr to th w pr v z m).2.2.2))), some (.inl x6)] [] (123, K, zs (A2), ρ) 0 0) : ∀ (j a : Nat) (A2 : Nat → Nat → Int), m - a < j → a ≤ m → ppI A n fr to th w pr dd v z a A2 → mj_W (mj_lv (d + 3)) prog_8_method_5_code 6 0 0 0 post 11 [some (.inr (.inl (some 88))), some (.inr (.inl (some 1))), some (.inl (iZ ((v : Nat)))), some (.inl (iZ (((jAq n fr to th w pr v z a).2.1 : Nat)))), some (.inl (iZ ((jAq n fr to th w pr v z a).2.2.1))), some (.inl (iZ ((jAq n fr to th w pr v z a).2.2.2))), some (.inl (iZ ((a : Nat))))] [] (123, K, zs (A2), ρ) 0 0
  | 0, a, _, hj, _, _ => absurd hj (by omega)
  | j + 1, a, A2, hj, ha, hI => by
    obtain ⟨q1, q2, q3, q4, q5, q6⟩ := id hG
    obtain ⟨hE, hJ, hA⟩ := id hI
    refine mq_iload d126_11 rfl ?_
    refine mq_aload_n d126_13 rfl rfl ?_
    refine zg_getIe L ((m : Nat)) d126_14 rfl rfl (by decide) rfl ((by rw [hE 1 rfl]; exact q2)) ?_
    refine zq_icmp_ge (tgt := 105) d126_17 (by decide) (by omega) (by omega) (fun g1 => ?_) (fun g1 => ?_)
    · have e : a = m := by omega
      subst e
      exact kk A2 _ hI
    · have ham : a < m := by omega
      obtain ⟨⟨a1, a2⟩, ⟨a3, a4⟩, a5, a6⟩ := q5 a ham
      have m0 : m - (a + 1) < j := by omega
      have skip : ¬ (th a = 1 ∧ fr a = v) → mj_W (mj_lv (d + 3)) prog_8_method_5_code 6 0 0 0 post 99 [some (.inr (.inl (some 88))), some (.inr (.inl (some 1))), some (.inl (iZ ((v : Nat)))), some (.inl (iZ (((jAq n fr to th w pr v z a).2.1 : Nat)))), some (.inl (iZ ((jAq n fr to th w pr v z a).2.2.1))), some (.inl (iZ ((jAq n fr to th w pr v z a).2.2.2))), some (.inl (iZ ((a : Nat))))] [] (123, K, zs (A2), ρ) 0 0 := fun e => by
        have fin := pp_1 L hG ht h91 hv hd hz hC kk j (a + 1) A2 m0 ham ⟨hE, by rw [jA_no e]; exact jI_skip hJ e, by rw [jA_no e]; exact hA⟩
        rw [jA_no e] at fin
        refine zq_iinc d126_99 rfl rfl ?_
        refine mq_goto (tgt := 11) d126_102 (by decide) ?_
        exact fin
      refine mq_aload_n d126_20 rfl rfl ?_
      refine zg_getR L 5 d126_21 rfl rfl (by decide) rfl (by decide) rfl ?_
      refine mq_iload d126_24 rfl ?_
      refine zr_zaldV L (th a) d126_26 (by decide) rfl (by omega) ((by rw [hE 5 rfl]; exact a5)) ?_
      refine zq_if_eq (tgt := 99) d126_27 (by decide) (by omega) (fun g2 => ?_) (fun g2 => ?_)
      · exact skip (by omega)
      · refine mq_aload_n d126_30 rfl rfl ?_
        refine zg_getR L 3 d126_31 rfl rfl (by decide) rfl (by decide) rfl ?_
        refine mq_iload d126_34 rfl ?_
        refine zr_ialdV L ((fr a : Nat)) d126_36 (by decide) rfl (by omega) ((by rw [hE 3 rfl]; exact a1)) ?_
        refine mq_iload_n d126_37 rfl rfl ?_
        refine zq_icmp_ne (tgt := 99) d126_38 (by decide) (by omega) (by omega) (fun g3 => ?_) (fun g3 => ?_)
        · exact skip (by omega)
        · have e : th a = 1 ∧ fr a = v := by omega
          obtain ⟨c1, c2, c3⟩ := jI_child ht hd ham e
          obtain ⟨⟨p1, p2⟩, p3⟩ := hz.1 _ c1 c2
          have hn12 : 2 ^ n ≤ 4096 := Nat.pow_le_pow_right (by decide) (show n ≤ 12 by omega)
          have b92 : A2 92 (to a) = (z.2 (to a) : Nat) := by rw [hE 92 rfl]; exact (hC _ c1 c2.1).2
          obtain ⟨j1, j2, j3, j4, j5⟩ := id hJ
          have x0 := xA_nn (n := n) (fr := fr) (to := to) (th := th) (pr := pr) (v := v) (a := a)
          have xm := xA_le ht hv
          have e228 : eV n pr v ≤ 228 := eL_228 ht.2.1 ht.1 hv
          have xle : xA n fr to th pr v a ≤ xA n fr to th pr v m := cnt_mono2 (fun b => by
            split
            · have := eL_p (n := n) (pr := pr) (n - 1 - dpV pr (to b)) (to b)
              unfold eV
              omega
            · exact Int.le_refl _) (by omega)
          have ec : eV n pr (to a) ≤ 228 := eL_228 ht.2.1 ht.1 c1
          have hT : ∀ u, sB (z.2 (to a)) u = 1 → u < n ∧ A2 89 u = (jAq n fr to th w pr v z a).1 u ∧ -4 ≤ A2 89 u ∧ A2 89 u ≤ 1000 := fun u hu => by
            obtain ⟨b1, b2, b3, b4, b5, b6⟩ := p3 u hu
            have hw := q6 u b1
            have hAu := hA u b1 b2
            by_cases q : sB (jAq n fr to th w pr v z a).2.1 u = 1
            · have := j1 u q
              exact ⟨b1, hAu, by omega, by omega⟩
            · have := j2 u q
              exact ⟨b1, hAu, by omega, by omega⟩
          have hO : ∀ u, sB (jAq n fr to th w pr v z a).2.1 u = 1 → u < n ∧ A2 89 u = (jAq n fr to th w pr v z a).1 u ∧ -4 ≤ A2 89 u ∧ A2 89 u ≤ 1000 := fun u hu => by
            obtain ⟨b1, b2, b3, b4, b5, b6⟩ := j1 u hu
            have hw := q6 u b1
            have hAu := hA u b1 b2
            exact ⟨b1, hAu, by omega, by omega⟩
          have hfl : -1 ≤ (jAq n fr to th w pr v z a).2.2.1 ∧ (jAq n fr to th w pr v z a).2.2.1 < 100 := by
            rcases j5 with y | ⟨f, l, y1, y2, y3, y4, -⟩
            · omega
            · omega
          have j5' : hideQ ((jAq n fr to th w pr v z a).2.2.1 = (jAq n fr to th w pr v z a).2.2.1) := ⟨trivial, rfl⟩
          clear j5
          -- behind first
          have go : ∀ F : Int, F = (if (jAq n fr to th w pr v z a).2.2.1 < 0 then ((to a : Nat) : Int) else (jAq n fr to th w pr v z a).2.2.1) → mj_W (mj_lv (d + 3)) prog_8_method_5_code 6 0 0 0 post 65 [some (.inr (.inl (some 88))), some (.inr (.inl (some 1))), some (.inl (iZ ((v : Nat)))), some (.inl (iZ (((jAq n fr to th w pr v z a).2.1 : Nat)))), some (.inl (iZ (F))), some (.inl (iZ ((to a : Nat)))), some (.inl (iZ ((a : Nat))))] [] (123, K, zs (A2), ρ) 0 0 := fun F hF => by
            refine mq_aload_n d126_65 rfl rfl ?_
            refine mq_aload_n d126_66 rfl rfl ?_
            refine zg_getR L 92 d126_67 rfl rfl (by decide) rfl (by decide) rfl ?_
            refine mq_iload d126_70 rfl ?_
            refine zr_ialdV L ((z.2 (to a) : Nat)) d126_72 (by decide) rfl (by omega) (b92) ?_
            refine mq_aload_n d126_73 rfl rfl ?_
            refine mq_aload_n d126_74 rfl rfl ?_
            refine mq_iload_n d126_75 rfl rfl ?_
            refine mq_aload_n d126_76 rfl rfl ?_
            refine zg_getR L 92 d126_77 rfl rfl (by decide) rfl (by decide) rfl ?_
            refine mq_iload d126_80 rfl ?_
            refine zr_ialdV L ((z.2 (to a) : Nat)) d126_82 (by decide) rfl (by omega) (b92) ?_
            refine zg_callV (c := 88) L [_, _, _] d126_83 rfl rfl ⟨rfl, rfl⟩ rfl ⟨rfl, rfl⟩ ⟨by decide, by decide⟩ (by decide) rfl ?_
            refine s_shiftBehind (d := d + 1) (dp := dpV pr) L (tgC_eo hG (fun c h1 h2 => hE c (by simp; omega))) (fun u hu => by rw [hE 91 rfl]; exact h91 u hu) (by omega) (by omega) (fun u h1 h2 => by have := hT u h2; omega) (fun u h1 h2 => by have := hO u h2; omega) c1 p1 (fun r hr => ?_)
            have hr2 : rmX n w (dpV pr) (jAq n fr to th w pr v z a).1 (jAq n fr to th w pr v z a).2.1 (z.2 (to a)) r := rmX_congr (fun u _ h2 => (hT u h2).2.1) (fun u _ h2 => (hO u h2).2.1) (fun u _ => rfl) hr
            refine zg_callV (c := 88) L [_, _] d126_86 rfl rfl ⟨rfl, rfl⟩ rfl ⟨rfl, rfl⟩ ⟨by decide, by decide⟩ (by decide) rfl ?_
            refine s_tmove (d := d + 2) L (by omega) (fun A3 e3 h3 => ?_)
            have hJ2 := (jI_s ht hd hz ham e hJ hr2).1
            have eJ := jA_yes e hr2
            rw [← hF] at eJ hJ2
            have fin := pp_1 L hG ht h91 hv hd hz hC kk j (a + 1) A3 m0 ham ⟨eo_trans hE e3, by rw [eJ]; exact hJ2, fun u h1 h2 => by
              rw [eJ, h3 u (by omega)]
              show A2 89 u + (if sB (z.2 (to a)) u = 1 then r else 0) = (jAq n fr to th w pr v z a).1 u + (if sB (z.2 (to a)) u = 1 then r else 0)
              rw [hA u h1 h2]⟩
            rw [eJ] at fin
            refine mq_iload_n d126_89 rfl rfl ?_
            refine mq_aload_n d126_90 rfl rfl ?_
            refine zg_getR L 92 d126_91 rfl rfl (by decide) rfl (by decide) rfl ?_
            refine mq_iload d126_94 rfl ?_
            refine zr_ialdV L ((z.2 (to a) : Nat)) d126_96 (by decide) rfl (by omega) ((by rw [e3 92 rfl]; exact b92)) ?_
            refine zn_ior d126_97 ?_
            refine mq_istore_n d126_98 rfl (Nat.le_of_ble_eq_true rfl) rfl ?_
            refine zq_iinc d126_99 rfl rfl ?_
            refine mq_goto (tgt := 11) d126_102 (by decide) ?_
            exact fin
          refine mq_aload_n d126_41 rfl rfl ?_
          refine zg_getR L 4 d126_42 rfl rfl (by decide) rfl (by decide) rfl ?_
          refine mq_iload d126_45 rfl ?_
          refine zr_ialdV L ((to a : Nat)) d126_47 (by decide) rfl (by omega) ((by rw [hE 4 rfl]; exact a2)) ?_
          refine mq_istore d126_48 (Nat.le_of_ble_eq_true rfl) rfl ?_
          refine mq_iload d126_50 rfl ?_
          refine zq_iconst d126_52 ?_
          refine zq_icmp_ne (tgt := 61) d126_53 (by decide) (by omega) (by omega) (fun g4 => ?_) (fun g4 => ?_)
          · refine mq_iload d126_61 rfl ?_
            refine mq_istore d126_63 (Nat.le_of_ble_eq_true rfl) rfl ?_
            exact go _ (by rw [if_neg (by omega)])
          · refine mq_iload d126_56 rfl ?_
            refine mq_goto (tgt := 63) d126_58 (by decide) ?_
            refine mq_istore d126_63 (Nat.le_of_ble_eq_true rfl) rfl ?_
            exact go _ (by rw [if_pos (by omega)])
set_option maxRecDepth 100000 in
theorem s_putPart (L : Lay K ρ) (hG : tgC A n m fr to th w) (ht : trOK n m fr to th w pr pos) (h91 : ∀ u, u < n → A 91 u = (dpV pr u : Nat) ∧ dpV pr u < 12) {dd v : Nat} (hv : v < n) (hd : dpV pr v = dd) {z : (Nat → Int) × (Nat → Nat)} (hz : ptI n w pr dd v z) (hC : tvC A n pr dd v z.1 z.2)
    (kk : ∀ A2, eo [89, 92] A A2 → ptI n w pr dd (v + 1) (jN n m fr to th w (dpV pr) v z) → tvC A2 n pr dd (v + 1) (jN n m fr to th w (dpV pr) v z).1 (jN n m fr to th w (dpV pr) v z).2 → post none (123, K, zs (A2), ρ)) : mj_lv (d + 4) m_Tree_putPart [.inr (.inl (some 88)), .inr (.inl (some 1)), .inl (iZ (v : Nat))] (123, K, zs (A), ρ) post := by
  obtain ⟨q1, q2, q3, q4, q5, q6⟩ := id hG
  show mj_W (mj_lv (d + 3)) prog_8_method_5_code 6 0 0 0 post 0 [some (.inr (.inl (some 88))), some (.inr (.inl (some 1))), some (.inl (iZ ((v : Nat)))), none, none, none, none] [] (123, K, zs (A), ρ) 0 0
  refine zq_iconst d126_0 ?_
  refine mq_istore_n d126_1 rfl (Nat.le_of_ble_eq_true rfl) rfl ?_
  refine zq_iconst d126_2 ?_
  refine mq_istore d126_3 (Nat.le_of_ble_eq_true rfl) rfl ?_
  refine zq_iconst d126_5 ?_
  refine mq_istore d126_6 (Nat.le_of_ble_eq_true rfl) rfl ?_
  refine zq_iconst d126_8 ?_
  refine mq_istore d126_9 (Nat.le_of_ble_eq_true rfl) rfl ?_
  refine pp_1 L hG ht h91 hv hd hz hC (fun A2 x6 hI => ?_) (m + 1) 0 A (by omega) (by omega) ⟨eo_refl, jI_0, fun u h1 h2 => (hC u h1 h2).1⟩
  obtain ⟨hE, hJ, hA⟩ := hI
  have hok := jN_ok ht hv hd hz hJ
  have hTv := jN_v ht hv hJ
  obtain ⟨q, hq⟩ : ∃ q, q = jAq n fr to th w pr v z m := ⟨_, rfl⟩
  have eN : jN n m fr to th w (dpV pr) v z = (upf q.1 v (if q.2.2.1 < 0 then 0 else (2 * q.1 q.2.2.1.toNat + w q.2.2.1.toNat + 2 * q.1 q.2.2.2.toNat + w q.2.2.2.toNat) / 4 - w v / 2), upf z.2 v (q.2.1 ||| 2 ^ v)) := by
    rw [hq]
    rfl
  rw [← hq] at hJ hA hok hTv ⊢
  obtain ⟨j1, j2, j3, j4, j5⟩ := id hJ
  have hn12 : 2 ^ n ≤ 4096 := Nat.pow_le_pow_right (by decide) (show n ≤ 12 by omega)
  have xm := xA_le ht hv
  have e228 : eV n pr v ≤ 228 := eL_228 ht.2.1 ht.1 hv
  have nv : ¬ dnA pr dd v v := by
    unfold dnA
    omega
  have ev : ((v : Nat) : Int).toNat = v := Int.toNat_natCast v
  refine mq_aload_n d126_105 rfl rfl ?_
  refine zg_getR L 92 d126_106 rfl rfl (by decide) rfl (by decide) rfl ?_
  refine mq_iload_n d126_109 rfl rfl ?_
  refine mq_iload_n d126_110 rfl rfl ?_
  refine zq_iconst d126_111 ?_
  refine mq_iload_n d126_112 rfl rfl ?_
  refine zn_shl1 d126_113 (by omega) ?_
  rw [ev]
  refine zn_ior d126_114 ?_
  refine zg_iastN L d126_115 (by decide) rfl (by omega) ?_
  refine mq_aload_n d126_116 rfl rfl ?_
  refine zg_getR L 89 d126_117 rfl rfl (by decide) rfl (by decide) rfl ?_
  refine mq_iload_n d126_120 rfl rfl ?_
  refine zq_iconst d126_121 ?_
  refine zg_iastN L d126_122 (by decide) rfl (by omega) ?_
  obtain ⟨C, hC2⟩ : ∃ C, C = mj_u2 (mj_u2 A2 92 v ((q.2.1 ||| 2 ^ v : Nat) : Int)) 89 v 0 := ⟨_, rfl⟩
  rw [← hC2]
  have cc : ∀ c, c ≠ 89 → c ≠ 92 → C c = A2 c := fun c h1 h2 => by rw [hC2, u2_cell h1, u2_cell h2]
  have c92 : ∀ u, C 92 u = if u = v then ((q.2.1 ||| 2 ^ v : Nat) : Int) else A2 92 u := fun u => by
    rw [hC2, u2_c (by decide), u2_at]
    simp
  have c89 : ∀ u, u ≠ v → C 89 u = A2 89 u := fun u hu => by rw [hC2, u2_k hu, u2_c (by decide)]
  have EC : eo [89, 92] A C := fun c hc => by
    simp at hc
    rw [cc c (by omega) (by omega)]
    exact hE c (by simp; omega)
  have fin : ∀ A9, eo [89, 92] A A9 → A9 92 = C 92 → (∀ u, u ≠ v → A9 89 u = C 89 u) → A9 89 v = (if q.2.2.1 < 0 then 0 else (2 * q.1 q.2.2.1.toNat + w q.2.2.1.toNat + 2 * q.1 q.2.2.2.toNat + w q.2.2.2.toNat) / 4 - w v / 2) → post none (123, K, zs (A9), ρ) := fun A9 e9 f92 f89 fv => by
    refine kk A9 e9 (by rw [eN]; exact hok) (fun u hu du => ?_)
    rw [eN]
    show A9 89 u = upf q.1 v _ u ∧ A9 92 u = ((upf z.2 v (q.2.1 ||| 2 ^ v) u : Nat) : Int)
    by_cases y : u = v
    · subst y
      rw [upf_s, upf_s, fv, f92, c92, if_pos rfl]
      exact ⟨rfl, rfl⟩
    · have du2 : dnA pr dd v u := by
        rcases (dnA_s hd).mp du with r | r
        · exact r
        · exact absurd r y
      rw [upf_n y, upf_n y, f89 u y, c89 u y, f92, c92, if_neg y, hE 92 rfl]
      exact ⟨hA u hu du2, (hC u hu du2).2⟩
  have rf : -1 ≤ q.2.2.1 ∧ q.2.2.1 < 100 := by
    rcases j5 with y | ⟨f, l, y1, y2, y3, y4, -⟩
    · omega
    · omega
  by_cases hf : q.2.2.1 < 0
  · have e1 : q.2.2.1 = -1 := by omega
    rw [if_pos hf] at fin
    rw [e1]
    refine mq_iload d126_123 rfl ?_
    refine zq_iconst d126_125 ?_
    refine zq_icmp_eq (tgt := 167) d126_126 (by decide) (by omega) (by omega) (fun g1 => ?_) (fun g1 => ?_)
    · refine zg_retv d126_167 (by decide) ?_
      exact fin C EC rfl (fun _ _ => rfl) (by rw [hC2, u2_self])
    · exact absurd rfl g1
  · obtain ⟨f, l, y1, y2, y3, y4, y5, y6⟩ : ∃ f l : Nat, q.2.2.1 = f ∧ q.2.2.2 = l ∧ f < n ∧ l < n ∧ sB q.2.1 f = 1 ∧ sB q.2.1 l = 1 := by
      rcases j5 with y | y
      · omega
      · exact y
    clear j5
    rw [if_neg hf] at fin hTv
    have b1 := j1 f y5
    have b2 := j1 l y6
    have nf : f ≠ v := fun e => nv (e ▸ b1.2.1)
    have nl : l ≠ v := fun e => nv (e ▸ b2.2.1)
    have t1 : C 89 f = q.1 f := by rw [c89 f nf]; exact hA f y3 b1.2.1
    have t2 : C 89 l = q.1 l := by rw [c89 l nl]; exact hA l y4 b2.2.1
    have wf := q6 f y3
    have wl := q6 l y4
    have wv := q6 v hv
    have ef : q.2.2.1.toNat = f := by omega
    have el : q.2.2.2.toNat = l := by omega
    rw [ef, el] at fin hTv
    have GC := tgC_eo hG (B := C) (fun c h1 h2 => EC c (by simp; omega))
    rw [y1, y2]
    refine mq_iload d126_123 rfl ?_
    refine zq_iconst d126_125 ?_
    refine zq_icmp_eq (tgt := 167) d126_126 (by decide) (by omega) (by omega) (fun g1 => ?_) (fun g1 => ?_)
    · omega
    · refine mq_aload_n d126_129 rfl rfl ?_
      refine mq_aload_n d126_130 rfl rfl ?_
      refine mq_iload d126_131 rfl ?_
      refine zg_callV (c := 88) L [_, _] d126_133 rfl rfl ⟨rfl, rfl⟩ rfl ⟨rfl, rfl⟩ ⟨by decide, by decide⟩ (by decide) rfl ?_
      refine s_twiceMiddle (d := d + 2) L GC y3 ?_
      refine mq_aload_n d126_136 rfl rfl ?_
      refine mq_aload_n d126_137 rfl rfl ?_
      refine mq_iload d126_138 rfl ?_
      refine zg_callV (c := 88) L [_, _] d126_140 rfl rfl ⟨rfl, rfl⟩ rfl ⟨rfl, rfl⟩ ⟨by decide, by decide⟩ (by decide) rfl ?_
      refine s_twiceMiddle (d := d + 2) L GC y4 ?_
      rw [t1, t2]
      refine zq_iadd d126_143 ?_
      refine mq_istore d126_144 (Nat.le_of_ble_eq_true rfl) rfl ?_
      refine mq_aload_n d126_146 rfl rfl ?_
      refine zg_getR L 89 d126_147 rfl rfl (by decide) rfl (by decide) rfl ?_
      refine mq_iload_n d126_150 rfl rfl ?_
      refine mq_iload d126_151 rfl ?_
      refine zq_iconst d126_153 ?_
      refine zg_callS [_, _] d126_154 rfl rfl ⟨rfl, rfl⟩ rfl ⟨rfl, rfl⟩ ⟨by decide, by decide⟩ ?_
      refine s_floorDiv (d := d + 2) (by omega) ?_
      refine mq_aload_n d126_157 rfl rfl ?_
      refine zg_getR L 2 d126_158 rfl rfl (by decide) rfl (by decide) rfl ?_
      refine mq_iload_n d126_161 rfl rfl ?_
      refine zr_ialdV L (w v) d126_162 (by decide) rfl (by omega) ((by rw [cc 2 (by decide) (by decide), hE 2 rfl]; exact wv.1)) ?_
      refine zq_iconst d126_163 ?_
      refine zr_idiv d126_164 (by omega) (by omega) ?_
      refine zq_isub d126_165 ?_
      refine zg_iastN L d126_166 (by decide) rfl (by omega) ?_
      refine zg_retv d126_167 (by decide) ?_
      refine fin _ (eo_u2 rfl EC) ?_ (fun u hu => u2_k hu) ?_
      · rw [u2_cell (by decide)]
      · rw [u2_self]
        have : 2 * q.1 f + w f + (2 * q.1 l + w l) = 2 * q.1 f + w f + 2 * q.1 l + w l := by omega
        rw [this]
end sp_td
