section sp_mp
variable {d : Nat} {post : Option mj_V → mj_H → Prop} {K : Nat → Nat × Nat} {ρ : Nat → Nat → Option Nat} {A : Nat → Nat → Int} {Q : Nat → Int → Prop} {sz : Nat → Nat} {h N : Nat} {g pu pd : Nat → Nat} {z : wSt} {w : Nat → Int}
set_option maxRecDepth 100000 in
theorem s_widthOf (L : Lay K ρ) {x : Nat} (hx : x < 72) (h94 : x < 12 → A 94 x = w x) (hw : ¬ x < 12 → w x = 1) (kk : post (some (.inl (iZ (w x)))) (123, K, zs (A), ρ)) : mj_lv (d + 1) m_Mod_widthOf [.inr (.inl (some 93)), .inl (iZ (x : Nat))] (123, K, zs (A), ρ) post := by
  show mj_W (mj_lv d) prog_11_method_32_code 9 1 0 0 post 0 [some (.inr (.inl (some 93))), some (.inl (iZ ((x : Nat))))] [] (123, K, zs (A), ρ) 0 0
  refine mq_iload_n d56_0 rfl rfl ?_
  refine zq_bipush d56_1 rfl ?_
  refine zq_icmp_ge (tgt := 15) d56_3 (by decide) (by omega) (by omega) (fun g => ?_) (fun g => ?_)
  · refine zq_iconst d56_15 ?_
    refine zg_reti d56_16 rfl ?_
    rw [hw (by omega)] at kk
    exact kk
  · refine mq_aload_n d56_6 rfl rfl ?_
    refine zg_getR L 94 d56_7 rfl rfl (by decide) rfl (by decide) rfl ?_
    refine mq_iload_n d56_10 rfl rfl ?_
    refine zr_ialdV L (w x) d56_11 (by decide) rfl (by omega) (h94 (by omega)) ?_
    refine mq_goto (tgt := 16) d56_12 (by decide) ?_
    refine zg_reti d56_16 rfl ?_
    exact kk
set_option maxRecDepth 100000 in
theorem s_floor {a b : Int} (ra : 0 ≤ a ∧ a < 2147483648) (rb : 0 < b ∧ b < 2147483648) (kk : post (some (.inl (iZ (a / b)))) (123, K, zs (A), ρ)) : mj_lv (d + 1) m_Mod_floor [.inl (iZ a), .inl (iZ b)] (123, K, zs (A), ρ) post := by
  have hm := Int.emod_nonneg a (b := b) (by omega)
  have hm2 := Int.emod_lt_of_pos a (b := b) (by omega)
  show mj_W (mj_lv d) prog_11_method_33_code 9 1 0 0 post 0 [some (.inl (iZ (a))), some (.inl (iZ (b))), none] [] (123, K, zs (A), ρ) 0 0
  refine mq_iload_n d57_0 rfl rfl ?_
  refine mq_iload_n d57_1 rfl rfl ?_
  refine zr_idiv d57_2 (by omega) (by omega) ?_
  refine mq_istore_n d57_3 rfl (Nat.le_of_ble_eq_true rfl) rfl ?_
  refine mq_iload_n d57_4 rfl rfl ?_
  refine mq_iload_n d57_5 rfl rfl ?_
  refine zr_irem d57_6 (by omega) (by omega) ?_
  refine zq_if_ge (tgt := 16) d57_7 (by decide) (by omega) (fun g => ?_) (fun g => ?_)
  · refine mq_iload_n d57_16 rfl rfl ?_
    refine zg_reti d57_17 rfl ?_
    exact kk
  · omega
/-- places of the model -/
def mpI (A : Nat → Nat → Int) (Q : Nat → Int → Prop) (r pl : Nat → Int) (l i : Nat) : Prop := ∀ x : Nat, plP Q r l i x → A 115 x = pl x ∧ 0 ≤ pl x ∧ pl x ≤ 6000
set_option maxRecDepth 100000 in
theorem mp_1 (L : Lay K ρ) (hx : cxO Q sz h N g pu pd) (hp : pcM A N g pu pd) (hw : ∀ k, k < h → ∀ x : Nat, Q k (x : Nat) → (x < 12 → A 94 x = w x) ∧ (¬ x < 12 → w x = 1) ∧ 1 ≤ w x ∧ w x ≤ 9) {x : Nat} (h72 : x < 72) {pl : Nat → Int} (hpl : ∀ p, p < N → pd p = x → A 115 (pu p) = pl (pu p) ∧ 0 ≤ pl (pu p) ∧ pl (pu p) ≤ 6000) {l i : Nat} {e : Int}
    (kk : mj_W (mj_lv (d + 1)) prog_11_method_34_code 9 0 0 0 post 107 [some (.inr (.inl (some 93))), some (.inl (iZ ((h : Nat)))), some (.inl (iZ ((l : Nat)))), some (.inl (iZ (e))), some (.inl (iZ ((i : Nat)))), some (.inl (iZ ((x : Nat)))), some (.inl (iZ (cnt (fun p => if pd p = x then 2 * pl (pu p) + w (pu p) else 0) N))), some (.inl (iZ (mdN pd N x))), some (.inl (iZ ((N : Nat))))] [] (123, K, zs (A), ρ) 0 0) : ∀ (j p : Nat), N - p < j → p ≤ N → mj_W (mj_lv (d + 1)) prog_11_method_34_code 9 0 0 0 post 46 [some (.inr (.inl (some 93))), some (.inl (iZ ((h : Nat)))), some (.inl (iZ ((l : Nat)))), some (.inl (iZ (e))), some (.inl (iZ ((i : Nat)))), some (.inl (iZ ((x : Nat)))), some (.inl (iZ (cnt (fun p => if pd p = x then 2 * pl (pu p) + w (pu p) else 0) p))), some (.inl (iZ (mdN pd p x))), some (.inl (iZ ((p : Nat))))] [] (123, K, zs (A), ρ) 0 0
  | 0, p, hj, _ => absurd hj (by omega)
  | j + 1, p, hj, hpN => by
    have h84 := hx.2.2.1
    obtain ⟨h22, hP⟩ := id hp
    refine mq_iload d58_46 rfl ?_
    refine mq_aload_n d58_48 rfl rfl ?_
    refine zg_getIe L ((N : Nat)) d58_49 rfl rfl (by decide) rfl (h22) ?_
    refine zq_icmp_ge (tgt := 107) d58_52 (by decide) (by omega) (by omega) (fun g1 => ?_) (fun g1 => ?_)
    · have e : p = N := by omega
      subst e
      exact kk
    · have hpl2 : p < N := by omega
      obtain ⟨p1, p2, p3, p4, p5, p6⟩ := hP p hpl2
      have eS : cnt (fun p => if pd p = x then 2 * pl (pu p) + w (pu p) else 0) (p + 1) = cnt (fun p => if pd p = x then 2 * pl (pu p) + w (pu p) else 0) p + (if pd p = x then 2 * pl (pu p) + w (pu p) else 0) := rfl
      have eN : mdN pd (p + 1) x = mdN pd p x + (if pd p = x then 1 else 0) := rfl
      have fin := mp_1 L hx hp hw h72 hpl kk j (p + 1) (by omega) (by omega)
      rw [eS, eN] at fin
      refine mq_aload_n d58_55 rfl rfl ?_
      refine zg_getR L 110 d58_56 rfl rfl (by decide) rfl (by decide) rfl ?_
      refine mq_iload d58_59 rfl ?_
      refine zr_ialdV L ((pd p : Nat)) d58_61 (by decide) rfl (by omega) (p2) ?_
      refine mq_iload d58_62 rfl ?_
      refine zq_icmp_ne (tgt := 101) d58_64 (by decide) (by omega) (by omega) (fun g2 => ?_) (fun g2 => ?_)
      · rw [if_neg (by omega), if_neg (by omega), Int.add_zero, Int.add_zero] at fin
        refine zq_iinc d58_101 rfl rfl ?_
        refine mq_goto (tgt := 46) d58_104 (by decide) ?_
        exact fin
      · have e1 : pd p = x := by omega
        rw [if_pos e1, if_pos e1] at fin
        obtain ⟨w1, w2, w3⟩ := hw (g p) (by have := (hx.2.2.2.2.2.1 p hpl2).2.2; omega) (pu p) (hx.2.2.2.2.2.1 p hpl2).1
        refine mq_iload d58_67 rfl ?_
        refine zq_iconst d58_69 ?_
        refine mq_aload_n d58_70 rfl rfl ?_
        refine zg_getR L 115 d58_71 rfl rfl (by decide) rfl (by decide) rfl ?_
        refine mq_aload_n d58_74 rfl rfl ?_
        refine zg_getR L 109 d58_75 rfl rfl (by decide) rfl (by decide) rfl ?_
        refine mq_iload d58_78 rfl ?_
        refine zr_ialdV L ((pu p : Nat)) d58_80 (by decide) rfl (by omega) (p1) ?_
        refine zr_ialdV L (pl (pu p)) d58_81 (by decide) rfl (by omega) ((hpl p hpl2 e1).1) ?_
        refine zq_imul d58_82 ?_
        refine mq_aload_n d58_83 rfl rfl ?_
        refine mq_aload_n d58_84 rfl rfl ?_
        refine zg_getR L 109 d58_85 rfl rfl (by decide) rfl (by decide) rfl ?_
        refine mq_iload d58_88 rfl ?_
        refine zr_ialdV L ((pu p : Nat)) d58_90 (by decide) rfl (by omega) (p1) ?_
        refine zg_callV (c := 93) L [_] d58_91 rfl rfl ⟨rfl, rfl⟩ rfl ⟨rfl, rfl⟩ ⟨by decide, by decide⟩ (by decide) rfl ?_
        refine s_widthOf L p4 w1 w2 ?_
        refine zq_iadd d58_94 ?_
        refine zq_iadd d58_95 ?_
        refine mq_istore d58_96 (Nat.le_of_ble_eq_true rfl) rfl ?_
        refine zq_iinc d58_98 rfl rfl ?_
        refine zq_iinc d58_101 rfl rfl ?_
        refine mq_goto (tgt := 46) d58_104 (by decide) ?_
        exact fin
set_option maxRecDepth 100000 in
theorem mp_2 (L : Lay K ρ) (hx : cxO Q sz h N g pu pd) (hp : pcM A N g pu pd) (hz : wok Q sz h z) (hr : roM A Q sz h z) (hw : ∀ k, k < h → ∀ x : Nat, Q k (x : Nat) → (x < 12 → A 94 x = w x) ∧ (¬ x < 12 → w x = 1) ∧ 1 ≤ w x ∧ w x ≤ 9) {l : Nat} (hl : l < h) {pl : Nat → Int} (hplB : ∀ p, p < N → g p + 1 = l → 0 ≤ 2 * pl (pu p) + w (pu p) ∧ 2 * pl (pu p) + w (pu p) ≤ 2 * (500 * l)) (hB : ∀ k, k < l → ∀ x : Nat, Q k (x : Nat) → 0 ≤ pl x ∧ pl x ≤ 6000)
    (kk : ∀ A2 x3 x4 x5 x6 x7 x8, eo [115] A A2 → mpI A2 Q (z.1 l) (rwP pu pd N w (z.1 l) pl (sz l)) l (sz l) → (∀ y, x5 = some y → ∃ w, y = .inl w) → (∀ y, x6 = some y → ∃ w, y = .inl w) → (∀ y, x7 = some y → ∃ w, y = .inl w) → (∀ y, x8 = some y → ∃ w, y = .inl w) → mj_W (mj_lv (d + 1)) prog_11_method_34_code 9 0 0 0 post 216 [some (.inr (.inl (some 93))), some (.inl (iZ ((h : Nat)))), some (.inl (iZ ((l : Nat)))), some (.inl x3), some (.inl x4), x5, x6, x7, x8] [] (123, K, zs (A2), ρ) 0 0) : ∀ (j i : Nat) (A2 : Nat → Nat → Int) (e : Int) (x5 x6 x7 x8 : Option mj_V), sz l - i < j → i ≤ sz l → (∀ y, x5 = some y → ∃ w, y = .inl w) → (∀ y, x6 = some y → ∃ w, y = .inl w) → (∀ y, x7 = some y → ∃ w, y = .inl w) → (∀ y, x8 = some y → ∃ w, y = .inl w) → eo [115] A A2 → mpI A2 Q (z.1 l) (rwP pu pd N w (z.1 l) pl i) l i → (0 < i → e + 1 = frP w (z.1 l) (rwP pu pd N w (z.1 l) pl i) i) → mj_W (mj_lv (d + 1)) prog_11_method_34_code 9 0 0 0 post 12 [some (.inr (.inl (some 93))), some (.inl (iZ ((h : Nat)))), some (.inl (iZ ((l : Nat)))), some (.inl (iZ (e))), some (.inl (iZ ((i : Nat)))), x5, x6, x7, x8] [] (123, K, zs (A2), ρ) 0 0
  | 0, i, _, _, _, _, _, _, hj, _, _, _, _, _, _, _, _ => absurd hj (by omega)
  | j + 1, i, A2, e, x5, x6, x7, x8, hj, hi, hx5, hx6, hx7, hx8, hE, hI, he => by
    have m0 : i < sz l → sz l - (i + 1) < j := by omega
    obtain ⟨x1, x2, x3, y4, y5, y6, y7⟩ := id hx
    obtain ⟨r1, r2, r3⟩ := id hr
    obtain ⟨⟨p1, p2, p3⟩, p4⟩ := hz l hl
    have s36 := x2 l hl
    refine mq_iload d58_12 rfl ?_
    refine mq_aload_n d58_14 rfl rfl ?_
    refine zg_getR L 112 d58_15 rfl rfl (by decide) rfl (by decide) rfl ?_
    refine mq_iload_n d58_18 rfl rfl ?_
    refine zr_ialdV L ((sz l : Nat)) d58_19 (by decide) rfl (by omega) ((by rw [hE 112 rfl]; exact r1 l hl)) ?_
    refine zq_icmp_ge (tgt := 216) d58_20 (by decide) (by omega) (by omega) (fun g1 => ?_) (fun g1 => ?_)
    · have e : i = sz l := by omega
      subst e
      exact kk A2 _ _ x5 x6 x7 x8 hE hI hx5 hx6 hx7 hx8
    · have his : i < sz l := by omega
      obtain ⟨x, hxe⟩ : ∃ x : Nat, z.1 l i = (x : Nat) := ⟨(z.1 l i).toNat, by have := y4 l _ (p1 i his); omega⟩
      have hq : Q l (x : Nat) := by rw [← hxe]; exact p1 i his
      have x72 : x < 72 := by have := y4 l _ hq; omega
      obtain ⟨w1, w2, w3, w4⟩ := hw l hl x hq
      have gk : ∀ p, p < N → pd p = x → g p + 1 = l := fun p hp3 e => (y5 _ _ _ _ (y6 p hp3).2.1 hq (by rw [e])).1
      have hpA : pcM A2 N g pu pd := by
        unfold pcM
        rw [hE 93 rfl, hE 109 rfl, hE 110 rfl, hE 106 rfl]
        exact hp
      have hplA : ∀ p, p < N → pd p = x → A2 115 (pu p) = pl (pu p) ∧ 0 ≤ pl (pu p) ∧ pl (pu p) ≤ 6000 := fun p hp3 e => by
        have hqp := (y6 p hp3).1
        have hg := gk p hp3 e
        have a := hI (pu p) (Or.inl ⟨g p, by omega, hqp⟩)
        have nr : rwP pu pd N w (z.1 l) pl i (pu p) = pl (pu p) := rwP_off (fun b hb q => by
          have := (y5 _ _ _ _ (p1 b (by omega)) hqp (by rw [q]; omega)).1
          omega)
        have b := hB (g p) (by omega) (pu p) hqp
        exact ⟨a.1.trans nr, b.1, b.2⟩
      have n0 := mdN_nn (pd := pd) (N := N) (x := x)
      have n1 := mdN_le (pd := pd) (N := N) (x := x)
      have hsum := sum_rng (pd := pd) (x := x) (N := N) (f := fun p => 2 * pl (pu p) + w (pu p)) (C := 2 * (500 * l)) (fun p hp3 e => hplB p hp3 (gk p hp3 e))
      have hsum' : 0 ≤ cnt (fun p => if pd p = x then 2 * pl (pu p) + w (pu p) else 0) N ∧ cnt (fun p => if pd p = x then 2 * pl (pu p) + w (pu p) else 0) N ≤ 2 * (500 * l) * mdN pd N x := hsum
      have hb : 2 * (500 * (l : Int)) * mdN pd N x ≤ 12000 * 84 := Int.mul_le_mul (by omega) (by omega) n0 (by decide)
      have hwr := wnt_rng (pu := pu) (pd := pd) (N := N) (w := w) (pl := pl) (x := x) (C := 2 * (500 * l)) (by omega) (by omega) (fun p hp3 e => hplB p hp3 (gk p hp3 e))
      obtain ⟨F, hF⟩ : ∃ F, F = frP w (z.1 l) (rwP pu pd N w (z.1 l) pl i) i := ⟨_, rfl⟩
      have rng := rwP_rng (pu := pu) (pd := pd) (N := N) (w := w) (r := z.1 l) (pl := pl) (s := sz l) (C := 500 * l) (by omega) (fun a b ha hb q => p2 a b ha hb (y5 _ _ _ _ (p1 a ha) (p1 b hb) q).2) (fun b hb => (hw l hl _ (by have := y4 l _ (p1 b hb); rw [Int.toNat_of_nonneg this.1]; exact p1 b hb)).2.2) (fun b hb p hp3 e => hplB p hp3 (by
        have := (y5 _ _ _ _ (y6 p hp3).2.1 (p1 b hb) (by rw [e]; omega)).1
        omega))
      have hfr : 0 ≤ F ∧ F ≤ 500 * l + 12 * i ∧ (i = 0 → F = 0) := by
        rw [hF]
        cases i with
        | zero =>
          show (0 : Int) ≤ 0 ∧ (0 : Int) ≤ _ ∧ _
          exact ⟨by omega, by omega, fun _ => rfl⟩
        | succ k =>
          have hk := y4 l _ (p1 k (by omega))
          have hk2 := hw l hl (z.1 l k).toNat (by rw [Int.toNat_of_nonneg hk.1]; exact p1 k (by omega))
          have hp3 := rng (k + 1) (by omega) k (by omega)
          show 0 ≤ rwP pu pd N w (z.1 l) pl (k + 1) (z.1 l k).toNat + w (z.1 l k).toNat + 1 ∧ rwP pu pd N w (z.1 l) pl (k + 1) (z.1 l k).toNat + w (z.1 l k).toNat + 1 ≤ _ ∧ _
          exact ⟨by omega, by omega, fun q => by omega⟩
      rw [← hF] at he
      have okL : ∀ (v : Option mj_V), (∀ y, v = some y → ∃ w, y = .inl w) → v = none ∨ ∃ w, v = some (.inl w) := fun v hv => by
        cases v with
        | none => exact Or.inl rfl
        | some y =>
          obtain ⟨w, rfl⟩ := hv y rfl
          exact Or.inr ⟨w, rfl⟩
      have st : ∀ u v v2 : Int, mj_ok [some (.inr (.inl (some 93))), some (.inl (iZ ((h : Nat)))), some (.inl (iZ ((l : Nat)))), some (.inl (iZ (e))), some (.inl (iZ ((i : Nat)))), x5, x6, x7, x8] 5 = true ∧ mj_ok [some (.inr (.inl (some 93))), some (.inl (iZ ((h : Nat)))), some (.inl (iZ ((l : Nat)))), some (.inl (iZ (e))), some (.inl (iZ ((i : Nat)))), some (.inl (iZ (u))), x6, x7, x8] 6 = true ∧ mj_ok [some (.inr (.inl (some 93))), some (.inl (iZ ((h : Nat)))), some (.inl (iZ ((l : Nat)))), some (.inl (iZ (e))), some (.inl (iZ ((i : Nat)))), some (.inl (iZ (u))), some (.inl (iZ (v))), x7, x8] 7 = true ∧ mj_ok [some (.inr (.inl (some 93))), some (.inl (iZ ((h : Nat)))), some (.inl (iZ ((l : Nat)))), some (.inl (iZ (e))), some (.inl (iZ ((i : Nat)))), some (.inl (iZ (u))), some (.inl (iZ (v))), some (.inl (iZ (v2))), x8] 8 = true := fun u v v2 => by
        rcases okL x5 hx5 with e1 | ⟨w, e1⟩ <;> rcases okL x6 hx6 with e2 | ⟨w2, e2⟩ <;> rcases okL x7 hx7 with e3 | ⟨w3, e3⟩ <;> rcases okL x8 hx8 with e4 | ⟨w4, e4⟩ <;> rw [e1, e2, e3, e4] <;> exact ⟨rfl, rfl, rfl, rfl⟩
      obtain ⟨V, hV⟩ : ∃ V, V = if F < wnt pu pd N w pl x then wnt pu pd N w pl x else F := ⟨_, rfl⟩
      have V0 : 0 ≤ V ∧ V ≤ 500 * l + 12 * i := by
        rw [hV]
        split <;> omega
      have eP : rwP pu pd N w (z.1 l) pl (i + 1) = upf (rwP pu pd N w (z.1 l) pl i) x V := by
        show upf (rwP pu pd N w (z.1 l) pl i) (z.1 l i).toNat _ = _
        rw [hxe, Int.toNat_natCast, hV, hF]
      have nx : ∀ y, plP Q (z.1 l) l i y → y ≠ x := fun y hy e => by
        subst e
        rcases hy with ⟨k, k1, k2⟩ | ⟨k, k1, k2⟩
        · have := (y5 _ _ _ _ k2 hq rfl).1
          omega
        · have := p2 k i (by omega) his (by rw [k2, hxe])
          omega
      -- behind the place
      have put : ∀ x6' x7' x8' : Int32, mj_W (mj_lv (d + 1)) prog_11_method_34_code 9 0 0 0 post 195 [some (.inr (.inl (some 93))), some (.inl (iZ ((h : Nat)))), some (.inl (iZ ((l : Nat)))), some (.inl (iZ (e))), some (.inl (iZ ((i : Nat)))), some (.inl (iZ ((x : Nat)))), some (.inl x6'), some (.inl x7'), some (.inl x8')] [] (123, K, zs (mj_u2 A2 115 x V), ρ) 0 0 := fun x6' x7' x8' => by
        refine mq_aload_n d58_195 rfl rfl ?_
        refine zg_getR L 115 d58_196 rfl rfl (by decide) rfl (by decide) rfl ?_
        refine mq_iload d58_199 rfl ?_
        refine zr_ialdV L (V) d58_201 (by decide) rfl (by omega) (u2_self) ?_
        refine mq_aload_n d58_202 rfl rfl ?_
        refine mq_iload d58_203 rfl ?_
        refine zg_callV (c := 93) L [_] d58_205 rfl rfl ⟨rfl, rfl⟩ rfl ⟨rfl, rfl⟩ ⟨by decide, by decide⟩ (by decide) rfl ?_
        refine s_widthOf L x72 (fun q => by rw [u2_c (by decide), hE 94 rfl]; exact w1 q) w2 ?_
        refine zq_iadd d58_208 ?_
        refine mq_istore_n d58_209 rfl (Nat.le_of_ble_eq_true rfl) rfl ?_
        refine zq_iinc d58_210 rfl rfl ?_
        refine mq_goto (tgt := 12) d58_213 (by decide) ?_
        refine mp_2 L hx hp hz hr hw hl hplB hB kk j (i + 1) _ _ _ _ _ _ (m0 his) his (fun y e => ⟨_, (Option.some.inj e).symm⟩) (fun y e => ⟨_, (Option.some.inj e).symm⟩) (fun y e => ⟨_, (Option.some.inj e).symm⟩) (fun y e => ⟨_, (Option.some.inj e).symm⟩) (eo_u2 rfl hE) (fun y hy => ?_) (fun _ => ?_)
        · rw [u2_upf, eP]
          by_cases q : y = x
          · rw [q, upf_s, upf_s]
            exact ⟨rfl, V0.1, by omega⟩
          · rw [upf_n q, upf_n q]
            refine hI y ?_
            rcases hy with hy | ⟨k, k1, k2⟩
            · exact Or.inl hy
            · refine Or.inr ⟨k, ?_, k2⟩
              rcases Nat.lt_or_ge k i with r | r
              · exact r
              · have : k = i := by omega
                rw [this, hxe] at k2
                omega
        · show _ = rwP pu pd N w (z.1 l) pl (i + 1) (z.1 l i).toNat + w (z.1 l i).toNat + 1
          rw [eP, hxe, Int.toNat_natCast, upf_s]
      -- the wanted place, at 134
      have wt : ∀ c8 : Int32, mj_W (mj_lv (d + 1)) prog_11_method_34_code 9 0 0 0 post 134 [some (.inr (.inl (some 93))), some (.inl (iZ ((h : Nat)))), some (.inl (iZ ((l : Nat)))), some (.inl (iZ (e))), some (.inl (iZ ((i : Nat)))), some (.inl (iZ ((x : Nat)))), some (.inl (iZ (cnt (fun p => if pd p = x then 2 * pl (pu p) + w (pu p) else 0) N))), some (.inl (iZ (mdN pd N x))), some (.inl c8)] [.inl (iZ (wnt pu pd N w pl x))] (123, K, zs (A2), ρ) 0 0 := fun c8 => by
        have l0w : l = 0 → wnt pu pd N w pl x = 0 := fun l0 => by
          unfold wnt
          rw [if_pos]
          unfold mdN
          rw [cnt_congr (g := fun _ => 0) (fun p hp3 => if_neg (fun q => by have := gk p hp3 q; omega)), cnt_zero]
        have fin2 : ∀ c : Int, (0 < l → c = if wnt pu pd N w pl x < 0 then 0 else wnt pu pd N w pl x) → (l = 0 → c = F) → -100 ≤ c → c ≤ 20000 → mj_W (mj_lv (d + 1)) prog_11_method_34_code 9 0 0 0 post 167 [some (.inr (.inl (some 93))), some (.inl (iZ ((h : Nat)))), some (.inl (iZ ((l : Nat)))), some (.inl (iZ (e))), some (.inl (iZ ((i : Nat)))), some (.inl (iZ ((x : Nat)))), some (.inl (iZ (cnt (fun p => if pd p = x then 2 * pl (pu p) + w (pu p) else 0) N))), some (.inl (iZ (mdN pd N x))), some (.inl (iZ (c)))] [] (123, K, zs (A2), ρ) 0 0 := fun c hc hc0 c1 c2 => by
          have hcc : (0 < i ∧ c < F → V = F) ∧ (¬ (0 < i ∧ c < F) → V = c) := by
            rw [hV]
            by_cases l0 : l = 0
            · have := l0w l0
              have := hc0 l0
              constructor
              · intro q
                omega
              · intro q
                rw [if_neg (by omega)]
                omega
            · have h1 := hc (by omega)
              constructor
              · intro q
                rw [if_neg]
                intro y
                rw [if_neg (by omega)] at h1
                omega
              · intro q
                by_cases i0 : i = 0
                · have := hfr.2.2 i0
                  by_cases y : wnt pu pd N w pl x < 0
                  · rw [if_pos y] at h1
                    rw [if_neg (by omega)]
                    omega
                  · rw [if_neg y] at h1
                    by_cases y2 : F < wnt pu pd N w pl x
                    · rw [if_pos y2]
                      omega
                    · rw [if_neg y2]
                      omega
                · have q2 : F ≤ c := by omega
                  by_cases y : wnt pu pd N w pl x < 0
                  · rw [if_pos y] at h1
                    rw [if_neg (by omega)]
                    omega
                  · rw [if_neg y] at h1
                    by_cases y2 : F < wnt pu pd N w pl x
                    · rw [if_pos y2]
                      omega
                    · rw [if_neg y2]
                      omega
          refine mq_aload_n d58_167 rfl rfl ?_
          refine zg_getR L 115 d58_168 rfl rfl (by decide) rfl (by decide) rfl ?_
          refine mq_iload d58_171 rfl ?_
          refine mq_iload d58_173 rfl ?_
          refine zq_if_le (tgt := 192) d58_175 (by decide) (by omega) (fun g3 => ?_) (fun g3 => ?_)
          · rw [← hcc.2 (by omega)]
            refine mq_iload d58_192 rfl ?_
            refine zg_iastN L d58_194 (by decide) rfl (by omega) ?_
            exact put _ _ _
          · have e1 := he (by omega)
            refine mq_iload d58_178 rfl ?_
            refine mq_iload_n d58_180 rfl rfl ?_
            refine zq_iconst d58_181 ?_
            refine zq_iadd d58_182 ?_
            refine zq_icmp_ge (tgt := 192) d58_183 (by decide) (by omega) (by omega) (fun g4 => ?_) (fun g4 => ?_)
            · rw [← hcc.2 (by omega)]
              refine mq_iload d58_192 rfl ?_
              refine zg_iastN L d58_194 (by decide) rfl (by omega) ?_
              exact put _ _ _
            · refine mq_iload_n d58_186 rfl rfl ?_
              refine zq_iconst d58_187 ?_
              refine zq_iadd d58_188 ?_
              refine mq_goto (tgt := 194) d58_189 (by decide) ?_
              rw [e1, ← hcc.1 (by omega)]
              refine zg_iastN L d58_194 (by decide) rfl (by omega) ?_
              exact put _ _ _
        have mid : ∀ c : Int, c = (if wnt pu pd N w pl x < 0 then 0 else wnt pu pd N w pl x) → mj_W (mj_lv (d + 1)) prog_11_method_34_code 9 0 0 0 post 149 [some (.inr (.inl (some 93))), some (.inl (iZ ((h : Nat)))), some (.inl (iZ ((l : Nat)))), some (.inl (iZ (e))), some (.inl (iZ ((i : Nat)))), some (.inl (iZ ((x : Nat)))), some (.inl (iZ (cnt (fun p => if pd p = x then 2 * pl (pu p) + w (pu p) else 0) N))), some (.inl (iZ (mdN pd N x))), some (.inl (iZ (c)))] [] (123, K, zs (A2), ρ) 0 0 := fun c hc => by
          have cr : 0 ≤ c ∧ c ≤ 6000 := by
            rw [hc]
            split <;> omega
          refine mq_iload_n d58_149 rfl rfl ?_
          refine zq_if_ne (tgt := 167) d58_150 (by decide) (by omega) (fun g2 => ?_) (fun g2 => ?_)
          · exact fin2 c (fun _ => hc) (fun l0 => by omega) (by omega) (by omega)
          · refine mq_iload d58_153 rfl ?_
            refine zq_if_ne (tgt := 162) d58_155 (by decide) (by omega) (fun g3 => ?_) (fun g3 => ?_)
            · have e1 := he (by omega)
              refine mq_iload_n d58_162 rfl rfl ?_
              refine zq_iconst d58_163 ?_
              refine zq_iadd d58_164 ?_
              refine mq_istore d58_165 (Nat.le_of_ble_eq_true rfl) rfl ?_
              rw [e1]
              exact fin2 F (fun q => by omega) (fun _ => rfl) (by omega) (by omega)
            · have := hfr.2.2 (by omega)
              refine zq_iconst d58_158 ?_
              refine mq_goto (tgt := 165) d58_159 (by decide) ?_
              refine mq_istore d58_165 (Nat.le_of_ble_eq_true rfl) rfl ?_
              exact fin2 0 (fun q => by omega) (fun _ => by omega) (by omega) (by omega)
        refine mq_istore d58_134 (Nat.le_of_ble_eq_true rfl) rfl ?_
        refine mq_iload d58_136 rfl ?_
        refine zq_if_ge (tgt := 145) d58_138 (by decide) (by omega) (fun g2 => ?_) (fun g2 => ?_)
        · refine mq_iload d58_145 rfl ?_
          refine mq_istore d58_147 (Nat.le_of_ble_eq_true rfl) rfl ?_
          exact mid _ (by rw [if_neg (by omega)])
        · refine zq_iconst d58_141 ?_
          refine mq_goto (tgt := 147) d58_142 (by decide) ?_
          refine mq_istore d58_147 (Nat.le_of_ble_eq_true rfl) rfl ?_
          exact mid 0 (by rw [if_pos g2])
      refine mq_aload_n d58_23 rfl rfl ?_
      refine zg_getR L 111 d58_24 rfl rfl (by decide) rfl (by decide) rfl ?_
      refine zq_bipush d58_27 rfl ?_
      refine mq_iload_n d58_29 rfl rfl ?_
      refine zq_imul d58_30 ?_
      refine mq_iload d58_31 rfl ?_
      refine zq_iadd d58_33 ?_
      rw [e80]
      refine zr_ialdV L ((x : Nat)) d58_34 (by decide) rfl (by omega) ((by rw [hE 111 rfl, r2 l hl i his]; exact hxe)) ?_
      refine mq_istore d58_35 (Nat.le_of_ble_eq_true rfl) (st 0 0 0).1 ?_
      refine zq_iconst d58_37 ?_
      refine mq_istore d58_38 (Nat.le_of_ble_eq_true rfl) (st _ 0 0).2.1 ?_
      refine zq_iconst d58_40 ?_
      refine mq_istore d58_41 (Nat.le_of_ble_eq_true rfl) (st _ _ 0).2.2.1 ?_
      refine zq_iconst d58_43 ?_
      refine mq_istore d58_44 (Nat.le_of_ble_eq_true rfl) (st _ _ _).2.2.2 ?_
      refine mp_1 (A := A2) (pl := pl) L hx hpA (fun k hk y hy => by rw [hE 94 rfl]; exact hw k hk y hy) x72 hplA ?_ (N + 1) 0 (by omega) (by omega)
      refine mq_iload d58_107 rfl ?_
      refine zq_if_ne (tgt := 116) d58_109 (by decide) (by omega) (fun g2 => ?_) (fun g2 => ?_)
      · have hw0 : wnt pu pd N w pl x = cnt (fun p => if pd p = x then 2 * pl (pu p) + w (pu p) else 0) N / (2 * mdN pd N x) - w x / 2 := if_neg g2
        refine mq_iload d58_116 rfl ?_
        refine zq_iconst d58_118 ?_
        refine mq_iload d58_119 rfl ?_
        refine zq_imul d58_121 ?_
        refine zg_callS [_, _] d58_122 rfl rfl ⟨rfl, rfl⟩ rfl ⟨rfl, rfl⟩ ⟨by decide, by decide⟩ ?_
        refine s_floor (by omega) (by omega) ?_
        refine mq_aload_n d58_125 rfl rfl ?_
        refine mq_iload d58_126 rfl ?_
        refine zg_callV (c := 93) L [_] d58_128 rfl rfl ⟨rfl, rfl⟩ rfl ⟨rfl, rfl⟩ ⟨by decide, by decide⟩ (by decide) rfl ?_
        refine s_widthOf (w := w) L x72 (fun q => by rw [hE 94 rfl]; exact w1 q) w2 ?_
        have fin := wt (iZ (N : Nat))
        rw [hw0] at fin
        refine zq_iconst d58_131 ?_
        refine zr_idiv d58_132 (by omega) (by omega) ?_
        refine zq_isub d58_133 ?_
        exact fin
      · have hw0 : wnt pu pd N w pl x = 0 := if_pos g2
        have fin := wt (iZ (N : Nat))
        rw [hw0] at fin
        refine zq_iconst d58_112 ?_
        refine mq_goto (tgt := 134) d58_113 (by decide) ?_
        exact fin
end sp_mp
