section sp_pa
variable {d : Nat} {post : Option mj_V → mj_H → Prop} {K : Nat → Nat × Nat} {ρ : Nat → Nat → Option Nat} {A : Nat → Nat → Int}
section lu
variable {c co cx l : Nat} {o t : Nat → Nat}
/-- what the pieces bring their lower items -/
def luS (A : Nat → Nat → Int) (o t : Nat → Nat) (k x : Nat) : Int := cnt (fun j => if t j = x then 2 * A 85 (o j) + A 18 (o j) else 0) k
set_option maxRecDepth 100000 in
theorem lu_1 (L : Lay K ρ) (hl : l < 12) (hc : A 19 l = (c : Nat)) (ho : owO A (21 + l) (34 + l) c o t)
    (kk : ∀ A2, eo [86, 87] A A2 → (∀ x, A2 86 x = A 86 x + luS A o t c x ∧ A2 87 x = A 87 x + nnO t c x) → post none (123, K, zs (A2), ρ)) : ∀ (j i : Nat) (A2 : Nat → Nat → Int) (x4 x5 : Option mj_V), c - i < j → i ≤ c → (∀ y, x4 = some y → ∃ w, y = .inl w) → (∀ y, x5 = some y → ∃ w, y = .inl w) → eo [86, 87] A A2 → (∀ x, A2 86 x = A 86 x + luS A o t i x ∧ A2 87 x = A 87 x + nnO t i x) → mj_W (mj_lv d) prog_7_method_3_code 5 0 0 0 post 2 [some (.inr (.inl (some 84))), some (.inr (.inl (some 16))), some (.inl (iZ ((l : Nat)))), some (.inl (iZ ((i : Nat)))), x4, x5] [] (123, K, zs (A2), ρ) 0 0
  | 0, i, _, _, _, hj, _, _, _, _, _ => absurd hj (by omega)
  | j + 1, i, A2, x4, x5, hj, hi, hx4, hx5, hE, hI => by
    obtain ⟨h1, ⟨h2, h3, h4⟩, ⟨h5, h6, h7⟩, k1, k2, h8⟩ := id ho
    have e21 : A2 (21 + l) = A (21 + l) := hE _ (by simp; omega)
    have e34 : A2 (34 + l) = A (34 + l) := hE _ (by simp; omega)
    refine mq_iload_n d120_2 rfl rfl ?_
    refine mq_aload_n d120_3 rfl rfl ?_
    refine zg_getR L 19 d120_4 rfl rfl (by decide) rfl (by decide) rfl ?_
    refine mq_iload_n d120_7 rfl rfl ?_
    refine zr_ialdV L ((c : Nat)) d120_8 (by decide) rfl (by omega) ((by rw [hE 19 rfl]; exact hc)) ?_
    refine zq_icmp_ge (tgt := 76) d120_9 (by decide) (by omega) (by omega) (fun g => ?_) (fun g => ?_)
    · have e : i = c := by omega
      subst e
      refine zg_retv d120_76 (by decide) ?_
      exact kk A2 hE hI
    · obtain ⟨⟨o1, o2⟩, ⟨t1, t2⟩⟩ := h8 i (by omega)
      have okL : ∀ (v : Option mj_V), (∀ y, v = some y → ∃ w, y = .inl w) → v = none ∨ ∃ w, v = some (.inl w) := fun v hv => by
        cases v with
        | none => exact Or.inl rfl
        | some y =>
          obtain ⟨w, rfl⟩ := hv y rfl
          exact Or.inr ⟨w, rfl⟩
      have st : ∀ v : Int, mj_ok [some (.inr (.inl (some 84))), some (.inr (.inl (some 16))), some (.inl (iZ ((l : Nat)))), some (.inl (iZ ((i : Nat)))), x4, x5] 4 = true ∧ mj_ok [some (.inr (.inl (some 84))), some (.inr (.inl (some 16))), some (.inl (iZ ((l : Nat)))), some (.inl (iZ ((i : Nat)))), some (.inl (iZ (v))), x5] 5 = true := fun v => by
        rcases okL x4 hx4 with e | ⟨w, e⟩ <;> rcases okL x5 hx5 with e2 | ⟨w2, e2⟩ <;> rw [e, e2] <;> exact ⟨rfl, rfl⟩
      refine mq_aload_n d120_12 rfl rfl ?_
      refine zg_getR L 20 d120_13 rfl rfl (by decide) rfl (by decide) rfl ?_
      refine mq_iload_n d120_16 rfl rfl ?_
      refine zr_aald L (21 + l) d120_17 (by decide) rfl (by omega) (rf20 hl) ?_
      refine mq_iload_n d120_18 rfl rfl ?_
      refine zr_ialdV L ((o i : Nat)) d120_19 (by omega) (k1) (by omega) ((by rw [e21]; exact o1)) ?_
      refine mq_istore d120_20 (Nat.le_of_ble_eq_true rfl) (st 0).1 ?_
      refine mq_aload_n d120_22 rfl rfl ?_
      refine zg_getR L 33 d120_23 rfl rfl (by decide) rfl (by decide) rfl ?_
      refine mq_iload_n d120_26 rfl rfl ?_
      refine zr_aald L (34 + l) d120_27 (by decide) rfl (by omega) (rf33 hl) ?_
      refine mq_iload_n d120_28 rfl rfl ?_
      refine zr_ialdV L ((t i : Nat)) d120_29 (by omega) (k2) (by omega) ((by rw [e34]; exact t1)) ?_
      refine mq_istore d120_30 (Nat.le_of_ble_eq_true rfl) (st _).2 ?_
      refine mq_aload_n d120_32 rfl rfl ?_
      refine zg_getR L 86 d120_33 rfl rfl (by decide) rfl (by decide) rfl ?_
      refine mq_iload d120_36 rfl ?_
      refine mq_dup2 d120_38 rfl rfl ?_
      refine zg_ialdN L d120_39 (by decide) rfl (by omega) ?_
      refine zq_iconst d120_40 ?_
      refine mq_aload_n d120_41 rfl rfl ?_
      refine zg_getR L 85 d120_42 rfl rfl (by decide) rfl (by decide) rfl ?_
      refine mq_iload d120_45 rfl ?_
      refine zr_ialdV L (A 85 (o i)) d120_47 (by decide) rfl (by omega) ((by rw [hE 85 rfl])) ?_
      refine zq_imul d120_48 ?_
      refine mq_aload_n d120_49 rfl rfl ?_
      refine zg_getR L 18 d120_50 rfl rfl (by decide) rfl (by decide) rfl ?_
      refine mq_iload d120_53 rfl ?_
      refine zr_ialdV L (A 18 (o i)) d120_55 (by decide) rfl (by omega) ((by rw [hE 18 rfl])) ?_
      refine zq_iadd d120_56 ?_
      refine zq_iadd d120_57 ?_
      refine zg_iastN L d120_58 (by decide) rfl (by omega) ?_
      refine mq_aload_n d120_59 rfl rfl ?_
      refine zg_getR L 87 d120_60 rfl rfl (by decide) rfl (by decide) rfl ?_
      refine mq_iload d120_63 rfl ?_
      refine mq_dup2 d120_65 rfl rfl ?_
      refine zg_ialdN L d120_66 (by decide) rfl (by omega) ?_
      refine zq_iconst d120_67 ?_
      refine zq_iadd d120_68 ?_
      refine zg_iastN L d120_69 (by decide) rfl (by omega) ?_
      refine zq_iinc d120_70 rfl rfl ?_
      refine mq_goto (tgt := 2) d120_73 (by decide) ?_
      refine lu_1 L hl hc ho kk j (i + 1) _ _ _ (by omega) (by omega) (fun y e => ⟨_, (Option.some.inj e).symm⟩) (fun y e => ⟨_, (Option.some.inj e).symm⟩) (eo_u2 rfl (eo_u2 rfl hE)) (fun x => ?_)
      have hb2 := hI x
      have es : luS A o t (i + 1) x = luS A o t i x + (if t i = x then 2 * A 85 (o i) + A 18 (o i) else 0) := rfl
      have en : nnO t (i + 1) x = nnO t i x + (if t i = x then 1 else 0) := rfl
      rw [u2_c (by decide), u2_upf, u2_upf, es, en]
      unfold upf
      by_cases q : x = t i
      · rw [if_pos q, if_pos q, if_pos q.symm, if_pos q.symm, ← q, u2_c (by decide), hb2.1, hb2.2]
        omega
      · rw [if_neg q, if_neg q, if_neg (fun y => q y.symm), if_neg (fun y => q y.symm), u2_c (by decide), hb2.1, hb2.2]
        omega
set_option maxRecDepth 100000 in
theorem s_lookUp (L : Lay K ρ) (hl : l < 12) (hc : A 19 l = (c : Nat)) (ho : owO A (21 + l) (34 + l) c o t)
    (kk : ∀ A2, eo [86, 87] A A2 → (∀ x, A2 86 x = A 86 x + luS A o t c x ∧ A2 87 x = A 87 x + nnO t c x) → post none (123, K, zs (A2), ρ)) : mj_lv (d + 1) m_Places_lookUp [.inr (.inl (some 84)), .inr (.inl (some 16)), .inl (iZ (l : Nat))] (123, K, zs (A), ρ) post := by
  show mj_W (mj_lv d) prog_7_method_3_code 5 0 0 0 post 0 [some (.inr (.inl (some 84))), some (.inr (.inl (some 16))), some (.inl (iZ ((l : Nat)))), none, none, none] [] (123, K, zs (A), ρ) 0 0
  refine zq_iconst d120_0 ?_
  refine mq_istore_n d120_1 rfl (Nat.le_of_ble_eq_true rfl) rfl ?_
  exact lu_1 L hl hc ho kk (c + 1) 0 A _ _ (by omega) (by omega) (fun y e => absurd e (by simp)) (fun y e => absurd e (by simp)) eo_refl (fun x => ⟨by show A 86 x = A 86 x + 0; omega, by show A 87 x = A 87 x + 0; omega⟩)
end lu
set_option maxRecDepth 100000 in
theorem s_wanted (L : Lay K ρ) {x : Nat} {w : Int} (hx : x < 72) (hw : 0 ≤ w ∧ w ≤ 9) (h87 : 0 ≤ A 87 x ∧ A 87 x ≤ 84) (h86 : 0 ≤ A 86 x ∧ A 86 x ≤ 10000000) (kk : post (some (.inl (iZ (if A 87 x = 0 then 0 else A 86 x / (2 * A 87 x) - w / 2)))) (123, K, zs (A), ρ)) : mj_lv (d + 1) m_Places_wanted [.inr (.inl (some 84)), .inl (iZ (x : Nat)), .inl (iZ w)] (123, K, zs (A), ρ) post := by
  show mj_W (mj_lv d) prog_7_method_4_code 5 1 0 0 post 0 [some (.inr (.inl (some 84))), some (.inl (iZ ((x : Nat)))), some (.inl (iZ (w)))] [] (123, K, zs (A), ρ) 0 0
  refine mq_aload_n d121_0 rfl rfl ?_
  refine zg_getR L 87 d121_1 rfl rfl (by decide) rfl (by decide) rfl ?_
  refine mq_iload_n d121_4 rfl rfl ?_
  refine zg_ialdN L d121_5 (by decide) rfl (by omega) ?_
  refine zq_if_ne (tgt := 11) d121_6 (by decide) (by omega) (fun g => ?_) (fun g => ?_)
  · rw [if_neg g] at kk
    refine mq_aload_n d121_11 rfl rfl ?_
    refine zg_getR L 86 d121_12 rfl rfl (by decide) rfl (by decide) rfl ?_
    refine mq_iload_n d121_15 rfl rfl ?_
    refine zg_ialdN L d121_16 (by decide) rfl (by omega) ?_
    refine zq_iconst d121_17 ?_
    refine mq_aload_n d121_18 rfl rfl ?_
    refine zg_getR L 87 d121_19 rfl rfl (by decide) rfl (by decide) rfl ?_
    refine mq_iload_n d121_22 rfl rfl ?_
    refine zg_ialdN L d121_23 (by decide) rfl (by omega) ?_
    refine zq_imul d121_24 ?_
    refine zr_idiv d121_25 (by omega) (by omega) ?_
    refine mq_iload_n d121_26 rfl rfl ?_
    refine zq_iconst d121_27 ?_
    refine zr_idiv d121_28 (by omega) (by omega) ?_
    refine zq_isub d121_29 ?_
    refine zg_reti d121_30 rfl ?_
    exact kk
  · rw [if_pos g] at kk
    refine zq_iconst d121_9 ?_
    refine zg_reti d121_10 rfl ?_
    exact kk
section as
variable {Q : Nat → Int → Prop} {sz : Nat → Nat} {h N : Nat} {g pu pd : Nat → Nat} {z : wSt} {w : Nat → Int}
/-- already placed, at item i of layer l -/
def plP (Q : Nat → Int → Prop) (r : Nat → Int) (l i x : Nat) : Prop := (∃ k, k < l ∧ Q k (x : Nat)) ∨ ∃ j, j < i ∧ r j = (x : Nat)
/-- places and the right end so far -/
def plI (A : Nat → Nat → Int) (Q : Nat → Int → Prop) (r w : Nat → Int) (pl : Nat → Int) (l i : Nat) : Prop := (∀ x : Nat, plP Q r l i x → A 85 x = pl x ∧ 0 ≤ pl x ∧ pl x ≤ 500 * l + 12 * i ∧ pl x + w x ≤ A 84 3) ∧ (A 84 3 = 0 ∨ ∃ x : Nat, plP Q r l i x ∧ A 84 3 = pl x + w x) ∧ 0 ≤ A 84 3 ∧ A 84 3 ≤ 10000
/-- the sums of the items of layer l -/
def plS (A : Nat → Nat → Int) (Q : Nat → Int → Prop) (pu pd : Nat → Nat) (N : Nat) (w pl : Nat → Int) (l : Nat) : Prop := ∀ x : Nat, Q l (x : Nat) → A 86 x = cnt (fun p => if pd p = x then 2 * pl (pu p) + w (pu p) else 0) N ∧ A 87 x = mdN pd N x
/-- of the layers below -/
def plZ (A : Nat → Nat → Int) (Q : Nat → Int → Prop) (h l : Nat) : Prop := ∀ k, l ≤ k → k < h → ∀ x : Nat, Q k (x : Nat) → A 86 x = 0 ∧ A 87 x = 0
set_option maxRecDepth 100000 in
theorem pa_1 (L : Lay K ρ) (hx : cxO Q sz h N g pu pd) (hz : wok Q sz h z) (hr : roC A Q sz h z) (h18 : ∀ x, x < 72 → A 18 x = w x ∧ 1 ≤ w x ∧ w x ≤ 9) {l : Nat} (hl : l < h) {pl : Nat → Int} (hpl : ∀ p, p < N → g p + 1 = l → 0 ≤ 2 * pl (pu p) + w (pu p) ∧ 2 * pl (pu p) + w (pu p) ≤ 2 * (500 * l)) (hS : plS A Q pu pd N w pl l) (hZ : plZ A Q h (l + 1))
    (kk : ∀ A2 x4 x5 x6 x7, eo [84, 85] A A2 → plI A2 Q (z.1 l) w (rwP pu pd N w (z.1 l) pl (sz l)) l (sz l) → (∀ y, x6 = some y → ∃ w, y = .inl w) → (∀ y, x7 = some y → ∃ w, y = .inl w) → mj_W (mj_lv (d + 1)) prog_7_method_2_code 5 0 0 0 post 141 [some (.inr (.inl (some 84))), some (.inr (.inl (some 16))), some (.inr (.inl (some 46))), some (.inl (iZ ((l : Nat)))), some (.inl x4), some (.inl x5), x6, x7] [] (123, K, zs (A2), ρ) 0 0) : ∀ (j i : Nat) (A2 : Nat → Nat → Int) (x6 x7 : Option mj_V), sz l - i < j → i ≤ sz l → (∀ y, x6 = some y → ∃ w, y = .inl w) → (∀ y, x7 = some y → ∃ w, y = .inl w) → eo [84, 85] A A2 → plI A2 Q (z.1 l) w (rwP pu pd N w (z.1 l) pl i) l i → mj_W (mj_lv (d + 1)) prog_7_method_2_code 5 0 0 0 post 49 [some (.inr (.inl (some 84))), some (.inr (.inl (some 16))), some (.inr (.inl (some 46))), some (.inl (iZ ((l : Nat)))), some (.inl (iZ (frP w (z.1 l) (rwP pu pd N w (z.1 l) pl i) i))), some (.inl (iZ ((i : Nat)))), x6, x7] [] (123, K, zs (A2), ρ) 0 0
  | 0, i, _, _, _, hj, _, _, _, _, _ => absurd hj (by omega)
  | j + 1, i, A2, x6, x7, hj, hi, hx6, hx7, hE, hI => by
    have m0 : i < sz l → sz l - (i + 1) < j := by omega
    have m1 : i < sz l → i + 1 ≤ sz l := by omega
    obtain ⟨x1, x2, x3, x4, x5, x6', x7'⟩ := id hx
    obtain ⟨r0, r1, r2, r3⟩ := id hr
    obtain ⟨⟨p1, p2, p3⟩, p4⟩ := hz l hl
    obtain ⟨i1, i2, i3⟩ := id hI
    have s36 := x2 l hl
    have e49 : A2 (49 + l) = A (49 + l) := hE _ (by simp; omega)
    refine mq_iload d119_49 rfl ?_
    refine mq_aload_n d119_51 rfl rfl ?_
    refine zg_getR L 47 d119_52 rfl rfl (by decide) rfl (by decide) rfl ?_
    refine mq_iload_n d119_55 rfl rfl ?_
    refine zr_ialdV L ((sz l : Nat)) d119_56 (by decide) rfl (by omega) ((by rw [hE 47 rfl]; exact r1 l hl)) ?_
    refine zq_icmp_ge (tgt := 141) d119_57 (by decide) (by omega) (by omega) (fun g1 => ?_) (fun g1 => ?_)
    · have e : i = sz l := by omega
      subst e
      exact kk A2 _ _ x6 x7 hE hI hx6 hx7
    · have his : i < sz l := by omega
      obtain ⟨x, hxe⟩ : ∃ x : Nat, z.1 l i = (x : Nat) := ⟨(z.1 l i).toNat, by have := x4 l _ (p1 i his); omega⟩
      have hq : Q l (x : Nat) := by rw [← hxe]; exact p1 i his
      have x72 : x < 72 := by have := x4 l _ hq; omega
      obtain ⟨w1, w2, w3⟩ := h18 x x72
      obtain ⟨t1, t2⟩ := hS x hq
      have n0 := mdN_nn (pd := pd) (N := N) (x := x)
      have n1 := mdN_le (pd := pd) (N := N) (x := x)
      have hsum := sum_rng (pd := pd) (x := x) (N := N) (f := fun p => 2 * pl (pu p) + w (pu p)) (C := 2 * (500 * l)) (fun p hp e => hpl p hp (by
        have := (x5 _ _ _ _ (x6' p hp).2.1 hq (by rw [e])).1
        omega))
      have hsum' : 0 ≤ cnt (fun p => if pd p = x then 2 * pl (pu p) + w (pu p) else 0) N ∧ cnt (fun p => if pd p = x then 2 * pl (pu p) + w (pu p) else 0) N ≤ 2 * (500 * l) * mdN pd N x := hsum
      have hb : 2 * (500 * (l : Int)) * mdN pd N x ≤ 12000 * 84 := Int.mul_le_mul (by omega) (by omega) n0 (by decide)
      have hwr := wnt_rng (pu := pu) (pd := pd) (N := N) (w := w) (pl := pl) (x := x) (C := 2 * (500 * l)) (by omega) (by omega) (fun p hp e => hpl p hp (by
        have := (x5 _ _ _ _ (x6' p hp).2.1 hq (by rw [e])).1
        omega))
      have ew : (if A2 87 x = 0 then 0 else A2 86 x / (2 * A2 87 x) - w x / 2) = wnt pu pd N w pl x := by
        rw [hE 86 rfl, hE 87 rfl, t1, t2]
        rfl
      have okL : ∀ (v : Option mj_V), (∀ y, v = some y → ∃ w, y = .inl w) → v = none ∨ ∃ w, v = some (.inl w) := fun v hv => by
        cases v with
        | none => exact Or.inl rfl
        | some y =>
          obtain ⟨w, rfl⟩ := hv y rfl
          exact Or.inr ⟨w, rfl⟩
      have st : ∀ u v : Int, mj_ok [some (.inr (.inl (some 84))), some (.inr (.inl (some 16))), some (.inr (.inl (some 46))), some (.inl (iZ ((l : Nat)))), some (.inl (iZ (u))), some (.inl (iZ ((i : Nat)))), x6, x7] 6 = true ∧ mj_ok [some (.inr (.inl (some 84))), some (.inr (.inl (some 16))), some (.inr (.inl (some 46))), some (.inl (iZ ((l : Nat)))), some (.inl (iZ (u))), some (.inl (iZ ((i : Nat)))), some (.inl (iZ (v))), x7] 7 = true := fun u v => by
        rcases okL x6 hx6 with e | ⟨w, e⟩ <;> rcases okL x7 hx7 with e2 | ⟨w2, e2⟩ <;> rw [e, e2] <;> exact ⟨rfl, rfl⟩
      have hfr : 0 ≤ frP w (z.1 l) (rwP pu pd N w (z.1 l) pl i) i ∧ frP w (z.1 l) (rwP pu pd N w (z.1 l) pl i) i ≤ 500 * l + 12 * i := by
        cases i with
        | zero =>
          show (0 : Int) ≤ 0 ∧ (0 : Int) ≤ _
          omega
        | succ k =>
          have hk := x4 l _ (p1 k (by omega))
          have hp2 := i1 (z.1 l k).toNat (Or.inr ⟨k, by omega, by omega⟩)
          have hk2 := h18 (z.1 l k).toNat (by omega)
          show 0 ≤ rwP pu pd N w (z.1 l) pl (k + 1) (z.1 l k).toNat + w (z.1 l k).toNat + 1 ∧ rwP pu pd N w (z.1 l) pl (k + 1) (z.1 l k).toNat + w (z.1 l k).toNat + 1 ≤ _
          have hp3 : rwP pu pd N w (z.1 l) pl (k + 1) (z.1 l k).toNat ≤ 500 * l + 12 * k := by
            have hrr := rwP_rng (pu := pu) (pd := pd) (N := N) (w := w) (r := z.1 l) (pl := pl) (s := sz l) (C := 500 * l) (by omega) (fun a b ha hb q => p2 a b ha hb (x5 _ _ _ _ (p1 a ha) (p1 b hb) q).2) (fun b hb => (h18 _ (by have := x4 l _ (p1 b hb); omega)).2) (fun b hb p hp e => hpl p hp (by
              have := (x5 _ _ _ _ (x6' p hp).2.1 (p1 b hb) (by rw [e]; omega)).1
              omega)) (k + 1) (by omega) k (by omega)
            exact hrr.2
          omega
      obtain ⟨F, hF⟩ : ∃ F, F = frP w (z.1 l) (rwP pu pd N w (z.1 l) pl i) i := ⟨_, rfl⟩
      rw [← hF] at hfr ⊢
      refine mq_aload_n d119_60 rfl rfl ?_
      refine zg_getR L 48 d119_61 rfl rfl (by decide) rfl (by decide) rfl ?_
      refine mq_iload_n d119_64 rfl rfl ?_
      refine zr_aald L (49 + l) d119_65 (by decide) rfl (by omega) (rf48 (by omega)) ?_
      refine mq_iload d119_66 rfl ?_
      refine zr_ialdV L ((x : Nat)) d119_68 (by omega) (kd49 (by omega)) (by omega) ((by rw [e49, r2 l hl i his]; exact hxe)) ?_
      refine mq_istore d119_69 (Nat.le_of_ble_eq_true rfl) (st _ 0).1 ?_
      refine mq_aload_n d119_71 rfl rfl ?_
      refine zg_getR L 18 d119_72 rfl rfl (by decide) rfl (by decide) rfl ?_
      refine mq_iload d119_75 rfl ?_
      refine zr_ialdV L (w x) d119_77 (by decide) rfl (by omega) ((by rw [hE 18 rfl]; exact w1)) ?_
      refine mq_istore d119_78 (Nat.le_of_ble_eq_true rfl) (st _ _).2 ?_
      refine mq_aload_n d119_80 rfl rfl ?_
      refine zg_getR L 85 d119_81 rfl rfl (by decide) rfl (by decide) rfl ?_
      refine mq_iload d119_84 rfl ?_
      refine mq_iload d119_86 rfl ?_
      refine mq_aload_n d119_88 rfl rfl ?_
      refine mq_iload d119_89 rfl ?_
      refine mq_iload d119_91 rfl ?_
      refine zg_callV (c := 84) L [_, _] d119_93 rfl rfl ⟨rfl, rfl⟩ rfl ⟨rfl, rfl⟩ ⟨by decide, by decide⟩ (by decide) rfl ?_
      refine s_wanted L x72 (by omega) (by rw [hE 87 rfl, t2]; omega) (by rw [hE 86 rfl, t1]; omega) ?_
      rw [ew]
      obtain ⟨V, hV⟩ : ∃ V, V = if F < wnt pu pd N w pl x then wnt pu pd N w pl x else F := ⟨_, rfl⟩
      have V0 : 0 ≤ V ∧ V ≤ 500 * l + 12 * i := by
        rw [hV]
        split <;> omega
      refine zr_max d119_96 rfl rfl (by omega) (by omega) ?_
      refine zg_iastN L d119_99 (by decide) rfl (by omega) ?_
      rw [← hV]
      refine mq_aload_n d119_100 rfl rfl ?_
      refine mq_aload_n d119_101 rfl rfl ?_
      refine zg_getIe L (A2 84 3) d119_102 rfl rfl (by decide) rfl ((by rw [u2_c (by decide)])) ?_
      refine mq_aload_n d119_105 rfl rfl ?_
      refine zg_getR L 85 d119_106 rfl rfl (by decide) rfl (by decide) rfl ?_
      refine mq_iload d119_109 rfl ?_
      refine zr_ialdV L (V) d119_111 (by decide) rfl (by omega) ((by first | rw [u2_self] | rw [u2_c (by decide), u2_self])) ?_
      refine mq_iload d119_112 rfl ?_
      refine zq_iadd d119_114 ?_
      refine zr_max d119_115 rfl rfl (by omega) (by omega) ?_
      refine zg_putI L d119_118 rfl rfl rfl rfl (by decide) rfl ?_
      refine mq_aload_n d119_121 rfl rfl ?_
      refine zg_getR L 85 d119_122 rfl rfl (by decide) rfl (by decide) rfl ?_
      refine mq_iload d119_125 rfl ?_
      refine zr_ialdV L (V) d119_127 (by decide) rfl (by omega) ((by first | rw [u2_self] | rw [u2_c (by decide), u2_self])) ?_
      refine mq_iload d119_128 rfl ?_
      refine zq_iadd d119_130 ?_
      refine zq_iconst d119_131 ?_
      refine zq_iadd d119_132 ?_
      refine mq_istore d119_133 (Nat.le_of_ble_eq_true rfl) rfl ?_
      refine zq_iinc d119_135 rfl rfl ?_
      refine mq_goto (tgt := 49) d119_138 (by decide) ?_
      have eP : rwP pu pd N w (z.1 l) pl (i + 1) = upf (rwP pu pd N w (z.1 l) pl i) x V := by
        show upf (rwP pu pd N w (z.1 l) pl i) (z.1 l i).toNat _ = _
        rw [hxe, Int.toNat_natCast, hV, hF]
      have eN : V + w x + 1 = frP w (z.1 l) (rwP pu pd N w (z.1 l) pl (i + 1)) (i + 1) := by
        show _ = rwP pu pd N w (z.1 l) pl (i + 1) (z.1 l i).toNat + w (z.1 l i).toNat + 1
        rw [eP, hxe, Int.toNat_natCast, upf_s]
      rw [eN]
      have nx : ∀ y, plP Q (z.1 l) l i y → y ≠ x := fun y hy e => by
        subst e
        rcases hy with ⟨k, k1, k2⟩ | ⟨k, k1, k2⟩
        · have := (x5 _ _ _ _ k2 hq rfl).1
          omega
        · have := p2 k i (by omega) his (by rw [k2, hxe])
          omega
      have cases' : ∀ y, plP Q (z.1 l) l (i + 1) y → plP Q (z.1 l) l i y ∨ y = x := fun y hy => by
        rcases hy with hy | ⟨k, k1, k2⟩
        · exact Or.inl (Or.inl hy)
        · by_cases e : k = i
          · right
            rw [e, hxe] at k2
            omega
          · exact Or.inl (Or.inr ⟨k, by omega, k2⟩)
      refine pa_1 L hx hz hr h18 hl hpl hS hZ kk j (i + 1) _ _ _ (m0 his) (m1 his) (fun y e => ⟨_, (Option.some.inj e).symm⟩) (fun y e => ⟨_, (Option.some.inj e).symm⟩) (eo_u2 rfl (eo_u2 rfl hE)) ⟨fun y hy => ?_, ?_, ?_, ?_⟩
      · rw [u2_self, u2_c (by decide), eP, u2_upf]
        rcases cases' y hy with q | q
        · have := i1 y q
          rw [upf_n (nx y q), upf_n (nx y q)]
          refine ⟨this.1, this.2.1, by omega, ?_⟩
          split <;> omega
        · subst q
          rw [upf_s, upf_s]
          refine ⟨rfl, V0.1, by omega, ?_⟩
          split <;> omega
      · rw [u2_self, eP]
        by_cases q : A2 84 3 < V + w x
        · rw [if_pos q]
          exact Or.inr ⟨x, Or.inr ⟨i, by omega, hxe⟩, by rw [upf_s]⟩
        · rw [if_neg q]
          rcases i2 with e | ⟨y, y1, y2⟩
          · exact Or.inl e
          · refine Or.inr ⟨y, ?_, by rw [upf_n (nx y y1)]; exact y2⟩
            rcases y1 with y1 | ⟨k, k1, k2⟩
            · exact Or.inl y1
            · exact Or.inr ⟨k, by omega, k2⟩
      · rw [u2_self]
        split <;> omega
      · rw [u2_self]
        split <;> omega
end as
end sp_pa
