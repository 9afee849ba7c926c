section alp
variable {Q : Nat → Int → Prop} {sz : Nat → Nat} {h N : Nat} {g pu pd : Nat → Nat} {z : wSt} {w : Nat → Int}
theorem alP_rng (hx : cxO Q sz h N g pu pd) (hz : wok Q sz h z) (hw : ∀ k, k < h → ∀ x : Nat, Q k (x : Nat) → 1 ≤ w x ∧ w x ≤ 9) : ∀ {l : Nat}, l ≤ h → ∀ k, k < l → ∀ x : Nat, Q k (x : Nat) → 0 ≤ alP pu pd N w z.1 sz l x ∧ alP pu pd N w z.1 sz l x ≤ 500 * k + 432
  | 0, _, k, hk, _, _ => absurd hk (by omega)
  | l + 1, hl, k, hk, x, hq => by
    obtain ⟨x1, x2, x3, y4, y5, y6, y7⟩ := id hx
    have ih := alP_rng hx hz hw (l := l) (by omega)
    obtain ⟨⟨p1, p2, p3⟩, p4⟩ := hz l (by omega)
    have s36 := x2 l (by omega)
    show 0 ≤ rwP pu pd N w (z.1 l) (alP pu pd N w z.1 sz l) (sz l) x ∧ rwP pu pd N w (z.1 l) (alP pu pd N w z.1 sz l) (sz l) x ≤ _
    by_cases e : k = l
    · subst e
      obtain ⟨j, hj, ej⟩ := p3 _ hq
      have rng := rwP_rng (pu := pu) (pd := pd) (N := N) (w := w) (r := z.1 k) (pl := alP pu pd N w z.1 sz k) (s := sz k) (C := 500 * k) (by omega) (fun a b ha hb q => p2 a b ha hb (y5 _ _ _ _ (p1 a ha) (p1 b hb) q).2) (fun b hb => hw k (by omega) _ (by have := y4 k _ (p1 b hb); rw [Int.toNat_of_nonneg this.1]; exact p1 b hb)) (fun b hb p hp3 e => by
        have e2 := (y5 _ _ _ _ (y6 p hp3).2.1 (p1 b hb) (by rw [e]; omega)).1
        have i1 := ih (g p) (by omega) (pu p) (y6 p hp3).1
        have i2 := hw (g p) (by omega) (pu p) (y6 p hp3).1
        omega) (sz k) (Nat.le_refl _) j hj
      rw [ej, Int.toNat_natCast] at rng
      omega
    · rw [rwP_off (fun b hb q => ?_)]
      · exact ih k (by omega) x hq
      · have := (y5 _ _ _ _ (p1 b hb) hq (by rw [q]; omega)).1
        omega
end alp
section sp_mr
variable {d : Nat} {post : Option mj_V → mj_H → Prop} {K : Nat → Nat × Nat} {ρ : Nat → Nat → Option Nat} {A : Nat → Nat → Int} {Q : Nat → Int → Prop} {sz : Nat → Nat} {h N : Nat} {g pu pd : Nat → Nat} {z : wSt} {w : Nat → Int}
set_option maxRecDepth 100000 in
theorem mp_3 (L : Lay K ρ) (hx : cxO Q sz h N g pu pd) (hp : pcM A N g pu pd) (hz : wok Q sz h z) (hr : roM A Q sz h z) (hw : ∀ k, k < h → ∀ x : Nat, Q k (x : Nat) → (x < 12 → A 94 x = w x) ∧ (¬ x < 12 → w x = 1) ∧ 1 ≤ w x ∧ w x ≤ 9)
    (kk : ∀ A2, eo [115] A A2 → (∀ k, k < h → ∀ x : Nat, Q k (x : Nat) → A2 115 x = alP pu pd N w z.1 sz h x) → post none (123, K, zs (A2), ρ)) : ∀ (j l : Nat) (A2 : Nat → Nat → Int) (x3 x4 x5 x6 x7 x8 : Option mj_V), h - l < j → l ≤ h → (∀ y, x3 = some y → ∃ w, y = .inl w) → (∀ y, x4 = some y → ∃ w, y = .inl w) → (∀ y, x5 = some y → ∃ w, y = .inl w) → (∀ y, x6 = some y → ∃ w, y = .inl w) → (∀ y, x7 = some y → ∃ w, y = .inl w) → (∀ y, x8 = some y → ∃ w, y = .inl w) → eo [115] A A2 → (∀ k, k < l → ∀ x : Nat, Q k (x : Nat) → A2 115 x = alP pu pd N w z.1 sz l x) → mj_W (mj_lv (d + 1)) prog_11_method_34_code 9 0 0 0 post 2 [some (.inr (.inl (some 93))), some (.inl (iZ ((h : Nat)))), some (.inl (iZ ((l : Nat)))), x3, x4, x5, x6, x7, x8] [] (123, K, zs (A2), ρ) 0 0
  | 0, l, _, _, _, _, _, _, _, hj, _, _, _, _, _, _, _, _, _ => absurd hj (by omega)
  | j + 1, l, A2, x3, x4, x5, x6, x7, x8, hj, hl, hx3, hx4, hx5, hx6, hx7, hx8, hE, hI => by
    obtain ⟨q1, q2, q3, y4, y5, y6, y7⟩ := id hx
    have rng := alP_rng (w := w) hx hz (fun k hk x hq => (hw k hk x hq).2.2) (l := l) hl
    have okL : ∀ (v : Option mj_V), (∀ y, v = some y → ∃ w, y = .inl w) → v = none ∨ ∃ w, v = some (.inl w) := fun v hv => by
      cases v with
      | none => exact Or.inl rfl
      | some y =>
        obtain ⟨w, rfl⟩ := hv y rfl
        exact Or.inr ⟨w, rfl⟩
    refine mq_iload_n d58_2 rfl rfl ?_
    refine mq_iload_n d58_3 rfl rfl ?_
    refine zq_icmp_ge (tgt := 222) d58_4 (by decide) (by omega) (by omega) (fun g1 => ?_) (fun g1 => ?_)
    · have e : l = h := by omega
      subst e
      refine zg_retv d58_222 (by decide) ?_
      exact kk A2 hE hI
    · have hlh : l < h := by omega
      have st : mj_ok [some (.inr (.inl (some 93))), some (.inl (iZ ((h : Nat)))), some (.inl (iZ ((l : Nat)))), x3, x4, x5, x6, x7, x8] 3 = true ∧ mj_ok [some (.inr (.inl (some 93))), some (.inl (iZ ((h : Nat)))), some (.inl (iZ ((l : Nat)))), some (.inl (iZ (0))), x4, x5, x6, x7, x8] 4 = true := by
        rcases okL x3 hx3 with e | ⟨w, e⟩ <;> rcases okL x4 hx4 with e2 | ⟨w2, e2⟩ <;> rw [e, e2] <;> exact ⟨rfl, rfl⟩
      refine zq_iconst d58_7 ?_
      refine mq_istore_n d58_8 rfl (Nat.le_of_ble_eq_true rfl) st.1 ?_
      refine zq_iconst d58_9 ?_
      refine mq_istore d58_10 (Nat.le_of_ble_eq_true rfl) st.2 ?_
      have hpA : pcM A2 N g pu pd := by
        unfold pcM
        rw [hE 93 rfl, hE 109 rfl, hE 110 rfl, hE 106 rfl]
        exact hp
      have hrA : roM A2 Q sz h z := by
        unfold roM
        rw [hE 112 rfl, hE 111 rfl, hE 113 rfl]
        exact hr
      refine mp_2 (A := A2) (pl := alP pu pd N w z.1 sz l) L hx hpA hz hrA (fun k hk x hq => by rw [hE 94 rfl]; exact hw k hk x hq) hlh (fun p hp3 e => ?_) (fun k hk x hq => ?_) (fun A3 z3 z4 z5 z6 z7 z8 e3 hI3 h5 h6 h7 h8 => ?_) (sz l + 1) 0 A2 0 x5 x6 x7 x8 (by omega) (by omega) hx5 hx6 hx7 hx8 eo_refl (fun x hP => ?_) (fun q => absurd q (by omega))
      · have i1 := rng (g p) (by omega) (pu p) (y6 p hp3).1
        have i2 := (hw (g p) (by omega) (pu p) (y6 p hp3).1).2.2
        omega
      · have i1 := rng k hk x hq
        omega
      · refine zq_iinc d58_216 rfl rfl ?_
        refine mq_goto (tgt := 2) d58_219 (by decide) ?_
        refine mp_3 L hx hp hz hr hw kk j (l + 1) A3 _ _ _ _ _ _ (by omega) hlh (fun y e => ⟨_, (Option.some.inj e).symm⟩) (fun y e => ⟨_, (Option.some.inj e).symm⟩) h5 h6 h7 h8 (eo_trans hE e3) (fun k hk x hq => ?_)
        have hP : plP Q (z.1 l) l (sz l) x := (plP_row (r := fun _ => 0) hz hlh).mpr (Or.inl ⟨k, hk, hq⟩)
        exact (hI3 x hP).1
      · rcases hP with ⟨k, k1, k2⟩ | ⟨k, k1, -⟩
        · have i1 := rng k k1 x k2
          show A2 115 x = alP pu pd N w z.1 sz l x ∧ 0 ≤ alP pu pd N w z.1 sz l x ∧ alP pu pd N w z.1 sz l x ≤ 6000
          exact ⟨hI k k1 x k2, i1.1, by omega⟩
        · omega
set_option maxRecDepth 100000 in
theorem s_findPlaces (L : Lay K ρ) (hx : cxO Q sz h N g pu pd) (hp : pcM A N g pu pd) (hz : wok Q sz h z) (hr : roM A Q sz h z) (hw : ∀ k, k < h → ∀ x : Nat, Q k (x : Nat) → (x < 12 → A 94 x = w x) ∧ (¬ x < 12 → w x = 1) ∧ 1 ≤ w x ∧ w x ≤ 9)
    (kk : ∀ A2, eo [115] A A2 → (∀ k, k < h → ∀ x : Nat, Q k (x : Nat) → A2 115 x = alP pu pd N w z.1 sz h x) → post none (123, K, zs (A2), ρ)) : mj_lv (d + 2) m_Mod_findPlaces [.inr (.inl (some 93)), .inl (iZ (h : Nat))] (123, K, zs (A), ρ) post := by
  have h12 := hx.1
  show mj_W (mj_lv (d + 1)) prog_11_method_34_code 9 0 0 0 post 0 [some (.inr (.inl (some 93))), some (.inl (iZ ((h : Nat)))), none, none, none, none, none, none, none] [] (123, K, zs (A), ρ) 0 0
  refine zq_iconst d58_0 ?_
  refine mq_istore_n d58_1 rfl (Nat.le_of_ble_eq_true rfl) rfl ?_
  exact mp_3 L hx hp hz hr hw kk (h + 1) 0 A _ _ _ _ _ _ (by omega) (by omega) (fun y e => absurd e (by simp)) (fun y e => absurd e (by simp)) (fun y e => absurd e (by simp)) (fun y e => absurd e (by simp)) (fun y e => absurd e (by simp)) (fun y e => absurd e (by simp)) eo_refl (fun k hk => absurd hk (by omega))
/-- a state of the model's rounds -/
def mrI (A : Nat → Nat → Int) (Q : Nat → Int → Prop) (sz : Nat → Nat) (h : Nat) (z : wSt) (A2 : Nat → Nat → Int) : Prop := eo msL A A2 ∧ wok Q sz h z ∧ roM A2 Q sz h z
theorem ms_pc (hp : pcM A N g pu pd) {A2 : Nat → Nat → Int} (hE : eo msL A A2) : pcM A2 N g pu pd := by
  unfold pcM
  rw [hE 93 rfl, hE 109 rfl, hE 110 rfl, hE 106 rfl]
  exact hp
set_option maxRecDepth 100000 in
theorem mr_1 (L : Lay K ρ) (hx : cxO Q sz h N g pu pd) (hp : pcM A N g pu pd) (hh : 1 ≤ h) {x1 x3 : Int32} (kk : ∀ A2, mrI A Q sz h (dnS pu pd N sz z (h - 1)) A2 → mj_W (mj_lv (d + 2)) prog_11_method_31_code 9 1 0 0 post 81 [some (.inr (.inl (some 93))), some (.inl x1), some (.inl (iZ ((h : Nat)))), some (.inl x3), some (.inl (iZ ((h : Nat))))] [] (123, K, zs (A2), ρ) 0 0) : ∀ (j k : Nat) (A2 : Nat → Nat → Int), h - 1 - k < j → k ≤ h - 1 → mrI A Q sz h (dnS pu pd N sz z k) A2 → mj_W (mj_lv (d + 2)) prog_11_method_31_code 9 1 0 0 post 62 [some (.inr (.inl (some 93))), some (.inl x1), some (.inl (iZ ((h : Nat)))), some (.inl x3), some (.inl (iZ ((k + 1 : Nat))))] [] (123, K, zs (A2), ρ) 0 0
  | 0, k, _, hj, _, _ => absurd hj (by omega)
  | j + 1, k, A2, hj, hk, hI => by
    obtain ⟨q1, q2, q3, y4, y5, y6, y7⟩ := id hx
    obtain ⟨hE, hz, hr⟩ := id hI
    refine mq_iload d55_62 rfl ?_
    refine mq_iload_n d55_64 rfl rfl ?_
    refine zq_icmp_ge (tgt := 81) d55_65 (by decide) (by omega) (by omega) (fun gb => ?_) (fun gb => ?_)
    · have e : k = h - 1 := by omega
      subst e
      have e2 : h - 1 + 1 = h := by omega
      rw [e2]
      exact kk A2 hI
    · have hk1 : k + 1 < h := by omega
      refine mq_aload_n d55_68 rfl rfl ?_
      refine mq_iload d55_69 rfl ?_
      refine zq_iconst d55_71 ?_
      refine zg_callV (c := 93) L [_, _] d55_72 rfl rfl ⟨rfl, rfl⟩ rfl ⟨rfl, rfl⟩ ⟨by decide, by decide⟩ (by decide) rfl ?_
      refine s_sort (own := pd) (oth := pu) L hx (ms_pc hp hE) hz hr hk1 (Or.inl ⟨rfl, rfl, rfl⟩) (fun p hp2 => ⟨g p, by have := (y6 p hp2).2.2; omega, (y6 p hp2).1⟩) (fun A3 e3 hr3 => ?_)
      refine zq_iinc d55_75 rfl rfl ?_
      refine mq_goto (tgt := 62) d55_78 (by decide) ?_
      exact mr_1 L hx hp hh kk j (k + 1) A3 (by omega) (by omega) ⟨eo_trans hE e3, stp_ok y5 hz hk1, hr3⟩
set_option maxRecDepth 100000 in
theorem mr_2 (L : Lay K ρ) (hx : cxO Q sz h N g pu pd) (hp : pcM A N g pu pd) {x1 x3 : Int32} (kk : ∀ A2 x4, mrI A Q sz h (upS pu pd N sz (h - 1) z (h - 1)) A2 → mj_W (mj_lv (d + 2)) prog_11_method_31_code 9 1 0 0 post 104 [some (.inr (.inl (some 93))), some (.inl x1), some (.inl (iZ ((h : Nat)))), some (.inl x3), some (.inl x4)] [] (123, K, zs (A2), ρ) 0 0) : ∀ (j k : Nat) (A2 : Nat → Nat → Int) (x : Int), h - 1 - k < j → k ≤ h - 1 → x = (h : Int) - 2 - k → mrI A Q sz h (upS pu pd N sz (h - 1) z k) A2 → mj_W (mj_lv (d + 2)) prog_11_method_31_code 9 1 0 0 post 86 [some (.inr (.inl (some 93))), some (.inl x1), some (.inl (iZ ((h : Nat)))), some (.inl x3), some (.inl (iZ (x)))] [] (123, K, zs (A2), ρ) 0 0
  | 0, k, _, _, hj, _, _, _ => absurd hj (by omega)
  | j + 1, k, A2, x, hj, hk, ex, hI => by
    obtain ⟨q1, q2, q3, y4, y5, y6, y7⟩ := id hx
    obtain ⟨hE, hz, hr⟩ := id hI
    refine mq_iload d55_86 rfl ?_
    refine zq_if_lt (tgt := 104) d55_88 (by decide) (by omega) (fun gb => ?_) (fun gb => ?_)
    · have e : k = h - 1 := by omega
      subst e
      exact kk A2 _ hI
    · obtain ⟨l, hl⟩ : ∃ l, l = h - 1 - 1 - k := ⟨_, rfl⟩
      have el : x = (l : Nat) := by omega
      subst el
      refine mq_aload_n d55_91 rfl rfl ?_
      refine mq_iload d55_92 rfl ?_
      refine zq_iconst d55_94 ?_
      refine zg_callV (c := 93) L [_, _] d55_95 rfl rfl ⟨rfl, rfl⟩ rfl ⟨rfl, rfl⟩ ⟨by decide, by decide⟩ (by decide) rfl ?_
      refine s_sort (own := pu) (oth := pd) L hx (ms_pc hp hE) hz hr (show l < h by omega) (Or.inr ⟨rfl, rfl, rfl⟩) (fun p hp2 => ⟨g p + 1, (y6 p hp2).2.2, (y6 p hp2).2.1⟩) (fun A3 e3 hr3 => ?_)
      refine zq_iinc d55_98 rfl rfl ?_
      refine mq_goto (tgt := 86) d55_101 (by decide) ?_
      refine mr_2 L hx hp kk j (k + 1) A3 _ (by omega) (by omega) (by omega) ⟨eo_trans hE e3, ?_, ?_⟩
      · show wok Q sz h (stp pu pd N sz (h - 1 - 1 - k) _)
        exact stp_ok y5 hz (by omega)
      · show roM A3 Q sz h (stp pu pd N sz (h - 1 - 1 - k) _)
        rw [← hl]
        exact hr3
/-- after r rounds of the model -/
def mI (A : Nat → Nat → Int) (Q : Nat → Int → Prop) (sz : Nat → Nat) (h N : Nat) (g pu pd : Nat → Nat) (z : wSt) (r : Nat) (A2 : Nat → Nat → Int) : Prop := eo [93, 111, 113, 114, 116, 117] A A2 ∧ (∀ j, j ≠ 27 → j ≠ 28 → A2 93 j = A 93 j) ∧ roM A2 Q sz h (rnS pu pd N sz h z r) ∧ A2 93 28 = crV g pu pd (rnS pu pd N sz h z (kpS g pu pd N sz h z r)).2 N ∧ A2 93 27 = (kpS g pu pd N sz h z r : Nat) ∧ ∀ l, l < h → ∀ j, j < sz l → A2 114 (80 * l + j) = (rnS pu pd N sz h z (kpS g pu pd N sz h z r)).1 l j
theorem mI_pc (hp : pcM A N g pu pd) {r : Nat} {A2 : Nat → Nat → Int} (h1 : mI A Q sz h N g pu pd z r A2) : pcM A2 N g pu pd := by
  obtain ⟨hE, e93, -⟩ := h1
  unfold pcM
  rw [e93 22 (by decide) (by decide), hE 109 rfl, hE 110 rfl, hE 106 rfl]
  exact hp
set_option maxRecDepth 100000 in
theorem mr_3 (L : Lay K ρ) (hx : cxO Q sz h N g pu pd) (hp : pcM A N g pu pd) (hz : wok Q sz h z) {R : Nat} (hR : R ≤ 20)
    (kk : ∀ A2 x3 x4, mI A Q sz h N g pu pd z R A2 → mj_W (mj_lv (d + 2)) prog_11_method_31_code 9 1 0 0 post 132 [some (.inr (.inl (some 93))), some (.inl (iZ ((R : Nat)))), some (.inl (iZ ((h : Nat)))), some (.inl x3), x4] [] (123, K, zs (A2), ρ) 0 0) : ∀ (j r : Nat) (A2 : Nat → Nat → Int) (x4 : Option mj_V), R - r < j → r ≤ R → (∀ y, x4 = some y → ∃ w, y = .inl w) → mI A Q sz h N g pu pd z r A2 → mj_W (mj_lv (d + 2)) prog_11_method_31_code 9 1 0 0 post 54 [some (.inr (.inl (some 93))), some (.inl (iZ ((R : Nat)))), some (.inl (iZ ((h : Nat)))), some (.inl (iZ ((r + 1 : Nat)))), x4] [] (123, K, zs (A2), ρ) 0 0
  | 0, r, _, _, hj, _, _, _ => absurd hj (by omega)
  | j + 1, r, A2, x4, hj, hr, hx4, hI => by
    obtain ⟨q1, q2, q3, y4, y5, y6, y7⟩ := id hx
    obtain ⟨hE, e93, hro, h28, h27, h114⟩ := id hI
    have hpA := mI_pc hp hI
    have n0 := crV_nn (g := g) (pu := pu) (pd := pd) (s := (rnS pu pd N sz h z (kpS g pu pd N sz h z r)).2) (N := N)
    have n1 := crV_le (g := g) (pu := pu) (pd := pd) (s := (rnS pu pd N sz h z (kpS g pu pd N sz h z r)).2) q3
    have eR : rnS pu pd N sz h z (r + 1) = rdS pu pd N sz h (rnS pu pd N sz h z r) := rfl
    have eK : kpS g pu pd N sz h z (r + 1) = if crV g pu pd (rdS pu pd N sz h (rnS pu pd N sz h z r)).2 N < crV g pu pd (rnS pu pd N sz h z (kpS g pu pd N sz h z r)).2 N then r + 1 else kpS g pu pd N sz h z r := rfl
    have b0 := crV_nn (g := g) (pu := pu) (pd := pd) (s := (rdS pu pd N sz h (rnS pu pd N sz h z r)).2) (N := N)
    have b1 := crV_le (g := g) (pu := pu) (pd := pd) (s := (rdS pu pd N sz h (rnS pu pd N sz h z r)).2) q3
    have st4 : mj_ok [some (.inr (.inl (some 93))), some (.inl (iZ ((R : Nat)))), some (.inl (iZ ((h : Nat)))), some (.inl (iZ ((r + 1 : Nat)))), x4] 4 = true := by
      cases x4 with
      | none => rfl
      | some y =>
        obtain ⟨w, rfl⟩ := hx4 y rfl
        rfl
    have hz2 := rnS_ok (pu := pu) (pd := pd) (N := N) y5 hz r
    -- behind the sweep
    have fin : ∀ A3 x4', eo msL A2 A3 → wok Q sz h (rdS pu pd N sz h (rnS pu pd N sz h z r)) → roM A3 Q sz h (rdS pu pd N sz h (rnS pu pd N sz h z r)) → r < R → mj_W (mj_lv (d + 2)) prog_11_method_31_code 9 1 0 0 post 104 [some (.inr (.inl (some 93))), some (.inl (iZ ((R : Nat)))), some (.inl (iZ ((h : Nat)))), some (.inl (iZ ((r + 1 : Nat)))), some (.inl x4')] [] (123, K, zs (A3), ρ) 0 0 := fun A3 x4' e3 hz3 hr3 hrR => by
      have E3 : eo [93, 111, 113, 114, 116, 117] A A3 := eo_trans hE (eo_mono (by decide) e3)
      have c93 : A3 93 = A2 93 := e3 93 rfl
      refine mq_aload_n d55_104 rfl rfl ?_
      refine zg_callV (c := 93) L [] d55_105 rfl rfl ⟨rfl, rfl⟩ rfl ⟨rfl, rfl⟩ ⟨by decide, by decide⟩ (by decide) rfl ?_
      refine s_mcross (d := d + 1) L hx (ms_pc hpA e3) hz3 hr3 ?_
      refine mq_istore d55_108 (Nat.le_of_ble_eq_true rfl) rfl ?_
      refine mq_iload d55_110 rfl ?_
      refine mq_aload_n d55_112 rfl rfl ?_
      refine zg_getIe L (crV g pu pd (rnS pu pd N sz h z (kpS g pu pd N sz h z r)).2 N) d55_113 rfl rfl (by decide) rfl ((by rw [c93]; exact h28)) ?_
      refine zq_icmp_ge (tgt := 126) d55_116 (by decide) (by omega) (by omega) (fun g3 => ?_) (fun g3 => ?_)
      · rw [if_neg (by omega)] at eK
        refine zq_iinc d55_126 rfl rfl ?_
        refine mq_goto (tgt := 54) d55_129 (by decide) ?_
        refine mr_3 L hx hp hz hR kk j (r + 1) A3 _ (by omega) (by omega) (fun y e => ⟨_, (Option.some.inj e).symm⟩) ⟨E3, fun j a b => by rw [c93]; exact e93 j a b, by rw [eR]; exact hr3, ?_, ?_, fun l hl i hi => ?_⟩
        · rw [eK, c93]
          exact h28
        · rw [eK, c93]
          exact h27
        · rw [eK, e3 114 rfl]
          exact h114 l hl i hi
      · rw [if_pos (by omega)] at eK
        refine mq_aload_n d55_119 rfl rfl ?_
        refine mq_iload_n d55_120 rfl rfl ?_
        refine mq_iload d55_121 rfl ?_
        refine zg_callV (c := 93) L [_, _] d55_123 rfl rfl ⟨rfl, rfl⟩ rfl ⟨rfl, rfl⟩ ⟨by decide, by decide⟩ (by decide) rfl ?_
        refine s_keep (d := d + 1) L (fun A4 e4 f93 f27 f28 f114 => ?_)
        refine zq_iinc d55_126 rfl rfl ?_
        refine mq_goto (tgt := 54) d55_129 (by decide) ?_
        refine mr_3 L hx hp hz hR kk j (r + 1) A4 _ (by omega) (by omega) (fun y e => ⟨_, (Option.some.inj e).symm⟩) ⟨eo_trans E3 (eo_mono (by decide) e4), fun j a b => by rw [f93 j a b, c93]; exact e93 j a b, ?_, ?_, ?_, fun l hl i hi => ?_⟩
        · rw [eR]
          unfold roM
          rw [e4 112 rfl, e4 111 rfl, e4 113 rfl]
          exact hr3
        · rw [eK, eR]
          exact f28
        · rw [eK]
          exact f27
        · have := q2 l hl
          rw [eK, eR, f114 _ (by omega)]
          exact hr3.2.1 l hl i hi
    refine mq_iload_n d55_54 rfl rfl ?_
    refine mq_iload_n d55_55 rfl rfl ?_
    refine zq_icmp_gt (tgt := 132) d55_56 (by decide) (by omega) (by omega) (fun g1 => ?_) (fun g1 => ?_)
    · have e : r = R := by omega
      subst e
      exact kk A2 _ _ hI
    · have hrR : r < R := by omega
      refine zq_iconst d55_59 ?_
      refine mq_istore d55_60 (Nat.le_of_ble_eq_true rfl) st4 ?_
      by_cases hh : 1 ≤ h
      · refine mr_1 (A := A2) (z := rnS pu pd N sz h z r) L hx hpA hh (fun A3 hI3 => ?_) (h - 1 + 1) 0 A2 (by omega) (by omega) ⟨eo_refl, hz2, hro⟩
        refine mq_iload_n d55_81 rfl rfl ?_
        refine zq_iconst d55_82 ?_
        refine zq_isub d55_83 ?_
        refine mq_istore d55_84 (Nat.le_of_ble_eq_true rfl) rfl ?_
        refine mr_2 (A := A2) (z := dnS pu pd N sz (rnS pu pd N sz h z r) (h - 1)) L hx hpA (fun A4 x4' hI4 => ?_) (h - 1 + 1) 0 A3 _ (by omega) (by omega) (by omega) hI3
        exact fin A4 x4' hI4.1 hI4.2.1 hI4.2.2 hrR
      · have h0 : h = 0 := by omega
        refine mq_iload d55_62 rfl ?_
        refine mq_iload_n d55_64 rfl rfl ?_
        refine zq_icmp_ge (tgt := 81) d55_65 (by decide) (by omega) (by omega) (fun g2 => ?_) (fun g2 => ?_)
        · refine mq_iload_n d55_81 rfl rfl ?_
          refine zq_iconst d55_82 ?_
          refine zq_isub d55_83 ?_
          refine mq_istore d55_84 (Nat.le_of_ble_eq_true rfl) rfl ?_
          refine mq_iload d55_86 rfl ?_
          refine zq_if_lt (tgt := 104) d55_88 (by decide) (by omega) (fun g3 => ?_) (fun g3 => ?_)
          · have e0 : rdS pu pd N sz h (rnS pu pd N sz h z r) = rnS pu pd N sz h z r := by
              unfold rdS
              rw [h0]
              rfl
            refine fin A2 _ eo_refl ?_ ?_ hrR
            · rw [e0]
              exact hz2
            · rw [e0]
              exact hro
          · omega
        · omega
end sp_mr
