section os0
variable {A : Nat → Nat → Int} {n m : Nat} {U W Y : Nat → Nat} {th : Nat → Int}
theorem ro_0 (h2 : dr n m U W Y th) (h46 : A 46 6 = (hY Y n : Nat)) (h : rwC A (wK n m U W Y th) (wF U W Y th m)) : roC A (wQ n m U W Y th) (wZ n m U W Y th) (hY Y n) (wz0 n m U W Y th) := by
  obtain ⟨h1, h3⟩ := h
  have hn := h2.1
  have hh := h_n h2
  have h12 := wF_12 (U := U) (L := W) (Y := Y) (th := th) m
  refine ⟨h46, fun l hl => h1 l (by omega), fun l hl j hj => ?_, fun l hl x hx => ?_⟩
  · obtain ⟨i, i1, i2, i3⟩ := ctg_ex hj
    have := (h3 i i1 (by omega)).1
    rw [i2, i3] at this
    rw [this]
    show _ = rw0 (wK n m U W Y th) l (wF U W Y th m) j
    rw [← i3]
    exact (rw0_at i1 i2).symm
  · obtain ⟨i, i1, i2, i3⟩ := hx
    have e : x = i := by omega
    subst e
    have hi : x < wF U W Y th m := by rcases i2 with r | r <;> omega
    have ek : wK n m U W Y th x = l := by rw [wK_t i2, i3]
    exact (h3 x hi (by omega)).2
theorem cx_0 (h2 : dr n m U W Y th) : cxO (wQ n m U W Y th) (wZ n m U W Y th) (hY Y n) (wB U W Y th m) (wG m U W Y th) (wU m U W Y th) (wD m U W Y th) := by
  have hn := h2.1
  have hh := h_n h2
  have B84 := wB_84 h2 (Nat.le_refl m)
  have F72 := h2.2.2.2.2
  have m24 := h2.2.1
  refine ⟨by omega, fun l hl => wZ_36 h2 (by omega), by omega, fun l x hx => ?_, wQ_one, fun p hp => ?_, fun l => ?_⟩
  · obtain ⟨i, i1, i2, i3⟩ := hx
    have := wT_lt h2 i2
    omega
  · obtain ⟨p1, p2, p3, p4, p5, p6, p7⟩ := wP_p h2 hp
    have := wL_h h2 p4
    exact ⟨⟨_, rfl, p3, p1⟩, ⟨_, rfl, p4, p2⟩, by omega⟩
  · have := wG_a (m := m) (U := U) (L := W) (Y := Y) (th := th) (l := l) (Nat.le_refl m)
    omega
end os0
theorem crV_le {g pu pd : Nat → Nat} {s : Nat → Int} {N : Nat} (h : N ≤ 84) : crV g pu pd s N ≤ 7056 := by
  have h1 := cnt_bnd (b := 84) (m := N) (g := fun p => cnt (fun q => crX g pu pd s p q) N) (fun p _ => by
    have := cnt_bnd (b := 1) (m := N) (g := fun q => crX g pu pd s p q) (fun q _ => by unfold crX; split <;> decide)
    show cnt (fun q => crX g pu pd s p q) N ≤ 84
    omega)
  unfold crV
  omega
section sp_os
variable {d : Nat} {post : Option mj_V → mj_H → Prop} {K : Nat → Nat × Nat} {ρ : Nat → Nat → Option Nat} {A : Nat → Nat → Int} {Q : Nat → Int → Prop} {sz : Nat → Nat} {h N : Nat} {g pu pd : Nat → Nat}
set_option maxRecDepth 100000 in
theorem s_keepRows (L : Lay K ρ) (h46 : A 46 6 = (h : Nat)) (h12 : h ≤ 12) (h47 : ∀ l, l < h → A 47 l = (sz l : Nat) ∧ sz l ≤ 36) (kk : ∀ A2, cpR A 49 62 sz h A2 → post none (123, K, zs (A2), ρ)) : mj_lv (d + 1) m_Orders_copyRows [.inr (.inl (some 46)), .inr (.inl (some 48)), .inr (.inl (some 61))] (123, K, zs (A), ρ) post := by
  show mj_W (mj_lv d) prog_4_method_6_code 2 0 0 0 post 0 [some (.inr (.inl (some 46))), some (.inr (.inl (some 48))), some (.inr (.inl (some 61))), none] [] (123, K, zs (A), ρ) 0 0
  refine zq_iconst d94_0 ?_
  refine mq_istore_n d94_1 rfl (Nat.le_of_ble_eq_true rfl) rfl ?_
  exact cy_1 L ⟨by decide, rfl⟩ ⟨by decide, rfl⟩ (fun l hl => ⟨rf48 hl, kd49 hl⟩) (fun l hl => ⟨rf61 hl, kd62 hl⟩) (by omega) h46 h12 h47 kk (h + 1) 0 A (by omega) (by omega) ⟨fun _ _ => rfl, fun l hl => absurd hl (by omega)⟩
set_option maxRecDepth 100000 in
theorem s_takeRows (L : Lay K ρ) (h46 : A 46 6 = (h : Nat)) (h12 : h ≤ 12) (h47 : ∀ l, l < h → A 47 l = (sz l : Nat) ∧ sz l ≤ 36) (kk : ∀ A2, cpR A 62 49 sz h A2 → post none (123, K, zs (A2), ρ)) : mj_lv (d + 1) m_Orders_copyRows [.inr (.inl (some 46)), .inr (.inl (some 61)), .inr (.inl (some 48))] (123, K, zs (A), ρ) post := by
  show mj_W (mj_lv d) prog_4_method_6_code 2 0 0 0 post 0 [some (.inr (.inl (some 46))), some (.inr (.inl (some 61))), some (.inr (.inl (some 48))), none] [] (123, K, zs (A), ρ) 0 0
  refine zq_iconst d94_0 ?_
  refine mq_istore_n d94_1 rfl (Nat.le_of_ble_eq_true rfl) rfl ?_
  exact cy_1 L ⟨by decide, rfl⟩ ⟨by decide, rfl⟩ (fun l hl => ⟨rf61 hl, kd62 hl⟩) (fun l hl => ⟨rf48 hl, kd49 hl⟩) (by omega) h46 h12 h47 kk (h + 1) 0 A (by omega) (by omega) ⟨fun _ _ => rfl, fun l hl => absurd hl (by omega)⟩
/-- the cells of orders -/
def osL : List Nat := [46, 47, 49, 50, 51, 52, 53, 54, 55, 56, 57, 58, 59, 60, 62, 63, 64, 65, 66, 67, 68, 69, 70, 71, 72, 73, 74, 75, 76]
theorem os_in {c : Nat} (h : c < 77) : 46 ≤ c → c ≠ 48 → c ≠ 61 → osL.elem c = true := (by decide : ∀ c, c < 77 → 46 ≤ c → c ≠ 48 → c ≠ 61 → osL.elem c = true) c h
theorem os_out {c : Nat} (h : osL.elem c = false) : ¬ (46 ≤ c ∧ c < 77 ∧ c ≠ 48 ∧ c ≠ 61) := fun q => by
  rw [os_in q.2.1 q.1 q.2.2.1 q.2.2.2] at h
  exact absurd h (by decide)
theorem os_ge {c : Nat} (h : c < 46 ∨ 76 < c) : osL.elem c = false := by
  simp [osL]
  omega
/-- at r rounds -/
def oI (A : Nat → Nat → Int) (Q : Nat → Int → Prop) (sz : Nat → Nat) (h N : Nat) (g pu pd : Nat → Nat) (z : wSt) (r : Nat) (A2 : Nat → Nat → Int) : Prop := eo osL A A2 ∧ roC A2 Q sz h (rnS pu pd N sz h z r) ∧ A2 46 7 = crV g pu pd (rnS pu pd N sz h z (kpS g pu pd N sz h z r)).2 N ∧ A2 46 8 = (kpS g pu pd N sz h z r : Nat) ∧ ∀ l, l < h → ∀ j, j < sz l → A2 (62 + l) j = (rnS pu pd N sz h z (kpS g pu pd N sz h z r)).1 l j
theorem roC_eo {B : Nat → Nat → Int} {z : wSt} (hr : roC A Q sz h z) (h12 : h ≤ 12) (e : ∀ c, (46 ≤ c ∧ c ≤ 60) ∨ c = 74 → B c = A c) : roC B Q sz h z := by
  obtain ⟨r0, r1, r2, r3⟩ := hr
  refine ⟨by rw [e 46 (by decide)]; exact r0, fun l hl => by rw [e 47 (by decide)]; exact r1 l hl, fun l hl j hj => by rw [e _ (by omega)]; exact r2 l hl j hj, fun l hl x hx => by rw [e 74 (by decide)]; exact r3 l hl x hx⟩
theorem roC_u2 {z : wSt} (hr : roC A Q sz h z) {k : Nat} {v : Int} (hk : k ≠ 6) (h12 : h ≤ 12) : roC (mj_u2 A 46 k v) Q sz h z := by
  obtain ⟨r0, r1, r2, r3⟩ := hr
  refine ⟨by rw [u2_k (by omega)]; exact r0, fun l hl => by rw [u2_c (by decide)]; exact r1 l hl, fun l hl j hj => by rw [u2_c (by omega)]; exact r2 l hl j hj, fun l hl x hx => by rw [u2_c (by decide)]; exact r3 l hl x hx⟩
/-- when the rounds are over -/
def oX (A : Nat → Nat → Int) (sz : Nat → Nat) (h N : Nat) (g pu pd : Nat → Nat) (z : wSt) (r : Nat) (A2 : Nat → Nat → Int) : Prop := eo osL A A2 ∧ A2 46 6 = (h : Nat) ∧ (∀ l, l < h → A2 47 l = (sz l : Nat)) ∧ A2 46 7 = crV g pu pd (rnS pu pd N sz h z r).2 N ∧ A2 46 8 = (r : Nat) ∧ ∀ l, l < h → ∀ j, j < sz l → A2 (62 + l) j = (rnS pu pd N sz h z r).1 l j
set_option maxRecDepth 100000 in
theorem os_1 (L : Lay K ρ) (hx : cxO Q sz h N g pu pd) (hp : pcC A g pu pd N) {z : wSt} (hz : wok Q sz h z) {R : Nat} (hR : R ≤ 20)
    (kk : ∀ A2 x5 x6, oX A sz h N g pu pd z (kpS g pu pd N sz h z R) A2 → mj_W (mj_lv (d + 3)) prog_4_method_3_code 2 0 0 0 post 101 [some (.inr (.inl (some 46))), some (.inr (.inl (some 1))), some (.inr (.inl (some 10))), some (.inr (.inl (some 16))), some (.inl (iZ ((R : Nat)))), some (.inl x5), x6] [] (123, K, zs (A2), ρ) 0 0) : ∀ (j r : Nat) (A2 : Nat → Nat → Int) (x6 : Option mj_V), R - r < j → r ≤ R → (∀ y, x6 = some y → ∃ w, y = .inl w) → oI A Q sz h N g pu pd z r A2 → mj_W (mj_lv (d + 3)) prog_4_method_3_code 2 0 0 0 post 36 [some (.inr (.inl (some 46))), some (.inr (.inl (some 1))), some (.inr (.inl (some 10))), some (.inr (.inl (some 16))), some (.inl (iZ ((R : Nat)))), some (.inl (iZ ((r + 1 : Nat)))), x6] [] (123, K, zs (A2), ρ) 0 0
  | 0, r, _, _, hj, _, _, _ => absurd hj (by omega)
  | j + 1, r, A2, x6, hj, hr, hx6, hI => by
    obtain ⟨x1, x2, x3, x4, x5, x6', x7⟩ := id hx
    obtain ⟨hE, hro, h7, h8, hm⟩ := id hI
    have n0 := crV_nn (g := g) (pu := pu) (pd := pd) (s := (rnS pu pd N sz h z (kpS g pu pd N sz h z r)).2) (N := N)
    have n1 := crV_le (g := g) (pu := pu) (pd := pd) (s := (rnS pu pd N sz h z (kpS g pu pd N sz h z r)).2) x3
    have toX : ∀ k, k = kpS g pu pd N sz h z r → oX A sz h N g pu pd z k A2 := fun k e => by
      subst e
      exact ⟨hE, hro.1, hro.2.1, h7, h8, hm⟩
    refine mq_iload d91_36 rfl ?_
    refine mq_iload d91_38 rfl ?_
    refine zq_icmp_gt (tgt := 101) d91_40 (by decide) (by omega) (by omega) (fun g1 => ?_) (fun g1 => ?_)
    · have e : r = R := by omega
      subst e
      exact kk A2 _ _ (toX _ rfl)
    · refine mq_aload_n d91_43 rfl rfl ?_
      refine zg_getIe L (crV g pu pd (rnS pu pd N sz h z (kpS g pu pd N sz h z r)).2 N) d91_44 rfl rfl (by decide) rfl (h7) ?_
      refine zq_if_le (tgt := 101) d91_47 (by decide) (by omega) (fun g2 => ?_) (fun g2 => ?_)
      · refine kk A2 _ _ (toX _ ?_)
        have := kpS_0 (g := g) (pu := pu) (pd := pd) (N := N) (sz := sz) (h := h) (z := z) (r := r) (by omega) (R - r)
        rwa [show r + (R - r) = R by omega] at this
      · have hh : 1 ≤ h := by
          rcases Nat.eq_zero_or_pos N with q | q
          · rw [q] at g2
            exact absurd g2 (by show ¬ (0 : Int) < 0; decide)
          · have := (x6' 0 q).2.2
            omega
        have hz2 := rnS_ok (pu := pu) (pd := pd) (N := N) x5 hz r
        have hpA : pcC A2 g pu pd N := pcC_eo (fun q hq => by have := (x6' q hq).2.2; omega) hp (fun c a b => hE c (os_ge (by omega)))
        refine mq_aload_n d91_50 rfl rfl ?_
        refine mq_aload_n d91_51 rfl rfl ?_
        refine zg_callV (c := 46) L [_] d91_52 rfl rfl ⟨rfl, rfl⟩ rfl ⟨rfl, rfl⟩ ⟨by decide, by decide⟩ (by decide) rfl ?_
        refine s_sweep (d := d) L hx hpA hh hz2 hro (fun A3 e3 hz3 hr3 => ?_)
        have e3c : ∀ c, (c < 49 ∨ 61 ≤ c) → c ≠ 74 → c ≠ 75 → c ≠ 76 → A3 c = A2 c := fun c q1 q2 q3 q4 => e3 c (by simp [swL]; omega)
        have hE3 : eo osL A A3 := fun c hc => by
          have := os_out hc
          rw [e3c c (by omega) (by omega) (by omega) (by omega)]
          exact hE c hc
        have hpB : pcC A3 g pu pd N := pcC_eo (fun q hq => by have := (x6' q hq).2.2; omega) hp (fun c a b => hE3 c (os_ge (by omega)))
        have b0 := crV_nn (g := g) (pu := pu) (pd := pd) (s := (rdS pu pd N sz h (rnS pu pd N sz h z r)).2) (N := N)
        have b1 := crV_le (g := g) (pu := pu) (pd := pd) (s := (rdS pu pd N sz h (rnS pu pd N sz h z r)).2) x3
        have eR : rnS pu pd N sz h z (r + 1) = rdS pu pd N sz h (rnS pu pd N sz h z r) := rfl
        have eK : kpS g pu pd N sz h z (r + 1) = if crV g pu pd (rdS pu pd N sz h (rnS pu pd N sz h z r)).2 N < crV g pu pd (rnS pu pd N sz h z (kpS g pu pd N sz h z r)).2 N then r + 1 else kpS g pu pd N sz h z r := rfl
        refine mq_aload_n d91_55 rfl rfl ?_
        refine mq_aload_n d91_56 rfl rfl ?_
        refine zg_callV (c := 46) L [_] d91_57 rfl rfl ⟨rfl, rfl⟩ rfl ⟨rfl, rfl⟩ ⟨by decide, by decide⟩ (by decide) rfl ?_
        refine s_crossings (d := d + 1) L hx hpB hz3 hr3 ?_
        have st6 : mj_ok [some (.inr (.inl (some 46))), some (.inr (.inl (some 1))), some (.inr (.inl (some 10))), some (.inr (.inl (some 16))), some (.inl (iZ ((R : Nat)))), some (.inl (iZ ((r + 1 : Nat)))), x6] 6 = true := by
          cases x6 with
          | none => rfl
          | some y =>
            obtain ⟨w, rfl⟩ := hx6 y rfl
            rfl
        refine mq_istore d91_60 (Nat.le_of_ble_eq_true rfl) st6 ?_
        refine mq_iload d91_62 rfl ?_
        refine mq_aload_n d91_64 rfl rfl ?_
        refine zg_getIe L (crV g pu pd (rnS pu pd N sz h z (kpS g pu pd N sz h z r)).2 N) d91_65 rfl rfl (by decide) rfl ((by rw [e3c 46 (by decide) (by decide) (by decide) (by decide)]; exact h7)) ?_
        refine zq_icmp_ge (tgt := 95) d91_68 (by decide) (by omega) (by omega) (fun g3 => ?_) (fun g3 => ?_)
        · rw [if_neg (by omega)] at eK
          refine zq_iinc d91_95 rfl rfl ?_
          refine mq_goto (tgt := 36) d91_98 (by decide) ?_
          refine os_1 L hx hp hz hR kk j (r + 1) A3 _ (by omega) (by omega) (fun y e => ⟨_, (Option.some.inj e).symm⟩) ⟨hE3, by rw [eR]; exact hr3, ?_, ?_, fun l hl i hi => ?_⟩
          · rw [eK, e3c 46 (by decide) (by decide) (by decide) (by decide)]
            exact h7
          · rw [eK, e3c 46 (by decide) (by decide) (by decide) (by decide)]
            exact h8
          · rw [eK, e3c (62 + l) (by omega) (by omega) (by omega) (by omega)]
            exact hm l hl i hi
        · rw [if_pos (by omega)] at eK
          refine mq_aload_n d91_71 rfl rfl ?_
          refine mq_iload d91_72 rfl ?_
          refine zg_putI L d91_74 rfl rfl rfl rfl (by decide) rfl ?_
          refine mq_aload_n d91_77 rfl rfl ?_
          refine mq_iload d91_78 rfl ?_
          refine zg_putI L d91_80 rfl rfl rfl rfl (by decide) rfl ?_
          obtain ⟨B, hB⟩ : ∃ B, B = mj_u2 (mj_u2 A3 46 7 (crV g pu pd (rdS pu pd N sz h (rnS pu pd N sz h z r)).2 N)) 46 8 (r + 1 : Nat) := ⟨_, rfl⟩
          rw [← hB]
          have bc : ∀ c, c ≠ 46 → B c = A3 c := fun c hc => by rw [hB, u2_cell hc, u2_cell hc]
          have b6 : B 46 6 = A3 46 6 := by rw [hB, u2_k (by decide), u2_k (by decide)]
          have b7 : B 46 7 = crV g pu pd (rdS pu pd N sz h (rnS pu pd N sz h z r)).2 N := by rw [hB, u2_k (by decide), u2_self]
          have b8 : B 46 8 = (r + 1 : Nat) := by rw [hB, u2_self]
          have hrB : roC B Q sz h (rdS pu pd N sz h (rnS pu pd N sz h z r)) := by rw [hB]; exact roC_u2 (roC_u2 hr3 (by decide) x1) (by decide) x1
          refine mq_aload_n d91_83 rfl rfl ?_
          refine mq_aload_n d91_84 rfl rfl ?_
          refine zg_getR L 48 d91_85 rfl rfl (by decide) rfl (by decide) rfl ?_
          refine mq_aload_n d91_88 rfl rfl ?_
          refine zg_getR L 61 d91_89 rfl rfl (by decide) rfl (by decide) rfl ?_
          refine zg_callV (c := 46) L [_, _] d91_92 rfl rfl ⟨rfl, rfl⟩ rfl ⟨rfl, rfl⟩ ⟨by decide, by decide⟩ (by decide) rfl ?_
          refine s_keepRows (d := d + 2) L hrB.1 x1 (fun l hl => ⟨hrB.2.1 l hl, x2 l hl⟩) (fun A4 ⟨c4, r4⟩ => ?_)
          refine zq_iinc d91_95 rfl rfl ?_
          refine mq_goto (tgt := 36) d91_98 (by decide) ?_
          refine os_1 L hx hp hz hR kk j (r + 1) A4 _ (by omega) (by omega) (fun y e => ⟨_, (Option.some.inj e).symm⟩) ⟨fun c hc => ?_, ?_, ?_, ?_, fun l hl i hi => ?_⟩
          · have := os_out hc
            rw [c4 c (by omega), bc c (by omega)]
            exact hE3 c hc
          · rw [eR]
            exact roC_eo hrB x1 (fun c hc => c4 c (by omega))
          · rw [eK, eR, c4 46 (by omega)]
            exact b7
          · rw [eK, c4 46 (by omega)]
            exact b8
          · rw [eK, eR, r4 l hl i hi]
            exact hrB.2.2.1 l hl i hi
/-- what search leaves -/
def oF (A : Nat → Nat → Int) (Q : Nat → Int → Prop) (sz : Nat → Nat) (h N : Nat) (g pu pd : Nat → Nat) (z : wSt) (r : Nat) (A2 : Nat → Nat → Int) : Prop := eo osL A A2 ∧ roC A2 Q sz h (rnS pu pd N sz h z r) ∧ A2 46 7 = crV g pu pd (rnS pu pd N sz h z r).2 N ∧ A2 46 8 = (r : Nat)
set_option maxRecDepth 100000 in
theorem os_2 (L : Lay K ρ) (hx : cxO Q sz h N g pu pd) {z : wSt} {r : Nat} (hz : wok Q sz h (rnS pu pd N sz h z r)) {x6 : Option mj_V} {R : Nat} (kk : ∀ A2, oF A Q sz h N g pu pd z r A2 → post none (123, K, zs (A2), ρ)) : ∀ (j k : Nat) (A2 : Nat → Nat → Int), h - k < j → k ≤ h → eo osL A A2 → A2 46 6 = (h : Nat) → (∀ l, l < h → A2 47 l = (sz l : Nat)) → (∀ l, l < h → ∀ j, j < sz l → A2 (49 + l) j = (rnS pu pd N sz h z r).1 l j) → (A2 46 7 = crV g pu pd (rnS pu pd N sz h z r).2 N ∧ A2 46 8 = (r : Nat)) → (∀ l, l < k → ∀ j, j < sz l → A2 74 ((rnS pu pd N sz h z r).1 l j).toNat = (j : Nat)) → mj_W (mj_lv (d + 3)) prog_4_method_3_code 2 0 0 0 post 116 [some (.inr (.inl (some 46))), some (.inr (.inl (some 1))), some (.inr (.inl (some 10))), some (.inr (.inl (some 16))), some (.inl (iZ ((R : Nat)))), some (.inl (iZ ((k : Nat)))), x6] [] (123, K, zs (A2), ρ) 0 0
  | 0, k, _, hj, _, _, _, _, _, _, _ => absurd hj (by omega)
  | j + 1, k, A2, hj, hk, hE, h6, h47, h49, h78, h74 => by
    obtain ⟨x1, x2, x3, x4, x5, x6', x7⟩ := id hx
    refine mq_iload d91_116 rfl ?_
    refine mq_aload_n d91_118 rfl rfl ?_
    refine zg_getIe L ((h : Nat)) d91_119 rfl rfl (by decide) rfl (h6) ?_
    refine zq_icmp_ge (tgt := 137) d91_122 (by decide) (by omega) (by omega) (fun g1 => ?_) (fun g1 => ?_)
    · have e : k = h := by omega
      subst e
      refine zg_retv d91_137 (by decide) ?_
      refine kk A2 ⟨hE, ⟨h6, h47, h49, fun l hl x hq => ?_⟩, h78.1, h78.2⟩
      obtain ⟨i, hi, e⟩ := (hz l hl).1.2.2 _ hq
      have a1 := h74 l hl i hi
      have a2 := (hz l hl).2 i hi
      rw [e, Int.toNat_natCast] at a1 a2
      rw [a1, a2]
    · have hkh : k < h := by omega
      refine mq_aload_n d91_125 rfl rfl ?_
      refine mq_iload d91_126 rfl ?_
      refine zg_callV (c := 46) L [_] d91_128 rfl rfl ⟨rfl, rfl⟩ rfl ⟨rfl, rfl⟩ ⟨by decide, by decide⟩ (by decide) rfl ?_
      refine s_numberRow (d := d + 2) L (by omega) (h47 k hkh) (x2 k hkh) (r := (rnS pu pd N sz h z r).1 k) (fun i hi => ⟨h49 k hkh i hi, x4 k _ ((hz k hkh).1.1 i hi)⟩) (fun A3 e3 f74 => ?_)
      refine zq_iinc d91_131 rfl rfl ?_
      refine mq_goto (tgt := 116) d91_134 (by decide) ?_
      have c46 : A3 46 = A2 46 := e3 46 rfl
      refine os_2 L hx hz kk j (k + 1) A3 (by omega) (by omega) (fun c hc => ?_) (by rw [c46]; exact h6) (fun l hl => by rw [e3 47 rfl]; exact h47 l hl) (fun l hl i hi => by rw [e3 (49 + l) (by simp; omega)]; exact h49 l hl i hi) (by rw [c46]; exact h78) (fun l hl i hi => ?_)
      · have := os_out hc
        rw [e3 c (by simp; omega)]
        exact hE c hc
      · rw [f74]
        have hlh : l < h := by omega
        by_cases y : l = k
        · subst y
          exact nbr_at (fun a b ha hb q => (hz l hlh).1.2.1 a b ha hb (x5 _ _ _ _ ((hz l hlh).1.1 a ha) ((hz l hlh).1.1 b hb) q).2) hi
        · rw [nbr_in (fun b hb q => y (x5 _ _ _ _ ((hz k hkh).1.1 b hb) ((hz l hlh).1.1 i hi) q).1.symm)]
          exact h74 l (by omega) i hi
end sp_os
section sp_ot
variable {d : Nat} {post : Option mj_V → mj_H → Prop} {K : Nat → Nat × Nat} {ρ : Nat → Nat → Option Nat} {A : Nat → Nat → Int} {n m : Nat} {U W Y : Nat → Nat} {th : Nat → Int}
set_option maxRecDepth 100000 in
theorem s_osearch (L : Lay K ρ) (h : rcC A n m U W Y th) (h17 : ∀ b, b < m → th b = 1 → A 17 b = (wF U W Y th b : Nat)) (hp : pcC A (wG m U W Y th) (wU m U W Y th) (wD m U W Y th) (wB U W Y th m)) (h10 : A 10 5 = (hY Y n : Nat)) {R : Nat} (hR : R ≤ 20)
    (kk : ∀ A2, oF A (wQ n m U W Y th) (wZ n m U W Y th) (hY Y n) (wB U W Y th m) (wG m U W Y th) (wU m U W Y th) (wD m U W Y th) (wz0 n m U W Y th) (kpS (wG m U W Y th) (wU m U W Y th) (wD m U W Y th) (wB U W Y th m) (wZ n m U W Y th) (hY Y n) (wz0 n m U W Y th) R) A2 → post none (123, K, zs (A2), ρ)) : mj_lv (d + 5) m_Orders_search [.inr (.inl (some 46)), .inr (.inl (some 1)), .inr (.inl (some 10)), .inr (.inl (some 16)), .inl (iZ (R : Nat))] (123, K, zs (A), ρ) post := by
  obtain ⟨h1, h2, h3⟩ := id h
  have hx := cx_0 h2
  have hz := wz0_ok h2
  obtain ⟨x1, x2, x3, x4, x5, x6, x7⟩ := id hx
  show mj_W (mj_lv (d + 4)) prog_4_method_3_code 2 0 0 0 post 0 [some (.inr (.inl (some 46))), some (.inr (.inl (some 1))), some (.inr (.inl (some 10))), some (.inr (.inl (some 16))), some (.inl (iZ ((R : Nat)))), none, none] [] (123, K, zs (A), ρ) 0 0
  refine mq_aload_n d91_0 rfl rfl ?_
  refine mq_aload_n d91_1 rfl rfl ?_
  refine mq_aload_n d91_2 rfl rfl ?_
  refine mq_aload_n d91_3 rfl rfl ?_
  refine zg_callV (c := 46) L [_, _, _] d91_4 rfl rfl ⟨rfl, rfl⟩ rfl ⟨rfl, rfl⟩ ⟨by decide, by decide⟩ (by decide) rfl ?_
  refine s_standByNumbers (d := d) L h h17 (fun A2 e2 f2 f6 hrw => ?_)
  have hro := ro_0 h2 (by rw [f6]; exact h10) hrw
  have c2 : ∀ c, c < 46 ∨ c = 48 ∨ 60 < c ∧ c ≠ 74 → A2 c = A c := fun c hc => e2 c (by simp [sbL]; omega)
  have g12 : ∀ q, q < wB U W Y th m → wG m U W Y th q < 12 := fun q hq => by
    have := (x6 q hq).2.2
    omega
  have hpA := pcC_eo g12 hp (fun c a b => c2 c (by omega))
  refine mq_aload_n d91_7 rfl rfl ?_
  refine mq_aload_n d91_8 rfl rfl ?_
  refine mq_aload_n d91_9 rfl rfl ?_
  refine zg_callV (c := 46) L [_] d91_10 rfl rfl ⟨rfl, rfl⟩ rfl ⟨rfl, rfl⟩ ⟨by decide, by decide⟩ (by decide) rfl ?_
  refine s_crossings (d := d + 2) L hx hpA hz hro ?_
  refine zg_putI L d91_13 rfl rfl rfl rfl (by decide) rfl ?_
  refine mq_aload_n d91_16 rfl rfl ?_
  refine zq_iconst d91_17 ?_
  refine zg_putI L d91_18 rfl rfl rfl rfl (by decide) rfl ?_
  obtain ⟨B, hB⟩ : ∃ B, B = mj_u2 (mj_u2 A2 46 7 (crV (wG m U W Y th) (wU m U W Y th) (wD m U W Y th) (wz0 n m U W Y th).2 (wB U W Y th m))) 46 8 0 := ⟨_, rfl⟩
  rw [← hB]
  have bc : ∀ c, c ≠ 46 → B c = A2 c := fun c hc => by rw [hB, u2_cell hc, u2_cell hc]
  have b7 : B 46 7 = crV (wG m U W Y th) (wU m U W Y th) (wD m U W Y th) (wz0 n m U W Y th).2 (wB U W Y th m) := by rw [hB, u2_k (by decide), u2_self]
  have b8 : B 46 8 = 0 := by rw [hB, u2_self]
  have hrB : roC B (wQ n m U W Y th) (wZ n m U W Y th) (hY Y n) (wz0 n m U W Y th) := by rw [hB]; exact roC_u2 (roC_u2 hro (by decide) x1) (by decide) x1
  refine mq_aload_n d91_21 rfl rfl ?_
  refine mq_aload_n d91_22 rfl rfl ?_
  refine zg_getR L 48 d91_23 rfl rfl (by decide) rfl (by decide) rfl ?_
  refine mq_aload_n d91_26 rfl rfl ?_
  refine zg_getR L 61 d91_27 rfl rfl (by decide) rfl (by decide) rfl ?_
  refine zg_callV (c := 46) L [_, _] d91_30 rfl rfl ⟨rfl, rfl⟩ rfl ⟨rfl, rfl⟩ ⟨by decide, by decide⟩ (by decide) rfl ?_
  refine s_keepRows (d := d + 3) L hrB.1 x1 (fun l hl => ⟨hrB.2.1 l hl, x2 l hl⟩) (fun A3 ⟨c3, r3⟩ => ?_)
  refine zq_iconst d91_33 ?_
  refine mq_istore d91_34 (Nat.le_of_ble_eq_true rfl) rfl ?_
  refine os_1 (A := A) (d := d + 1) L hx hp hz hR (fun A4 y5 y6 hX => ?_) (R + 1) 0 A3 _ (by omega) (by omega) (fun y e => absurd e (by simp)) ⟨fun c hc => ?_, ?_, ?_, ?_, fun l hl i hi => ?_⟩
  · obtain ⟨q1, q2, q3, q4, q5, q6⟩ := hX
    refine mq_aload_n d91_101 rfl rfl ?_
    refine mq_aload_n d91_102 rfl rfl ?_
    refine zg_getR L 61 d91_103 rfl rfl (by decide) rfl (by decide) rfl ?_
    refine mq_aload_n d91_106 rfl rfl ?_
    refine zg_getR L 48 d91_107 rfl rfl (by decide) rfl (by decide) rfl ?_
    refine zg_callV (c := 46) L [_, _] d91_110 rfl rfl ⟨rfl, rfl⟩ rfl ⟨rfl, rfl⟩ ⟨by decide, by decide⟩ (by decide) rfl ?_
    refine s_takeRows (d := d + 3) L q2 x1 (fun l hl => ⟨q3 l hl, x2 l hl⟩) (fun A5 ⟨c5, r5⟩ => ?_)
    refine zq_iconst d91_113 ?_
    refine mq_istore d91_114 (Nat.le_of_ble_eq_true rfl) rfl ?_
    refine os_2 (A := A) (d := d + 1) L hx (rnS_ok x5 hz _) kk (hY Y n + 1) 0 A5 (by omega) (by omega) (fun c hc => ?_) (by rw [c5 46 (by omega)]; exact q2) (fun l hl => by rw [c5 47 (by omega)]; exact q3 l hl) (fun l hl i hi => by rw [r5 l hl i hi]; exact q6 l hl i hi) (by rw [c5 46 (by omega)]; exact ⟨q4, q5⟩) (fun l hl => absurd hl (by omega))
    have := os_out hc
    rw [c5 c (by omega)]
    exact q1 c hc
  · have := os_out hc
    rw [c3 c (by omega), bc c (by omega)]
    exact c2 c (by omega)
  · exact roC_eo hrB x1 (fun c hc => c3 c (by omega))
  · rw [c3 46 (by omega)]
    exact b7
  · rw [c3 46 (by omega)]
    exact b8
  · rw [r3 l hl i hi]
    exact hrB.2.2.1 l hl i hi
end sp_ot
