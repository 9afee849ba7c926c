section sp_sw
variable {d : Nat} {post : Option mj_V → mj_H → Prop} {K : Nat → Nat × Nat} {ρ : Nat → Nat → Option Nat} {A : Nat → Nat → Int} {Q : Nat → Int → Prop} {sz : Nat → Nat} {h N : Nat} {g pu pd : Nat → Nat}
/-- the cells that sorting writes -/
def swL : List Nat := [49, 50, 51, 52, 53, 54, 55, 56, 57, 58, 59, 60, 74, 75, 76]
theorem swL49 {l : Nat} (hl : l < 12) : swL.elem (49 + l) = true := (by decide : ∀ l, l < 12 → swL.elem (49 + l) = true) l hl
theorem pcC_eo {B : Nat → Nat → Int} {p : Nat} (hg : ∀ q, q < p → g q < 12) (h : pcC A g pu pd p) (e : ∀ c, 19 ≤ c → c ≤ 45 → B c = A c) : pcC B g pu pd p := by
  obtain ⟨h1, h2⟩ := h
  refine ⟨fun l hl => by rw [e 19 (by decide) (by decide)]; exact h1 l hl, fun q hq => ?_⟩
  have := hg q hq
  rw [e _ (by omega) (by omega), e _ (by omega) (by omega)]
  exact h2 q hq
/-- the middles of one layer -/
theorem st_fm (L : Lay K ρ) (hx : cxO Q sz h N g pu pd) {z : wSt} (hz : wok Q sz h z) (hr : roC A Q sz h z) {l gap co cx : Nat} (hl : l < h) {own oth o t : Nat → Nat} (ho : owO A co cx (ctg g gap N) o t)
    (hs : ∀ p, p < N → g p = gap → o (ctg g gap p) = own p ∧ t (ctg g gap p) = oth p) (hw : ∀ p, p < N → ∀ x : Nat, Q l (x : Nat) → own p = x → g p = gap) (ht : ∀ p, p < N → ∃ k, k < h ∧ Q k (oth p : Nat))
    (kk : ∀ A2, eo [75, 76] A A2 → fcO A2 (mdS own oth z.2 N) (mdC own N) (Q l) → post none (123, K, zs (A2), ρ)) : mj_lv (d + 1) m_Orders_findMiddles [.inr (.inl (some 46)), .inl (iZ (l : Nat)), .inl (iZ (ctg g gap N : Nat)), .inr (.inl (some co)), .inr (.inl (some cx))] (123, K, zs (A), ρ) post := by
  obtain ⟨x1, x2, x3, x4, x5, x6, x7⟩ := id hx
  obtain ⟨r0, r1, r2, r3⟩ := id hr
  obtain ⟨⟨p1, p2, p3⟩, p4⟩ := hz l hl
  have s36 := x2 l hl
  have inj : ∀ i j, i < sz l → j < sz l → (z.1 l i).toNat = (z.1 l j).toNat → i = j := fun i j hi hj e => p2 i j hi hj (x5 l l _ _ (p1 i hi) (p1 j hj) e).2
  -- the sums are those of all pieces
  have sm : ∀ x : Nat, Q l (x : Nat) → smO o t (A 74) (ctg g gap N) x = cnt (fun p => if own p = x then z.2 (oth p) else 0) N ∧ nnO o (ctg g gap N) x = mdN own N x := fun x hq => by
    refine ⟨?_, ?_⟩
    · unfold smO
      rw [ctg_sum (F := fun p => if own p = x then z.2 (oth p) else 0) (fun p hp e => ?_)]
      · refine cnt_congr (fun p hp => ?_)
        by_cases y : own p = x
        · rw [if_pos (hw p hp x hq y)]
        · rw [if_neg y]
          split <;> rfl
      · obtain ⟨k, k1, k2⟩ := ht p hp
        rw [(hs p hp e).1, (hs p hp e).2, (ro_at hx hz hr k1 k2).1]
    · unfold nnO mdN
      rw [ctg_sum (F := fun p => if own p = x then 1 else 0) (fun p hp e => ?_)]
      · refine cnt_congr (fun p hp => ?_)
        by_cases y : own p = x
        · rw [if_pos (hw p hp x hq y)]
        · rw [if_neg y]
          split <;> rfl
      · rw [(hs p hp e).1]
  refine s_findMiddles L (by omega) (r1 l hl) s36 (f := z.1 l) (fun j hj => ⟨r2 l hl j hj, x4 l _ (p1 j hj)⟩) inj ho (fun A2 hE hv => ?_)
  have vals : ∀ x : Nat, Q l (x : Nat) → A2 75 x = mdS own oth z.2 N x ∧ A2 76 x = mdC own N x := fun x hq => by
    obtain ⟨j, hj, e⟩ := p3 _ hq
    have h1 := hv j hj
    have h2 := p4 j hj
    rw [e, Int.toNat_natCast] at h1 h2
    have h3 := sm x hq
    rw [h3.1, h3.2] at h1
    unfold mdS mdC
    refine ⟨?_, h1.2⟩
    rw [h1.1, h2]
  refine kk A2 hE (fun x hq => ?_)
  · obtain ⟨b1, b2⟩ := x4 l x hq
    have ex : x = (x.toNat : Nat) := by omega
    have hq2 : Q l (x.toNat : Nat) := by rw [← ex]; exact hq
    have n0 := mdN_nn (pd := own) (N := N) (x := x.toNat)
    have n1 := mdN_le (pd := own) (N := N) (x := x.toNat)
    have s0 := sum_rng (pd := own) (x := x.toNat) (f := fun p => z.2 (oth p)) (N := N) (C := 36) (fun p hp _ => by
      obtain ⟨k, k1, k2⟩ := ht p hp
      have := ro_at hx hz hr k1 k2
      rw [← this.1]
      omega)
    have sx := ro_at hx hz hr hl hq2
    have s0' : 0 ≤ cnt (fun p => if own p = x.toNat then z.2 (oth p) else 0) N ∧ cnt (fun p => if own p = x.toNat then z.2 (oth p) else 0) N ≤ 36 * mdN own N x.toNat := s0
    refine ⟨⟨b1, b2⟩, vals _ hq2, ?_, ?_⟩
    · unfold mdS
      split <;> omega
    · unfold mdC
      split <;> omega
/-- one layer is sorted by its middles -/
theorem st_so (L : Lay K ρ) (hx : cxO Q sz h N g pu pd) {z : wSt} (hz : wok Q sz h z) (hr : roC A Q sz h z) {l : Nat} (hl : l < h) {own oth : Nat → Nat} {A2 : Nat → Nat → Int} (hE : eo [75, 76] A A2) (hF : fcO A2 (mdS own oth z.2 N) (mdC own N) (Q l))
    (kk : ∀ A3, eo swL A A3 → roC A3 Q sz h (stp own oth N sz l z) → post none (123, K, zs (A3), ρ)) : mj_lv (d + 2) m_Orders_sortRow [.inr (.inl (some 46)), .inl (iZ (l : Nat))] (123, K, zs (A2), ρ) post := by
  obtain ⟨x1, x2, x3, x4, x5, x6, x7⟩ := id hx
  obtain ⟨r0, r1, r2, r3⟩ := id hr
  have s36 := x2 l hl
  have e47 : A2 47 = A 47 := hE 47 rfl
  have e49 : ∀ k, k < h → A2 (49 + k) = A (49 + k) := fun k hk => hE _ (by simp; omega)
  refine s_sortRow L (by omega) (by rw [e47]; exact r1 l hl) s36 hF (hz l hl).1 (fun j hj => by rw [e49 l hl]; exact r2 l hl j hj) (fun A3 hE3 h3 h74 => ?_)
  refine kk A3 (fun c hc => ?_) ⟨?_, fun k hk => ?_, fun k hk j hj => ?_, fun k hk x hq => ?_⟩
  · have c1 : c ≠ 49 + l := fun q => by rw [q, swL49 (by omega)] at hc; exact absurd hc (by decide)
    have c2 : c ≠ 74 := fun q => by rw [q] at hc; exact absurd hc (by decide)
    have c3 : c ≠ 75 := fun q => by rw [q] at hc; exact absurd hc (by decide)
    have c4 : c ≠ 76 := fun q => by rw [q] at hc; exact absurd hc (by decide)
    rw [hE3 c (by simp; omega), hE c (by simp; omega)]
  · rw [hE3 46 (by simp; omega), hE 46 rfl]
    exact r0
  · rw [hE3 47 (by simp; omega), e47]
    exact r1 k hk
  · by_cases y : k = l
    · subst y
      rw [h3 j hj]
      have e1 : (stp own oth N sz k z).1 k = isr (mdL own oth z.2 N) (sz k - 1) (z.1 k) := upf_s
      rw [e1]
      rfl
    · have e1 : (stp own oth N sz l z).1 k = z.1 k := upf_n y
      rw [e1, hE3 (49 + k) (by simp; omega), e49 k hk]
      exact r2 k hk j hj
  · rw [h74]
    show _ = nbr (isr (mdL own oth z.2 N) (sz l - 1) (z.1 l)) z.2 (sz l) x
    refine nbr_congr ?_ _
    rw [hE 74 rfl]
    exact r3 k hk x hq
/-- what stays through a sweep -/
def swI (A : Nat → Nat → Int) (Q : Nat → Int → Prop) (sz : Nat → Nat) (h : Nat) (z : wSt) (A2 : Nat → Nat → Int) : Prop := eo swL A A2 ∧ wok Q sz h z ∧ roC A2 Q sz h z
theorem sw_pc (hx : cxO Q sz h N g pu pd) (hp : pcC A g pu pd N) {A2 : Nat → Nat → Int} (hE : eo swL A A2) : pcC A2 g pu pd N := pcC_eo (fun q hq => by
  have := (hx.2.2.2.2.2.1 q hq).2.2
  have := hx.1
  omega) hp (fun c a b => hE c (by simp [swL]; omega))
set_option maxRecDepth 100000 in
theorem sw_1 (L : Lay K ρ) (hx : cxO Q sz h N g pu pd) (hp : pcC A g pu pd N) (hh : 1 ≤ h) {z : wSt} (kk : ∀ A2 x3, swI A Q sz h (dnS pu pd N sz z (h - 1)) A2 → (∀ y, x3 = some y → ∃ w, y = .inl w) → mj_W (mj_lv (d + 2)) prog_4_method_7_code 2 0 0 0 post 48 [some (.inr (.inl (some 46))), some (.inr (.inl (some 16))), some (.inl (iZ ((h : Nat)))), x3] [] (123, K, zs (A2), ρ) 0 0) : ∀ (j k : Nat) (A2 : Nat → Nat → Int) (x3 : Option mj_V), h - 1 - k < j → k ≤ h - 1 → (∀ y, x3 = some y → ∃ w, y = .inl w) → swI A Q sz h (dnS pu pd N sz z k) A2 → mj_W (mj_lv (d + 2)) prog_4_method_7_code 2 0 0 0 post 2 [some (.inr (.inl (some 46))), some (.inr (.inl (some 16))), some (.inl (iZ ((k + 1 : Nat)))), x3] [] (123, K, zs (A2), ρ) 0 0
  | 0, k, _, _, hj, _, _, _ => absurd hj (by omega)
  | j + 1, k, A2, x3, hj, hk, hx3, hI => by
    obtain ⟨x1, x2, x3', x4, x5, x6, x7⟩ := id hx
    obtain ⟨hE, hz, hr⟩ := id hI
    refine mq_iload_n d95_2 rfl rfl ?_
    refine mq_aload_n d95_3 rfl rfl ?_
    refine zg_getIe L ((h : Nat)) d95_4 rfl rfl (by decide) rfl (hr.1) ?_
    refine zq_icmp_ge (tgt := 48) d95_7 (by decide) (by omega) (by omega) (fun gb => ?_) (fun gb => ?_)
    · have e : k = h - 1 := by omega
      subst e
      have e2 : h - 1 + 1 = h := by omega
      rw [e2]
      exact kk A2 x3 hI hx3
    · have hk1 : k + 1 < h := by omega
      have hpA := sw_pc hx hp hE
      obtain ⟨o1, o2, o3, o4⟩ := pc_seq hx hpA hk1
      have ek : ((k + 1 : Nat) : Int) - 1 = (k : Nat) := by omega
      have st3 : mj_ok [some (.inr (.inl (some 46))), some (.inr (.inl (some 16))), some (.inl (iZ ((k + 1 : Nat)))), x3] 3 = true := by
        cases x3 with
        | none => rfl
        | some y =>
          obtain ⟨w, rfl⟩ := hx3 y rfl
          rfl
      refine mq_iload_n d95_10 rfl rfl ?_
      refine zq_iconst d95_11 ?_
      refine zq_isub d95_12 ?_
      rw [ek]
      refine mq_istore_n d95_13 rfl (Nat.le_of_ble_eq_true rfl) st3 ?_
      refine mq_aload_n d95_14 rfl rfl ?_
      refine mq_iload_n d95_15 rfl rfl ?_
      refine mq_aload_n d95_16 rfl rfl ?_
      refine zg_getR L 19 d95_17 rfl rfl (by decide) rfl (by decide) rfl ?_
      refine mq_iload_n d95_20 rfl rfl ?_
      refine zr_ialdV L ((ctg g k N : Nat)) d95_21 (by decide) rfl (by omega) (hpA.1 k (by omega)) ?_
      refine mq_aload_n d95_22 rfl rfl ?_
      refine zg_getR L 33 d95_23 rfl rfl (by decide) rfl (by decide) rfl ?_
      refine mq_iload_n d95_26 rfl rfl ?_
      refine zr_aald L (34 + k) d95_27 (by decide) rfl (by omega) (rf33 (by omega)) ?_
      refine mq_aload_n d95_28 rfl rfl ?_
      refine zg_getR L 20 d95_29 rfl rfl (by decide) rfl (by decide) rfl ?_
      refine mq_iload_n d95_32 rfl rfl ?_
      refine zr_aald L (21 + k) d95_33 (by decide) rfl (by omega) (rf20 (by omega)) ?_
      refine zg_callV (c := 46) L [_, _, _, _] d95_34 rfl rfl ⟨rfl, rfl⟩ rfl ⟨rfl, rfl⟩ ⟨by decide, by decide⟩ (by decide) rfl ?_
      refine st_fm (d := d + 1) L hx hz hr hk1 (own := pd) (oth := pu) o2 (fun p hp2 e => ⟨(o3 p hp2 e).2, (o3 p hp2 e).1⟩) (fun p hp2 x hq e => ?_) (fun p hp2 => ⟨g p, by have := (x6 p hp2).2.2; omega, (x6 p hp2).1⟩) (fun A3 e3 hF3 => ?_)
      · have := (x5 _ _ _ _ (x6 p hp2).2.1 hq (by rw [e])).1
        omega
      · refine mq_aload_n d95_37 rfl rfl ?_
        refine mq_iload_n d95_38 rfl rfl ?_
        refine zg_callV (c := 46) L [_] d95_39 rfl rfl ⟨rfl, rfl⟩ rfl ⟨rfl, rfl⟩ ⟨by decide, by decide⟩ (by decide) rfl ?_
        refine st_so (d := d) L hx hz hr hk1 e3 hF3 (fun A4 e4 hr4 => ?_)
        refine zq_iinc d95_42 rfl rfl ?_
        refine mq_goto (tgt := 2) d95_45 (by decide) ?_
        exact sw_1 L hx hp hh kk j (k + 1) A4 _ (by omega) (by omega) (fun y e => ⟨_, (Option.some.inj e).symm⟩) ⟨eo_trans hE e4, stp_ok x5 hz hk1, hr4⟩
set_option maxRecDepth 100000 in
theorem sw_2 (L : Lay K ρ) (hx : cxO Q sz h N g pu pd) (hp : pcC A g pu pd N) {x3 : Option mj_V} {z : wSt} (kk : ∀ A2, swI A Q sz h (upS pu pd N sz (h - 1) z (h - 1)) A2 → post none (123, K, zs (A2), ρ)) : ∀ (j k : Nat) (A2 : Nat → Nat → Int) (x : Int), h - 1 - k < j → k ≤ h - 1 → x = (h : Int) - 2 - k → swI A Q sz h (upS pu pd N sz (h - 1) z k) A2 → mj_W (mj_lv (d + 2)) prog_4_method_7_code 2 0 0 0 post 55 [some (.inr (.inl (some 46))), some (.inr (.inl (some 16))), some (.inl (iZ (x))), x3] [] (123, K, zs (A2), ρ) 0 0
  | 0, k, _, _, hj, _, _, _ => absurd hj (by omega)
  | j + 1, k, A2, x, hj, hk, ex, hI => by
    obtain ⟨x1, x2, x3', x4, x5, x6, x7⟩ := id hx
    obtain ⟨hE, hz, hr⟩ := id hI
    refine mq_iload_n d95_55 rfl rfl ?_
    refine zq_if_lt (tgt := 93) d95_56 (by decide) (by omega) (fun gb => ?_) (fun gb => ?_)
    · have e : k = h - 1 := by omega
      subst e
      refine zg_retv d95_93 (by decide) ?_
      exact kk A2 hI
    · obtain ⟨l, hl⟩ : ∃ l, l = h - 1 - 1 - k := ⟨_, rfl⟩
      have el : x = (l : Nat) := by omega
      subst el
      have hl1 : l + 1 < h := by omega
      have hpA := sw_pc hx hp hE
      obtain ⟨o1, o2, o3, o4⟩ := pc_seq hx hpA hl1
      refine mq_aload_n d95_59 rfl rfl ?_
      refine mq_iload_n d95_60 rfl rfl ?_
      refine mq_aload_n d95_61 rfl rfl ?_
      refine zg_getR L 19 d95_62 rfl rfl (by decide) rfl (by decide) rfl ?_
      refine mq_iload_n d95_65 rfl rfl ?_
      refine zr_ialdV L ((ctg g l N : Nat)) d95_66 (by decide) rfl (by omega) (hpA.1 l (by omega)) ?_
      refine mq_aload_n d95_67 rfl rfl ?_
      refine zg_getR L 20 d95_68 rfl rfl (by decide) rfl (by decide) rfl ?_
      refine mq_iload_n d95_71 rfl rfl ?_
      refine zr_aald L (21 + l) d95_72 (by decide) rfl (by omega) (rf20 (by omega)) ?_
      refine mq_aload_n d95_73 rfl rfl ?_
      refine zg_getR L 33 d95_74 rfl rfl (by decide) rfl (by decide) rfl ?_
      refine mq_iload_n d95_77 rfl rfl ?_
      refine zr_aald L (34 + l) d95_78 (by decide) rfl (by omega) (rf33 (by omega)) ?_
      refine zg_callV (c := 46) L [_, _, _, _] d95_79 rfl rfl ⟨rfl, rfl⟩ rfl ⟨rfl, rfl⟩ ⟨by decide, by decide⟩ (by decide) rfl ?_
      refine st_fm (d := d + 1) L hx hz hr (show l < h by omega) (own := pu) (oth := pd) o1 o3 (fun p hp2 x hq e => ?_) (fun p hp2 => ⟨g p + 1, (x6 p hp2).2.2, (x6 p hp2).2.1⟩) (fun A3 e3 hF3 => ?_)
      · exact (x5 _ _ _ _ (x6 p hp2).1 hq (by rw [e])).1
      · refine mq_aload_n d95_82 rfl rfl ?_
        refine mq_iload_n d95_83 rfl rfl ?_
        refine zg_callV (c := 46) L [_] d95_84 rfl rfl ⟨rfl, rfl⟩ rfl ⟨rfl, rfl⟩ ⟨by decide, by decide⟩ (by decide) rfl ?_
        refine st_so (d := d) L hx hz hr (by omega) e3 hF3 (fun A4 e4 hr4 => ?_)
        refine zq_iinc d95_87 rfl rfl ?_
        refine mq_goto (tgt := 55) d95_90 (by decide) ?_
        refine sw_2 L hx hp kk j (k + 1) A4 _ (by omega) (by omega) (by omega) ⟨eo_trans hE e4, ?_, ?_⟩
        · show wok Q sz h (stp pu pd N sz (h - 1 - 1 - k) _)
          exact stp_ok x5 hz (by omega)
        · show roC A4 Q sz h (stp pu pd N sz (h - 1 - 1 - k) _)
          rw [← hl]
          exact hr4
set_option maxRecDepth 100000 in
theorem s_sweep (L : Lay K ρ) (hx : cxO Q sz h N g pu pd) (hp : pcC A g pu pd N) (hh : 1 ≤ h) {z : wSt} (hz : wok Q sz h z) (hr : roC A Q sz h z) (kk : ∀ A2, eo swL A A2 → wok Q sz h (rdS pu pd N sz h z) → roC A2 Q sz h (rdS pu pd N sz h z) → post none (123, K, zs (A2), ρ)) : mj_lv (d + 3) m_Orders_sweep [.inr (.inl (some 46)), .inr (.inl (some 16))] (123, K, zs (A), ρ) post := by
  show mj_W (mj_lv (d + 2)) prog_4_method_7_code 2 0 0 0 post 0 [some (.inr (.inl (some 46))), some (.inr (.inl (some 16))), none, none] [] (123, K, zs (A), ρ) 0 0
  refine zq_iconst d95_0 ?_
  refine mq_istore_n d95_1 rfl (Nat.le_of_ble_eq_true rfl) rfl ?_
  refine sw_1 L hx hp hh (z := z) (fun A2 x3 hI hx3 => ?_) (h - 1 + 1) 0 A _ (by omega) (by omega) (fun y e => absurd e (by simp)) ⟨eo_refl, hz, hr⟩
  refine mq_aload_n d95_48 rfl rfl ?_
  refine zg_getIe L ((h : Nat)) d95_49 rfl rfl (by decide) rfl (hI.2.2.1) ?_
  refine zq_iconst d95_52 ?_
  refine zq_isub d95_53 ?_
  refine mq_istore_n d95_54 rfl (Nat.le_of_ble_eq_true rfl) rfl ?_
  exact sw_2 (A := A) L hx hp (fun A3 hI3 => kk A3 hI3.1 hI3.2.1 hI3.2.2) (h - 1 + 1) 0 A2 _ (by omega) (by omega) (by omega) hI
/-- rows of cells b1 + l go into those of b2 + l -/
def cpR (A : Nat → Nat → Int) (b1 b2 : Nat) (sz : Nat → Nat) (k : Nat) (A2 : Nat → Nat → Int) : Prop := (∀ c, ¬ (b2 ≤ c ∧ c < b2 + 12) → A2 c = A c) ∧ ∀ l, l < k → ∀ j, j < sz l → A2 (b2 + l) j = A (b1 + l) j
set_option maxRecDepth 100000 in
theorem cy_1 (L : Lay K ρ) {c1 c2 b1 b2 : Nat} (hc1 : c1 < 123 ∧ ly_kd c1 = (3, 12)) (hc2 : c2 < 123 ∧ ly_kd c2 = (3, 12)) (f1 : ∀ l, l < 12 → ly_rf c1 l = some (b1 + l) ∧ ly_kd (b1 + l) = (1, 36)) (f2 : ∀ l, l < 12 → ly_rf c2 l = some (b2 + l) ∧ ly_kd (b2 + l) = (1, 36)) (hb : (b1 + 12 ≤ b2 ∨ b2 + 12 ≤ b1) ∧ b1 + 12 ≤ 123 ∧ 48 ≤ b2 ∧ b2 + 12 ≤ 123) (h46 : A 46 6 = (h : Nat)) (h12 : h ≤ 12) (h47 : ∀ l, l < h → A 47 l = (sz l : Nat) ∧ sz l ≤ 36)
    (kk : ∀ A2, cpR A b1 b2 sz h A2 → post none (123, K, zs (A2), ρ)) : ∀ (j k : Nat) (A2 : Nat → Nat → Int), h - k < j → k ≤ h → cpR A b1 b2 sz k A2 → mj_W (mj_lv d) prog_4_method_6_code 2 0 0 0 post 2 [some (.inr (.inl (some 46))), some (.inr (.inl (some c1))), some (.inr (.inl (some c2))), some (.inl (iZ ((k : Nat))))] [] (123, K, zs (A2), ρ) 0 0
  | 0, k, _, hj, _, _ => absurd hj (by omega)
  | j + 1, k, A2, hj, hk, hI => by
    obtain ⟨hE, hR⟩ := id hI
    have e46 : A2 46 = A 46 := hE _ (by omega)
    have e47 : A2 47 = A 47 := hE _ (by omega)
    refine mq_iload_n d94_2 rfl rfl ?_
    refine mq_aload_n d94_3 rfl rfl ?_
    refine zg_getIe L ((h : Nat)) d94_4 rfl rfl (by decide) rfl ((by rw [e46]; exact h46)) ?_
    refine zq_icmp_ge (tgt := 33) d94_7 (by decide) (by omega) (by omega) (fun gb => ?_) (fun gb => ?_)
    · have e : k = h := by omega
      subst e
      refine zg_retv d94_33 (by decide) ?_
      exact kk A2 hI
    · have hkh : k < h := by omega
      obtain ⟨s1, s2⟩ := h47 k hkh
      have a1 := f1 k (by omega)
      have a2 := f2 k (by omega)
      refine mq_aload_n d94_10 rfl rfl ?_
      refine mq_iload_n d94_11 rfl rfl ?_
      refine zr_aald L (b1 + k) d94_12 hc1.1 hc1.2 (by omega) a1.1 ?_
      refine zq_iconst d94_13 ?_
      refine mq_aload_n d94_14 rfl rfl ?_
      refine mq_iload_n d94_15 rfl rfl ?_
      refine zr_aald L (b2 + k) d94_16 hc2.1 hc2.2 (by omega) a2.1 ?_
      refine zq_iconst d94_17 ?_
      refine mq_aload_n d94_18 rfl rfl ?_
      refine zg_getR L 47 d94_19 rfl rfl (by decide) rfl (by decide) rfl ?_
      refine mq_iload_n d94_22 rfl rfl ?_
      refine zr_ialdV L ((sz k : Nat)) d94_23 (by decide) rfl (by omega) ((by rw [e47]; exact s1)) ?_
      refine zr_copy L d94_24 rfl (by omega) a1.2 (by omega) a2.2 (by omega) rfl ?_
      refine zq_iinc d94_27 rfl rfl ?_
      refine mq_goto (tgt := 2) d94_30 (by decide) ?_
      refine cy_1 L hc1 hc2 f1 f2 hb h46 h12 h47 kk j (k + 1) _ (by omega) (by omega) ⟨fun c hc => ?_, fun l hl i hi => ?_⟩
      · rw [cpA_c (by omega)]
        exact hE c hc
      · by_cases y : l = k
        · subst y
          rw [cpA_in hi, hE _ (by omega)]
        · rw [cpA_c (by omega)]
          exact hR l (by omega) i hi
end sp_sw
