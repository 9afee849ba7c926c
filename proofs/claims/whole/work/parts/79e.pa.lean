section sp_pb
variable {d : Nat} {post : Option mj_V → mj_H → Prop} {K : Nat → Nat × Nat} {ρ : Nat → Nat → Option Nat} {A : Nat → Nat → Int} {Q : Nat → Int → Prop} {sz : Nat → Nat} {h N : Nat} {g pu pd : Nat → Nat} {z : wSt} {w : Nat → Int}
theorem plP_row (hz : wok Q sz h z) {l x : Nat} (hl : l < h) {r : Nat → Int} : plP Q (z.1 l) l (sz l) x ↔ plP Q r (l + 1) 0 x := by
  obtain ⟨⟨p1, p2, p3⟩, -⟩ := hz l hl
  unfold plP
  constructor
  · intro q
    left
    rcases q with ⟨k, k1, k2⟩ | ⟨j, j1, j2⟩
    · exact ⟨k, by omega, k2⟩
    · exact ⟨l, by omega, by rw [← j2]; exact p1 j j1⟩
  · intro q
    rcases q with ⟨k, k1, k2⟩ | ⟨j, j1, j2⟩
    · by_cases e : k = l
      · right
        rw [e] at k2
        exact p3 _ k2
      · exact Or.inl ⟨k, by omega, k2⟩
    · omega
/-- at layer l of assign -/
def paI (A : Nat → Nat → Int) (Q : Nat → Int → Prop) (h : Nat) (w pl : Nat → Int) (l : Nat) (A2 : Nat → Nat → Int) : Prop := eo [84, 85, 86, 87] A A2 ∧ plI A2 Q (fun _ => 0) w pl l 0 ∧ (∀ x : Nat, plP Q (fun _ => 0) l 0 x → pl x ≤ 500 * l - 60) ∧ plZ A2 Q h l
set_option maxRecDepth 100000 in
theorem pa_2 (L : Lay K ρ) (hx : cxO Q sz h N g pu pd) (hp : pcC A g pu pd N) (hz : wok Q sz h z) (hr : roC A Q sz h z) (h18 : ∀ x, x < 72 → A 18 x = w x ∧ 1 ≤ w x ∧ w x ≤ 9)
    (kk : ∀ A2, paI A Q h w (alP pu pd N w z.1 sz h) h A2 → post none (123, K, zs (A2), ρ)) : ∀ (j l : Nat) (A2 : Nat → Nat → Int) (x4 x5 x6 x7 : Option mj_V), h - l < j → l ≤ h → (∀ y, x4 = some y → ∃ w, y = .inl w) → (∀ y, x5 = some y → ∃ w, y = .inl w) → (∀ y, x6 = some y → ∃ w, y = .inl w) → (∀ y, x7 = some y → ∃ w, y = .inl w) → paI A Q h w (alP pu pd N w z.1 sz l) l A2 → mj_W (mj_lv (d + 1)) prog_7_method_2_code 5 0 0 0 post 23 [some (.inr (.inl (some 84))), some (.inr (.inl (some 16))), some (.inr (.inl (some 46))), some (.inl (iZ ((l : Nat)))), x4, x5, x6, x7] [] (123, K, zs (A2), ρ) 0 0
  | 0, l, _, _, _, _, _, hj, _, _, _, _, _, _ => absurd hj (by omega)
  | j + 1, l, A2, x4, x5, x6, x7, hj, hl, hx4, hx5, hx6, hx7, hI => by
    obtain ⟨x1, x2, x3, y4, y5, y6, y7⟩ := id hx
    obtain ⟨r0, r1, r2, r3⟩ := id hr
    have hE := hI.1
    have m0 : l < h → h - (l + 1) < j := by omega
    have okL : ∀ (v : Option mj_V), (∀ y, v = some y → ∃ w, y = .inl w) → v = none ∨ ∃ w, v = some (.inl w) := fun v hv => by
      cases v with
      | none => exact Or.inl rfl
      | some y =>
        obtain ⟨w, rfl⟩ := hv y rfl
        exact Or.inr ⟨w, rfl⟩
    refine mq_iload_n d119_23 rfl rfl ?_
    refine mq_aload_n d119_24 rfl rfl ?_
    refine zg_getIe L ((h : Nat)) d119_25 rfl rfl (by decide) rfl ((by rw [hE 46 rfl]; exact r0)) ?_
    refine zq_icmp_ge (tgt := 147) d119_28 (by decide) (by omega) (by omega) (fun g1 => ?_) (fun g1 => ?_)
    · have e : l = h := by omega
      subst e
      refine zg_retv d119_147 (by decide) ?_
      exact kk A2 hI
    · have hlh : l < h := by omega
      obtain ⟨-, ⟨i1, i2, i3⟩, i4, i5⟩ := id hI
      obtain ⟨pl, epl⟩ : ∃ pl, pl = alP pu pd N w z.1 sz l := ⟨_, rfl⟩
      rw [← epl] at i1 i2 i4
      have hpl : ∀ p, p < N → g p + 1 = l → 0 ≤ 2 * pl (pu p) + w (pu p) ∧ 2 * pl (pu p) + w (pu p) ≤ 2 * (500 * l) := fun p hp2 e => by
        have hq := (y6 p hp2).1
        have hP : plP Q (fun _ => 0) l 0 (pu p) := Or.inl ⟨g p, by omega, hq⟩
        have a1 := i1 _ hP
        have a2 := i4 _ hP
        have a3 := h18 (pu p) (by have := y4 _ _ hq; omega)
        omega
      -- behind lookUp
      have go : ∀ B, eo [86, 87] A2 B → plS B Q pu pd N w pl l → plZ B Q h (l + 1) → mj_W (mj_lv (d + 1)) prog_7_method_2_code 5 0 0 0 post 43 [some (.inr (.inl (some 84))), some (.inr (.inl (some 16))), some (.inr (.inl (some 46))), some (.inl (iZ ((l : Nat)))), x4, x5, x6, x7] [] (123, K, zs (B), ρ) 0 0 := fun B eB hS hZ => by
        have st : mj_ok [some (.inr (.inl (some 84))), some (.inr (.inl (some 16))), some (.inr (.inl (some 46))), some (.inl (iZ ((l : Nat)))), x4, x5, x6, x7] 4 = true ∧ mj_ok [some (.inr (.inl (some 84))), some (.inr (.inl (some 16))), some (.inr (.inl (some 46))), some (.inl (iZ ((l : Nat)))), some (.inl (iZ (0))), x5, x6, x7] 5 = true := by
          rcases okL x4 hx4 with e | ⟨w, e⟩ <;> rcases okL x5 hx5 with e2 | ⟨w2, e2⟩ <;> rw [e, e2] <;> exact ⟨rfl, rfl⟩
        have eAB : eo [84, 85, 86, 87] A B := eo_trans hE (eo_mono (by decide) eB)
        have hrB : roC B Q sz h z := roC_eo hr x1 (fun c hc => eAB c (by simp; omega))
        refine zq_iconst d119_43 ?_
        refine mq_istore d119_44 (Nat.le_of_ble_eq_true rfl) st.1 ?_
        refine zq_iconst d119_46 ?_
        refine mq_istore d119_47 (Nat.le_of_ble_eq_true rfl) st.2 ?_
        refine pa_1 (A := B) (pl := pl) L hx hz hrB (fun x hx2 => by rw [eAB 18 rfl]; exact h18 x hx2) hlh hpl hS hZ (fun A3 z4 z5 z6 z7 e3 hI3 hz6 hz7 => ?_) (sz l + 1) 0 B x6 x7 (by omega) (by omega) hx6 hx7 eo_refl ⟨fun x hP => ?_, ?_, ?_⟩
        · obtain ⟨k1, k2, k3⟩ := hI3
          have s36 := x2 l hlh
          refine zq_iinc d119_141 rfl rfl ?_
          refine mq_goto (tgt := 23) d119_144 (by decide) ?_
          have eA : rwP pu pd N w (z.1 l) pl (sz l) = alP pu pd N w z.1 sz (l + 1) := by
            rw [epl]
            rfl
          rw [eA] at k1 k2
          refine pa_2 L hx hp hz hr h18 kk j (l + 1) A3 _ _ _ _ (m0 hlh) hlh (fun y e => ⟨_, (Option.some.inj e).symm⟩) (fun y e => ⟨_, (Option.some.inj e).symm⟩) hz6 hz7 ⟨eo_trans eAB (eo_mono (by decide) e3), ⟨fun x hP => ?_, ?_, k3⟩, fun x hP => ?_, fun k a b x hq => ?_⟩
          · have := k1 x ((plP_row hz hlh).mpr hP)
            exact ⟨this.1, this.2.1, by omega, this.2.2.2⟩
          · rcases k2 with e | ⟨x, hx1, hx2⟩
            · exact Or.inl e
            · exact Or.inr ⟨x, (plP_row hz hlh).mp hx1, hx2⟩
          · have := k1 x ((plP_row hz hlh).mpr hP)
            omega
          · rw [e3 86 rfl, e3 87 rfl]
            exact hZ k a b x hq
        · have hP2 : plP Q (fun _ => 0) l 0 x := by
            rcases hP with q | ⟨k, k1, -⟩
            · exact Or.inl q
            · omega
          rw [eB 85 rfl, eB 84 rfl]
          exact i1 x hP2
        · rw [eB 84 rfl]
          rcases i2 with e | ⟨x, hx1, hx2⟩
          · exact Or.inl e
          · refine Or.inr ⟨x, ?_, hx2⟩
            rcases hx1 with q | ⟨k, k1, -⟩
            · exact Or.inl q
            · omega
        · rw [eB 84 rfl]
          exact i3
      refine mq_iload_n d119_31 rfl rfl ?_
      refine zq_if_le (tgt := 43) d119_32 (by decide) (by omega) (fun g2 => ?_) (fun g2 => ?_)
      · have l0 : l = 0 := by omega
        have nop : ∀ p, p < N → ∀ x : Nat, Q l (x : Nat) → pd p ≠ x := fun p hp2 x hq e => by
          have := (y5 _ _ _ _ (y6 p hp2).2.1 hq (by rw [e])).1
          omega
        refine go A2 eo_refl (fun x hq => ?_) (fun k a b x hq => i5 k (by omega) b x hq)
        obtain ⟨a1, a2⟩ := i5 l (Nat.le_refl _) hlh x hq
        unfold mdN
        rw [a1, a2, cnt_congr (m := N) (g := fun _ => 0) (fun p hp2 => if_neg (nop p hp2 x hq)), cnt_congr (m := N) (g := fun _ => 0) (fun p hp2 => if_neg (nop p hp2 x hq)), cnt_zero]
        exact ⟨rfl, rfl⟩
      · obtain ⟨k, hk⟩ : ∃ k, l = k + 1 := ⟨l - 1, by omega⟩
        have ek : (l : Int) - 1 = (k : Nat) := by omega
        have hp2 : pcC A2 g pu pd N := pcC_eo (fun q hq => by have := (y6 q hq).2.2; omega) hp (fun c a b => hE c (by simp; omega))
        obtain ⟨o1, o2, o3, o4⟩ := pc_seq hx hp2 (l := k) (by omega)
        refine mq_aload_n d119_35 rfl rfl ?_
        refine mq_aload_n d119_36 rfl rfl ?_
        refine mq_iload_n d119_37 rfl rfl ?_
        refine zq_iconst d119_38 ?_
        refine zq_isub d119_39 ?_
        rw [ek]
        refine zg_callV (c := 84) L [_, _] d119_40 rfl rfl ⟨rfl, rfl⟩ rfl ⟨rfl, rfl⟩ ⟨by decide, by decide⟩ (by decide) rfl ?_
        refine s_lookUp L (by omega) (hp2.1 k (by omega)) o1 (fun B eB hB => ?_)
        refine go B eB (fun x hq => ?_) (fun k2 a b x hq => ?_)
        · obtain ⟨a1, a2⟩ := i5 l (Nat.le_refl _) hlh x hq
          obtain ⟨b1, b2⟩ := hB x
          have gk : ∀ p, p < N → pd p = x → g p = k := fun p hp3 e => by
            have := (y5 _ _ _ _ (y6 p hp3).2.1 hq (by rw [e])).1
            omega
          rw [b1, b2, a1, a2]
          refine ⟨?_, ?_⟩
          · rw [Int.zero_add]
            unfold luS
            rw [ctg_sum (F := fun p => if pd p = x then 2 * pl (pu p) + w (pu p) else 0) (fun p hp3 e => ?_)]
            · refine cnt_congr (fun p hp3 => ?_)
              by_cases y : pd p = x
              · rw [if_pos (gk p hp3 y)]
              · rw [if_neg y]
                split <;> rfl
            · obtain ⟨q1, q2⟩ := o3 p hp3 e
              have hqp := (y6 p hp3).1
              rw [e] at hqp
              have hP : plP Q (fun _ => 0) l 0 (pu p) := Or.inl ⟨k, by omega, hqp⟩
              show (if (A2 (34 + k) (ctg g k p)).toNat = x then 2 * A2 85 (A2 (21 + k) (ctg g k p)).toNat + A2 18 (A2 (21 + k) (ctg g k p)).toNat else 0) = _
              rw [q1, q2, (i1 _ hP).1, hE 18 rfl, (h18 (pu p) (by have := y4 _ _ hqp; omega)).1]
          · rw [Int.zero_add]
            unfold nnO mdN
            rw [ctg_sum (F := fun p => if pd p = x then 1 else 0) (fun p hp3 e => ?_)]
            · refine cnt_congr (fun p hp3 => ?_)
              by_cases y : pd p = x
              · rw [if_pos (gk p hp3 y)]
              · rw [if_neg y]
                split <;> rfl
            · show (if (A2 (34 + k) (ctg g k p)).toNat = x then 1 else 0) = _
              rw [(o3 p hp3 e).2]
        · obtain ⟨a1, a2⟩ := i5 k2 (by omega) b x hq
          obtain ⟨b1, b2⟩ := hB x
          have no : ∀ i, i < ctg g k N → (A2 (34 + k) i).toNat ≠ x := fun i hi e => by
            have q := (o4 i hi).2
            rw [e] at q
            have := (y5 _ _ _ _ q hq rfl).1
            omega
          rw [b1, b2, a1, a2]
          unfold luS nnO
          rw [cnt_congr (g := fun _ => 0) (fun i hi => if_neg (no i hi)), cnt_congr (g := fun _ => 0) (fun i hi => if_neg (no i hi)), cnt_zero]
          exact ⟨rfl, rfl⟩
/-- the places, and how wide the drawing is -/
def paR (Q : Nat → Int → Prop) (h : Nat) (w pl : Nat → Int) (A2 : Nat → Nat → Int) : Prop := (∀ l, l < h → ∀ x : Nat, Q l (x : Nat) → A2 85 x = pl x ∧ 0 ≤ pl x ∧ pl x ≤ 6000 ∧ pl x + w x ≤ A2 84 3) ∧ (A2 84 3 = 0 ∨ ∃ l, l < h ∧ ∃ x : Nat, Q l (x : Nat) ∧ A2 84 3 = pl x + w x)
set_option maxRecDepth 100000 in
theorem s_assign (L : Lay K ρ) (hx : cxO Q sz h N g pu pd) (hp : pcC A g pu pd N) (hz : wok Q sz h z) (hr : roC A Q sz h z) (h18 : ∀ x, x < 72 → A 18 x = w x ∧ 1 ≤ w x ∧ w x ≤ 9)
    (kk : ∀ A2, eo [84, 85, 86, 87] A A2 → paR Q h w (alP pu pd N w z.1 sz h) A2 → post none (123, K, zs (A2), ρ)) : mj_lv (d + 2) m_Places_assign [.inr (.inl (some 84)), .inr (.inl (some 16)), .inr (.inl (some 46))] (123, K, zs (A), ρ) post := by
  obtain ⟨x1, x2, x3, y4, y5, y6, y7⟩ := id hx
  show mj_W (mj_lv (d + 1)) prog_7_method_2_code 5 0 0 0 post 0 [some (.inr (.inl (some 84))), some (.inr (.inl (some 16))), some (.inr (.inl (some 46))), none, none, none, none, none] [] (123, K, zs (A), ρ) 0 0
  refine mq_aload_n d119_0 rfl rfl ?_
  refine zg_getR L 86 d119_1 rfl rfl (by decide) rfl (by decide) rfl ?_
  refine zq_iconst d119_4 ?_
  refine zg_callS [_, _] d119_5 rfl rfl ⟨rfl, rfl⟩ rfl ⟨rfl, rfl⟩ ⟨by decide, by decide⟩ ?_
  refine s_fill L (by decide) rfl (by decide) ?_
  refine mq_aload_n d119_8 rfl rfl ?_
  refine zg_getR L 87 d119_9 rfl rfl (by decide) rfl (by decide) rfl ?_
  refine zq_iconst d119_12 ?_
  refine zg_callS [_, _] d119_13 rfl rfl ⟨rfl, rfl⟩ rfl ⟨rfl, rfl⟩ ⟨by decide, by decide⟩ ?_
  refine s_fill L (by decide) rfl (by decide) ?_
  refine mq_aload_n d119_16 rfl rfl ?_
  refine zq_iconst d119_17 ?_
  refine zg_putI L d119_18 rfl rfl rfl rfl (by decide) rfl ?_
  refine zq_iconst d119_21 ?_
  refine mq_istore_n d119_22 rfl (Nat.le_of_ble_eq_true rfl) rfl ?_
  obtain ⟨B, hB⟩ : ∃ B, B = mj_u2 (fl (fl A 86 72 0) 87 72 0) 84 3 0 := ⟨_, rfl⟩
  rw [← hB]
  have bc : ∀ c, c ≠ 84 → c ≠ 86 → c ≠ 87 → B c = A c := fun c q1 q2 q3 => by rw [hB, u2_cell q1, fl_c q3, fl_c q2]
  have eB : eo [84, 85, 86, 87] A B := fun c hc => by
    simp at hc
    exact bc c (by omega) (by omega) (by omega)
  have b84 : B 84 3 = 0 := by rw [hB, u2_self]
  refine pa_2 (A := A) L hx hp hz hr h18 (fun A2 hI => ?_) (h + 1) 0 B _ _ _ _ (by omega) (by omega) (fun y e => absurd e (by simp)) (fun y e => absurd e (by simp)) (fun y e => absurd e (by simp)) (fun y e => absurd e (by simp)) ⟨eB, ⟨fun x hP => ?_, Or.inl b84, by omega, by omega⟩, fun x hP => ?_, fun k a b x hq => ?_⟩
  · obtain ⟨q1, ⟨q2, q3, q4⟩, q5, q6⟩ := hI
    refine kk A2 q1 ⟨fun l hl x hq => ?_, ?_⟩
    · have := q2 x (Or.inl ⟨l, hl, hq⟩)
      exact ⟨this.1, this.2.1, by omega, this.2.2.2⟩
    · rcases q3 with e | ⟨x, hP, e⟩
      · exact Or.inl e
      · rcases hP with ⟨k, k1, k2⟩ | ⟨k, k1, -⟩
        · exact Or.inr ⟨k, k1, x, k2, e⟩
        · omega
  · exfalso
    rcases hP with ⟨k, k1, -⟩ | ⟨k, k1, -⟩ <;> omega
  · exfalso
    rcases hP with ⟨k, k1, -⟩ | ⟨k, k1, -⟩ <;> omega
  · have x72 : x < 72 := by have := y4 _ _ hq; omega
    rw [hB, u2_c (by decide), u2_c (by decide), fl_c (by decide), fl_lt x72, fl_lt x72]
    exact ⟨rfl, rfl⟩
end sp_pb
