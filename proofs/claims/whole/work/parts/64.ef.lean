section sp_ef
variable {d : Nat} {post : Option mj_V → mj_H → Prop} {K : Nat → Nat × Nat} {ρ : Nat → Nat → Option Nat} {A : Nat → Nat → Int} {n m : Nat} {U W : Nat → Nat} {th : Nat → Int}
/-- what raised the nodes -/
def rbOK (n m : Nat) (th F r : Nat → Int) : Prop := ∀ v, v < n → r v = -1 ∨ ∃ c : Nat, r v = c ∧ eO m th F c
theorem eO_lt {F : Nat → Int} {c : Nat} (hm : m ≤ 24) (h : eO m th F c) : (c < 24 ∧ c < m) ∨ (24 ≤ c ∧ c - 24 < m ∧ c < 48) := by
  unfold eO at h
  split at h <;> omega
theorem rsr_lt (h : lyC A n m U W th) {F r : Nat → Int} (hr : rbOK n m th F r) {v : Nat} (hv : v < n) : rsr (eS U W) r v < n := by
  obtain ⟨h1, h2, h3, h4, h5⟩ := h
  unfold rsr
  rcases hr v hv with e | ⟨c, e, hc⟩
  · rw [if_pos e]
    exact hv
  · rw [if_neg (by omega), show (r v).toNat = c by omega]
    rcases eO_lt h4 hc with q | q
    · rw [eS_dn q.1]
      exact (h5 c q.2).2.1.1
    · rw [eS_ub (by omega)]
      exact (h5 _ q.2.1).2.1.2
set_option maxRecDepth 100000 in
theorem s_raiser (L : Lay K ρ) (h : lyC A n m U W th) {F : Nat → Int} (hr : rbOK n m th F (A 15)) {v : Nat} (hv : v < n) (k : post (some (.inl (iZ (rsr (eS U W) (A 15) v : Int)))) (123, K, zs (A), ρ)) : mj_lv (d + 1) m_Layering_raiser [.inr (.inl (some 10)), .inl (iZ (v : Int))] (123, K, zs (A), ρ) post := by
  obtain ⟨h1, h2, h3, h4, h5⟩ := h
  show mj_W (mj_lv d) prog_3_method_7_code 1 1 0 0 post 0 [some (.inr (.inl (some 10))), some (.inl (iZ ((v : Int)))), none] [] (123, K, zs (A), ρ) 0 0
  rcases hr v hv with e | ⟨c, e, hc⟩
  · refine mq_aload_n d86_0 rfl rfl ?_
    refine zg_getR L 15 d86_1 rfl rfl (by decide) rfl (by decide) rfl ?_
    refine mq_iload_n d86_4 rfl rfl ?_
    refine zr_ialdV L (-1) d86_5 (by decide) rfl (by omega) (e) ?_
    refine mq_istore_n d86_6 rfl (Nat.le_of_ble_eq_true rfl) rfl ?_
    refine mq_iload_n d86_7 rfl rfl ?_
    refine zq_iconst d86_8 ?_
    refine zq_icmp_ne (tgt := 14) d86_9 (by decide) (by omega) (by omega) (fun g => ?_) (fun g => ?_)
    · exact absurd rfl g
    · refine mq_iload_n d86_12 rfl rfl ?_
      refine zg_reti d86_13 rfl ?_
      have : rsr (eS U W) (A 15) v = v := if_pos e
      rw [this] at k
      exact k
  · have er : rsr (eS U W) (A 15) v = eS U W c := by
      unfold rsr
      rw [if_neg (by omega), show (A 15 v).toNat = c by omega]
    rw [er] at k
    have hb := eO_lt h4 hc
    refine mq_aload_n d86_0 rfl rfl ?_
    refine zg_getR L 15 d86_1 rfl rfl (by decide) rfl (by decide) rfl ?_
    refine mq_iload_n d86_4 rfl rfl ?_
    refine zr_ialdV L ((c : Int)) d86_5 (by decide) rfl (by omega) (e) ?_
    refine mq_istore_n d86_6 rfl (Nat.le_of_ble_eq_true rfl) rfl ?_
    refine mq_iload_n d86_7 rfl rfl ?_
    refine zq_iconst d86_8 ?_
    refine zq_icmp_ne (tgt := 14) d86_9 (by decide) (by omega) (by omega) (fun g => ?_) (fun g => ?_)
    · refine mq_iload_n d86_14 rfl rfl ?_
      refine zq_bipush d86_15 rfl ?_
      refine zq_icmp_ge (tgt := 29) d86_17 (by decide) (by omega) (by omega) (fun g2 => ?_) (fun g2 => ?_)
      · have q : c - 24 < m ∧ 24 ≤ c := by omega
        obtain ⟨⟨a1, a2⟩, ⟨a3, a4⟩, a5, a6⟩ := h5 _ q.1
        rw [eS_ub (by omega)] at k
        refine mq_aload_n d86_29 rfl rfl ?_
        refine zg_getR L 12 d86_30 rfl rfl (by decide) rfl (by decide) rfl ?_
        refine mq_iload_n d86_33 rfl rfl ?_
        refine zq_bipush d86_34 rfl ?_
        refine zq_isub d86_36 ?_
        refine zg_ialde L (W (c - 24) : Int) d86_37 (by decide) rfl (by omega) (by rw [show ((c : Int) - 24).toNat = c - 24 by omega]; exact a2) ?_
        refine zg_reti d86_38 rfl ?_
        exact k
      · have q : c < m ∧ c < 24 := by omega
        obtain ⟨⟨a1, a2⟩, ⟨a3, a4⟩, a5, a6⟩ := h5 _ q.1
        rw [eS_dn q.2] at k
        refine mq_aload_n d86_20 rfl rfl ?_
        refine zg_getR L 11 d86_21 rfl rfl (by decide) rfl (by decide) rfl ?_
        refine mq_iload_n d86_24 rfl rfl ?_
        refine zr_ialdV L ((U c : Int)) d86_25 (by decide) rfl (by omega) (a1) ?_
        refine mq_goto (tgt := 38) d86_26 (by decide) ?_
        refine zg_reti d86_38 rfl ?_
        exact k
    · omega
set_option maxRecDepth 100000 in
theorem s_addFlow (L : Lay K ρ) {c : Nat} (hc : c < 48) {δ : Int} (k : post none (123, K, zs (mj_u2 A 13 (eA c) (A 13 (eA c) + eW c * δ)), ρ)) : mj_lv (d + 1) m_Layering_addFlow [.inr (.inl (some 10)), .inl (iZ (c : Int)), .inl (iZ δ)] (123, K, zs (A), ρ) post := by
  show mj_W (mj_lv d) prog_3_method_8_code 1 0 0 0 post 0 [some (.inr (.inl (some 10))), some (.inl (iZ ((c : Int)))), some (.inl (iZ (δ)))] [] (123, K, zs (A), ρ) 0 0
  refine mq_iload_n d87_0 rfl rfl ?_
  refine zq_bipush d87_1 rfl ?_
  refine zq_icmp_lt (tgt := 22) d87_3 (by decide) (by omega) (by omega) (fun g => ?_) (fun g => ?_)
  · have e1 : eA c = c := if_pos (by omega)
    have e2 : eW c = 1 := if_pos (by omega)
    rw [e1, e2, Int.one_mul] at k
    refine mq_iload_n d87_22 rfl rfl ?_
    refine zq_iconst d87_23 ?_
    refine zq_icmp_eq (tgt := 37) d87_24 (by decide) (by omega) (by omega) (fun g2 => ?_) (fun g2 => ?_)
    · omega
    · refine mq_aload_n d87_27 rfl rfl ?_
      refine zg_getR L 13 d87_28 rfl rfl (by decide) rfl (by decide) rfl ?_
      refine mq_iload_n d87_31 rfl rfl ?_
      refine mq_dup2 d87_32 rfl rfl ?_
      refine zg_ialdN L d87_33 (by decide) rfl (by omega) ?_
      refine mq_iload_n d87_34 rfl rfl ?_
      refine zq_iadd d87_35 ?_
      refine zg_iastN L d87_36 (by decide) rfl (by omega) ?_
      refine zg_retv d87_37 (by decide) ?_
      exact k
  · have e1 : eA c = c - 24 := if_neg (by omega)
    have e2 : eW c = -1 := if_neg (by omega)
    rw [e1, e2] at k
    have e3 : ((c : Int) - 24) = ((c - 24 : Nat) : Int) := by omega
    refine mq_aload_n d87_6 rfl rfl ?_
    refine zg_getR L 13 d87_7 rfl rfl (by decide) rfl (by decide) rfl ?_
    refine mq_iload_n d87_10 rfl rfl ?_
    refine zq_bipush d87_11 rfl ?_
    refine zq_isub d87_13 ?_
    rw [e3]
    refine mq_dup2 d87_14 rfl rfl ?_
    refine zg_ialdN L d87_15 (by decide) rfl (by omega) ?_
    refine mq_iload_n d87_16 rfl rfl ?_
    refine zq_isub d87_17 ?_
    refine zg_iastN L d87_18 (by decide) rfl (by omega) ?_
    refine mq_goto (tgt := 37) d87_19 (by decide) ?_
    refine zg_retv d87_37 (by decide) ?_
    have e4 : A 13 (c - 24) - δ = A 13 (c - 24) + -1 * δ := by omega
    rw [e4]
    exact k
set_option maxRecDepth 100000 in
theorem el_1 (L : Lay K ρ) (h : lyC A n m U W th) {F : Nat → Int} (hr : rbOK n m th F (A 15)) {x : Nat} (hx : x < n) (kk : mj_W (mj_lv (d + 1)) prog_3_method_6_code 1 0 0 0 post 23 [some (.inr (.inl (some 10))), some (.inl (iZ ((n : Int)))), some (.inl (iZ ((x : Int)))), some (.inl (iZ ((itr (rsr (eS U W) (A 15)) x n : Int)))), some (.inl (iZ ((n : Int)))), none, none] [] (123, K, zs (A), ρ) 0 0) : ∀ (j k : Nat), n - k < j → k ≤ n → itr (rsr (eS U W) (A 15)) x k < n → mj_W (mj_lv (d + 1)) prog_3_method_6_code 1 0 0 0 post 5 [some (.inr (.inl (some 10))), some (.inl (iZ ((n : Int)))), some (.inl (iZ ((x : Int)))), some (.inl (iZ ((itr (rsr (eS U W) (A 15)) x k : Int)))), some (.inl (iZ ((k : Int)))), none, none] [] (123, K, zs (A), ρ) 0 0
  | 0, k, hj, _, _ => absurd hj (by omega)
  | j + 1, k, hj, hk, hi => by
    have h3 := h.2.2.1
    refine mq_iload d85_5 rfl ?_
    refine mq_iload_n d85_7 rfl rfl ?_
    refine zq_icmp_ge (tgt := 23) d85_8 (by decide) (by omega) (by omega) (fun g => ?_) (fun g => ?_)
    · have e : k = n := by omega
      subst e
      exact kk
    · refine mq_aload_n d85_11 rfl rfl ?_
      refine mq_iload_n d85_12 rfl rfl ?_
      refine zg_callV (c := 10) L [_] d85_13 rfl rfl ⟨rfl, rfl⟩ rfl ⟨rfl, rfl⟩ ⟨by decide, by decide⟩ (by decide) rfl ?_
      refine s_raiser L h hr hi ?_
      refine mq_istore_n d85_16 rfl (Nat.le_of_ble_eq_true rfl) rfl ?_
      refine zq_iinc d85_17 rfl rfl ?_
      refine mq_goto (tgt := 5) d85_20 (by decide) ?_
      exact el_1 L h hr hx kk j (k + 1) (by omega) (by omega) (rsr_lt h hr hi)
/-- the least flow up the way so far -/
def mnI (F r : Nat → Int) (z : Nat → Nat) (k : Nat) (M : Int) : Prop := 1 ≤ M ∧ M ≤ 2147483647 ∧ (∀ i, i < k → ∀ a : Nat, r (z i) = 24 + a → M ≤ F a) ∧ ((∃ i, i < k ∧ 24 ≤ r (z i)) → M ≤ 264)
set_option maxRecDepth 100000 in
theorem el_2 (L : Lay K ρ) (h : lyC A n m U W th) (hr : rbOK n m th (A 13) (A 15)) (h264 : ∀ a, a < m → th a = 1 → 0 ≤ A 13 a ∧ A 13 a ≤ 264) {s q : Nat} (hw : rway n (eS U W) (eG U W) eW (eO m th (A 13)) (A 15) s q) {x : Int32}
    (kk : ∀ M x5 x6, mnI (A 13) (A 15) (itr (rsr (eS U W) (A 15)) s) q M → mj_W (mj_lv (d + 1)) prog_3_method_6_code 1 0 0 0 post 98 [some (.inr (.inl (some 10))), some (.inl (iZ ((n : Int)))), some (.inl x), some (.inl (iZ ((s : Int)))), some (.inl (iZ (M))), some (.inl x5), some (.inl x6)] [] (123, K, zs (A), ρ) 0 0) : ∀ (j k : Nat) (M : Int), q - k < j → k ≤ q → mnI (A 13) (A 15) (itr (rsr (eS U W) (A 15)) s) k M → mj_W (mj_lv (d + 1)) prog_3_method_6_code 1 0 0 0 post 33 [some (.inr (.inl (some 10))), some (.inl (iZ ((n : Int)))), some (.inl x), some (.inl (iZ ((s : Int)))), some (.inl (iZ (M))), some (.inl (iZ ((itr (rsr (eS U W) (A 15)) s k : Int)))), some (.inl (iZ ((k : Int))))] [] (123, K, zs (A), ρ) 0 0
  | 0, k, _, hj, _, _ => absurd hj (by omega)
  | j + 1, k, M, hj, hk, hM => by
    obtain ⟨h1, h2, h3, h4, h5⟩ := id h
    obtain ⟨w1, w2, w3, w4, w5, w6⟩ := id hw
    obtain ⟨b1, b2, b3, b4, b5⟩ := w5 k
    have s0 : s < n := (w5 0).1
    obtain ⟨M1, M2, M3, M4⟩ := id hM
    have go : k < q → mj_W (mj_lv (d + 1)) prog_3_method_6_code 1 0 0 0 post 50 [some (.inr (.inl (some 10))), some (.inl (iZ ((n : Int)))), some (.inl x), some (.inl (iZ ((s : Int)))), some (.inl (iZ (M))), some (.inl (iZ ((itr (rsr (eS U W) (A 15)) s k : Int)))), some (.inl (iZ ((k : Int))))] [] (123, K, zs (A), ρ) 0 0 := fun kq => by
      have next : ∀ M2, mnI (A 13) (A 15) (itr (rsr (eS U W) (A 15)) s) (k + 1) M2 → mj_W (mj_lv (d + 1)) prog_3_method_6_code 1 0 0 0 post 84 [some (.inr (.inl (some 10))), some (.inl (iZ ((n : Int)))), some (.inl x), some (.inl (iZ ((s : Int)))), some (.inl (iZ (M2))), some (.inl (iZ ((itr (rsr (eS U W) (A 15)) s k : Int)))), some (.inl (iZ ((k : Int))))] [] (123, K, zs (A), ρ) 0 0 := fun M2 hM2 => by
        refine mq_aload_n d85_84 rfl rfl ?_
        refine mq_iload d85_85 rfl ?_
        refine zg_callV (c := 10) L [_] d85_87 rfl rfl ⟨rfl, rfl⟩ rfl ⟨rfl, rfl⟩ ⟨by decide, by decide⟩ (by decide) rfl ?_
        refine s_raiser L h hr b1 ?_
        refine mq_istore d85_90 (Nat.le_of_ble_eq_true rfl) rfl ?_
        refine zq_iinc d85_92 rfl rfl ?_
        refine mq_goto (tgt := 33) d85_95 (by decide) ?_
        exact el_2 L h hr h264 hw kk j (k + 1) M2 (by omega) (by omega) hM2
      obtain ⟨c, hc⟩ : ∃ c : Nat, A 15 (itr (rsr (eS U W) (A 15)) s k) = c := ⟨(A 15 (itr (rsr (eS U W) (A 15)) s k)).toNat, by omega⟩
      rw [hc] at b3
      have b3' : eO m th (A 13) c := by simpa using b3
      have hb := eO_lt h4 b3'
      refine mq_aload_n d85_50 rfl rfl ?_
      refine zg_getR L 15 d85_51 rfl rfl (by decide) rfl (by decide) rfl ?_
      refine mq_iload d85_54 rfl ?_
      refine zr_ialdV L ((c : Int)) d85_56 (by decide) rfl (by omega) (hc) ?_
      refine zq_bipush d85_57 rfl ?_
      refine zq_icmp_lt (tgt := 84) d85_59 (by decide) (by omega) (by omega) (fun g5 => ?_) (fun g5 => ?_)
      · refine next M ⟨M1, M2, fun i hi a e => ?_, fun ⟨i, i1, i2⟩ => ?_⟩
        · by_cases y : i = k
          · rw [y, hc] at e
            omega
          · exact M3 i (by omega) a e
        · by_cases y : i = k
          · rw [y, hc] at i2
            omega
          · exact M4 ⟨i, by omega, i2⟩
      · have e3 : ((c : Int) - 24) = ((c - 24 : Nat) : Int) := by omega
        have o2 := b3'
        unfold eO at o2
        rw [if_neg (by omega)] at o2
        have f1 := h264 _ o2.1 o2.2.1
        refine mq_iload d85_62 rfl ?_
        refine mq_aload_n d85_64 rfl rfl ?_
        refine zg_getR L 13 d85_65 rfl rfl (by decide) rfl (by decide) rfl ?_
        refine mq_aload_n d85_68 rfl rfl ?_
        refine zg_getR L 15 d85_69 rfl rfl (by decide) rfl (by decide) rfl ?_
        refine mq_iload d85_72 rfl ?_
        refine zr_ialdV L ((c : Int)) d85_74 (by decide) rfl (by omega) (hc) ?_
        refine zq_bipush d85_75 rfl ?_
        refine zq_isub d85_77 ?_
        rw [e3]
        refine zg_ialdN L d85_78 (by decide) rfl (by omega) ?_
        refine zr_min d85_79 rfl rfl (by omega) (by omega) ?_
        refine mq_istore d85_82 (Nat.le_of_ble_eq_true rfl) rfl ?_
        refine next _ ⟨?_, ?_, fun i hi a e => ?_, fun _ => ?_⟩
        · split <;> omega
        · split <;> omega
        · by_cases y : i = k
          · rw [y, hc] at e
            have : c - 24 = a := by omega
            rw [this]
            split <;> omega
          · have := M3 i (by omega) a e
            split <;> omega
        · split <;> omega
    have done : k = q → mj_W (mj_lv (d + 1)) prog_3_method_6_code 1 0 0 0 post 98 [some (.inr (.inl (some 10))), some (.inl (iZ ((n : Int)))), some (.inl x), some (.inl (iZ ((s : Int)))), some (.inl (iZ (M))), some (.inl (iZ ((itr (rsr (eS U W) (A 15)) s k : Int)))), some (.inl (iZ ((k : Int))))] [] (123, K, zs (A), ρ) 0 0 := fun e => by
      subst e
      exact kk M _ _ hM
    refine mq_iload d85_33 rfl ?_
    refine mq_iload_n d85_35 rfl rfl ?_
    refine zq_icmp_ge (tgt := 98) d85_36 (by decide) (by omega) (by omega) (fun g => ?_) (fun g => ?_)
    · exact done (by omega)
    · refine mq_iload d85_39 rfl ?_
      refine zq_if_eq (tgt := 50) d85_41 (by decide) (by omega) (fun g2 => ?_) (fun g2 => ?_)
      · exact go (by omega)
      · refine mq_iload d85_44 rfl ?_
        refine mq_iload_n d85_46 rfl rfl ?_
        refine zq_icmp_eq (tgt := 98) d85_47 (by decide) (by omega) (by omega) (fun g3 => ?_) (fun g3 => ?_)
        · refine done ?_
          rcases Nat.lt_or_ge k q with y | y
          · exact absurd (by have : itr (rsr (eS U W) (A 15)) s 0 = s := rfl; omega) (w4 0 k (by omega) y)
          · omega
        · refine go ?_
          rcases Nat.lt_or_ge k q with y | y
          · exact y
          · have : k = q := by omega
            rw [this] at g3
            omega
theorem pd_eA {c a : Nat} (ha : a < 24) (hc : c < 48) {δ : Int} : pd (c : Int) δ a = if a = eA c then eW c * δ else 0 := by
  unfold pd eA eW
  by_cases q : c < 24
  · rw [if_pos q, if_pos q]
    by_cases e : a = c
    · rw [if_pos (by omega), if_pos e]
      omega
    · rw [if_neg (by omega), if_neg (by omega), if_neg e]
  · rw [if_neg q, if_neg q]
    by_cases e : a = c - 24
    · rw [if_neg (by omega), if_pos (by omega), if_pos e]
      omega
    · rw [if_neg (by omega), if_neg (by omega), if_neg e]
set_option maxRecDepth 100000 in
theorem el_3 (L : Lay K ρ) (h : lyC A n m U W th) (hr : rbOK n m th (A 13) (A 15)) {s q : Nat} (hw : rway n (eS U W) (eG U W) eW (eO m th (A 13)) (A 15) s q) {x : Int32} {δ : Int}
    (kk : ∀ A2, eo [13] A A2 → (∀ a, a < m → A2 13 a = A 13 a + cnt (fun i => pd (A 15 (itr (rsr (eS U W) (A 15)) s i)) δ a) q) → post none (123, K, zs (A2), ρ)) : ∀ (j k : Nat) (A2 : Nat → Nat → Int), q - k < j → k ≤ q → eo [13] A A2 → (∀ a, a < m → A2 13 a = A 13 a + cnt (fun i => pd (A 15 (itr (rsr (eS U W) (A 15)) s i)) δ a) k) → mj_W (mj_lv (d + 1)) prog_3_method_6_code 1 0 0 0 post 104 [some (.inr (.inl (some 10))), some (.inl (iZ ((n : Int)))), some (.inl x), some (.inl (iZ ((s : Int)))), some (.inl (iZ (δ))), some (.inl (iZ ((itr (rsr (eS U W) (A 15)) s k : Int)))), some (.inl (iZ ((k : Int))))] [] (123, K, zs (A2), ρ) 0 0
  | 0, k, _, hj, _, _, _ => absurd hj (by omega)
  | j + 1, k, A2, hj, hk, hE, hF => by
    obtain ⟨h1, h2, h3, h4, h5⟩ := id h
    obtain ⟨w1, w2, w3, w4, w5, w6⟩ := id hw
    obtain ⟨b1, b2, b3, b4, b5⟩ := w5 k
    have s0 : s < n := (w5 0).1
    have go : k < q → mj_W (mj_lv (d + 1)) prog_3_method_6_code 1 0 0 0 post 121 [some (.inr (.inl (some 10))), some (.inl (iZ ((n : Int)))), some (.inl x), some (.inl (iZ ((s : Int)))), some (.inl (iZ (δ))), some (.inl (iZ ((itr (rsr (eS U W) (A 15)) s k : Int)))), some (.inl (iZ ((k : Int))))] [] (123, K, zs (A2), ρ) 0 0 := fun kq => by
      obtain ⟨c, hc⟩ : ∃ c : Nat, A 15 (itr (rsr (eS U W) (A 15)) s k) = c := ⟨(A 15 (itr (rsr (eS U W) (A 15)) s k)).toNat, by omega⟩
      rw [hc] at b3
      have b3' : eO m th (A 13) c := by simpa using b3
      have hb := eO_lt h4 b3'
      refine mq_aload_n d85_121 rfl rfl ?_
      refine mq_aload_n d85_122 rfl rfl ?_
      refine zg_getR L 15 d85_123 rfl rfl (by decide) rfl (by decide) rfl ?_
      refine mq_iload d85_126 rfl ?_
      refine zr_ialdV L ((c : Int)) d85_128 (by decide) rfl (by omega) ((by rw [hE 15 rfl]; exact hc)) ?_
      refine mq_iload d85_129 rfl ?_
      refine zg_callV (c := 10) L [_, _] d85_131 rfl rfl ⟨rfl, rfl⟩ rfl ⟨rfl, rfl⟩ ⟨by decide, by decide⟩ (by decide) rfl ?_
      refine s_addFlow L (by omega) ?_
      have hE2 : eo [13] A (mj_u2 A2 13 (eA c) (A2 13 (eA c) + eW c * δ)) := eo_u2 rfl hE
      have e15 : mj_u2 A2 13 (eA c) (A2 13 (eA c) + eW c * δ) 15 = A 15 := hE2 15 rfl
      refine mq_aload_n d85_134 rfl rfl ?_
      refine mq_iload d85_135 rfl ?_
      refine zg_callV (c := 10) L [_] d85_137 rfl rfl ⟨rfl, rfl⟩ rfl ⟨rfl, rfl⟩ ⟨by decide, by decide⟩ (by decide) rfl ?_
      refine s_raiser L (F := A 13) (lyC_eo h (hE2 1 rfl) (hE2 5 rfl) (hE2 11 rfl) (hE2 12 rfl)) (by rw [e15]; exact hr) b1 ?_
      rw [e15]
      refine mq_istore d85_140 (Nat.le_of_ble_eq_true rfl) rfl ?_
      refine zq_iinc d85_142 rfl rfl ?_
      refine mq_goto (tgt := 104) d85_145 (by decide) ?_
      refine el_3 L h hr hw kk j (k + 1) _ (by omega) (by omega) hE2 (fun a ha => ?_)
      show _ = A 13 a + (cnt (fun i => pd (A 15 (itr (rsr (eS U W) (A 15)) s i)) δ a) k + pd (A 15 (itr (rsr (eS U W) (A 15)) s k)) δ a)
      rw [hc, pd_eA (by omega) (by omega), u2_at]
      have := hF a ha
      by_cases y : a = eA c
      · rw [if_pos ⟨rfl, y⟩, if_pos y, ← y]
        omega
      · rw [if_neg (fun z => y z.2), if_neg y]
        omega
    have done : k = q → mj_W (mj_lv (d + 1)) prog_3_method_6_code 1 0 0 0 post 148 [some (.inr (.inl (some 10))), some (.inl (iZ ((n : Int)))), some (.inl x), some (.inl (iZ ((s : Int)))), some (.inl (iZ (δ))), some (.inl (iZ ((itr (rsr (eS U W) (A 15)) s k : Int)))), some (.inl (iZ ((k : Int))))] [] (123, K, zs (A2), ρ) 0 0 := fun e => by
      subst e
      refine zg_retv d85_148 (by decide) ?_
      exact kk A2 hE hF
    refine mq_iload d85_104 rfl ?_
    refine mq_iload_n d85_106 rfl rfl ?_
    refine zq_icmp_ge (tgt := 148) d85_107 (by decide) (by omega) (by omega) (fun g => ?_) (fun g => ?_)
    · exact done (by omega)
    · refine mq_iload d85_110 rfl ?_
      refine zq_if_eq (tgt := 121) d85_112 (by decide) (by omega) (fun g2 => ?_) (fun g2 => ?_)
      · exact go (by omega)
      · refine mq_iload d85_115 rfl ?_
        refine mq_iload_n d85_117 rfl rfl ?_
        refine zq_icmp_eq (tgt := 148) d85_118 (by decide) (by omega) (by omega) (fun g3 => ?_) (fun g3 => ?_)
        · refine done ?_
          rcases Nat.lt_or_ge k q with y | y
          · exact absurd (by have : itr (rsr (eS U W) (A 15)) s 0 = s := rfl; omega) (w4 0 k (by omega) y)
          · omega
        · refine go ?_
          rcases Nat.lt_or_ge k q with y | y
          · exact y
          · have : k = q := by omega
            rw [this] at g3
            omega
set_option maxRecDepth 100000 in
theorem s_enlargeFlow (L : Lay K ρ) (h : lyC A n m U W th) {pos : Nat → Nat} (hp : ∀ a, a < m → th a = 1 → pos (U a) < pos (W a)) (hpn : ∀ v, v < n → pos v < n) (hB : flB m U W th (A 13)) {τ : Nat} {x : Int} (hz : rz n (eS U W) (eG U W) eW (eO m th (A 13)) (dnR m) n τ (A 14) (A 15) x) (hx : 0 ≤ x ∧ x < n)
    (kk : ∀ A2, eo [13] A A2 → flB m U W th (A2 13) → cnt (fz th (A 13)) m + 1 ≤ cnt (fz th (A2 13)) m → post none (123, K, zs (A2), ρ)) : mj_lv (d + 2) m_Layering_enlargeFlow [.inr (.inl (some 10)), .inl (iZ (n : Int)), .inl (iZ x)] (123, K, zs (A), ρ) post := by
  obtain ⟨h1, h2, h3, h4, h5⟩ := id h
  have hin : ∀ a, a < m → U a < n ∧ W a < n := fun a ha => (h5 a ha).2.1
  have h264 := fl_264 hB (fz_bnd hB hin hp h3 hpn h4)
  have hr : rbOK n m th (A 13) (A 15) := fun v hv => by
    obtain ⟨D, T, -, z2, -⟩ := id hz
    rcases z2 v hv with q | ⟨-, c, q1, q2, q3, -⟩
    · exact Or.inl q.2
    · exact Or.inr ⟨c, q3, q1⟩
  obtain ⟨q, hw⟩ := rz_way (eO_in hin hp) hz (by omega)
  obtain ⟨y, rfl⟩ : ∃ y : Nat, x = y := ⟨x.toNat, by omega⟩
  rw [Int.toNat_natCast] at hw
  show mj_W (mj_lv (d + 1)) prog_3_method_6_code 1 0 0 0 post 0 [some (.inr (.inl (some 10))), some (.inl (iZ ((n : Int)))), some (.inl (iZ ((y : Int)))), none, none, none, none] [] (123, K, zs (A), ρ) 0 0
  refine mq_iload_n d85_0 rfl rfl ?_
  refine mq_istore_n d85_1 rfl (Nat.le_of_ble_eq_true rfl) rfl ?_
  refine zq_iconst d85_2 ?_
  refine mq_istore d85_3 (Nat.le_of_ble_eq_true rfl) rfl ?_
  refine el_1 L h hr (by omega) ?_ (n + 1) 0 (by omega) (by omega) (by show y < n; omega)
  refine zr_ldc (2147483647) d85_23 (by decide) ?_
  refine mq_istore d85_25 (Nat.le_of_ble_eq_true rfl) rfl ?_
  refine mq_iload_n d85_27 rfl rfl ?_
  refine mq_istore d85_28 (Nat.le_of_ble_eq_true rfl) rfl ?_
  refine zq_iconst d85_30 ?_
  refine mq_istore d85_31 (Nat.le_of_ble_eq_true rfl) rfl ?_
  refine el_2 L h hr h264 hw (fun M x5 x6 hM => ?_) (q + 1) 0 2147483647 (by omega) (by omega) ⟨by decide, by decide, fun i hi => absurd hi (by omega), fun ⟨i, hi, _⟩ => absurd hi (by omega)⟩
  obtain ⟨M1, M2, M3, M4⟩ := hM
  have hM := M4 (way_back hp hw)
  refine mq_iload_n d85_98 rfl rfl ?_
  refine mq_istore d85_99 (Nat.le_of_ble_eq_true rfl) rfl ?_
  refine zq_iconst d85_101 ?_
  refine mq_istore d85_102 (Nat.le_of_ble_eq_true rfl) rfl ?_
  refine el_3 L h hr hw (δ := M) (fun A2 hE hF => ?_) (q + 1) 0 A (by omega) (by omega) eo_refl (fun a _ => by show A 13 a = A 13 a + 0; omega)
  have := push_ok h4 hw hB M1 M3 hF
  exact kk A2 hE this.1 this.2
end sp_ef
