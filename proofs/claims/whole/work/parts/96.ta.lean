section sp_te
variable {d : Nat} {post : Option mj_V → mj_H → Prop} {K : Nat → Nat × Nat} {ρ : Nat → Nat → Option Nat} {A : Nat → Nat → Int} {n m : Nat} {fr to : Nat → Nat} {th w pr : Nat → Int} {pos : Nat → Nat}
set_option maxRecDepth 100000 in
theorem it_1 (L : Lay K ρ) (hG : tgC A n m fr to th w) (k0 : ∀ A2, eo [90] A A2 → ¬ noCf to th m → post (some (.inl (iZ 0))) (123, K, zs (A2), ρ))
    (kk : ∀ A2 x3, eo [90] A A2 → noCf to th m → (∀ v, v < n → A2 90 v = prP fr to th m v) → mj_W (mj_lv (d + 1)) prog_8_method_2_code 6 2 0 0 post 64 [some (.inr (.inl (some 88))), some (.inr (.inl (some 1))), some (.inl (iZ ((m : Nat)))), x3] [] (123, K, zs (A2), ρ) 0 0) : ∀ (j a : Nat) (A2 : Nat → Nat → Int) (x3 : Option mj_V), m - a < j → a ≤ m → (∀ y, x3 = some y → ∃ w, y = .inl w) → eo [90] A A2 → noCf to th a → (∀ v, v < n → A2 90 v = prP fr to th a v) → mj_W (mj_lv (d + 1)) prog_8_method_2_code 6 2 0 0 post 10 [some (.inr (.inl (some 88))), some (.inr (.inl (some 1))), some (.inl (iZ ((a : Nat)))), x3] [] (123, K, zs (A2), ρ) 0 0
  | 0, a, _, _, hj, _, _, _, _, _ => absurd hj (by omega)
  | j + 1, a, A2, x3, hj, ha, hx3, hE, hC, hP => by
    obtain ⟨q1, q2, q3, q4, q5, q6⟩ := id hG
    refine mq_iload_n d123_10 rfl rfl ?_
    refine mq_aload_n d123_11 rfl rfl ?_
    refine zg_getIe L ((m : Nat)) d123_12 rfl rfl (by decide) rfl ((by rw [hE 1 rfl]; exact q2)) ?_
    refine zq_icmp_ge (tgt := 64) d123_15 (by decide) (by omega) (by omega) (fun g1 => ?_) (fun g1 => ?_)
    · have e : a = m := by omega
      subst e
      exact kk A2 x3 hE hC hP
    · have ham : a < m := by omega
      obtain ⟨⟨a1, a2⟩, ⟨a3, a4⟩, a5, a6⟩ := q5 a ham
      have st3 : mj_ok [some (.inr (.inl (some 88))), some (.inr (.inl (some 1))), some (.inl (iZ ((a : Nat)))), x3] 3 = true := by
        cases x3 with
        | none => rfl
        | some y =>
          obtain ⟨w, rfl⟩ := hx3 y rfl
          rfl
      refine mq_aload_n d123_18 rfl rfl ?_
      refine zg_getR L 5 d123_19 rfl rfl (by decide) rfl (by decide) rfl ?_
      refine mq_iload_n d123_22 rfl rfl ?_
      refine zr_zaldV L (th a) d123_23 (by decide) rfl (by omega) ((by rw [hE 5 rfl]; exact a5)) ?_
      refine zq_if_eq (tgt := 58) d123_24 (by decide) (by omega) (fun g2 => ?_) (fun g2 => ?_)
      · have t0 : th a ≠ 1 := by omega
        refine zq_iinc d123_58 rfl rfl ?_
        refine mq_goto (tgt := 10) d123_61 (by decide) ?_
        refine it_1 L hG k0 kk j (a + 1) A2 _ (by omega) (by omega) hx3 hE (noCf_s (fr := fr) hC (fun q => absurd q t0)) (fun v hv => ?_)
        rw [hP v hv]
        exact (if_neg (fun q => t0 q.1)).symm
      · have t1 : th a = 1 := by omega
        have rP : -1 ≤ prP fr to th a (to a) ∧ prP fr to th a (to a) < 100 := by
          rcases prP_ex (fr := fr) (to := to) (th := th) (k := a) (v := to a) with ⟨r1, -⟩ | ⟨b, r1, r2, r3, r4⟩
          · omega
          · have := (q5 b (by omega)).2.1
            omega
        refine mq_aload_n d123_27 rfl rfl ?_
        refine zg_getR L 4 d123_28 rfl rfl (by decide) rfl (by decide) rfl ?_
        refine mq_iload_n d123_31 rfl rfl ?_
        refine zr_ialdV L ((to a : Nat)) d123_32 (by decide) rfl (by omega) ((by rw [hE 4 rfl]; exact a2)) ?_
        refine mq_istore_n d123_33 rfl (Nat.le_of_ble_eq_true rfl) st3 ?_
        refine mq_aload_n d123_34 rfl rfl ?_
        refine zg_getR L 90 d123_35 rfl rfl (by decide) rfl (by decide) rfl ?_
        refine mq_iload_n d123_38 rfl rfl ?_
        refine zr_ialdV L (prP fr to th a (to a)) d123_39 (by decide) rfl (by omega) (hP _ a4) ?_
        refine zq_iconst d123_40 ?_
        refine zq_icmp_eq (tgt := 46) d123_41 (by decide) (by omega) (by omega) (fun g3 => ?_) (fun g3 => ?_)
        · refine mq_aload_n d123_46 rfl rfl ?_
          refine zg_getR L 90 d123_47 rfl rfl (by decide) rfl (by decide) rfl ?_
          refine mq_iload_n d123_50 rfl rfl ?_
          refine mq_aload_n d123_51 rfl rfl ?_
          refine zg_getR L 3 d123_52 rfl rfl (by decide) rfl (by decide) rfl ?_
          refine mq_iload_n d123_55 rfl rfl ?_
          refine zr_ialdV L ((fr a : Nat)) d123_56 (by decide) rfl (by omega) ((by rw [hE 3 rfl]; exact a1)) ?_
          refine zg_iastN L d123_57 (by decide) rfl (by omega) ?_
          refine zq_iinc d123_58 rfl rfl ?_
          refine mq_goto (tgt := 10) d123_61 (by decide) ?_
          refine it_1 L hG k0 kk j (a + 1) _ _ (by omega) (by omega) (fun y e => ⟨_, (Option.some.inj e).symm⟩) (eo_u2 rfl hE) (noCf_s (fr := fr) hC (fun _ => g3)) (fun v hv => ?_)
          have e1 : prP fr to th (a + 1) v = if th a = 1 ∧ to a = v then ((fr a : Nat) : Int) else prP fr to th a v := rfl
          rw [e1]
          by_cases y : v = to a
          · rw [y, u2_self, if_pos ⟨t1, rfl⟩]
          · rw [u2_k y, if_neg (fun z => y z.2.symm)]
            exact hP v hv
        · refine zq_iconst d123_44 ?_
          refine zg_retz d123_45 rfl (by first | decide | omega) ?_
          exact k0 A2 hE (noCf_no (fr := fr) ham t1 g3)
set_option maxRecDepth 100000 in
theorem s_cisTree (L : Lay K ρ) (hG : tgC A n m fr to th w) (h6 : A 1 6 = cnt th m) (k0 : ∀ A2, eo [90] A A2 → ¬ (noCf to th m ∧ cnt th m = (n : Int) - 1) → post (some (.inl (iZ 0))) (123, K, zs (A2), ρ))
    (k1 : ∀ A2, eo [90] A A2 → noCf to th m → cnt th m = (n : Int) - 1 → (∀ v, v < n → A2 90 v = prP fr to th m v) → post (some (.inl (iZ 1))) (123, K, zs (A2), ρ)) : mj_lv (d + 2) m_Tree_isTree [.inr (.inl (some 88)), .inr (.inl (some 1))] (123, K, zs (A), ρ) post := by
  obtain ⟨q1, q2, q3, q4, q5, q6⟩ := id hG
  have hcr := cnt_range (f := th) (m := m) (fun a ha => (q5 a ha).2.2.2)
  show mj_W (mj_lv (d + 1)) prog_8_method_2_code 6 2 0 0 post 0 [some (.inr (.inl (some 88))), some (.inr (.inl (some 1))), none, none] [] (123, K, zs (A), ρ) 0 0
  refine mq_aload_n d123_0 rfl rfl ?_
  refine zg_getR L 90 d123_1 rfl rfl (by decide) rfl (by decide) rfl ?_
  refine zq_iconst d123_4 ?_
  refine zg_callS [_, _] d123_5 rfl rfl ⟨rfl, rfl⟩ rfl ⟨rfl, rfl⟩ ⟨by decide, by decide⟩ ?_
  refine s_fill L (by decide) rfl (by decide) ?_
  refine zq_iconst d123_8 ?_
  refine mq_istore_n d123_9 rfl (Nat.le_of_ble_eq_true rfl) rfl ?_
  refine it_1 (A := A) L hG (fun A2 e2 h2 => k0 A2 e2 (fun q => h2 q.1)) (fun A2 x3 e2 hC hP => ?_) (m + 1) 0 _ _ (by omega) (by omega) (fun y e => absurd e (by simp)) (fun c hc => fl_c (fun q => by rw [q] at hc; exact absurd hc (by decide))) (fun a b ha => absurd ha (by omega)) (fun v hv => by rw [fl_lt (by omega)]; rfl)
  refine mq_aload_n d123_64 rfl rfl ?_
  refine zg_getIe L (cnt th m) d123_65 rfl rfl (by decide) rfl ((by rw [e2 1 rfl]; exact h6)) ?_
  refine mq_aload_n d123_68 rfl rfl ?_
  refine zg_getIe L ((n : Nat)) d123_69 rfl rfl (by decide) rfl ((by rw [e2 1 rfl]; exact q1)) ?_
  refine zq_iconst d123_72 ?_
  refine zq_isub d123_73 ?_
  refine zq_icmp_ne (tgt := 81) d123_74 (by decide) (by omega) (by omega) (fun g1 => ?_) (fun g1 => ?_)
  · refine zq_iconst d123_81 ?_
    refine zg_retz d123_82 rfl (by first | decide | omega) ?_
    exact k0 A2 e2 (fun q => g1 q.2)
  · refine zq_iconst d123_77 ?_
    refine mq_goto (tgt := 82) d123_78 (by decide) ?_
    refine zg_retz d123_82 rfl (by first | decide | omega) ?_
    exact k1 A2 e2 hC g1 hP
set_option maxRecDepth 100000 in
theorem do_1 (L : Lay K ρ) (hn : n ≤ 12) (hp : tpOK n pr pos) (h90 : ∀ v, v < n → A 90 v = pr v) {v : Nat} (hv : v < n) {x1 : Int32} (kk : post (some (.inl (iZ (dpV pr v : Nat)))) (123, K, zs (A), ρ)) : ∀ (j k : Nat) (x : Int), (x = -1 ∧ dpV pr v = k) ∨ (0 ≤ x ∧ x < n ∧ dpV pr v = dpV pr x.toNat + 1 + k ∧ pos x.toNat < j) → k ≤ 11 → mj_W (mj_lv d) prog_8_method_4_code 6 1 0 0 post 9 [some (.inr (.inl (some 88))), some (.inl x1), some (.inl (iZ ((k : Nat)))), some (.inl (iZ (x)))] [] (123, K, zs (A), ρ) 0 0
  | j, k, x, h, hk => by
    have hd := dpV_lt hp hv
    by_cases hx : x = -1
    · have e : dpV pr v = k := by omega
      subst hx
      refine mq_iload_n d125_9 rfl rfl ?_
      refine zq_iconst d125_10 ?_
      refine zq_icmp_eq (tgt := 33) d125_11 (by decide) (by omega) (by omega) (fun g1 => ?_) (fun g1 => ?_)
      · refine mq_iload_n d125_33 rfl rfl ?_
        refine zg_reti d125_34 rfl ?_
        rw [← e]
        exact kk
      · exact absurd rfl g1
    · obtain ⟨u, hu⟩ : ∃ u : Nat, x = u := ⟨x.toNat, by omega⟩
      subst hu
      rw [Int.toNat_natCast] at h
      have hun : u < n := by omega
      have hpu := hp u hun
      cases j with
      | zero => omega
      | succ j =>
        refine mq_iload_n d125_9 rfl rfl ?_
        refine zq_iconst d125_10 ?_
        refine zq_icmp_eq (tgt := 33) d125_11 (by decide) (by omega) (by omega) (fun g1 => ?_) (fun g1 => ?_)
        · omega
        · refine mq_iload_n d125_14 rfl rfl ?_
          refine zq_bipush d125_15 rfl ?_
          refine zq_icmp_ge (tgt := 33) d125_17 (by decide) (by omega) (by omega) (fun g2 => ?_) (fun g2 => ?_)
          · omega
          · refine mq_aload_n d125_20 rfl rfl ?_
            refine zg_getR L 90 d125_21 rfl rfl (by decide) rfl (by decide) rfl ?_
            refine mq_iload_n d125_24 rfl rfl ?_
            refine zr_ialdV L (pr u) d125_25 (by decide) rfl (by omega) (h90 u hun) ?_
            refine mq_istore_n d125_26 rfl (Nat.le_of_ble_eq_true rfl) rfl ?_
            refine zq_iinc d125_27 rfl rfl ?_
            refine mq_goto (tgt := 9) d125_30 (by decide) ?_
            refine do_1 L hn hp h90 hv kk j (k + 1) (pr u) ?_ (by omega)
            rcases hpu.2 with e | e
            · have := dpV_0 (pr := pr) (v := u) (by omega)
              exact Or.inl ⟨e, by omega⟩
            · have := dpV_s hp hn hun e.1
              exact Or.inr ⟨e.1, e.2.1, by omega, by omega⟩
set_option maxRecDepth 100000 in
theorem s_depthOf (L : Lay K ρ) (hn : n ≤ 12) (hp : tpOK n pr pos) (h90 : ∀ v, v < n → A 90 v = pr v) {v : Nat} (hv : v < n) (kk : post (some (.inl (iZ (dpV pr v : Nat)))) (123, K, zs (A), ρ)) : mj_lv (d + 1) m_Tree_depthOf [.inr (.inl (some 88)), .inl (iZ (v : Nat))] (123, K, zs (A), ρ) post := by
  have hpv := hp v hv
  show mj_W (mj_lv d) prog_8_method_4_code 6 1 0 0 post 0 [some (.inr (.inl (some 88))), some (.inl (iZ ((v : Nat)))), none, none] [] (123, K, zs (A), ρ) 0 0
  refine zq_iconst d125_0 ?_
  refine mq_istore_n d125_1 rfl (Nat.le_of_ble_eq_true rfl) rfl ?_
  refine mq_aload_n d125_2 rfl rfl ?_
  refine zg_getR L 90 d125_3 rfl rfl (by decide) rfl (by decide) rfl ?_
  refine mq_iload_n d125_6 rfl rfl ?_
  refine zr_ialdV L (pr v) d125_7 (by decide) rfl (by omega) (h90 v hv) ?_
  refine mq_istore_n d125_8 rfl (Nat.le_of_ble_eq_true rfl) rfl ?_
  refine do_1 L hn hp h90 hv kk 13 0 (pr v) ?_ (by omega)
  rcases hpv.2 with e | e
  · exact Or.inl ⟨e, dpV_0 (by omega)⟩
  · have := dpV_s hp hn hv e.1
    have := (hp _ (show (pr v).toNat < n by omega)).1
    exact Or.inr ⟨e.1, e.2.1, by omega, by omega⟩
set_option maxRecDepth 100000 in
theorem ar_1 (L : Lay K ρ) (hG : tgC A n m fr to th w) (hp : tpOK n pr pos) (h90 : ∀ v, v < n → A 90 v = pr v) {x3 : Option mj_V} (kk : ∀ A2, eo [91] A A2 → (∀ u, u < n → A2 91 u = (dpV pr u : Nat)) → mj_W (mj_lv (d + 4)) prog_8_method_3_code 6 0 0 0 post 27 [some (.inr (.inl (some 88))), some (.inr (.inl (some 1))), some (.inl (iZ ((n : Nat)))), x3] [] (123, K, zs (A2), ρ) 0 0) : ∀ (j i : Nat) (A2 : Nat → Nat → Int), n - i < j → i ≤ n → eo [91] A A2 → (∀ u, u < i → A2 91 u = (dpV pr u : Nat)) → mj_W (mj_lv (d + 4)) prog_8_method_3_code 6 0 0 0 post 2 [some (.inr (.inl (some 88))), some (.inr (.inl (some 1))), some (.inl (iZ ((i : Nat)))), x3] [] (123, K, zs (A2), ρ) 0 0
  | 0, i, _, hj, _, _, _ => absurd hj (by omega)
  | j + 1, i, A2, hj, hi, hE, hI => by
    obtain ⟨q1, q2, q3, q4, q5, q6⟩ := id hG
    refine mq_iload_n d124_2 rfl rfl ?_
    refine mq_aload_n d124_3 rfl rfl ?_
    refine zg_getIe L ((n : Nat)) d124_4 rfl rfl (by decide) rfl ((by rw [hE 1 rfl]; exact q1)) ?_
    refine zq_icmp_ge (tgt := 27) d124_7 (by decide) (by omega) (by omega) (fun g1 => ?_) (fun g1 => ?_)
    · have e : i = n := by omega
      subst e
      exact kk A2 hE hI
    · refine mq_aload_n d124_10 rfl rfl ?_
      refine zg_getR L 91 d124_11 rfl rfl (by decide) rfl (by decide) rfl ?_
      refine mq_iload_n d124_14 rfl rfl ?_
      refine mq_aload_n d124_15 rfl rfl ?_
      refine mq_iload_n d124_16 rfl rfl ?_
      refine zg_callV (c := 88) L [_] d124_17 rfl rfl ⟨rfl, rfl⟩ rfl ⟨rfl, rfl⟩ ⟨by decide, by decide⟩ (by decide) rfl ?_
      refine s_depthOf (d := d + 3) L q3 hp (fun v hv => by rw [hE 90 rfl]; exact h90 v hv) (show i < n by omega) ?_
      refine zg_iastN L d124_20 (by decide) rfl (by omega) ?_
      refine zq_iinc d124_21 rfl rfl ?_
      refine mq_goto (tgt := 2) d124_24 (by decide) ?_
      refine ar_1 L hG hp h90 kk j (i + 1) _ (by omega) (by omega) (eo_u2 rfl hE) (fun u hu => ?_)
      by_cases e : u = i
      · rw [e, u2_self]
      · rw [u2_k e]
        exact hI u (by omega)
noncomputable abbrev jDq (n m : Nat) (fr to : Nat → Nat) (th w pr : Nat → Int) (dd : Nat) (z : (Nat → Int) × (Nat → Nat)) (v : Nat) := jD n m fr to th w (dpV pr) dd z v
theorem jD_y {dd v : Nat} {z : (Nat → Int) × (Nat → Nat)} (e : dpV pr v = dd) : jDq n m fr to th w pr dd z (v + 1) = jN n m fr to th w (dpV pr) v (jDq n m fr to th w pr dd z v) := if_pos e
theorem jD_n {dd v : Nat} {z : (Nat → Int) × (Nat → Nat)} (e : dpV pr v ≠ dd) : jDq n m fr to th w pr dd z (v + 1) = jDq n m fr to th w pr dd z v := if_neg e
set_option maxRecDepth 100000 in
theorem ar_2 (L : Lay K ρ) (hG : tgC A n m fr to th w) (ht : trOK n m fr to th w pr pos) (h91 : ∀ u, u < n → A 91 u = (dpV pr u : Nat) ∧ dpV pr u < 12) {dd : Nat} (hdd : dd < 12) {z : (Nat → Int) × (Nat → Nat)}
    (kk : ∀ A2 x3, eo [89, 92] A A2 → ptI n w pr dd n (jDq n m fr to th w pr dd z n) → tvC A2 n pr dd n (jDq n m fr to th w pr dd z n).1 (jDq n m fr to th w pr dd z n).2 → mj_W (mj_lv (d + 4)) prog_8_method_3_code 6 0 0 0 post 70 [some (.inr (.inl (some 88))), some (.inr (.inl (some 1))), some (.inl (iZ ((dd : Nat)))), some (.inl x3)] [] (123, K, zs (A2), ρ) 0 0) : ∀ (j v : Nat) (A2 : Nat → Nat → Int), n - v < j → v ≤ n → eo [89, 92] A A2 → ptI n w pr dd v (jDq n m fr to th w pr dd z v) → tvC A2 n pr dd v (jDq n m fr to th w pr dd z v).1 (jDq n m fr to th w pr dd z v).2 → mj_W (mj_lv (d + 4)) prog_8_method_3_code 6 0 0 0 post 40 [some (.inr (.inl (some 88))), some (.inr (.inl (some 1))), some (.inl (iZ ((dd : Nat)))), some (.inl (iZ ((v : Nat))))] [] (123, K, zs (A2), ρ) 0 0
  | 0, v, _, hj, _, _, _, _ => absurd hj (by omega)
  | j + 1, v, A2, hj, hv, hE, hI, hC => by
    obtain ⟨q1, q2, q3, q4, q5, q6⟩ := id hG
    refine mq_iload_n d124_40 rfl rfl ?_
    refine mq_aload_n d124_41 rfl rfl ?_
    refine zg_getIe L ((n : Nat)) d124_42 rfl rfl (by decide) rfl ((by rw [hE 1 rfl]; exact q1)) ?_
    refine zq_icmp_ge (tgt := 70) d124_45 (by decide) (by omega) (by omega) (fun g1 => ?_) (fun g1 => ?_)
    · have e : v = n := by omega
      subst e
      exact kk A2 _ hE hI hC
    · have hvn : v < n := by omega
      have d1 := h91 v hvn
      refine mq_aload_n d124_48 rfl rfl ?_
      refine zg_getR L 91 d124_49 rfl rfl (by decide) rfl (by decide) rfl ?_
      refine mq_iload_n d124_52 rfl rfl ?_
      refine zr_ialdV L ((dpV pr v : Nat)) d124_53 (by decide) rfl (by omega) ((by rw [hE 91 rfl]; exact d1.1)) ?_
      refine mq_iload_n d124_54 rfl rfl ?_
      refine zq_icmp_ne (tgt := 64) d124_55 (by decide) (by omega) (by omega) (fun g2 => ?_) (fun g2 => ?_)
      · have ne : dpV pr v ≠ dd := by omega
        refine zq_iinc d124_64 rfl rfl ?_
        refine mq_goto (tgt := 40) d124_67 (by decide) ?_
        refine ar_2 L hG ht h91 hdd kk j (v + 1) A2 (by omega) (by omega) hE (by rw [jD_n ne]; exact ptI_k ne hI) ?_
        rw [jD_n ne]
        intro u hu du
        exact hC u hu ((dnA_k ne).mp du)
      · have eq : dpV pr v = dd := by omega
        refine mq_aload_n d124_58 rfl rfl ?_
        refine mq_aload_n d124_59 rfl rfl ?_
        refine mq_iload_n d124_60 rfl rfl ?_
        refine zg_callV (c := 88) L [_, _] d124_61 rfl rfl ⟨rfl, rfl⟩ rfl ⟨rfl, rfl⟩ ⟨by decide, by decide⟩ (by decide) rfl ?_
        refine s_putPart (d := d) L (tgC_eo hG (fun c h1 h2 => hE c (by simp; omega))) ht (fun u hu => by rw [hE 91 rfl]; exact h91 u hu) hvn eq hI hC (fun A3 e3 hI3 hC3 => ?_)
        refine zq_iinc d124_64 rfl rfl ?_
        refine mq_goto (tgt := 40) d124_67 (by decide) ?_
        refine ar_2 L hG ht h91 hdd kk j (v + 1) A3 (by omega) (by omega) (eo_trans hE e3) ?_ ?_
        · rw [jD_y eq]
          exact hI3
        · rw [jD_y eq]
          exact hC3
set_option maxRecDepth 100000 in
theorem ar_3 (L : Lay K ρ) (hG : tgC A n m fr to th w) (ht : trOK n m fr to th w pr pos) (h91 : ∀ u, u < n → A 91 u = (dpV pr u : Nat) ∧ dpV pr u < 12) (hn1 : 1 ≤ n)
    (kk : ∀ A2 x2 x3, eo [89, 92] A A2 → ptI n w pr 0 n (jT n m fr to th w (dpV pr) n) → (∀ u, u < n → A2 89 u = (jT n m fr to th w (dpV pr) n).1 u) → mj_W (mj_lv (d + 4)) prog_8_method_3_code 6 0 0 0 post 76 [some (.inr (.inl (some 88))), some (.inr (.inl (some 1))), some (.inl x2), x3] [] (123, K, zs (A2), ρ) 0 0) : ∀ (j k : Nat) (A2 : Nat → Nat → Int) (x : Int) (x3 : Option mj_V), n - k < j → k ≤ n → x = (n : Int) - 1 - k → (∀ y, x3 = some y → ∃ w, y = .inl w) → eo [89, 92] A A2 → (k < n → ptI n w pr (n - 1 - k) 0 (jT n m fr to th w (dpV pr) k) ∧ tvC A2 n pr (n - 1 - k) 0 (jT n m fr to th w (dpV pr) k).1 (jT n m fr to th w (dpV pr) k).2) → (k = n → ptI n w pr 0 n (jT n m fr to th w (dpV pr) n) ∧ ∀ u, u < n → A2 89 u = (jT n m fr to th w (dpV pr) n).1 u) → mj_W (mj_lv (d + 4)) prog_8_method_3_code 6 0 0 0 post 34 [some (.inr (.inl (some 88))), some (.inr (.inl (some 1))), some (.inl (iZ (x))), x3] [] (123, K, zs (A2), ρ) 0 0
  | 0, k, _, _, _, hj, _, _, _, _, _, _ => absurd hj (by omega)
  | j + 1, k, A2, x, x3, hj, hk, hx, hx3, hE, hI, hF => by
    obtain ⟨q1, q2, q3, q4, q5, q6⟩ := id hG
    refine mq_iload_n d124_34 rfl rfl ?_
    refine zq_if_lt (tgt := 76) d124_35 (by decide) (by omega) (fun g1 => ?_) (fun g1 => ?_)
    · have e : k = n := by omega
      obtain ⟨f1, f2⟩ := hF e
      exact kk A2 _ x3 hE f1 f2
    · have hkn : k < n := by omega
      obtain ⟨i1, i2⟩ := hI hkn
      have ex : x = ((n - 1 - k : Nat) : Int) := by omega
      have st3 : ∀ y : Int, mj_ok [some (.inr (.inl (some 88))), some (.inr (.inl (some 1))), some (.inl (iZ (y))), x3] 3 = true := fun y => by
        cases x3 with
        | none => rfl
        | some y =>
          obtain ⟨w, rfl⟩ := hx3 y rfl
          rfl
      refine zq_iconst d124_38 ?_
      refine mq_istore_n d124_39 rfl (Nat.le_of_ble_eq_true rfl) (st3 _) ?_
      rw [ex]
      refine ar_2 (A := A2) (z := jT n m fr to th w (dpV pr) k) L (tgC_eo hG (fun c h1 h2 => hE c (by simp; omega))) ht (fun u hu => by rw [hE 91 rfl]; exact h91 u hu) (show n - 1 - k < 12 by omega) (fun A3 y3 e3 h3 c3 => ?_) (n + 1) 0 A2 (by omega) (by omega) eo_refl i1 i2
      have eJ : jDq n m fr to th w pr (n - 1 - k) (jT n m fr to th w (dpV pr) k) n = jT n m fr to th w (dpV pr) (k + 1) := rfl
      rw [eJ] at h3 c3
      refine zq_iinc d124_70 rfl rfl ?_
      refine mq_goto (tgt := 34) d124_73 (by decide) ?_
      refine ar_3 L hG ht h91 hn1 kk j (k + 1) A3 _ _ (by omega) hkn (by omega) (fun y e => ⟨_, (Option.some.inj e).symm⟩) (eo_trans hE e3) (fun h => ?_) (fun h => ?_)
      · have e1 : n - 1 - k = (n - 1 - (k + 1)) + 1 := by omega
        rw [e1] at h3 c3
        refine ⟨ptI_up ht.2.1 h3, fun u hu du => c3 u hu ?_⟩
        unfold dnA at *
        omega
      · have e1 : n - 1 - k = 0 := by omega
        rw [e1, h] at h3 c3
        refine ⟨h3, fun u hu => (c3 u hu ?_).1⟩
        unfold dnA
        omega
/-- the tidy place of node u -/
noncomputable def tdV (n m : Nat) (fr to : Nat → Nat) (th w pr : Nat → Int) (u : Nat) : Int := (jT n m fr to th w (dpV pr) n).1 u + rmV n w (dpV pr) (jT n m fr to th w (dpV pr) n).1 0 (2 ^ n - 1)
theorem sB_all {n u : Nat} : sB (2 ^ n - 1) u = 1 ↔ u < n := by
  unfold sB
  rw [Nat.testBit_two_pow_sub_one]
  by_cases e : u < n
  · simp [e]
  · simp [e]
set_option maxRecDepth 100000 in
theorem s_arrange (L : Lay K ρ) (hG : tgC A n m fr to th w) (ht : trOK n m fr to th w pr pos) (h90 : ∀ v, v < n → A 90 v = pr v) (hn1 : 1 ≤ n)
    (kk : ∀ A2, eo [89, 91, 92] A A2 → (∀ u, u < n → A2 89 u = tdV n m fr to th w pr u) → post none (123, K, zs (A2), ρ)) : mj_lv (d + 5) m_Tree_arrange [.inr (.inl (some 88)), .inr (.inl (some 1))] (123, K, zs (A), ρ) post := by
  obtain ⟨q1, q2, q3, q4, q5, q6⟩ := id hG
  show mj_W (mj_lv (d + 4)) prog_8_method_3_code 6 0 0 0 post 0 [some (.inr (.inl (some 88))), some (.inr (.inl (some 1))), none, none] [] (123, K, zs (A), ρ) 0 0
  refine zq_iconst d124_0 ?_
  refine mq_istore_n d124_1 rfl (Nat.le_of_ble_eq_true rfl) rfl ?_
  refine ar_1 L hG ht.2.1 h90 (fun A2 e2 h91 => ?_) (n + 1) 0 A (by omega) (by omega) eo_refl (fun u hu => absurd hu (by omega))
  have G2 := tgC_eo hG (B := A2) (fun c h1 h2 => e2 c (by simp; omega))
  have h91' : ∀ u, u < n → A2 91 u = (dpV pr u : Nat) ∧ dpV pr u < 12 := fun u hu => ⟨h91 u hu, by have := dpV_lt ht.2.1 hu; omega⟩
  refine mq_aload_n d124_27 rfl rfl ?_
  refine zg_getIe L ((n : Nat)) d124_28 rfl rfl (by decide) rfl (G2.1) ?_
  refine zq_iconst d124_31 ?_
  refine zq_isub d124_32 ?_
  refine mq_istore_n d124_33 rfl (Nat.le_of_ble_eq_true rfl) rfl ?_
  refine ar_3 (A := A2) L G2 ht h91' hn1 (fun A3 y2 y3 e3 hpt hT => ?_) (n + 1) 0 A2 _ _ (by omega) (by omega) (by omega) (fun y e => absurd e (by simp)) eo_refl (fun _ => ⟨ptI_0 ht.2.1 (fun _ _ => rfl), fun u hu du => ?_⟩) (fun e => by omega)
  · have hn12 : 2 ^ n ≤ 4096 := Nat.pow_le_pow_right (by decide) (show n ≤ 12 by omega)
    have hp1 : 1 ≤ 2 ^ n := Nat.one_le_two_pow
    have rT := ptI_end ht hpt
    have G3 := tgC_eo G2 (B := A3) (fun c h1 h2 => e3 c (by simp; omega))
    have ev : ((n : Nat) : Int).toNat = n := Int.toNat_natCast n
    have e1 : ((2 ^ n : Nat) : Int) - 1 = ((2 ^ n - 1 : Nat) : Int) := by omega
    refine zq_iconst d124_76 ?_
    refine mq_aload_n d124_77 rfl rfl ?_
    refine zg_getIe L ((n : Nat)) d124_78 rfl rfl (by decide) rfl (G3.1) ?_
    refine zn_shl1 d124_81 (by omega) ?_
    rw [ev]
    refine zq_iconst d124_82 ?_
    refine zq_isub d124_83 ?_
    rw [e1]
    refine mq_istore_n d124_84 rfl (Nat.le_of_ble_eq_true rfl) rfl ?_
    refine mq_aload_n d124_85 rfl rfl ?_
    refine mq_iload_n d124_86 rfl rfl ?_
    refine mq_aload_n d124_87 rfl rfl ?_
    refine mq_aload_n d124_88 rfl rfl ?_
    refine zq_iconst d124_89 ?_
    refine mq_iload_n d124_90 rfl rfl ?_
    refine zg_callV (c := 88) L [_, _, _] d124_91 rfl rfl ⟨rfl, rfl⟩ rfl ⟨rfl, rfl⟩ ⟨by decide, by decide⟩ (by decide) rfl ?_
    refine s_shiftBehind (d := d + 2) (dp := dpV pr) (O := 0) L G3 (fun u hu => by rw [e3 91 rfl]; exact h91' u hu) (by decide) (by omega) (fun u h1 _ => by have := rT u h1; rw [hT u h1]; omega) (fun u _ h2 => absurd h2 (by rw [sB_0]; decide)) (u0 := 0) (by omega) (sB_all.mpr (by omega)) (fun r hr => ?_)
    have hr2 : rmX n w (dpV pr) (jT n m fr to th w (dpV pr) n).1 0 (2 ^ n - 1) r := rmX_congr (fun u h1 _ => hT u h1) (fun u h1 _ => hT u h1) (fun u _ => rfl) hr
    refine zg_callV (c := 88) L [_, _] d124_94 rfl rfl ⟨rfl, rfl⟩ rfl ⟨rfl, rfl⟩ ⟨by decide, by decide⟩ (by decide) rfl ?_
    refine s_tmove (d := d + 3) L (by omega) (fun A4 e4 h4 => ?_)
    refine zg_retv d124_97 (by decide) ?_
    refine kk A4 (fun c hc => ?_) (fun u hu => ?_)
    · simp at hc
      rw [e4 c (by simp; omega), e3 c (by simp; omega), e2 c (by simp; omega)]
    · rw [h4 u (by omega)]
      unfold tdV shT
      rw [if_pos (sB_all.mpr hu), rmV_eq hr2, hT u hu]
  · exfalso
    have := dpV_lt ht.2.1 hu
    unfold dnA at du
    omega
end sp_te
