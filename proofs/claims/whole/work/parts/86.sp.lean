section sp_sp
variable {d : Nat} {post : Option mj_V → mj_H → Prop} {K : Nat → Nat × Nat} {ρ : Nat → Nat → Option Nat} {A : Nat → Nat → Int}
section s1
set_option maxRecDepth 100000 in
theorem sp_1 (L : Lay K ρ) {u : Nat → Nat} (hu : ∀ i, i < 6 → A 80 i = (u i : Nat) ∧ u i < 6) (hinj : ∀ i j, i < 6 → j < 6 → u i = u j → i = j) {l : Nat} {x5 x6 x7 : Option mj_V} (kk : ∀ A2, eo [81] A A2 → (∀ i, i < 6 → A2 81 (u i) = (i : Nat)) → mj_W (mj_lv d) prog_5_method_7_code 3 0 0 0 post 38 [some (.inr (.inl (some 77))), some (.inr (.inl (some 16))), some (.inr (.inl (some 46))), some (.inl (iZ ((l : Nat)))), some (.inl (iZ ((6 : Nat)))), x5, x6, x7] [] (123, K, zs (A2), ρ) 0 0) : ∀ (j i : Nat) (A2 : Nat → Nat → Int), 6 - i < j → i ≤ 6 → eo [81] A A2 → (∀ b, b < i → A2 81 (u b) = (b : Nat)) → mj_W (mj_lv d) prog_5_method_7_code 3 0 0 0 post 11 [some (.inr (.inl (some 77))), some (.inr (.inl (some 16))), some (.inr (.inl (some 46))), some (.inl (iZ ((l : Nat)))), some (.inl (iZ ((i : Nat)))), x5, x6, x7] [] (123, K, zs (A2), ρ) 0 0
  | 0, i, _, hj, _, _, _ => absurd hj (by omega)
  | j + 1, i, A2, hj, hi, hE, hI => by
    refine mq_iload d108_11 rfl ?_
    refine zq_bipush d108_13 rfl ?_
    refine zq_icmp_ge (tgt := 38) d108_15 (by decide) (by omega) (by omega) (fun g => ?_) (fun g => ?_)
    · have e : i = 6 := by omega
      subst e
      exact kk A2 hE hI
    · obtain ⟨u1, u2⟩ := hu i (by omega)
      refine mq_aload_n d108_18 rfl rfl ?_
      refine zg_getR L 81 d108_19 rfl rfl (by decide) rfl (by decide) rfl ?_
      refine mq_aload_n d108_22 rfl rfl ?_
      refine zg_getR L 80 d108_23 rfl rfl (by decide) rfl (by decide) rfl ?_
      refine mq_iload d108_26 rfl ?_
      refine zr_ialdV L ((u i : Nat)) d108_28 (by decide) rfl (by omega) ((by rw [hE 80 rfl]; exact u1)) ?_
      refine mq_iload d108_29 rfl ?_
      refine zg_iastN L d108_31 (by decide) rfl (by omega) ?_
      refine zq_iinc d108_32 rfl rfl ?_
      refine mq_goto (tgt := 11) d108_35 (by decide) ?_
      refine sp_1 L hu hinj kk j (i + 1) _ (by omega) (by omega) (eo_u2 rfl hE) (fun b hb => ?_)
      by_cases e : b = i
      · rw [e, u2_self]
      · rw [u2_k (fun q => e (hinj b i (by omega) (by omega) q))]
        exact hI b (by omega)
variable {c co cx : Nat} {o t : Nat → Nat} {a b : Nat → Nat} {ua : Nat → Int}
/-- one pair of pieces -/
def pX (ua : Nat → Int) (a b : Nat → Nat) (p q i j : Nat) : Int := if ua (a q) < ua (a p) ∧ b p = i ∧ b q = j then 1 else 0
/-- what setPrices knows of its pieces -/
def pzO (A : Nat → Nat → Int) (co cx c : Nat) (o t a b : Nat → Nat) : Prop := owO A co cx c o t ∧ (co ≠ 83 ∧ cx ≠ 83 ∧ co ≠ 81 ∧ cx ≠ 81) ∧ ∀ p, p < c → (A 74 (o p) = (a p : Nat) ∧ a p < 6) ∧ (A 74 (t p) = (b p : Nat) ∧ b p < 6)
set_option maxRecDepth 100000 in
theorem sp_2 (L : Lay K ρ) {l : Nat} (hl : l < 12) (hc : A 19 l = (c : Nat)) (ho : pzO A co cx c o t a b) (hua : ∀ x, x < 6 → A 81 x = ua x ∧ 0 ≤ ua x ∧ ua x < 6) {p : Nat} (hp : p < c)
    (kk : ∀ A2 x7, eo [83] A A2 → (∀ i j, i < 6 → j < 6 → A2 83 (i * 6 + j) = cnt (fun p => cnt (fun q => pX ua a b p q i j) c) p + cnt (fun q => pX ua a b p q i j) c) → mj_W (mj_lv d) prog_5_method_7_code 3 0 0 0 post 154 [some (.inr (.inl (some 77))), some (.inr (.inl (some 16))), some (.inr (.inl (some 46))), some (.inl (iZ ((l : Nat)))), some (.inr (.inl (some co))), some (.inr (.inl (some cx))), some (.inl (iZ ((p : Nat)))), some (.inl x7)] [] (123, K, zs (A2), ρ) 0 0) : ∀ (k q : Nat) (A2 : Nat → Nat → Int), c - q < k → q ≤ c → eo [83] A A2 → (∀ i j, i < 6 → j < 6 → A2 83 (i * 6 + j) = cnt (fun p => cnt (fun q => pX ua a b p q i j) c) p + cnt (fun q => pX ua a b p q i j) q) → mj_W (mj_lv d) prog_5_method_7_code 3 0 0 0 post 71 [some (.inr (.inl (some 77))), some (.inr (.inl (some 16))), some (.inr (.inl (some 46))), some (.inl (iZ ((l : Nat)))), some (.inr (.inl (some co))), some (.inr (.inl (some cx))), some (.inl (iZ ((p : Nat)))), some (.inl (iZ ((q : Nat))))] [] (123, K, zs (A2), ρ) 0 0
  | 0, q, _, hj, _, _, _ => absurd hj (by omega)
  | k + 1, q, A2, hj, hq, hE, hI => by
    obtain ⟨⟨h1, ⟨h2, h3, h4⟩, ⟨h5, h6, h7⟩, k1, k2, h8⟩, ⟨n1, n2, n3, n4⟩, hab⟩ := id ho
    have eco : A2 co = A co := hE _ (by simp; omega)
    have ecx : A2 cx = A cx := hE _ (by simp; omega)
    refine mq_iload d108_71 rfl ?_
    refine mq_aload_n d108_73 rfl rfl ?_
    refine zg_getR L 19 d108_74 rfl rfl (by decide) rfl (by decide) rfl ?_
    refine mq_iload_n d108_77 rfl rfl ?_
    refine zr_ialdV L ((c : Nat)) d108_78 (by decide) rfl (by omega) ((by rw [hE 19 rfl]; exact hc)) ?_
    refine zq_icmp_ge (tgt := 154) d108_79 (by decide) (by omega) (by omega) (fun g1 => ?_) (fun g1 => ?_)
    · have e : q = c := by omega
      subst e
      exact kk A2 _ hE hI
    · have hqc : q < c := by omega
      obtain ⟨⟨o1, o2⟩, ⟨t1, t2⟩⟩ := h8 p hp
      obtain ⟨⟨o3, o4⟩, ⟨t3, t4⟩⟩ := h8 q hqc
      obtain ⟨⟨a1, a2⟩, ⟨b1, b2⟩⟩ := hab p hp
      obtain ⟨⟨a3, a4⟩, ⟨b3, b4⟩⟩ := hab q hqc
      obtain ⟨u1, u2, u3⟩ := hua (a p) a2
      obtain ⟨u4, u5, u6⟩ := hua (a q) a4
      have eS : ∀ i j, cnt (fun q => pX ua a b p q i j) (q + 1) = cnt (fun q => pX ua a b p q i j) q + pX ua a b p q i j := fun _ _ => rfl
      refine mq_aload_n d108_82 rfl rfl ?_
      refine zg_getR L 81 d108_83 rfl rfl (by decide) rfl (by decide) rfl ?_
      refine mq_aload_n d108_86 rfl rfl ?_
      refine zg_getR L 74 d108_87 rfl rfl (by decide) rfl (by decide) rfl ?_
      refine mq_aload d108_90 rfl ?_
      refine mq_iload d108_92 rfl ?_
      refine zr_ialdV L ((o p : Nat)) d108_94 (by omega) (k1) (by omega) ((by rw [eco]; exact o1)) ?_
      refine zr_ialdV L ((a p : Nat)) d108_95 (by decide) rfl (by omega) ((by rw [hE 74 rfl]; exact a1)) ?_
      refine zr_ialdV L (ua (a p)) d108_96 (by decide) rfl (by omega) ((by rw [hE 81 rfl]; exact u1)) ?_
      refine mq_aload_n d108_97 rfl rfl ?_
      refine zg_getR L 81 d108_98 rfl rfl (by decide) rfl (by decide) rfl ?_
      refine mq_aload_n d108_101 rfl rfl ?_
      refine zg_getR L 74 d108_102 rfl rfl (by decide) rfl (by decide) rfl ?_
      refine mq_aload d108_105 rfl ?_
      refine mq_iload d108_107 rfl ?_
      refine zr_ialdV L ((o q : Nat)) d108_109 (by omega) (k1) (by omega) ((by rw [eco]; exact o3)) ?_
      refine zr_ialdV L ((a q : Nat)) d108_110 (by decide) rfl (by omega) ((by rw [hE 74 rfl]; exact a3)) ?_
      refine zr_ialdV L (ua (a q)) d108_111 (by decide) rfl (by omega) ((by rw [hE 81 rfl]; exact u4)) ?_
      refine zq_icmp_le (tgt := 148) d108_112 (by decide) (by omega) (by omega) (fun g2 => ?_) (fun g2 => ?_)
      · refine zq_iinc d108_148 rfl rfl ?_
        refine mq_goto (tgt := 71) d108_151 (by decide) ?_
        refine sp_2 L hl hc ho hua hp kk k (q + 1) A2 (by omega) (by omega) hE (fun i j hi hj => ?_)
        have : pX ua a b p q i j = 0 := if_neg (by omega)
        rw [eS, this, hI i j hi hj]
        omega
      · have e1 : ((b p : Nat) : Int) * 6 + ((b q : Nat) : Int) = ((b p * 6 + b q : Nat) : Int) := by omega
        refine mq_aload_n d108_115 rfl rfl ?_
        refine zg_getR L 83 d108_116 rfl rfl (by decide) rfl (by decide) rfl ?_
        refine mq_aload_n d108_119 rfl rfl ?_
        refine zg_getR L 74 d108_120 rfl rfl (by decide) rfl (by decide) rfl ?_
        refine mq_aload d108_123 rfl ?_
        refine mq_iload d108_125 rfl ?_
        refine zr_ialdV L ((t p : Nat)) d108_127 (by omega) (k2) (by omega) ((by rw [ecx]; exact t1)) ?_
        refine zr_ialdV L ((b p : Nat)) d108_128 (by decide) rfl (by omega) ((by rw [hE 74 rfl]; exact b1)) ?_
        refine zq_bipush d108_129 rfl ?_
        refine zq_imul d108_131 ?_
        refine mq_aload_n d108_132 rfl rfl ?_
        refine zg_getR L 74 d108_133 rfl rfl (by decide) rfl (by decide) rfl ?_
        refine mq_aload d108_136 rfl ?_
        refine mq_iload d108_138 rfl ?_
        refine zr_ialdV L ((t q : Nat)) d108_140 (by omega) (k2) (by omega) ((by rw [ecx]; exact t3)) ?_
        refine zr_ialdV L ((b q : Nat)) d108_141 (by decide) rfl (by omega) ((by rw [hE 74 rfl]; exact b3)) ?_
        refine zq_iadd d108_142 ?_
        rw [e1]
        refine mq_dup2 d108_143 rfl rfl ?_
        refine zg_ialdN L d108_144 (by decide) rfl (by omega) ?_
        refine zq_iconst d108_145 ?_
        refine zq_iadd d108_146 ?_
        refine zg_iastN L d108_147 (by decide) rfl (by omega) ?_
        refine zq_iinc d108_148 rfl rfl ?_
        refine mq_goto (tgt := 71) d108_151 (by decide) ?_
        refine sp_2 L hl hc ho hua hp kk k (q + 1) _ (by omega) (by omega) (eo_u2 rfl hE) (fun i j hi hj => ?_)
        by_cases e : i = b p ∧ j = b q
        · have : pX ua a b p q i j = 1 := if_pos ⟨by omega, e.1.symm, e.2.symm⟩
          rw [eS, this, e.1, e.2, u2_self, hI _ _ b2 b4]
          omega
        · have : pX ua a b p q i j = 0 := if_neg (fun y => e ⟨y.2.1.symm, y.2.2.symm⟩)
          rw [eS, this, u2_k (by omega), hI i j hi hj]
          omega
set_option maxRecDepth 100000 in
theorem sp_3 (L : Lay K ρ) {l : Nat} (hl : l < 12) (hc : A 19 l = (c : Nat)) (ho : pzO A co cx c o t a b) (hua : ∀ x, x < 6 → A 81 x = ua x ∧ 0 ≤ ua x ∧ ua x < 6)
    (kk : ∀ A2, eo [83] A A2 → (∀ i j, i < 6 → j < 6 → A2 83 (i * 6 + j) = cnt (fun p => cnt (fun q => pX ua a b p q i j) c) c) → post none (123, K, zs (A2), ρ)) : ∀ (k p : Nat) (A2 : Nat → Nat → Int) (x7 : Option mj_V), c - p < k → p ≤ c → (∀ y, x7 = some y → ∃ w, y = .inl w) → eo [83] A A2 → (∀ i j, i < 6 → j < 6 → A2 83 (i * 6 + j) = cnt (fun p => cnt (fun q => pX ua a b p q i j) c) p) → mj_W (mj_lv d) prog_5_method_7_code 3 0 0 0 post 57 [some (.inr (.inl (some 77))), some (.inr (.inl (some 16))), some (.inr (.inl (some 46))), some (.inl (iZ ((l : Nat)))), some (.inr (.inl (some co))), some (.inr (.inl (some cx))), some (.inl (iZ ((p : Nat)))), x7] [] (123, K, zs (A2), ρ) 0 0
  | 0, p, _, _, hj, _, _, _, _ => absurd hj (by omega)
  | k + 1, p, A2, x7, hj, hp, hx7, hE, hI => by
    obtain ⟨⟨h1, ⟨h2, h3, h4⟩, ⟨h5, h6, h7⟩, k1, k2, h8⟩, ⟨n1, n2, n3, n4⟩, hab⟩ := id ho
    refine mq_iload d108_57 rfl ?_
    refine mq_aload_n d108_59 rfl rfl ?_
    refine zg_getR L 19 d108_60 rfl rfl (by decide) rfl (by decide) rfl ?_
    refine mq_iload_n d108_63 rfl rfl ?_
    refine zr_ialdV L ((c : Nat)) d108_64 (by decide) rfl (by omega) ((by rw [hE 19 rfl]; exact hc)) ?_
    refine zq_icmp_ge (tgt := 160) d108_65 (by decide) (by omega) (by omega) (fun g1 => ?_) (fun g1 => ?_)
    · have e : p = c := by omega
      subst e
      refine zg_retv d108_160 (by decide) ?_
      exact kk A2 hE hI
    · have st7 : mj_ok [some (.inr (.inl (some 77))), some (.inr (.inl (some 16))), some (.inr (.inl (some 46))), some (.inl (iZ ((l : Nat)))), some (.inr (.inl (some co))), some (.inr (.inl (some cx))), some (.inl (iZ ((p : Nat)))), x7] 7 = true := by
        cases x7 with
        | none => rfl
        | some y =>
          obtain ⟨w, rfl⟩ := hx7 y rfl
          rfl
      refine zq_iconst d108_68 ?_
      refine mq_istore d108_69 (Nat.le_of_ble_eq_true rfl) st7 ?_
      refine sp_2 L hl hc ho hua (show p < c by omega) (fun A3 y7 e3 h3 => ?_) (c + 1) 0 A2 (by omega) (by omega) hE (fun i j hi hj => by rw [hI i j hi hj]; show _ = _ + 0; omega)
      refine zq_iinc d108_154 rfl rfl ?_
      refine mq_goto (tgt := 57) d108_157 (by decide) ?_
      exact sp_3 L hl hc ho hua kk k (p + 1) A3 _ (by omega) (by omega) (fun y e => ⟨_, (Option.some.inj e).symm⟩) e3 h3
end s1
section s2
variable {Q : Nat → Int → Prop} {sz : Nat → Nat} {h N : Nat} {g pu pd : Nat → Nat} {z : wSt}
set_option maxRecDepth 100000 in
theorem s_psetPrices (L : Lay K ρ) (hx : cxO Q sz h N g pu pd) (hpc : pcC A g pu pd N) (hz : wok Q sz h z) (hr : roC A Q sz h z) (h6 : ∀ l, l < h → sz l ≤ 6) {l q : Nat} (hl : l + 1 < h) (hq : q < pF (sz l)) (h80 : ∀ j, j < sz l → A 80 j = (pk (sz l) q j : Nat)) (h80b : ∀ j, sz l ≤ j → j < 6 → A 80 j = (j : Nat))
    (kk : ∀ A2, eo [81, 83] A A2 → (∀ i, i < sz l → A2 81 (pk (sz l) q i) = (i : Nat)) → (∀ i j, i < 6 → j < 6 → A2 83 (i * 6 + j) = prI g pu pd N l z.2 (A2 81) (i : Nat) (j : Nat)) → post none (123, K, zs (A2), ρ)) : mj_lv (d + 2) m_Permuting_setPrices [.inr (.inl (some 77)), .inr (.inl (some 16)), .inr (.inl (some 46)), .inl (iZ (l : Nat))] (123, K, zs (A), ρ) post := by
  obtain ⟨x1, x2, x3, y4, y5, y6, y7⟩ := id hx
  have s6 := h6 l (by omega)
  have hpp := pk_perm s6 hq
  obtain ⟨u, hu⟩ : ∃ u : Nat → Nat, u = fun i => if i < sz l then pk (sz l) q i else i := ⟨_, rfl⟩
  have hu1 : ∀ i, i < 6 → A 80 i = (u i : Nat) ∧ u i < 6 := fun i hi => by
    rw [hu]
    by_cases e : i < sz l
    · simp only [if_pos e]
      have := hpp.1 i e
      exact ⟨h80 i e, by omega⟩
    · simp only [if_neg e]
      exact ⟨h80b i (by omega) hi, hi⟩
  have hinj : ∀ i j, i < 6 → j < 6 → u i = u j → i = j := fun i j hi hj e => by
    rw [hu] at e
    simp only at e
    by_cases e1 : i < sz l <;> by_cases e2 : j < sz l
    · rw [if_pos e1, if_pos e2] at e
      exact hpp.2 i j e1 e2 e
    · rw [if_pos e1, if_neg e2] at e
      have := hpp.1 i e1
      omega
    · rw [if_neg e1, if_pos e2] at e
      have := hpp.1 j e2
      omega
    · rw [if_neg e1, if_neg e2] at e
      exact e
  show mj_W (mj_lv (d + 1)) prog_5_method_7_code 3 0 0 0 post 0 [some (.inr (.inl (some 77))), some (.inr (.inl (some 16))), some (.inr (.inl (some 46))), some (.inl (iZ ((l : Nat)))), none, none, none, none] [] (123, K, zs (A), ρ) 0 0
  refine mq_aload_n d108_0 rfl rfl ?_
  refine zg_getR L 83 d108_1 rfl rfl (by decide) rfl (by decide) rfl ?_
  refine zq_iconst d108_4 ?_
  refine zg_callS [_, _] d108_5 rfl rfl ⟨rfl, rfl⟩ rfl ⟨rfl, rfl⟩ ⟨by decide, by decide⟩ ?_
  refine s_fill L (by decide) rfl (by decide) ?_
  obtain ⟨B, hB⟩ : ∃ B, B = fl A 83 36 0 := ⟨_, rfl⟩
  rw [← hB]
  have bc : ∀ c, c ≠ 83 → B c = A c := fun c hc => by rw [hB, fl_c hc]
  refine zq_iconst d108_8 ?_
  refine mq_istore d108_9 (Nat.le_of_ble_eq_true rfl) rfl ?_
  refine sp_1 (A := B) (u := u) L (fun i hi => by rw [bc 80 (by decide)]; exact hu1 i hi) hinj (fun A2 e2 h2 => ?_) 7 0 B (by omega) (by omega) eo_refl (fun b hb => absurd hb (by omega))
  have c2 : ∀ c, c ≠ 81 → c ≠ 83 → A2 c = A c := fun c a b => by rw [e2 c (by simp; omega), bc c b]
  have hpc2 : pcC A2 g pu pd N := pcC_eo (fun q hq => by have := (y6 q hq).2.2; omega) hpc (fun c a b => c2 c (by omega) (by omega))
  have hr2 : roC A2 Q sz h z := roC_eo hr x1 (fun c hc => c2 c (by omega) (by omega))
  obtain ⟨o1, o2, o3, o4⟩ := pc_seq hx hpc2 hl
  have hua : ∀ x, x < 6 → A2 81 x = A2 81 x ∧ 0 ≤ A2 81 x ∧ A2 81 x < 6 := fun x hx2 => by
    obtain ⟨i, hi, e⟩ := inj_surj (f := u) (fun i hi => (hu1 i hi).2) hinj hx2
    have := h2 i hi
    rw [e] at this
    omega
  -- where the pieces' items stand
  have hat : ∀ p, p < ctg g l N → (A2 74 (A2 (21 + l) p).toNat = ((A2 74 (A2 (21 + l) p).toNat).toNat : Nat) ∧ (A2 74 (A2 (21 + l) p).toNat).toNat < 6) ∧ (A2 74 (A2 (34 + l) p).toNat = ((A2 74 (A2 (34 + l) p).toNat).toNat : Nat) ∧ (A2 74 (A2 (34 + l) p).toNat).toNat < 6) := fun p hp => by
    obtain ⟨q1, q2⟩ := o4 p hp
    have a1 := wok_s hz (show l < h by omega) q1
    have a2 := wok_s hz hl q2
    have b1 := (ro_at hx hz hr2 (show l < h by omega) q1).1
    have b2 := (ro_at hx hz hr2 hl q2).1
    have c1 := h6 l (by omega)
    have c2 := h6 (l + 1) hl
    rw [Int.toNat_natCast] at a1 a2
    rw [b1, b2]
    omega
  have ho : pzO A2 (21 + l) (34 + l) (ctg g l N) (fun i => (A2 (21 + l) i).toNat) (fun i => (A2 (34 + l) i).toNat) (fun i => (A2 74 (A2 (21 + l) i).toNat).toNat) (fun i => (A2 74 (A2 (34 + l) i).toNat).toNat) := ⟨o1, by omega, hat⟩
  refine mq_aload_n d108_38 rfl rfl ?_
  refine zg_getR L 20 d108_39 rfl rfl (by decide) rfl (by decide) rfl ?_
  refine mq_iload_n d108_42 rfl rfl ?_
  refine zr_aald L (21 + l) d108_43 (by decide) rfl (by omega) (rf20 (by omega)) ?_
  refine mq_astore d108_44 (Nat.le_of_ble_eq_true rfl) rfl ?_
  refine mq_aload_n d108_46 rfl rfl ?_
  refine zg_getR L 33 d108_47 rfl rfl (by decide) rfl (by decide) rfl ?_
  refine mq_iload_n d108_50 rfl rfl ?_
  refine zr_aald L (34 + l) d108_51 (by decide) rfl (by omega) (rf33 (by omega)) ?_
  refine mq_astore d108_52 (Nat.le_of_ble_eq_true rfl) rfl ?_
  refine zq_iconst d108_54 ?_
  refine mq_istore d108_55 (Nat.le_of_ble_eq_true rfl) rfl ?_
  refine sp_3 (ua := A2 81) L (by omega) (hpc2.1 l (by omega)) ho hua (fun A3 e3 h3 => ?_) (ctg g l N + 1) 0 A2 _ (by omega) (by omega) (fun y e => absurd e (by simp)) eo_refl (fun i j hi hj => ?_)
  · refine kk A3 (fun c hc => ?_) (fun i hi => ?_) (fun i j hi hj => ?_)
    · simp at hc
      rw [e3 c (by simp; omega), c2 c (by omega) (by omega)]
    · have := h2 i (by omega)
      rw [hu] at this
      simp only [if_pos hi] at this
      rw [e3 81 rfl]
      exact this
    · rw [h3 i j hi hj, e3 81 rfl]
      unfold prI
      rw [ctg_sum (F := fun p => cnt (fun q => if (g p = l ∧ g q = l) ∧ A2 81 (z.2 (pu q)).toNat < A2 81 (z.2 (pu p)).toNat ∧ z.2 (pd p) = (i : Nat) ∧ z.2 (pd q) = (j : Nat) then 1 else 0) N) (fun p hp e => ?_)]
      · refine cnt_congr (fun p hp => ?_)
        by_cases y : g p = l
        · rw [if_pos y]
        · rw [if_neg y, cnt_congr (g := fun _ => 0) (fun q _ => if_neg (fun w => y w.1.1)), cnt_zero]
      · rw [ctg_sum (F := fun q => if (g p = l ∧ g q = l) ∧ A2 81 (z.2 (pu q)).toNat < A2 81 (z.2 (pu p)).toNat ∧ z.2 (pd p) = (i : Nat) ∧ z.2 (pd q) = (j : Nat) then 1 else 0) (fun q hq e2 => ?_)]
        · refine cnt_congr (fun q hq => ?_)
          by_cases y : g q = l
          · rw [if_pos y]
          · rw [if_neg y, if_neg (fun w => y w.1.2)]
        · have v : ∀ p, p < N → g p = l → (A2 74 (A2 (21 + l) (ctg g l p)).toNat).toNat = (z.2 (pu p)).toNat ∧ ((A2 74 (A2 (34 + l) (ctg g l p)).toNat).toNat : Nat) = (z.2 (pd p)).toNat ∧ 0 ≤ z.2 (pd p) := fun p hp e => by
            obtain ⟨q1, q2⟩ := o3 p hp e
            obtain ⟨b1, b2, -⟩ := y6 p hp
            rw [e] at b1 b2
            have c1 := ro_at hx hz hr2 (show l < h by omega) b1
            have c2 := ro_at hx hz hr2 hl b2
            rw [q1, q2, c1.1, c2.1]
            exact ⟨rfl, rfl, by omega⟩
          obtain ⟨v1, v2, v3⟩ := v p hp e
          obtain ⟨v4, v5, v6⟩ := v q hq e2
          show (if A2 81 (A2 74 (A2 (21 + l) (ctg g l q)).toNat).toNat < A2 81 (A2 74 (A2 (21 + l) (ctg g l p)).toNat).toNat ∧ (A2 74 (A2 (34 + l) (ctg g l p)).toNat).toNat = i ∧ (A2 74 (A2 (34 + l) (ctg g l q)).toNat).toNat = j then (1 : Int) else 0) = _
          rw [v1, v4, v2, v5]
          by_cases y : A2 81 (z.2 (pu q)).toNat < A2 81 (z.2 (pu p)).toNat ∧ z.2 (pd p) = (i : Nat) ∧ z.2 (pd q) = (j : Nat)
          · rw [if_pos ⟨y.1, by omega, by omega⟩, if_pos ⟨⟨e, e2⟩, y⟩]
          · rw [if_neg (fun w => y ⟨w.1, by omega, by omega⟩), if_neg (fun w => y w.2)]
  · rw [e2 83 rfl, hB, fl_lt (by omega)]
    rfl
end s2
set_option maxRecDepth 100000 in
theorem pc_1 (L : Lay K ρ) {s : Nat} (hs : s ≤ 6) {lo : Nat → Nat} (hlo : ∀ i, i < s → A 82 i = (lo i : Nat) ∧ lo i < 6) {i : Nat} (hi : i < s) {B : Int} (kk : ∀ x4, mj_W (mj_lv d) prog_5_method_8_code 3 1 0 0 post 51 [some (.inr (.inl (some 77))), some (.inl (iZ ((s : Nat)))), some (.inl (iZ (B + cnt (fun j => if i < j then A 83 (lo i * 6 + lo j) else 0) s))), some (.inl (iZ ((i : Nat)))), some (.inl x4)] [] (123, K, zs (A), ρ) 0 0) : ∀ (k j : Nat), s - j < k → i < j → j ≤ s → mj_W (mj_lv d) prog_5_method_8_code 3 1 0 0 post 14 [some (.inr (.inl (some 77))), some (.inl (iZ ((s : Nat)))), some (.inl (iZ (B + cnt (fun j => if i < j then A 83 (lo i * 6 + lo j) else 0) j))), some (.inl (iZ ((i : Nat)))), some (.inl (iZ ((j : Nat))))] [] (123, K, zs (A), ρ) 0 0
  | 0, j, hj, _, _ => absurd hj (by omega)
  | k + 1, j, hj, hij, hjs => by
    refine mq_iload d109_14 rfl ?_
    refine mq_iload_n d109_16 rfl rfl ?_
    refine zq_icmp_ge (tgt := 51) d109_17 (by decide) (by omega) (by omega) (fun g1 => ?_) (fun g1 => ?_)
    · have e : j = s := by omega
      subst e
      exact kk _
    · obtain ⟨a1, a2⟩ := hlo i hi
      obtain ⟨b1, b2⟩ := hlo j (by omega)
      have e1 : ((lo i : Nat) : Int) * 6 + ((lo j : Nat) : Int) = ((lo i * 6 + lo j : Nat) : Int) := by omega
      have eS : cnt (fun j => if i < j then A 83 (lo i * 6 + lo j) else 0) (j + 1) = cnt (fun j => if i < j then A 83 (lo i * 6 + lo j) else 0) j + (if i < j then A 83 (lo i * 6 + lo j) else 0) := rfl
      have fin := pc_1 L hs hlo hi kk k (j + 1) (by omega) (by omega) (by omega)
      rw [eS, if_pos hij, ← Int.add_assoc] at fin
      refine mq_iload_n d109_20 rfl rfl ?_
      refine mq_aload_n d109_21 rfl rfl ?_
      refine zg_getR L 83 d109_22 rfl rfl (by decide) rfl (by decide) rfl ?_
      refine mq_aload_n d109_25 rfl rfl ?_
      refine zg_getR L 82 d109_26 rfl rfl (by decide) rfl (by decide) rfl ?_
      refine mq_iload_n d109_29 rfl rfl ?_
      refine zr_ialdV L ((lo i : Nat)) d109_30 (by decide) rfl (by omega) (a1) ?_
      refine zq_bipush d109_31 rfl ?_
      refine zq_imul d109_33 ?_
      refine mq_aload_n d109_34 rfl rfl ?_
      refine zg_getR L 82 d109_35 rfl rfl (by decide) rfl (by decide) rfl ?_
      refine mq_iload d109_38 rfl ?_
      refine zr_ialdV L ((lo j : Nat)) d109_40 (by decide) rfl (by omega) (b1) ?_
      refine zq_iadd d109_41 ?_
      rw [e1]
      refine zg_ialdN L d109_42 (by decide) rfl (by omega) ?_
      refine zq_iadd d109_43 ?_
      refine mq_istore_n d109_44 rfl (Nat.le_of_ble_eq_true rfl) rfl ?_
      refine zq_iinc d109_45 rfl rfl ?_
      refine mq_goto (tgt := 14) d109_48 (by decide) ?_
      exact fin
set_option maxRecDepth 100000 in
theorem pc_2 (L : Lay K ρ) {s : Nat} (hs : s ≤ 6) {lo : Nat → Nat} (hlo : ∀ i, i < s → A 82 i = (lo i : Nat) ∧ lo i < 6) (kk : post (some (.inl (iZ (cnt (fun i => cnt (fun j => if i < j then A 83 (lo i * 6 + lo j) else 0) s) s)))) (123, K, zs (A), ρ)) : ∀ (k i : Nat) (x4 : Option mj_V), s - i < k → i ≤ s → (∀ y, x4 = some y → ∃ w, y = .inl w) → mj_W (mj_lv d) prog_5_method_8_code 3 1 0 0 post 4 [some (.inr (.inl (some 77))), some (.inl (iZ ((s : Nat)))), some (.inl (iZ (cnt (fun i => cnt (fun j => if i < j then A 83 (lo i * 6 + lo j) else 0) s) i))), some (.inl (iZ ((i : Nat)))), x4] [] (123, K, zs (A), ρ) 0 0
  | 0, i, _, hj, _, _ => absurd hj (by omega)
  | k + 1, i, x4, hj, hi, hx4 => by
    refine mq_iload_n d109_4 rfl rfl ?_
    refine mq_iload_n d109_5 rfl rfl ?_
    refine zq_icmp_ge (tgt := 57) d109_6 (by decide) (by omega) (by omega) (fun g1 => ?_) (fun g1 => ?_)
    · have e : i = s := by omega
      subst e
      refine mq_iload_n d109_57 rfl rfl ?_
      refine zg_reti d109_58 rfl ?_
      exact kk
    · have st4 : mj_ok [some (.inr (.inl (some 77))), some (.inl (iZ ((s : Nat)))), some (.inl (iZ (cnt (fun i => cnt (fun j => if i < j then A 83 (lo i * 6 + lo j) else 0) s) i))), some (.inl (iZ ((i : Nat)))), x4] 4 = true := by
        cases x4 with
        | none => rfl
        | some y =>
          obtain ⟨w, rfl⟩ := hx4 y rfl
          rfl
      have e1 : ((i : Nat) : Int) + 1 = ((i + 1 : Nat) : Int) := by omega
      have e0 : ∀ m, m ≤ i + 1 → cnt (fun j => if i < j then A 83 (lo i * 6 + lo j) else 0) m = 0 := fun m hm => by
        rw [cnt_congr (g := fun _ => 0) (fun j hj => if_neg (by omega)), cnt_zero]
      refine mq_iload_n d109_9 rfl rfl ?_
      refine zq_iconst d109_10 ?_
      refine zq_iadd d109_11 ?_
      rw [e1]
      refine mq_istore d109_12 (Nat.le_of_ble_eq_true rfl) st4 ?_
      have fin := pc_1 (d := d) (post := post) L hs hlo (i := i) (by omega) (B := cnt (fun i => cnt (fun j => if i < j then A 83 (lo i * 6 + lo j) else 0) s) i) (fun x4 => by
        refine zq_iinc d109_51 rfl rfl ?_
        refine mq_goto (tgt := 4) d109_54 (by decide) ?_
        exact pc_2 L hs hlo kk k (i + 1) _ (by omega) (by omega) (fun y e => ⟨_, (Option.some.inj e).symm⟩)) (s + 1) (i + 1) (by omega) (by omega) (by omega)
      rw [e0 (i + 1) (Nat.le_refl _), Int.add_zero] at fin
      exact fin
set_option maxRecDepth 100000 in
theorem s_price (L : Lay K ρ) {s : Nat} (hs : s ≤ 6) {lo : Nat → Nat} (hlo : ∀ i, i < s → A 82 i = (lo i : Nat) ∧ lo i < 6) (kk : post (some (.inl (iZ (cnt (fun i => cnt (fun j => if i < j then A 83 (lo i * 6 + lo j) else 0) s) s)))) (123, K, zs (A), ρ)) : mj_lv (d + 1) m_Permuting_price [.inr (.inl (some 77)), .inl (iZ (s : Nat))] (123, K, zs (A), ρ) post := by
  show mj_W (mj_lv d) prog_5_method_8_code 3 1 0 0 post 0 [some (.inr (.inl (some 77))), some (.inl (iZ ((s : Nat)))), none, none, none] [] (123, K, zs (A), ρ) 0 0
  refine zq_iconst d109_0 ?_
  refine mq_istore_n d109_1 rfl (Nat.le_of_ble_eq_true rfl) rfl ?_
  refine zq_iconst d109_2 ?_
  refine mq_istore_n d109_3 rfl (Nat.le_of_ble_eq_true rfl) rfl ?_
  exact pc_2 L hs hlo kk (s + 1) 0 _ (by omega) (by omega) (fun y e => absurd e (by simp))
end sp_sp
