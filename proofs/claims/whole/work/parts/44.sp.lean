section sp_set
variable {d : Nat} {post : Option mj_V → mj_H → Prop} {K : Nat → Nat × Nat} {ρ : Nat → Nat → Option Nat}
/-- arc a is there, between nodes v and u, both of them in S -/
def spC (A : Nat → Nat → Int) (S a v u : Nat) : Prop := A 5 a = 1 ∧ (A 3 a).toNat = v ∧ (A 4 a).toNat = u ∧ S.testBit (A 3 a).toNat = true ∧ S.testBit (A 4 a).toNat = true
/-- its price -/
def spT (A : Nat → Nat → Int) (S v u a : Nat) : Int := if A 5 a = 1 ∧ (A 3 a).toNat = v ∧ (A 4 a).toNat = u ∧ S.testBit (A 3 a).toNat = true ∧ S.testBit (A 4 a).toNat = true then wW a else 0
def spI (A A2 : Nat → Nat → Int) (S i : Nat) : Prop := (∀ c k, c ≠ 8 → c ≠ 9 → A2 c k = A c k) ∧ (∀ v u, v < 12 → u < 12 → A2 8 (12 * v + u) = cnt (spT A S v u) i) ∧ ∀ v, v < 12 → ∃ F : Nat, F < 4096 ∧ A2 9 v = (F : Int) ∧ ∀ u, u < 12 → F.testBit u = false → ∀ a, a < i → ¬ spC A S a v u
theorem spI_no {A A2 : Nat → Nat → Int} {S i : Nat} (h : spI A A2 S i) (hn : ¬ (A 5 i = 1 ∧ S.testBit (A 3 i).toNat = true ∧ S.testBit (A 4 i).toNat = true)) : spI A A2 S (i + 1) := by
  obtain ⟨h1, h2, h3⟩ := h
  refine ⟨h1, fun v u hv hu => ?_, fun v hv => ?_⟩
  · show _ = cnt (spT A S v u) i + spT A S v u i
    rw [h2 v u hv hu]
    unfold spT
    rw [if_neg (fun q => hn ⟨q.1, q.2.2.2⟩)]
    omega
  · obtain ⟨F, g1, g2, g3⟩ := h3 v hv
    refine ⟨F, g1, g2, fun u hu hf a ha => ?_⟩
    by_cases e : a = i
    · subst e
      exact fun q => hn ⟨q.1, q.2.2.2⟩
    · exact g3 u hu hf a (by omega)
theorem spI_yes {A A2 : Nat → Nat → Int} {S i v0 u0 F0 : Nat} (h : spI A A2 S i) (hv0 : (A 3 i).toNat = v0) (hu0 : (A 4 i).toNat = u0) (b1 : v0 < 12) (b2 : u0 < 12) (hy : A 5 i = 1 ∧ S.testBit v0 = true ∧ S.testBit u0 = true) (hF : A2 9 v0 = (F0 : Int)) : spI A (mj_u2 (mj_u2 A2 8 (12 * v0 + u0) (A2 8 (12 * v0 + u0) + wW i)) 9 v0 ((F0 ||| 2 ^ u0 : Nat) : Int)) S (i + 1) := by
  obtain ⟨h1, h2, h3⟩ := h
  refine ⟨fun c k hc hc2 => by rw [u2_c hc2, u2_c hc]; exact h1 c k hc hc2, fun v u hv hu => ?_, fun v hv => ?_⟩
  · show _ = cnt (spT A S v u) i + spT A S v u i
    rw [u2_c (by decide), u2_at]
    unfold spT
    by_cases e : v = v0 ∧ u = u0
    · obtain ⟨rfl, rfl⟩ := e
      rw [if_pos ⟨rfl, rfl⟩, h2 v u hv hu, if_pos ⟨hy.1, hv0, hu0, by rw [hv0]; exact hy.2.1, by rw [hu0]; exact hy.2.2⟩]
      rfl
    · rw [if_neg (fun q => e (by omega)), h2 v u hv hu, if_neg (fun q => e ⟨by omega, by omega⟩)]
      show cnt (spT A S v u) i = cnt (spT A S v u) i + 0
      omega
  · obtain ⟨F, g1, g2, g3⟩ := h3 v hv
    by_cases e : v = v0
    · subst e
      have e2 : F = F0 := by
        rw [g2] at hF
        exact Int.ofNat_inj.mp hF
      subst e2
      refine ⟨F ||| 2 ^ u0, Nat.or_lt_two_pow (n := 12) g1 (Nat.pow_lt_pow_right (by decide) b2), by rw [u2_self], fun u hu hf a ha => ?_⟩
      rw [Nat.testBit_or, Bool.or_eq_false_iff, Nat.testBit_two_pow] at hf
      by_cases e3 : a = i
      · subst e3
        intro q
        have := q.2.2.1
        have h9 := of_decide_eq_false hf.2
        omega
      · exact g3 u hu hf.1 a (by omega)
    · refine ⟨F, g1, by rw [u2_k e, u2_c (by decide)]; exact g2, fun u hu hf a ha => ?_⟩
      by_cases e3 : a = i
      · subst e3
        intro q
        have := q.2.1
        omega
      · exact g3 u hu hf a (by omega)
set_option maxRecDepth 100000 in
theorem sp_loop (L : Lay K ρ) {A : Nat → Nat → Int} (hm : 0 ≤ A 1 5 ∧ A 1 5 ≤ 24) (ha : ∀ a : Nat, (a : Int) < A 1 5 → (0 ≤ A 3 a ∧ A 3 a < 12) ∧ (0 ≤ A 4 a ∧ A 4 a < 12) ∧ (A 5 a = 0 ∨ A 5 a = 1)) {S : Nat} (hS : S < 4096)
    (k : ∀ A2, spI A A2 S (A 1 5).toNat → post none (123, K, zs A2, ρ)) : ∀ (j i : Nat) (A2 : Nat → Nat → Int) (q4 q5 : Option mj_V), (A 1 5).toNat - i < j → i ≤ (A 1 5).toNat → spI A A2 S i → mj_W (mj_lv (d + 1)) prog_9_method_6_code 7 0 0 0 post 18 [some (.inr (.inl (some 6))), some (.inr (.inl (some 1))), some (.inl (iZ (S : Int))), some (.inl (iZ (i : Int))), q4, q5] [] (123, K, zs A2, ρ) 0 0
  | 0, i, _, _, _, h, _, _ => absurd h (by omega)
  | j + 1, i, A2, q4, q5, h, hi, hI => by
    have hI0 := hI
    obtain ⟨h1, h2, h3⟩ := hI0
    have e15 := h1 1 5 (by decide) (by decide)
    refine mq_iload_n d136_18 rfl rfl ?_
    refine mq_aload_n d136_19 rfl rfl ?_
    refine zg_getIe L (A 1 5) d136_20 rfl rfl (by decide) rfl e15 ?_
    refine zq_icmp_ge (tgt := 112) d136_23 (by decide) (by omega) (by omega) (fun g => ?_) (fun g => ?_)
    · have e : i = (A 1 5).toNat := by omega
      rw [e] at hI
      exact zg_retv d136_112 (by decide) (k A2 hI)
    · have hz := ha i g
      obtain ⟨v0, ev⟩ : ∃ v0 : Nat, A 3 i = (v0 : Int) := ⟨(A 3 i).toNat, by omega⟩
      obtain ⟨u0, eu⟩ : ∃ u0 : Nat, A 4 i = (u0 : Int) := ⟨(A 4 i).toNat, by omega⟩
      have nxt : ∀ A3 q4 q5, spI A A3 S (i + 1) → mj_W (mj_lv (d + 1)) prog_9_method_6_code 7 0 0 0 post 106 [some (.inr (.inl (some 6))), some (.inr (.inl (some 1))), some (.inl (iZ (S : Int))), some (.inl (iZ (i : Int))), q4, q5] [] (123, K, zs A3, ρ) 0 0 := fun A3 q4 q5 hI3 => by
        refine zq_iinc d136_106 rfl rfl ?_
        refine mq_goto (tgt := 18) d136_109 (by decide) ?_
        exact sp_loop L hm ha hS k j (i + 1) A3 q4 q5 (by omega) (by omega) hI3
      refine mq_aload_n d136_26 rfl rfl ?_
      refine zg_getR L 3 d136_27 rfl rfl (by decide) rfl (by decide) rfl ?_
      refine mq_iload_n d136_30 rfl rfl ?_
      refine zg_ialde L (v0 : Int) d136_31 (by decide) rfl (by omega) (by rw [Int.toNat_natCast, h1 3 i (by decide) (by decide)]; exact ev) ?_
      refine mq_istore d136_32 (Nat.le_of_ble_eq_true rfl) rfl ?_
      refine mq_aload_n d136_34 rfl rfl ?_
      refine zg_getR L 4 d136_35 rfl rfl (by decide) rfl (by decide) rfl ?_
      refine mq_iload_n d136_38 rfl rfl ?_
      refine zg_ialde L (u0 : Int) d136_39 (by decide) rfl (by omega) (by rw [Int.toNat_natCast, h1 4 i (by decide) (by decide)]; exact eu) ?_
      refine mq_istore d136_40 (Nat.le_of_ble_eq_true rfl) rfl ?_
      refine mq_aload_n d136_42 rfl rfl ?_
      refine zg_getR L 5 d136_43 rfl rfl (by decide) rfl (by decide) rfl ?_
      refine mq_iload_n d136_46 rfl rfl ?_
      refine zg_zalde L (A 5 i) d136_47 (by decide) rfl (by omega) (by rw [Int.toNat_natCast, h1 5 i (by decide) (by decide)]) ?_
      refine zq_if_eq (tgt := 106) d136_48 (by decide) (by omega) (fun g1 => ?_) (fun g1 => ?_)
      · exact nxt _ _ _ (spI_no hI (fun q => by omega))
      · refine mq_iload_n d136_51 rfl rfl ?_
        refine mq_iload d136_52 rfl ?_
        refine zn_bit (tgt := 106) d136_54 d136_55 d136_56 d136_57 (by decide) (by omega) (fun g2 => ?_) (fun g2 => ?_)
        · rw [Int.toNat_natCast] at g2
          exact nxt _ _ _ (spI_no hI (fun q => by rw [ev, Int.toNat_natCast, g2] at q; cases q.2.1))
        · rw [Int.toNat_natCast] at g2
          refine mq_iload_n d136_60 rfl rfl ?_
          refine mq_iload d136_61 rfl ?_
          refine zn_bit (tgt := 106) d136_63 d136_64 d136_65 d136_66 (by decide) (by omega) (fun g3 => ?_) (fun g3 => ?_)
          · rw [Int.toNat_natCast] at g3
            exact nxt _ _ _ (spI_no hI (fun q => by rw [eu, Int.toNat_natCast, g3] at q; cases q.2.2))
          · rw [Int.toNat_natCast] at g3
            obtain ⟨F0, f1, f2, f3⟩ := h3 v0 (by omega)
            refine mq_aload_n d136_69 rfl rfl ?_
            refine zg_getR L 8 d136_70 rfl rfl (by decide) rfl (by decide) rfl ?_
            refine mq_iload d136_73 rfl ?_
            refine zq_bipush d136_75 rfl ?_
            refine zq_imul d136_77 ?_
            refine mq_iload d136_78 rfl ?_
            refine zq_iadd d136_80 ?_
            refine mq_dup2 d136_81 rfl rfl ?_
            refine zg_ialde L (A2 8 (12 * v0 + u0)) d136_82 (by decide) rfl (by omega) (by rw [show ((v0 : Int) * 12 + (u0 : Int)).toNat = 12 * v0 + u0 by omega]) ?_
            refine mq_ldc (v := iZ 16777216) d136_83 (by decide) ?_
            refine mq_iload_n d136_85 rfl rfl ?_
            refine zg_callS [_] d136_86 rfl rfl ⟨rfl, rfl⟩ rfl ⟨rfl, rfl⟩ ⟨by decide, by decide⟩ ?_
            refine s_mark (by omega) ?_
            refine zq_isub d136_89 ?_
            refine zq_iadd d136_90 ?_
            refine zg_iast L d136_91 (by decide) rfl (by omega) ?_
            rw [show ((v0 : Int) * 12 + (u0 : Int)).toNat = 12 * v0 + u0 by omega, Int.toNat_natCast]
            refine mq_aload_n d136_92 rfl rfl ?_
            refine zg_getR L 9 d136_93 rfl rfl (by decide) rfl (by decide) rfl ?_
            refine mq_iload d136_96 rfl ?_
            refine mq_dup2 d136_98 rfl rfl ?_
            refine zg_ialde L (F0 : Int) d136_99 (by decide) rfl (by omega) (by rw [Int.toNat_natCast, u2_c (by decide)]; exact f2) ?_
            refine zq_iconst d136_100 ?_
            refine mq_iload d136_101 rfl ?_
            refine zn_shl1 d136_103 (by omega) ?_
            rw [Int.toNat_natCast]
            refine zn_ior d136_104 ?_
            refine zg_iast L d136_105 (by decide) rfl (by omega) ?_
            rw [Int.toNat_natCast]
            exact nxt _ _ _ (spI_yes hI (by rw [ev, Int.toNat_natCast]) (by rw [eu, Int.toNat_natCast]) (by omega) (by omega) ⟨by omega, g2, g3⟩ f2)
set_option maxRecDepth 100000 in
theorem s_setPrices (L : Lay K ρ) {A : Nat → Nat → Int} (hm : 0 ≤ A 1 5 ∧ A 1 5 ≤ 24) (ha : ∀ a : Nat, (a : Int) < A 1 5 → (0 ≤ A 3 a ∧ A 3 a < 12) ∧ (0 ≤ A 4 a ∧ A 4 a < 12) ∧ (A 5 a = 0 ∨ A 5 a = 1)) {S : Nat} (hS : S < 4096)
    (k : ∀ A2, spI A A2 S (A 1 5).toNat → post none (123, K, zs A2, ρ)) : mj_lv (d + 2) m_Turning_setPrices [.inr (.inl (some 6)), .inr (.inl (some 1)), .inl (iZ (S : Int))] (123, K, zs A, ρ) post := by
  show mj_W (mj_lv (d + 1)) prog_9_method_6_code 7 0 0 0 post 0 [some (.inr (.inl (some 6))), some (.inr (.inl (some 1))), some (.inl (iZ (S : Int))), none, none, none] [] (123, K, zs A, ρ) 0 0
  refine mq_aload_n d136_0 rfl rfl ?_
  refine zg_getR L 8 d136_1 rfl rfl (by decide) rfl (by decide) rfl ?_
  refine zq_iconst d136_4 ?_
  refine zg_callS [_, _] d136_5 rfl rfl ⟨rfl, rfl⟩ rfl ⟨rfl, rfl⟩ ⟨by decide, by decide⟩ ?_
  refine s_fill L (by decide) rfl (by decide) ?_
  refine mq_aload_n d136_8 rfl rfl ?_
  refine zg_getR L 9 d136_9 rfl rfl (by decide) rfl (by decide) rfl ?_
  refine zq_iconst d136_12 ?_
  refine zg_callS [_, _] d136_13 rfl rfl ⟨rfl, rfl⟩ rfl ⟨rfl, rfl⟩ ⟨by decide, by decide⟩ ?_
  refine s_fill L (by decide) rfl (by decide) ?_
  refine zq_iconst d136_16 ?_
  refine mq_istore_n d136_17 rfl (Nat.le_of_ble_eq_true rfl) rfl ?_
  refine sp_loop L hm ha hS k ((A 1 5).toNat + 1) 0 _ none none (by omega) (by omega) ⟨fun c k hc hc2 => ?_, fun v u hv hu => ?_, fun v hv => ⟨0, by decide, ?_, fun u _ _ a ha => absurd ha (by omega)⟩⟩
  · simp [fl, hc, hc2]
  · show fl (fl A 8 144 0) 9 12 0 8 (12 * v + u) = 0
    unfold fl
    rw [if_neg (by omega), if_pos (by omega)]
  · unfold fl
    rw [if_pos (by omega)]
    rfl
end sp_set
