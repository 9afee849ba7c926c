section sp_lb3
variable {d : Nat} {post : Option mj_V → mj_H → Prop} {K : Nat → Nat × Nat} {ρ : Nat → Nat → Option Nat}
/-- A2, but the first i places of row s are those of row r with u more -/
def bt2 (A2 : Nat → Nat → Int) (s r u i : Nat) : Nat → Nat → Int := fun c k => if c = 105 ∧ 12 * s ≤ k ∧ k < 12 * s + i then A2 105 (12 * r + (k - 12 * s)) + A2 104 (12 * (k - 12 * s) + u) else A2 c k
theorem bt2_0 {A2 : Nat → Nat → Int} {s r u : Nat} : bt2 A2 s r u 0 = A2 := by
  funext c k
  unfold bt2
  rw [if_neg (by omega)]
theorem bt2_s {A2 : Nat → Nat → Int} {s r u i : Nat} : mj_u2 (bt2 A2 s r u i) 105 (12 * s + i) (A2 105 (12 * r + i) + A2 104 (12 * i + u)) = bt2 A2 s r u (i + 1) := by
  funext c k
  rw [u2_at]
  unfold bt2
  by_cases h : c = 105 ∧ k = 12 * s + i
  · rw [if_pos h, if_pos (by omega), show k - 12 * s = i by omega]
  · rw [if_neg h]
    by_cases h2 : c = 105 ∧ 12 * s ≤ k ∧ k < 12 * s + i
    · rw [if_pos h2, if_pos (by omega)]
    · rw [if_neg h2, if_neg (by omega)]
set_option maxRecDepth 100000 in
theorem lb_row (L : Lay K ρ) {A2 : Nat → Nat → Int} (hn : 0 ≤ A2 93 0 ∧ A2 93 0 ≤ 12) {s r u : Nat} (hs : s < 4096) (hr : r < s) (hu : u < 12) {al : Option mj_V}
    (kk : ∀ x5, mj_W (mj_lv d) prog_11_method_10_code 9 1 0 0 post 214 [some (.inr (.inl (some 93))), al, some (.inl (iZ (s : Int))), some (.inl (iZ (u : Int))), some (.inl (iZ (r : Int))), some (.inl x5)] [] (123, K, zs (bt2 A2 s r u (A2 93 0).toNat), ρ) 0 0) : ∀ (j i : Nat), (A2 93 0).toNat - i < j → i ≤ (A2 93 0).toNat → mj_W (mj_lv d) prog_11_method_10_code 9 1 0 0 post 161 [some (.inr (.inl (some 93))), al, some (.inl (iZ (s : Int))), some (.inl (iZ (u : Int))), some (.inl (iZ (r : Int))), some (.inl (iZ (i : Int)))] [] (123, K, zs (bt2 A2 s r u i), ρ) 0 0
  | 0, i, h, _ => absurd h (by omega)
  | j + 1, i, h, hi => by
    refine mq_iload d34_161 rfl ?_
    refine mq_aload_n d34_163 rfl rfl ?_
    refine zg_getIe L (A2 93 0) d34_164 rfl rfl (by decide) rfl (by simp [bt2]) ?_
    refine zq_icmp_ge (tgt := 214) d34_167 (by decide) (by omega) (by omega) (fun g => ?_) (fun g => ?_)
    · have e2 : i = (A2 93 0).toNat := by omega
      rw [← e2] at kk
      exact kk _
    · refine mq_aload_n d34_170 rfl rfl ?_
      refine zg_getR L 105 d34_171 rfl rfl (by decide) rfl (by decide) rfl ?_
      refine zq_bipush d34_174 rfl ?_
      refine mq_iload_n d34_176 rfl rfl ?_
      refine zq_imul d34_177 ?_
      refine mq_iload d34_178 rfl ?_
      refine zq_iadd d34_180 ?_
      refine mq_aload_n d34_181 rfl rfl ?_
      refine zg_getR L 105 d34_182 rfl rfl (by decide) rfl (by decide) rfl ?_
      refine zq_bipush d34_185 rfl ?_
      refine mq_iload d34_187 rfl ?_
      refine zq_imul d34_189 ?_
      refine mq_iload d34_190 rfl ?_
      refine zq_iadd d34_192 ?_
      refine zg_ialde L (A2 105 (12 * r + i)) d34_193 (by decide) rfl (by omega) (by rw [show ((12 : Int) * (r : Int) + (i : Int)).toNat = 12 * r + i by omega]; unfold bt2; rw [if_neg (by omega)]) ?_
      refine mq_aload_n d34_194 rfl rfl ?_
      refine zg_getR L 104 d34_195 rfl rfl (by decide) rfl (by decide) rfl ?_
      refine zq_bipush d34_198 rfl ?_
      refine mq_iload d34_200 rfl ?_
      refine zq_imul d34_202 ?_
      refine mq_iload_n d34_203 rfl rfl ?_
      refine zq_iadd d34_204 ?_
      refine zg_ialde L (A2 104 (12 * i + u)) d34_205 (by decide) rfl (by omega) (by rw [show ((12 : Int) * (i : Int) + (u : Int)).toNat = 12 * i + u by omega]; unfold bt2; rw [if_neg (by omega)]) ?_
      refine zq_iadd d34_206 ?_
      refine zg_iast L d34_207 (by decide) rfl (by omega) ?_
      rw [show ((12 : Int) * (s : Int) + (i : Int)).toNat = 12 * s + i by omega, bt2_s]
      refine zq_iinc d34_208 rfl rfl ?_
      refine mq_goto (tgt := 161) d34_211 (by decide) ?_
      exact lb_row L hn hs hr hu kk j (i + 1) (by omega) (by omega)
/-- rows below s are ready: what each node has back to the set; the costs of sets are unknown yet -/
def lb4 (A A2 : Nat → Nat → Int) (s : Nat) : Prop := (∀ c k, c ≠ 103 → c ≠ 105 → A2 c k = A c k) ∧ A2 103 0 = 0 ∧ (∀ T, 1 ≤ T → T < s → A2 103 T = 1000000) ∧ ∀ T, T < s → ∀ v : Nat, (v : Int) < A 93 0 → A2 105 (12 * T + v) = cnt (fun w => if T.testBit w = true then A 104 (12 * v + w) else 0) 12
set_option maxRecDepth 100000 in
theorem lb_loop4 (L : Lay K ρ) {A : Nat → Nat → Int} (hn : 0 ≤ A 93 0 ∧ A 93 0 ≤ 12) {M : Nat} (hM : M < 4096)
    (kk : ∀ A2 x3 x4 x5, lb4 A A2 (M + 1) → mj_W (mj_lv d) prog_11_method_10_code 9 1 0 0 post 220 [some (.inr (.inl (some 93))), some (.inl (iZ (M : Int))), some (.inl (iZ ((M + 1 : Nat) : Int))), x3, x4, x5] [] (123, K, zs A2, ρ) 0 0) : ∀ (j s : Nat) (A2 : Nat → Nat → Int) (x3 x4 x5 : Option mj_V), M + 1 - s < j → 1 ≤ s → s ≤ M + 1 → lb4 A A2 s → mj_W (mj_lv d) prog_11_method_10_code 9 1 0 0 post 122 [some (.inr (.inl (some 93))), some (.inl (iZ (M : Int))), some (.inl (iZ (s : Int))), x3, x4, x5] [] (123, K, zs A2, ρ) 0 0
  | 0, s, _, _, _, _, h, _, _, _ => absurd h (by omega)
  | j + 1, s, A2, x3, x4, x5, h, h1, hs, hI => by
    obtain ⟨i1, i2, i3, i4⟩ := id hI
    refine mq_iload_n d34_122 rfl rfl ?_
    refine mq_iload_n d34_123 rfl rfl ?_
    refine zq_icmp_gt (tgt := 220) d34_124 (by decide) (by omega) (by omega) (fun g => ?_) (fun g => ?_)
    · have e : s = M + 1 := by omega
      subst e
      exact kk A2 x3 x4 x5 hI
    · refine mq_aload_n d34_127 rfl rfl ?_
      refine zg_getR L 103 d34_128 rfl rfl (by decide) rfl (by decide) rfl ?_
      refine mq_iload_n d34_131 rfl rfl ?_
      refine mq_ldc (v := iZ 1000000) d34_132 (by decide) ?_
      refine zg_iast L d34_134 (by decide) rfl (by omega) ?_
      rw [Int.toNat_natCast]
      refine zq_iconst d34_135 ?_
      refine mq_istore_n d34_136 rfl (Nat.le_of_ble_eq_true rfl) rfl ?_
      refine lb_low (by omega) (by omega) (fun u hu hb hl => ?_) 13 0 (by omega) (by omega) (fun q hq => absurd hq (by omega))
      refine mq_iload_n d34_151 rfl rfl ?_
      refine mq_iload_n d34_152 rfl rfl ?_
      refine zq_iconst d34_153 ?_
      refine zq_isub d34_154 ?_
      rw [show (s : Int) - 1 = ((s - 1 : Nat) : Int) by omega]
      refine zn_iand d34_155 ?_
      rw [low_and hb hl]
      refine mq_istore d34_156 (Nat.le_of_ble_eq_true rfl) rfl ?_
      refine zq_iconst d34_158 ?_
      refine mq_istore d34_159 (Nat.le_of_ble_eq_true rfl) rfl ?_
      have e93 : mj_u2 A2 103 s 1000000 93 0 = A 93 0 := by rw [u2_c (by decide)]; exact i1 93 0 (by decide) (by decide)
      have key := lb_row (d := d) (post := post) (al := some (.inl (iZ (M : Int)))) L (A2 := mj_u2 A2 103 s 1000000) (by rw [e93]; exact hn) (s := s) (r := s ^^^ 2 ^ u) (u := u) (by omega) (xor_less hb) hu (fun x5 => ?_) ((mj_u2 A2 103 s 1000000 93 0).toNat + 1) 0 (by omega) (by omega)
      · rw [bt2_0] at key
        exact key
      · refine zq_iinc d34_214 rfl rfl ?_
        refine mq_goto (tgt := 122) d34_217 (by decide) ?_
        refine lb_loop4 L hn hM kk j (s + 1) _ _ _ _ (by omega) (by omega) (by omega) ⟨fun c k hc hc2 => ?_, ?_, fun T hT1 hT2 => ?_, fun T hT v hv => ?_⟩
        · unfold bt2
          rw [if_neg (fun q => hc2 q.1), u2_c hc]
          exact i1 c k hc hc2
        · unfold bt2
          rw [if_neg (fun q => absurd q.1 (by decide)), u2_k (by omega)]
          exact i2
        · unfold bt2
          rw [if_neg (fun q => absurd q.1 (by decide)), u2_at]
          by_cases e : T = s
          · rw [if_pos ⟨rfl, e⟩]
          · rw [if_neg (fun q => e q.2)]
            exact i3 T hT1 (by omega)
        · rw [e93]
          unfold bt2
          by_cases e : T = s
          · subst e
            rw [if_pos (by omega), show 12 * T + v - 12 * T = v by omega, u2_c (by decide), u2_c (by decide), i4 _ (xor_less hb) v hv, i1 104 _ (by decide) (by decide), low_cnt hb hu]
          · rw [if_neg (by omega), u2_c (by decide)]
            exact i4 T (by omega) v hv
end sp_lb3
