section sp_lb5
variable {d : Nat} {post : Option mj_V → mj_H → Prop} {K : Nat → Nat × Nat} {ρ : Nat → Nat → Option Nat}
/-- while the steps are tried: only the costs of sets change -/
def lb5 (A A2 : Nat → Nat → Int) (pw : Nat → Nat → Int) (M s i : Nat) : Prop := (∀ c k, c ≠ 103 → A2 c k = A c k) ∧ lbF pw M s i (A2 103)
set_option maxRecDepth 100000 in
theorem lb_in5 (L : Lay K ρ) {A : Nat → Nat → Int} (hn : 0 ≤ A 93 0 ∧ A 93 0 ≤ 12) {pw : Nat → Nat → Int} {M s : Nat} (hM : M = 2 ^ (A 93 0).toNat - 1) (hM2 : M < 4096) (hs : s ≤ M) (hrow : ∀ v : Nat, (v : Int) < A 93 0 → A 105 (12 * s + v) = lbS pw s v) (hS : ∀ r v, 0 ≤ lbS pw r v ∧ lbS pw r v ≤ 24000)
    (kk : ∀ A2 x3 x4 x5, lb5 A A2 pw M s (A 93 0).toNat → mj_W (mj_lv d) prog_11_method_10_code 9 1 0 0 post 307 [some (.inr (.inl (some 93))), some (.inl (iZ (M : Int))), some (.inl (iZ (s : Int))), some (.inl x3), x4, x5] [] (123, K, zs A2, ρ) 0 0) : ∀ (j i : Nat) (A2 : Nat → Nat → Int) (x4 x5 : Option mj_V), (A 93 0).toNat - i < j → i ≤ (A 93 0).toNat → lb5 A A2 pw M s i → mj_W (mj_lv d) prog_11_method_10_code 9 1 0 0 post 229 [some (.inr (.inl (some 93))), some (.inl (iZ (M : Int))), some (.inl (iZ (s : Int))), some (.inl (iZ (i : Int))), x4, x5] [] (123, K, zs A2, ρ) 0 0
  | 0, i, _, _, _, h, _, _ => absurd h (by omega)
  | j + 1, i, A2, x4, x5, h, hi, hI => by
    obtain ⟨i1, i2⟩ := id hI
    refine mq_iload_n d34_229 rfl rfl ?_
    refine mq_aload_n d34_230 rfl rfl ?_
    refine zg_getIe L (A 93 0) d34_231 rfl rfl (by decide) rfl (i1 93 0 (by decide)) ?_
    refine zq_icmp_ge (tgt := 307) d34_234 (by decide) (by omega) (by omega) (fun g => ?_) (fun g => ?_)
    · have e2 : i = (A 93 0).toNat := by omega
      rw [e2] at hI
      exact kk A2 _ x4 x5 hI
    · obtain ⟨nx, hnx⟩ : ∃ nx, nx = s ||| 2 ^ i := ⟨_, rfl⟩
      have hp := Nat.two_pow_pos (A 93 0).toNat
      have hnM : nx ≤ M := by
        have h1 : s ||| 2 ^ i < 2 ^ (A 93 0).toNat := Nat.or_lt_two_pow (by omega) (Nat.pow_lt_pow_right (by decide) (by omega))
        omega
      have hv := hrow i g
      have hBs := i2.2.1 s hs
      have hBn := i2.2.1 nx hnM
      have hSS := hS s i
      have fin : ∀ (w : Int) (x5 : Option mj_V), lbF pw M s (i + 1) (fun T => if T = nx then w else A2 103 T) → mj_W (mj_lv d) prog_11_method_10_code 9 1 0 0 post 300 [some (.inr (.inl (some 93))), some (.inl (iZ (M : Int))), some (.inl (iZ (s : Int))), some (.inl (iZ (i : Int))), some (.inl (iZ (nx : Int))), x5] [.inl (iZ w), .inl (iZ (nx : Int)), .inr (.inl (some 103))] (123, K, zs A2, ρ) 0 0 := fun w x5 hF => by
        refine zg_iast L d34_300 (by decide) rfl (by omega) ?_
        rw [Int.toNat_natCast]
        refine zq_iinc d34_301 rfl rfl ?_
        refine mq_goto (tgt := 229) d34_304 (by decide) ?_
        refine lb_in5 L hn hM hM2 hs hrow hS kk j (i + 1) _ _ _ (by omega) (by omega) ⟨fun c k hc => by rw [u2_c hc]; exact i1 c k hc, ?_⟩
        have e : mj_u2 A2 103 nx w 103 = fun T => if T = nx then w else A2 103 T := by
          funext T
          rw [u2_at]
          by_cases q : T = nx
          · rw [if_pos ⟨rfl, q⟩, if_pos q]
          · rw [if_neg (fun r => q r.2), if_neg q]
        rw [e]
        exact hF
      refine mq_iload_n d34_237 rfl rfl ?_
      refine zq_iconst d34_238 ?_
      refine mq_iload_n d34_239 rfl rfl ?_
      refine zn_shl1 d34_240 (by omega) ?_
      rw [Int.toNat_natCast]
      refine zn_ior d34_241 ?_
      rw [← hnx]
      refine mq_istore d34_242 (Nat.le_of_ble_eq_true rfl) rfl ?_
      refine mq_aload_n d34_244 rfl rfl ?_
      refine zg_getR L 103 d34_245 rfl rfl (by decide) rfl (by decide) rfl ?_
      refine mq_iload_n d34_248 rfl rfl ?_
      refine zg_ialde L (A2 103 s) d34_249 (by decide) rfl (by omega) (by rw [Int.toNat_natCast]) ?_
      refine mq_aload_n d34_250 rfl rfl ?_
      refine zg_getR L 105 d34_251 rfl rfl (by decide) rfl (by decide) rfl ?_
      refine zq_bipush d34_254 rfl ?_
      refine mq_iload_n d34_256 rfl rfl ?_
      refine zq_imul d34_257 ?_
      refine mq_iload_n d34_258 rfl rfl ?_
      refine zq_iadd d34_259 ?_
      refine zg_ialde L (lbS pw s i) d34_260 (by decide) rfl (by omega) (by rw [show ((12 : Int) * (s : Int) + (i : Int)).toNat = 12 * s + i by omega, i1 105 _ (by decide)]; exact hv) ?_
      refine zq_iadd d34_261 ?_
      refine mq_istore d34_262 (Nat.le_of_ble_eq_true rfl) rfl ?_
      refine mq_aload_n d34_264 rfl rfl ?_
      refine zg_getR L 103 d34_265 rfl rfl (by decide) rfl (by decide) rfl ?_
      refine mq_iload d34_268 rfl ?_
      refine mq_iload d34_270 rfl ?_
      refine mq_iload_n d34_272 rfl rfl ?_
      have keep : ∀ x5 : Option mj_V, lbF pw M s (i + 1) (A2 103) → mj_W (mj_lv d) prog_11_method_10_code 9 1 0 0 post 293 [some (.inr (.inl (some 93))), some (.inl (iZ (M : Int))), some (.inl (iZ (s : Int))), some (.inl (iZ (i : Int))), some (.inl (iZ (nx : Int))), x5] [.inl (iZ (nx : Int)), .inr (.inl (some 103))] (123, K, zs A2, ρ) 0 0 := fun x5 hF => by
        refine mq_aload_n d34_293 rfl rfl ?_
        refine zg_getR L 103 d34_294 rfl rfl (by decide) rfl (by decide) rfl ?_
        refine mq_iload d34_297 rfl ?_
        refine zg_ialde L (A2 103 nx) d34_299 (by decide) rfl (by omega) (by rw [Int.toNat_natCast]) ?_
        refine fin _ x5 ?_
        have e : (fun T => if T = nx then A2 103 nx else A2 103 T) = A2 103 := by
          funext T
          by_cases q : T = nx
          · rw [if_pos q, q]
          · rw [if_neg q]
        rw [e]
        exact hF
      refine zq_icmp_eq (tgt := 293) d34_273 (by decide) (by omega) (by omega) (fun g1 => ?_) (fun g1 => ?_)
      · refine keep _ (lbF_same i2 ?_)
        cases q : s.testBit i with
        | true => rfl
        | false =>
          exfalso
          have := (or_bit q).1
          rw [← hnx, show nx = s by omega, q] at this
          cases this
      · have hb : s.testBit i = false := by
          cases q : s.testBit i with
          | false => rfl
          | true =>
            exfalso
            rw [or_same q] at hnx
            omega
        refine mq_iload d34_276 rfl ?_
        refine mq_aload_n d34_278 rfl rfl ?_
        refine zg_getR L 103 d34_279 rfl rfl (by decide) rfl (by decide) rfl ?_
        refine mq_iload d34_282 rfl ?_
        refine zg_ialde L (A2 103 nx) d34_284 (by decide) rfl (by omega) (by rw [Int.toNat_natCast]) ?_
        refine zq_icmp_ge (tgt := 293) d34_285 (by decide) (by omega) (by omega) (fun g2 => ?_) (fun g2 => ?_)
        · refine keep _ (lbF_up i2 hb hSS.1 hs ?_ (fun _ _ => rfl))
          rw [← hnx, if_neg (by omega)]
        · refine mq_iload d34_288 rfl ?_
          refine mq_goto (tgt := 300) d34_290 (by decide) ?_
          refine fin _ _ (lbF_up i2 hb hSS.1 hs ?_ (fun T hT => ?_))
          · rw [← hnx, if_pos rfl, if_pos g2]
          · rw [← hnx] at hT
            rw [if_neg hT]
set_option maxRecDepth 100000 in
theorem lb_out5 (L : Lay K ρ) {A : Nat → Nat → Int} (hn : 0 ≤ A 93 0 ∧ A 93 0 ≤ 12) {pw : Nat → Nat → Int} {M : Nat} (hM : M = 2 ^ (A 93 0).toNat - 1) (hM2 : M < 4096) (hrow : ∀ s, s ≤ M → ∀ v : Nat, (v : Int) < A 93 0 → A 105 (12 * s + v) = lbS pw s v) (hS : ∀ r v, 0 ≤ lbS pw r v ∧ lbS pw r v ≤ 24000)
    (k : ∀ A2, lb5 A A2 pw M M 0 → post (some (.inl (iZ (A2 103 M)))) (123, K, zs A2, ρ)) : ∀ (j s : Nat) (A2 : Nat → Nat → Int) (x3 x4 x5 : Option mj_V), M - s < j → s ≤ M → lb5 A A2 pw M s 0 → mj_W (mj_lv d) prog_11_method_10_code 9 1 0 0 post 222 [some (.inr (.inl (some 93))), some (.inl (iZ (M : Int))), some (.inl (iZ (s : Int))), x3, x4, x5] [] (123, K, zs A2, ρ) 0 0
  | 0, s, _, _, _, _, h, _, _ => absurd h (by omega)
  | j + 1, s, A2, x3, x4, x5, h, hs, hI => by
    refine mq_iload_n d34_222 rfl rfl ?_
    refine mq_iload_n d34_223 rfl rfl ?_
    refine zq_icmp_ge (tgt := 313) d34_224 (by decide) (by omega) (by omega) (fun g => ?_) (fun g => ?_)
    · have e : s = M := by omega
      subst e
      refine mq_aload_n d34_313 rfl rfl ?_
      refine zg_getR L 103 d34_314 rfl rfl (by decide) rfl (by decide) rfl ?_
      refine mq_iload_n d34_317 rfl rfl ?_
      refine zg_ialde L (A2 103 s) d34_318 (by decide) rfl (by omega) (by rw [Int.toNat_natCast]) ?_
      exact zg_reti d34_319 rfl (k A2 hI)
    · refine zq_iconst d34_227 ?_
      refine mq_istore_n d34_228 rfl (Nat.le_of_ble_eq_true rfl) rfl ?_
      refine lb_in5 L hn hM hM2 hs (hrow s hs) hS (fun A3 y3 y4 y5 hI3 => ?_) ((A 93 0).toNat + 1) 0 A2 x4 x5 (by omega) (by omega) hI
      refine zq_iinc d34_307 rfl rfl ?_
      refine mq_goto (tgt := 222) d34_310 (by decide) ?_
      refine lb_out5 L hn hM hM2 hrow hS k j (s + 1) A3 _ _ _ (by omega) (by omega) ⟨hI3.1, lbF_next hI3.2 (fun T hT v hv => ?_)⟩
      have h2 := Nat.ge_two_pow_of_testBit hv
      have hp := Nat.two_pow_pos (A 93 0).toNat
      rcases Nat.lt_or_ge v (A 93 0).toNat with q | q
      · exact q
      · have := Nat.pow_le_pow_right (n := 2) (by decide) q
        omega
end sp_lb5
