/-- the lowest bit of s is u: cleared by s and s - 1 -/
theorem low_and {s u : Nat} (h1 : s.testBit u = true) (h2 : ∀ j, j < u → s.testBit j = false) : s &&& (s - 1) = s ^^^ 2 ^ u := by
  have hm : s % 2 ^ (u + 1) = 2 ^ u := by
    apply Nat.eq_of_testBit_eq
    intro j
    rw [Nat.testBit_mod_two_pow, Nat.testBit_two_pow]
    by_cases e : u = j
    · subst e
      simp [h1]
    · by_cases e2 : j < u
      · simp [h2 j e2, e]
      · simp [e, show ¬ j < u + 1 by omega]
  obtain ⟨q, hq⟩ : ∃ q, q = s / 2 ^ (u + 1) := ⟨_, rfl⟩
  have hs : s = 2 ^ (u + 1) * q + 2 ^ u := by
    have := Nat.div_add_mod s (2 ^ (u + 1))
    rw [hm, ← hq] at this
    exact this.symm
  have hp := Nat.two_pow_pos u
  have hs1 : s - 1 = 2 ^ (u + 1) * q + (2 ^ u - 1) := by omega
  have hlt : 2 ^ u < 2 ^ (u + 1) := Nat.pow_lt_pow_right (by decide) (by omega)
  apply Nat.eq_of_testBit_eq
  intro j
  rw [Nat.testBit_and, tb_xor h1, hs1]
  rw [Nat.testBit_two_pow_mul_add q (b := 2 ^ u - 1) (by omega) j]
  by_cases e : j < u + 1
  · rw [if_pos e, Nat.testBit_two_pow_sub_one]
    by_cases e2 : j < u
    · rw [h2 j e2]
      rfl
    · have e3 : j = u := by omega
      subst e3
      simp
  · rw [if_neg e]
    have h3 : s.testBit j = q.testBit (j - (u + 1)) := by
      rw [hs, Nat.testBit_two_pow_mul_add q hlt j, if_neg e]
    rw [h3]
    simp [show j ≠ u by omega]
theorem low_cnt {g : Nat → Int} {s u : Nat} (h1 : s.testBit u = true) (hu : u < 12) : cnt (fun w => if s.testBit w = true then g w else 0) 12 = cnt (fun w => if (s ^^^ 2 ^ u).testBit w = true then g w else 0) 12 + g u := by
  have h2 := cnt_put (f := fun w => if (s ^^^ 2 ^ u).testBit w = true then g w else 0) (k := u) (v := g u) (m := 12) hu
  have e : ¬ (s ^^^ 2 ^ u).testBit u = true := by
    rw [tb_xor h1]
    simp
  rw [if_neg e] at h2
  have h3 : cnt (fun w => if s.testBit w = true then g w else 0) 12 = cnt (fun a => if a = u then g u else if (s ^^^ 2 ^ u).testBit a = true then g a else 0) 12 := cnt_congr (fun a _ => by
    by_cases q : a = u
    · subst q
      rw [if_pos h1, if_pos rfl]
    · rw [if_neg q, tb_xor h1]
      simp [q])
  rw [h3]
  omega
section sp_lb2
variable {d : Nat} {post : Option mj_V → mj_H → Prop} {K : Nat → Nat × Nat} {ρ : Nat → Nat → Option Nat}
set_option maxRecDepth 100000 in
theorem lb_loop3 (L : Lay K ρ) {A : Nat → Nat → Int} (hn : 0 ≤ A 93 0 ∧ A 93 0 ≤ 12) {al x3 x4 x5 : Option mj_V} (hok : mj_ok [some (.inr (.inl (some 93))), al] 2 = true)
    (kk : mj_W (mj_lv d) prog_11_method_10_code 9 1 0 0 post 120 [some (.inr (.inl (some 93))), al, some (.inl (iZ (A 93 0))), x3, x4, x5] [] (123, K, zs (fl A 105 (A 93 0).toNat 0), ρ) 0 0) : ∀ (j i : Nat), (A 93 0).toNat - i < j → i ≤ (A 93 0).toNat → mj_W (mj_lv d) prog_11_method_10_code 9 1 0 0 post 99 [some (.inr (.inl (some 93))), al, some (.inl (iZ (i : Int))), x3, x4, x5] [] (123, K, zs (fl A 105 i 0), ρ) 0 0
  | 0, i, h, _ => absurd h (by omega)
  | j + 1, i, h, hi => by
    refine mq_iload_n d34_99 rfl rfl ?_
    refine mq_aload_n d34_100 rfl rfl ?_
    refine zg_getIe L (A 93 0) d34_101 rfl rfl (by decide) rfl (by simp [fl]) ?_
    refine zq_icmp_ge (tgt := 120) d34_104 (by decide) (by omega) (by omega) (fun g => ?_) (fun g => ?_)
    · have e : (i : Int) = A 93 0 := by omega
      have e2 : i = (A 93 0).toNat := by omega
      rw [e]
      rw [← e2] at kk
      exact kk
    · refine mq_aload_n d34_107 rfl rfl ?_
      refine zg_getR L 105 d34_108 rfl rfl (by decide) rfl (by decide) rfl ?_
      refine mq_iload_n d34_111 rfl rfl ?_
      refine zq_iconst d34_112 ?_
      refine zg_iast L d34_113 (by decide) rfl (by omega) ?_
      rw [Int.toNat_natCast, fl_s]
      refine zq_iinc d34_114 rfl hok ?_
      refine mq_goto (tgt := 99) d34_117 (by decide) ?_
      exact lb_loop3 L hn hok kk j (i + 1) (by omega) (by omega)
/-- the lowest bit of s is looked for -/
theorem lb_low {A : Nat → Nat → Int} {s : Nat} (h0 : 0 < s) (hs : s < 4096) {al x4 x5 : Option mj_V} 
    (kk : ∀ u : Nat, u < 12 → s.testBit u = true → (∀ j, j < u → s.testBit j = false) → mj_W (mj_lv d) prog_11_method_10_code 9 1 0 0 post 151 [some (.inr (.inl (some 93))), al, some (.inl (iZ (s : Int))), some (.inl (iZ (u : Int))), x4, x5] [] (123, K, zs A, ρ) 0 0) : ∀ (j i : Nat), 12 - i < j → i ≤ 12 → (∀ q, q < i → s.testBit q = false) → mj_W (mj_lv d) prog_11_method_10_code 9 1 0 0 post 137 [some (.inr (.inl (some 93))), al, some (.inl (iZ (s : Int))), some (.inl (iZ (i : Int))), x4, x5] [] (123, K, zs A, ρ) 0 0
  | 0, i, h, _, _ => absurd h (by omega)
  | j + 1, i, h, hi, hq => by
    have hlt : i < 12 := by
      rcases Nat.lt_or_ge i 12 with q | q
      · exact q
      · exfalso
        obtain ⟨v, hv⟩ := bit_ex (T := s) (by omega)
        have h1 := hq v (by have := bit_lt12 hs hv; omega)
        rw [hv] at h1
        cases h1
    refine mq_iload_n d34_137 rfl rfl ?_
    refine mq_iload_n d34_138 rfl rfl ?_
    refine zn_shr d34_139 (by omega) ?_
    refine zq_iconst d34_140 ?_
    refine zn_and1 d34_141 ?_
    rw [Int.toNat_natCast, tb_div]
    cases hb : s.testBit i with
    | true => exact zq_if_ne (tgt := 151) d34_142 (by decide) (by decide) (fun _ => kk i hlt hb hq) (fun g => absurd g (by decide))
    | false =>
      refine zq_if_ne (tgt := 151) d34_142 (by decide) (by decide) (fun g => absurd rfl g) (fun _ => ?_)
      refine zq_iinc d34_145 rfl rfl ?_
      refine mq_goto (tgt := 137) d34_148 (by decide) ?_
      exact lb_low h0 hs kk j (i + 1) (by omega) (by omega) (fun q hq2 => by
        by_cases e : q = i
        · subst e
          exact hb
        · exact hq q (by omega))
end sp_lb2
