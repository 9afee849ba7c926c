section zn3_rows
variable {d : Nat} {b : ByteArray} {o rt mc ms : Nat} {post : Option mj_V → mj_H → Prop} {pc : Nat} {lv : mj_L} {st : List mj_V} {nn : Nat} {K : Nat → Nat × Nat} {σ : Nat → Nat → Int32} {ρ : Nat → Nat → Option Nat} {uc us : Nat}
theorem zq_min {i : Nat} {x z : Int} (e0 : decode b pc = .ok (.invokestatic i, 3)) (e1 : pg_sp o i = some 3) (e2 : Nat.ble (mj_ct st) 8 = true) (r1 : (-2147483648 ≤ x ∧ x < 2147483648)) (r2 : (-2147483648 ≤ z ∧ z < 2147483648)) (k : mj_W (mj_lv d) b o rt mc ms post (pc + 3) lv (.inl (iZ (if z < x then z else x)) :: st) (nn, K, σ, ρ) uc us) : mj_W (mj_lv d) b o rt mc ms post pc lv (.inl (iZ z) :: .inl (iZ x) :: st) (nn, K, σ, ρ) uc us := mq_min e0 e1 e2 (by
  by_cases h : z < x
  · rw [if_pos ((iZ_lt r2 r1).mpr h)]
    rw [if_pos h] at k
    exact k
  · rw [if_neg (fun q => h ((iZ_lt r2 r1).mp q))]
    rw [if_neg h] at k
    exact k)
theorem zq_max {i : Nat} {x z : Int} (e0 : decode b pc = .ok (.invokestatic i, 3)) (e1 : pg_sp o i = some 2) (e2 : Nat.ble (mj_ct st) 8 = true) (r1 : (-2147483648 ≤ x ∧ x < 2147483648)) (r2 : (-2147483648 ≤ z ∧ z < 2147483648)) (k : mj_W (mj_lv d) b o rt mc ms post (pc + 3) lv (.inl (iZ (if x < z then z else x)) :: st) (nn, K, σ, ρ) uc us) : mj_W (mj_lv d) b o rt mc ms post pc lv (.inl (iZ z) :: .inl (iZ x) :: st) (nn, K, σ, ρ) uc us := mq_max e0 e1 e2 (by
  by_cases h : x < z
  · rw [if_pos ((iZ_lt r1 r2).mpr h)]
    rw [if_pos h] at k
    exact k
  · rw [if_neg (fun q => h ((iZ_lt r1 r2).mp q))]
    rw [if_neg h] at k
    exact k)
end zn3_rows
section sp_cf
variable {d : Nat} {post : Option mj_V → mj_H → Prop} {K : Nat → Nat × Nat} {A : Nat → Nat → Int} {ρ : Nat → Nat → Option Nat}
/-- what it costs to put v last of T -/
def cfD (A : Nat → Nat → Int) (pw : Nat → Nat → Int) (T v : Nat) : Int := A 7 (T ^^^ 2 ^ v) + cnt (fun u => if T.testBit u = true then pw v u else 0) 12
/-- the least of those below i -/
def cfI (A : Nat → Nat → Int) (pw : Nat → Nat → Int) (T i : Nat) (w : Int) : Prop := (w = 2147483647 ∨ ∃ v, v < i ∧ T.testBit v = true ∧ w = cfD A pw T v) ∧ ∀ v, v < i → T.testBit v = true → w ≤ cfD A pw T v
set_option maxRecDepth 100000 in
theorem cf_loop (L : Lay K ρ) {pw : Nat → Nat → Int} (hp : prOK A pw) {T : Nat} (hT : T < 4096) (hr : ∀ v, v < 12 → T.testBit v = true → 0 ≤ cfD A pw T v ∧ cfD A pw T v < 2147483647)
    (k : ∀ w, cfI A pw T 12 w → post (some (.inl (iZ w))) (123, K, zs A, ρ)) : ∀ (j i : Nat) (w : Int), 12 - i < j → i ≤ 12 → cfI A pw T i w → mj_W (mj_lv (d + 1)) prog_9_method_8_code 7 1 0 0 post 5 [some (.inr (.inl (some 6))), some (.inl (iZ (T : Int))), some (.inl (iZ w)), some (.inl (iZ (i : Int)))] [] (123, K, zs A, ρ) 0 0
  | 0, i, _, h, _, _ => absurd h (by omega)
  | j + 1, i, w, h, hi, hw => by
    have rw1 : -2147483648 ≤ w ∧ w < 2147483648 := by
      rcases hw.1 with e | ⟨v, h1, h2, h3⟩
      · omega
      · have := hr v (by omega) h2
        omega
    refine mq_iload_n d138_5 rfl rfl ?_
    refine zq_bipush d138_6 rfl ?_
    refine zq_icmp_ge (tgt := 47) d138_8 (by decide) (by omega) (by omega) (fun g => ?_) (fun g => ?_)
    · have e : i = 12 := by omega
      subst e
      refine mq_iload_n d138_47 rfl rfl ?_
      exact zg_reti d138_48 rfl (k w hw)
    · have nxt : ∀ w2 : Int, cfI A pw T (i + 1) w2 → mj_W (mj_lv (d + 1)) prog_9_method_8_code 7 1 0 0 post 41 [some (.inr (.inl (some 6))), some (.inl (iZ (T : Int))), some (.inl (iZ w2)), some (.inl (iZ (i : Int)))] [] (123, K, zs A, ρ) 0 0 := fun w2 hw2 => by
        refine zq_iinc d138_41 rfl rfl ?_
        refine mq_goto (tgt := 5) d138_44 (by decide) ?_
        exact cf_loop L hp hT hr k j (i + 1) w2 (by omega) (by omega) hw2
      refine mq_iload_n d138_11 rfl rfl ?_
      refine mq_iload_n d138_12 rfl rfl ?_
      refine zn_bit (tgt := 41) d138_13 d138_14 d138_15 d138_16 (by decide) (by omega) (fun g2 => ?_) (fun g2 => ?_)
      · rw [Int.toNat_natCast] at g2
        refine nxt w ⟨hw.1.imp id (fun ⟨v, h1, h2⟩ => ⟨v, by omega, h2⟩), fun v hv hb => ?_⟩
        by_cases e : v = i
        · subst e
          rw [g2] at hb
          cases hb
        · exact hw.2 v (by omega) hb
      · rw [Int.toNat_natCast] at g2
        have hx : T ^^^ 2 ^ i < 4096 := Nat.xor_lt_two_pow (n := 12) hT (Nat.pow_lt_pow_right (by decide) (by omega))
        have hD := hr i (by omega) g2
        refine mq_iload_n d138_19 rfl rfl ?_
        refine mq_aload_n d138_20 rfl rfl ?_
        refine zg_getR L 7 d138_21 rfl rfl (by decide) rfl (by decide) rfl ?_
        refine mq_iload_n d138_24 rfl rfl ?_
        refine zq_iconst d138_25 ?_
        refine mq_iload_n d138_26 rfl rfl ?_
        refine zn_shl1 d138_27 (by omega) ?_
        rw [Int.toNat_natCast]
        refine zn_ixor d138_28 ?_
        refine zg_iald L d138_29 (by decide) rfl ⟨by omega, Int.ofNat_lt.mpr hx, by decide⟩ ?_
        rw [Int.toNat_natCast]
        refine mq_aload_n d138_30 rfl rfl ?_
        refine mq_iload_n d138_31 rfl rfl ?_
        refine mq_iload_n d138_32 rfl rfl ?_
        refine zg_callV (c := 6) L [_, _] d138_33 rfl rfl ⟨rfl, rfl⟩ rfl ⟨rfl, rfl⟩ ⟨by decide, by decide⟩ (by decide) rfl ?_
        refine s_priceBack L hp (by omega) hT ?_
        refine zq_iadd d138_36 ?_
        refine zq_min d138_37 rfl rfl rw1 (by unfold cfD at hD; omega) ?_
        refine mq_istore_n d138_40 rfl (Nat.le_of_ble_eq_true rfl) rfl ?_
        refine nxt _ ?_
        show cfI A pw T (i + 1) (if cfD A pw T i < w then cfD A pw T i else w)
        by_cases q : cfD A pw T i < w
        · rw [if_pos q]
          refine ⟨Or.inr ⟨i, by omega, g2, rfl⟩, fun v hv hb => ?_⟩
          by_cases e : v = i
          · subst e
            exact Int.le_refl _
          · have := hw.2 v (by omega) hb
            omega
        · rw [if_neg q]
          refine ⟨hw.1.imp id (fun ⟨v, h1, h2⟩ => ⟨v, by omega, h2⟩), fun v hv hb => ?_⟩
          by_cases e : v = i
          · subst e
            omega
          · exact hw.2 v (by omega) hb
set_option maxRecDepth 100000 in
theorem s_costOfFront (L : Lay K ρ) {pw : Nat → Nat → Int} (hp : prOK A pw) {T : Nat} (hT : T < 4096) (hr : ∀ v, v < 12 → T.testBit v = true → 0 ≤ cfD A pw T v ∧ cfD A pw T v < 2147483647)
    (k : ∀ w, cfI A pw T 12 w → post (some (.inl (iZ w))) (123, K, zs A, ρ)) : mj_lv (d + 2) m_Turning_costOfFront [.inr (.inl (some 6)), .inl (iZ (T : Int))] (123, K, zs A, ρ) post := by
  show mj_W (mj_lv (d + 1)) prog_9_method_8_code 7 1 0 0 post 0 [some (.inr (.inl (some 6))), some (.inl (iZ (T : Int))), none, none] [] (123, K, zs A, ρ) 0 0
  refine mq_ldc (v := iZ 2147483647) d138_0 (by decide) ?_
  refine mq_istore_n d138_2 rfl (Nat.le_of_ble_eq_true rfl) rfl ?_
  refine zq_iconst d138_3 ?_
  refine mq_istore_n d138_4 rfl (Nat.le_of_ble_eq_true rfl) rfl ?_
  exact cf_loop L hp hT hr k 13 0 2147483647 (by omega) (by omega) ⟨Or.inl rfl, fun v hv _ => absurd hv (by omega)⟩
end sp_cf
