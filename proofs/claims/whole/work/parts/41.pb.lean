section zn2_rows
variable {d : Nat} {b : ByteArray} {o rt mc ms : Nat} {post : Option mj_V → mj_H → Prop} {pc : Nat} {lv : mj_L} {st : List mj_V} {nn : Nat} {K : Nat → Nat × Nat} {σ : Nat → Nat → Int32} {ρ : Nat → Nat → Option Nat} {uc us : Nat}
theorem zn_and1 {x : Nat} (e0 : decode b pc = .ok (.iand, 1)) (k : mj_W (mj_lv d) b o rt mc ms post (pc + 1) lv (.inl (iZ ((x &&& 1 : Nat) : Int)) :: st) (nn, K, σ, ρ) uc us) : mj_W (mj_lv d) b o rt mc ms post pc lv (.inl (iZ 1) :: .inl (iZ (x : Int)) :: st) (nn, K, σ, ρ) uc us := zn_iand (z := 1) e0 k
/-- the bit k of x, asked for by shifting -/
theorem zn_bit {x : Nat} {z off : Int} {tgt : Nat} (e0 : decode b pc = .ok (.ishr, 1)) (e1 : decode b (pc + 1) = .ok (.iconst 1, 1)) (e2 : decode b (pc + 2) = .ok (.iand, 1)) (e3 : decode b (pc + 3) = .ok (.ifCond .eq off, 3)) (e4 : ((pc + 3 : Nat) : Int) + off = (tgt : Int)) (r : x < 2147483648 ∧ 0 ≤ z ∧ z < 32) (k0 : x.testBit z.toNat = false → mj_W (mj_lv d) b o rt mc ms post tgt lv st (nn, K, σ, ρ) uc us) (k1 : x.testBit z.toNat = true → mj_W (mj_lv d) b o rt mc ms post (pc + 6) lv st (nn, K, σ, ρ) uc us) : mj_W (mj_lv d) b o rt mc ms post pc lv (.inl (iZ z) :: .inl (iZ (x : Int)) :: st) (nn, K, σ, ρ) uc us := by
  refine zn_shr e0 r ?_
  refine zq_iconst e1 ?_
  refine zn_and1 e2 ?_
  rw [tb_div]
  cases h : x.testBit z.toNat with
  | false => exact zq_if_eq e3 e4 (by decide) (fun _ => k0 h) (fun g => absurd rfl g)
  | true => exact zq_if_eq e3 e4 (by decide) (fun g => absurd g (by decide)) (fun _ => k1 h)
end zn2_rows
section sp_pb
variable {d : Nat} {post : Option mj_V → mj_H → Prop} {K : Nat → Nat × Nat} {A : Nat → Nat → Int} {ρ : Nat → Nat → Option Nat}
theorem rg_nat {x : Nat} (h : x < 4096) : -2147483648 ≤ (x : Int) ∧ (x : Int) < 2147483648 := by omega
theorem mk2_cast {x : Int} (h : 0 ≤ x ∧ x < 24) : ((2 ^ (23 - x).toNat : Nat) : Int) = mk2 x.toNat := by
  unfold mk2
  rw [Int.natCast_pow, show (23 - x).toNat = 23 - x.toNat by omega]
  rfl
theorem s_mark {x : Int} (h : 0 ≤ x ∧ x < 24) (k : post (some (.inl (iZ (mk2 x.toNat)))) (123, K, zs A, ρ)) : mj_lv (d + 1) m_Turning_mark [.inl (iZ x)] (123, K, zs A, ρ) post := by
  show mj_W (mj_lv d) prog_9_method_4_code 7 1 0 0 post 0 [some (.inl (iZ x))] [] (123, K, zs A, ρ) 0 0
  refine zq_iconst d134_0 ?_
  refine zq_bipush d134_1 rfl ?_
  refine mq_iload_n d134_3 rfl rfl ?_
  refine zq_isub d134_4 ?_
  refine zn_shl1 d134_5 (by omega) ?_
  rw [mk2_cast h]
  exact zg_reti d134_6 rfl k
/-- the prices and followers are those of the weights pw -/
def prOK (A : Nat → Nat → Int) (pw : Nat → Nat → Int) : Prop := (∀ v u, v < 12 → u < 12 → A 8 (12 * v + u) = pw v u) ∧ ∀ v, v < 12 → ∃ F : Nat, F < 4096 ∧ A 9 v = (F : Int) ∧ ∀ u, u < 12 → F.testBit u = false → pw v u = 0
set_option maxRecDepth 100000 in
theorem pb_loop (L : Lay K ρ) {pw : Nat → Nat → Int} (hp : ∀ v u, v < 12 → u < 12 → A 8 (12 * v + u) = pw v u) {v T R : Nat} (hv : v < 12) (hR : R < 4096) (k : post (some (.inl (iZ (cnt (fun u => if R.testBit u = true then pw v u else 0) 12)))) (123, K, zs A, ρ)) : ∀ (j i : Nat) (w : Int), 12 - i < j → i ≤ 12 → w = cnt (fun u => if R.testBit u = true then pw v u else 0) i → mj_W (mj_lv d) prog_9_method_9_code 7 1 0 0 post 15 [some (.inr (.inl (some 6))), some (.inl (iZ (v : Int))), some (.inl (iZ (T : Int))), some (.inl (iZ w)), some (.inl (iZ (R : Int))), some (.inl (iZ (i : Int)))] [] (123, K, zs A, ρ) 0 0
  | 0, i, _, h, _, _ => absurd h (by omega)
  | j + 1, i, w, h, hi, hw => by
    refine mq_iload d139_15 rfl ?_
    refine zq_bipush d139_17 rfl ?_
    refine zq_icmp_ge (tgt := 61) d139_19 (by decide) (by omega) (by omega) (fun g => ?_) (fun g => ?_)
    · have e : i = 12 := by omega
      subst e
      subst hw
      refine mq_iload_n d139_61 rfl rfl ?_
      exact zg_reti d139_62 rfl k
    · refine mq_iload d139_22 rfl ?_
      refine mq_iload d139_24 rfl ?_
      refine zn_shr d139_26 (by omega) ?_
      rw [Int.toNat_natCast]
      have hd : R / 2 ^ i < 4096 := Nat.lt_of_le_of_lt (Nat.div_le_self _ _) hR
      refine zq_if_eq (tgt := 61) d139_27 (by decide) (rg_nat hd) (fun g2 => ?_) (fun g2 => ?_)
      · have hz : ∀ u, i ≤ u → R.testBit u = false := fun u hu => by
          refine Nat.testBit_lt_two_pow ?_
          have h1 := (Nat.div_eq_zero_iff_lt (Nat.two_pow_pos i)).mp (Int.ofNat_eq_zero.mp g2)
          exact Nat.lt_of_lt_of_le h1 (Nat.pow_le_pow_right (by decide) hu)
        have e : w = cnt (fun u => if R.testBit u = true then pw v u else 0) 12 := by
          rw [hw]
          have h3 : ∀ q, cnt (fun u => if R.testBit u = true then pw v u else 0) (i + q) = cnt (fun u => if R.testBit u = true then pw v u else 0) i := fun q => by
            induction q with
            | zero => rfl
            | succ q ih =>
              show cnt _ (i + q) + (if R.testBit (i + q) = true then pw v (i + q) else 0) = _
              rw [ih, hz (i + q) (by omega), if_neg (by decide)]
              omega
          have := h3 (12 - i)
          rw [show i + (12 - i) = 12 by omega] at this
          exact this.symm
        subst e
        refine mq_iload_n d139_61 rfl rfl ?_
        exact zg_reti d139_62 rfl k
      · refine mq_iload d139_30 rfl ?_
        refine mq_iload d139_32 rfl ?_
        have nxt : ∀ w2 : Int, w2 = cnt (fun u => if R.testBit u = true then pw v u else 0) (i + 1) → mj_W (mj_lv d) prog_9_method_9_code 7 1 0 0 post 55 [some (.inr (.inl (some 6))), some (.inl (iZ (v : Int))), some (.inl (iZ (T : Int))), some (.inl (iZ w2)), some (.inl (iZ (R : Int))), some (.inl (iZ (i : Int)))] [] (123, K, zs A, ρ) 0 0 := fun w2 hw2 => by
          refine zq_iinc d139_55 rfl rfl ?_
          refine mq_goto (tgt := 15) d139_58 (by decide) ?_
          exact pb_loop L hp hv hR k j (i + 1) w2 (by omega) (by omega) hw2
        refine zn_bit (tgt := 55) d139_34 d139_35 d139_36 d139_37 (by decide) (by omega) (fun g3 => ?_) (fun g3 => ?_)
        · rw [Int.toNat_natCast] at g3
          refine nxt w ?_
          show w = cnt _ i + (if R.testBit i = true then pw v i else 0)
          rw [g3, if_neg (by decide), hw]
          omega
        · rw [Int.toNat_natCast] at g3
          refine mq_iload_n d139_40 rfl rfl ?_
          refine mq_aload_n d139_41 rfl rfl ?_
          refine zg_getR L 8 d139_42 rfl rfl (by decide) rfl (by decide) rfl ?_
          refine mq_iload_n d139_45 rfl rfl ?_
          refine zq_bipush d139_46 rfl ?_
          refine zq_imul d139_48 ?_
          refine mq_iload d139_49 rfl ?_
          refine zq_iadd d139_51 ?_
          refine zg_iald L d139_52 (by decide) rfl (by omega) ?_
          rw [show ((v : Int) * 12 + (i : Int)).toNat = 12 * v + i by omega, hp v i hv (by omega)]
          refine zq_iadd d139_53 ?_
          refine mq_istore_n d139_54 rfl (Nat.le_of_ble_eq_true rfl) rfl ?_
          refine nxt _ ?_
          show _ = cnt _ i + (if R.testBit i = true then pw v i else 0)
          rw [g3, if_pos rfl, hw]
set_option maxRecDepth 100000 in
theorem s_priceBack (L : Lay K ρ) {pw : Nat → Nat → Int} (hp : prOK A pw) {v T : Nat} (hv : v < 12) (hT : T < 4096) (k : post (some (.inl (iZ (cnt (fun u => if T.testBit u = true then pw v u else 0) 12)))) (123, K, zs A, ρ)) : mj_lv (d + 1) m_Turning_priceBack [.inr (.inl (some 6)), .inl (iZ (v : Int)), .inl (iZ (T : Int))] (123, K, zs A, ρ) post := by
  obtain ⟨F, hF, eF, hF2⟩ := hp.2 v hv
  show mj_W (mj_lv d) prog_9_method_9_code 7 1 0 0 post 0 [some (.inr (.inl (some 6))), some (.inl (iZ (v : Int))), some (.inl (iZ (T : Int))), none, none, none] [] (123, K, zs A, ρ) 0 0
  refine zq_iconst d139_0 ?_
  refine mq_istore_n d139_1 rfl (Nat.le_of_ble_eq_true rfl) rfl ?_
  refine mq_aload_n d139_2 rfl rfl ?_
  refine zg_getR L 9 d139_3 rfl rfl (by decide) rfl (by decide) rfl ?_
  refine mq_iload_n d139_6 rfl rfl ?_
  refine zg_iald L d139_7 (by decide) rfl (by omega) ?_
  rw [Int.toNat_natCast, eF]
  refine mq_iload_n d139_8 rfl rfl ?_
  refine zn_iand d139_9 ?_
  refine mq_istore d139_10 (Nat.le_of_ble_eq_true rfl) rfl ?_
  refine zq_iconst d139_12 ?_
  refine mq_istore d139_13 (Nat.le_of_ble_eq_true rfl) rfl ?_
  have e : cnt (fun u => if (F &&& T).testBit u = true then pw v u else 0) 12 = cnt (fun u => if T.testBit u = true then pw v u else 0) 12 := cnt_congr (fun u hu => by
    rw [Nat.testBit_and]
    cases h : F.testBit u with
    | true => rw [Bool.true_and]
    | false => simp [hF2 u hu h])
  exact pb_loop L hp.1 hv (and_lt hF) (by rw [e]; exact k) 13 0 0 (by omega) (by omega) rfl
end sp_pb
