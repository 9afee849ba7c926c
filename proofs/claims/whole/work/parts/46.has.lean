theorem mk2_nat (a : Nat) : mk2 a = ((2 ^ (23 - a) : Nat) : Int) := by
  unfold mk2
  rw [Int.natCast_pow]
  rfl
/-- what stands behind digit a is less than its mark -/
theorem marks_tail {x : Nat → Int} {a : Nat} : ∀ {j : Nat}, a + 1 + j ≤ 24 → is01 x (a + 1 + j) → 0 ≤ cnt (fun b => x b * mk2 b) (a + 1 + j) - cnt (fun b => x b * mk2 b) (a + 1) ∧ cnt (fun b => x b * mk2 b) (a + 1 + j) - cnt (fun b => x b * mk2 b) (a + 1) ≤ mk2 a - mk2 (a + j)
  | 0, _, _ => by
    show 0 ≤ cnt (fun b => x b * mk2 b) (a + 1) - cnt (fun b => x b * mk2 b) (a + 1) ∧ cnt (fun b => x b * mk2 b) (a + 1) - cnt (fun b => x b * mk2 b) (a + 1) ≤ mk2 a - mk2 a
    omega
  | j + 1, hj, hx => by
    have ih := marks_tail (x := x) (a := a) (j := j) (by omega) (hx.le (by omega))
    have h1 := hx (a + 1 + j) (by omega)
    have h2 := mk2_pos (a + 1 + j)
    have h3 : mk2 (a + j) = 2 * mk2 (a + 1 + j) := by
      have := mk2_s (m := a + j) (by omega)
      rwa [show a + j + 1 = a + 1 + j by omega] at this
    have e : cnt (fun b => x b * mk2 b) (a + 1 + (j + 1)) = cnt (fun b => x b * mk2 b) (a + 1 + j) + x (a + 1 + j) * mk2 (a + 1 + j) := rfl
    rw [e, show a + (j + 1) = a + 1 + j by omega]
    rcases h1 with q | q
    · rw [q, Int.zero_mul]
      omega
    · rw [q, Int.one_mul]
      omega
theorem vb_nonneg {x : Nat → Int} : ∀ {m : Nat}, is01 x m → 0 ≤ vb x m
  | 0, _ => Int.le_refl _
  | m + 1, h => by
    have h1 := vb_nonneg (m := m) (h.le (by omega))
    have h2 := h m (by omega)
    show 0 ≤ 2 * vb x m + x m
    omega
theorem marks_bit {x : Nat → Int} {m a X : Nat} (hm : m ≤ 24) (hx : is01 x m) (ha : a < m) (hX : (X : Int) = cnt (fun b => x b * mk2 b) m) : X.testBit (23 - a) = decide (x a = 1) := by
  have h1 := marks_tail (x := x) (a := a) (j := m - (a + 1)) (by omega) (by rw [show a + 1 + (m - (a + 1)) = m by omega]; exact hx)
  rw [show a + 1 + (m - (a + 1)) = m by omega] at h1
  have h2 := marks_vb (x := x) (m := a) (by omega)
  have h3 := mk2_pos (a + (m - (a + 1)))
  have h4 := vb_nonneg (hx.le (show a ≤ m by omega))
  have h5 := hx a ha
  have e0 : vb x (a + 1) = 2 * vb x a + x a := rfl
  obtain ⟨r, hr⟩ : ∃ r, r = cnt (fun b => x b * mk2 b) m - cnt (fun b => x b * mk2 b) (a + 1) := ⟨_, rfl⟩
  rw [← hr] at h1
  have e1 : (X : Int) = mk2 a * vb x (a + 1) + r := by
    rw [hX, Int.mul_comm, ← h2]
    omega
  have e2 : (X : Int) / mk2 a = vb x (a + 1) := by
    rw [e1, Int.mul_add_ediv_left _ _ (by have := mk2_pos a; omega), Int.ediv_eq_zero_of_lt h1.1 (by omega)]
    omega
  rw [Nat.testBit_eq_decide_div_mod_eq]
  rw [mk2_nat, ← Int.natCast_ediv] at e2
  obtain ⟨Y, hY⟩ : ∃ Y, Y = X / 2 ^ (23 - a) := ⟨_, rfl⟩
  rw [← hY] at e2 ⊢
  by_cases q : x a = 1
  · rw [decide_eq_true q, decide_eq_true_eq]
    omega
  · rw [decide_eq_false q, decide_eq_false_iff_not]
    omega
section sp_has
variable {d : Nat} {post : Option mj_V → mj_H → Prop} {K : Nat → Nat × Nat} {A : Nat → Nat → Int} {ρ : Nat → Nat → Option Nat}
set_option maxRecDepth 100000 in
theorem s_has (L : Lay K ρ) {x : Nat → Int} {m a : Nat} (hm : m ≤ 24) (hx : is01 x m) (ha : a < m) (hA : A 6 3 = cnt (fun b => x b * mk2 b) m) (k : post (some (.inl (iZ (x a)))) (123, K, zs A, ρ)) : mj_lv (d + 2) m_Turning_has [.inr (.inl (some 6)), .inl (iZ (a : Int))] (123, K, zs A, ρ) post := by
  have r := vb_range hm hx
  obtain ⟨X, hX⟩ : ∃ X : Nat, A 6 3 = (X : Int) := ⟨(A 6 3).toNat, by omega⟩
  have hb := marks_bit hm hx ha (by rw [← hX]; exact hA)
  show mj_W (mj_lv (d + 1)) prog_9_method_2_code 7 2 0 0 post 0 [some (.inr (.inl (some 6))), some (.inl (iZ (a : Int)))] [] (123, K, zs A, ρ) 0 0
  refine mq_aload_n d132_0 rfl rfl ?_
  refine zg_getIe L (X : Int) d132_1 rfl rfl (by decide) rfl hX ?_
  refine mq_iload_n d132_4 rfl rfl ?_
  refine zg_callS [_] d132_5 rfl rfl ⟨rfl, rfl⟩ rfl ⟨rfl, rfl⟩ ⟨by decide, by decide⟩ ?_
  refine s_mark (by omega) ?_
  rw [Int.toNat_natCast, mk2_nat]
  refine zn_iand d132_8 ?_
  have hlt : X &&& 2 ^ (23 - a) < 16777216 := and_lt (by omega)
  have h01 := hx a ha
  refine zq_if_eq (tgt := 16) d132_9 (by decide) ⟨by omega, by omega⟩ (fun g => ?_) (fun g => ?_)
  · have t := tb_and.mp (Int.ofNat_eq_zero.mp g)
    rw [hb] at t
    have t2 := of_decide_eq_false t
    have e : x a = 0 := by omega
    rw [e] at k
    refine zq_iconst d132_16 ?_
    exact zg_retz d132_17 rfl (by decide) k
  · have e : x a = 1 := by
      rcases h01 with q | q
      · exfalso
        refine g (Int.ofNat_eq_zero.mpr (tb_and.mpr ?_))
        rw [hb]
        exact decide_eq_false (by omega)
      · exact q
    rw [e] at k
    refine zq_iconst d132_12 ?_
    refine mq_goto (tgt := 17) d132_13 (by decide) ?_
    exact zg_retz d132_17 rfl (by decide) k
end sp_has
