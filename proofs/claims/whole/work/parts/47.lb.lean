section sp_lb
variable {d : Nat} {post : Option mj_V → mj_H → Prop} {K : Nat → Nat × Nat} {ρ : Nat → Nat → Option Nat}
/-- the price of arc a between v and u, in the model -/
def lbT (A : Nat → Nat → Int) (v u a : Nat) : Int := if A 97 a = 1 ∧ (A 95 a).toNat = v ∧ (A 96 a).toNat = u then A 102 a else 0
/-- the first i arcs' prices are added up -/
def lbI (A A2 : Nat → Nat → Int) (i : Nat) : Prop := (∀ c k, c ≠ 104 → A2 c k = A c k) ∧ ∀ v u, v < 12 → u < 12 → A2 104 (12 * v + u) = cnt (lbT A v u) i
set_option maxRecDepth 100000 in
theorem lb_loop1 (L : Lay K ρ) {A : Nat → Nat → Int} {al : Option mj_V} {x3 x4 x5 : Option mj_V} (hok : mj_ok [some (.inr (.inl (some 93))), al] 2 = true)
    (kk : mj_W (mj_lv d) prog_11_method_10_code 9 1 0 0 post 31 [some (.inr (.inl (some 93))), al, some (.inl (iZ 144)), x3, x4, x5] [] (123, K, zs (fl A 104 144 0), ρ) 0 0) : ∀ (j i : Nat), 144 - i < j → i ≤ 144 → mj_W (mj_lv d) prog_11_method_10_code 9 1 0 0 post 11 [some (.inr (.inl (some 93))), al, some (.inl (iZ (i : Int))), x3, x4, x5] [] (123, K, zs (fl A 104 i 0), ρ) 0 0
  | 0, i, h, _ => absurd h (by omega)
  | j + 1, i, h, hi => by
    refine mq_iload_n d34_11 rfl rfl ?_
    refine zq_sipush d34_12 rfl ?_
    refine zq_icmp_ge (tgt := 31) d34_15 (by decide) (by omega) (by omega) (fun g => ?_) (fun g => ?_)
    · have e : i = 144 := by omega
      subst e
      exact kk
    · refine mq_aload_n d34_18 rfl rfl ?_
      refine zg_getR L 104 d34_19 rfl rfl (by decide) rfl (by decide) rfl ?_
      refine mq_iload_n d34_22 rfl rfl ?_
      refine zq_iconst d34_23 ?_
      refine zg_iast L d34_24 (by decide) rfl (by omega) ?_
      rw [Int.toNat_natCast, fl_s]
      refine zq_iinc d34_25 rfl hok ?_
      refine mq_goto (tgt := 11) d34_28 (by decide) ?_
      exact lb_loop1 L hok kk j (i + 1) (by omega) (by omega)
theorem lbI_s {A A2 : Nat → Nat → Int} {i v0 u0 : Nat} (h : lbI A A2 i) (e1 : (A 95 i).toNat = v0) (e2 : (A 96 i).toNat = u0) (b1 : v0 < 12) (b2 : u0 < 12) {w : Int} (hw : w = if A 97 i = 1 then A 102 i else 0) : lbI A (mj_u2 A2 104 (12 * v0 + u0) (A2 104 (12 * v0 + u0) + w)) (i + 1) := by
  obtain ⟨h1, h2⟩ := h
  refine ⟨fun c k hc => by rw [u2_c hc]; exact h1 c k hc, fun v u hv hu => ?_⟩
  show _ = cnt (lbT A v u) i + lbT A v u i
  rw [u2_at]
  unfold lbT
  by_cases e : v = v0 ∧ u = u0
  · obtain ⟨rfl, rfl⟩ := e
    rw [if_pos ⟨rfl, rfl⟩, h2 v u hv hu, hw]
    show cnt (lbT A v u) i + _ = cnt (lbT A v u) i + _
    by_cases q : A 97 i = 1
    · rw [if_pos q, if_pos ⟨q, e1, e2⟩]
    · rw [if_neg q, if_neg (fun r => q r.1)]
  · rw [if_neg (fun q => e (by omega)), h2 v u hv hu, if_neg (fun q => e ⟨by omega, by omega⟩)]
    show cnt (lbT A v u) i = cnt (lbT A v u) i + 0
    omega
set_option maxRecDepth 100000 in
theorem lb_loop2 (L : Lay K ρ) {A : Nat → Nat → Int} (hm : 0 ≤ A 93 1 ∧ A 93 1 ≤ 24) (ha : ∀ a : Nat, (a : Int) < A 93 1 → (0 ≤ A 95 a ∧ A 95 a < 12) ∧ (0 ≤ A 96 a ∧ A 96 a < 12) ∧ (A 97 a = 0 ∨ A 97 a = 1)) {al x3 x4 x5 : Option mj_V} (hok : mj_ok [some (.inr (.inl (some 93))), al] 2 = true)
    (kk : ∀ A2, lbI A A2 (A 93 1).toNat → mj_W (mj_lv d) prog_11_method_10_code 9 1 0 0 post 90 [some (.inr (.inl (some 93))), al, some (.inl (iZ (A 93 1))), x3, x4, x5] [] (123, K, zs A2, ρ) 0 0) : ∀ (j i : Nat) (A2 : Nat → Nat → Int), (A 93 1).toNat - i < j → i ≤ (A 93 1).toNat → lbI A A2 i → mj_W (mj_lv d) prog_11_method_10_code 9 1 0 0 post 33 [some (.inr (.inl (some 93))), al, some (.inl (iZ (i : Int))), x3, x4, x5] [] (123, K, zs A2, ρ) 0 0
  | 0, i, _, h, _, _ => absurd h (by omega)
  | j + 1, i, A2, h, hi, hI => by
    have h1 := hI.1
    refine mq_iload_n d34_33 rfl rfl ?_
    refine mq_aload_n d34_34 rfl rfl ?_
    refine zg_getIe L (A 93 1) d34_35 rfl rfl (by decide) rfl (h1 93 1 (by decide)) ?_
    refine zq_icmp_ge (tgt := 90) d34_38 (by decide) (by omega) (by omega) (fun g => ?_) (fun g => ?_)
    · have e : (i : Int) = A 93 1 := by omega
      have e2 : i = (A 93 1).toNat := by omega
      rw [e2] at hI
      rw [e]
      exact kk A2 hI
    · have hz := ha i g
      obtain ⟨v0, ev⟩ : ∃ v0 : Nat, A 95 i = (v0 : Int) := ⟨(A 95 i).toNat, by omega⟩
      obtain ⟨u0, eu⟩ : ∃ u0 : Nat, A 96 i = (u0 : Int) := ⟨(A 96 i).toNat, by omega⟩
      have ei : ((12 : Int) * (v0 : Int) + (u0 : Int)).toNat = 12 * v0 + u0 := by omega
      have fin : ∀ w : Int, (w = if A 97 i = 1 then A 102 i else 0) → mj_W (mj_lv d) prog_11_method_10_code 9 1 0 0 post 82 [some (.inr (.inl (some 93))), al, some (.inl (iZ (i : Int))), x3, x4, x5] [.inl (iZ w), .inl (iZ (A2 104 (12 * v0 + u0))), .inl (iZ (12 * (v0 : Int) + (u0 : Int))), .inr (.inl (some 104))] (123, K, zs A2, ρ) 0 0 := fun w hw => by
        refine zq_iadd d34_82 ?_
        refine zg_iast L d34_83 (by decide) rfl (by omega) ?_
        rw [ei]
        refine zq_iinc d34_84 rfl hok ?_
        refine mq_goto (tgt := 33) d34_87 (by decide) ?_
        exact lb_loop2 L hm ha hok kk j (i + 1) _ (by omega) (by omega) (lbI_s hI (by rw [ev, Int.toNat_natCast]) (by rw [eu, Int.toNat_natCast]) (by omega) (by omega) hw)
      refine mq_aload_n d34_41 rfl rfl ?_
      refine zg_getR L 104 d34_42 rfl rfl (by decide) rfl (by decide) rfl ?_
      refine zq_bipush d34_45 rfl ?_
      refine mq_aload_n d34_47 rfl rfl ?_
      refine zg_getR L 95 d34_48 rfl rfl (by decide) rfl (by decide) rfl ?_
      refine mq_iload_n d34_51 rfl rfl ?_
      refine zg_ialde L (v0 : Int) d34_52 (by decide) rfl (by omega) (by rw [Int.toNat_natCast, h1 95 i (by decide)]; exact ev) ?_
      refine zq_imul d34_53 ?_
      refine mq_aload_n d34_54 rfl rfl ?_
      refine zg_getR L 96 d34_55 rfl rfl (by decide) rfl (by decide) rfl ?_
      refine mq_iload_n d34_58 rfl rfl ?_
      refine zg_ialde L (u0 : Int) d34_59 (by decide) rfl (by omega) (by rw [Int.toNat_natCast, h1 96 i (by decide)]; exact eu) ?_
      refine zq_iadd d34_60 ?_
      refine mq_dup2 d34_61 rfl rfl ?_
      refine zg_ialde L (A2 104 (12 * v0 + u0)) d34_62 (by decide) rfl (by omega) (by rw [ei]) ?_
      refine mq_aload_n d34_63 rfl rfl ?_
      refine zg_getR L 97 d34_64 rfl rfl (by decide) rfl (by decide) rfl ?_
      refine mq_iload_n d34_67 rfl rfl ?_
      refine zg_zalde L (A 97 i) d34_68 (by decide) rfl (by omega) (by rw [Int.toNat_natCast, h1 97 i (by decide)]) ?_
      refine zq_if_eq (tgt := 81) d34_69 (by decide) (by omega) (fun g1 => ?_) (fun g1 => ?_)
      · refine zq_iconst d34_81 ?_
        exact fin 0 (by rw [if_neg (by omega)])
      · refine mq_aload_n d34_72 rfl rfl ?_
        refine zg_getR L 102 d34_73 rfl rfl (by decide) rfl (by decide) rfl ?_
        refine mq_iload_n d34_76 rfl rfl ?_
        refine zg_ialde L (A 102 i) d34_77 (by decide) rfl (by omega) (by rw [Int.toNat_natCast, h1 102 i (by decide)]) ?_
        refine mq_goto (tgt := 82) d34_78 (by decide) ?_
        exact fin (A 102 i) (by rw [if_pos (by omega)])
end sp_lb
