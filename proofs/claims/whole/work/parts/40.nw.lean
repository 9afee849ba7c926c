section zn_rows
variable {d : Nat} {b : ByteArray} {o rt mc ms : Nat} {post : Option mj_V → mj_H → Prop} {pc : Nat} {lv : mj_L} {st : List mj_V} {nn : Nat} {K : Nat → Nat × Nat} {σ : Nat → Nat → Int32} {ρ : Nat → Nat → Option Nat} {uc us : Nat}
theorem zn_iand {x z : Nat} (e0 : decode b pc = .ok (.iand, 1)) (k : mj_W (mj_lv d) b o rt mc ms post (pc + 1) lv (.inl (iZ ((x &&& z : Nat) : Int)) :: st) (nn, K, σ, ρ) uc us) : mj_W (mj_lv d) b o rt mc ms post pc lv (.inl (iZ (z : Int)) :: .inl (iZ (x : Int)) :: st) (nn, K, σ, ρ) uc us := mq_iand e0 (by rw [iZ_nI, iZ_nI, zx_and]; exact k)
theorem zn_ior {x z : Nat} (e0 : decode b pc = .ok (.ior, 1)) (k : mj_W (mj_lv d) b o rt mc ms post (pc + 1) lv (.inl (iZ ((x ||| z : Nat) : Int)) :: st) (nn, K, σ, ρ) uc us) : mj_W (mj_lv d) b o rt mc ms post pc lv (.inl (iZ (z : Int)) :: .inl (iZ (x : Int)) :: st) (nn, K, σ, ρ) uc us := mq_ior e0 (by rw [iZ_nI, iZ_nI, zx_or]; exact k)
theorem zn_ixor {x z : Nat} (e0 : decode b pc = .ok (.ixor, 1)) (k : mj_W (mj_lv d) b o rt mc ms post (pc + 1) lv (.inl (iZ ((x ^^^ z : Nat) : Int)) :: st) (nn, K, σ, ρ) uc us) : mj_W (mj_lv d) b o rt mc ms post pc lv (.inl (iZ (z : Int)) :: .inl (iZ (x : Int)) :: st) (nn, K, σ, ρ) uc us := mq_ixor e0 (by rw [iZ_nI, iZ_nI, zx_xor]; exact k)
theorem zn_shl1 {z : Int} (e0 : decode b pc = .ok (.ishl, 1)) (r : 0 ≤ z ∧ z < 31) (k : mj_W (mj_lv d) b o rt mc ms post (pc + 1) lv (.inl (iZ ((2 ^ z.toNat : Nat) : Int)) :: st) (nn, K, σ, ρ) uc us) : mj_W (mj_lv d) b o rt mc ms post pc lv (.inl (iZ z) :: .inl (iZ 1) :: st) (nn, K, σ, ρ) uc us := zb_ishl e0 ⟨by decide, r.1, by omega⟩ (by rw [show (1 : Int).toNat = 1 from rfl, Nat.one_mul]; exact Nat.pow_lt_pow_right (by decide) (by omega)) (by rw [show (1 : Int).toNat = 1 from rfl, Nat.one_mul]; exact k)
theorem zn_shr {x : Nat} {z : Int} (e0 : decode b pc = .ok (.ishr, 1)) (r : x < 2147483648 ∧ 0 ≤ z ∧ z < 32) (k : mj_W (mj_lv d) b o rt mc ms post (pc + 1) lv (.inl (iZ ((x / 2 ^ z.toNat : Nat) : Int)) :: st) (nn, K, σ, ρ) uc us) : mj_W (mj_lv d) b o rt mc ms post pc lv (.inl (iZ z) :: .inl (iZ (x : Int)) :: st) (nn, K, σ, ρ) uc us := zb_ishr e0 ⟨by omega, by omega, r.2.1, r.2.2⟩ (by rw [Int.toNat_natCast]; exact k)
end zn_rows
theorem tb_and {s v : Nat} : s &&& 2 ^ v = 0 ↔ s.testBit v = false := by
  constructor
  · intro h
    have h2 := congrArg (fun x => x.testBit v) h
    simpa [Nat.testBit_and, Nat.testBit_two_pow] using h2
  · intro h
    apply Nat.eq_of_testBit_eq
    intro i
    rw [Nat.testBit_and, Nat.testBit_two_pow, Nat.zero_testBit]
    by_cases e : v = i
    · subst e
      simp [h]
    · simp [e]
theorem and_lt {s v n : Nat} (h : s < n) : s &&& v < n := Nat.lt_of_le_of_lt Nat.and_le_left h
/-- the arcs below a whose ends lie in the set S: the nodes where they begin (g their from) -/
def nwI (A : Nat → Nat → Int) (S a : Nat) (g : Nat → Int) (P : Nat) : Prop := P < 4096 ∧ ∀ v, P.testBit v = true ↔ ∃ x, x < a ∧ A 5 x = 1 ∧ (g x).toNat = v ∧ S.testBit (A 3 x).toNat = true ∧ S.testBit (A 4 x).toNat = true
theorem nwI_0 {A : Nat → Nat → Int} {S : Nat} {g : Nat → Int} : nwI A S 0 g 0 := ⟨by decide, fun v => ⟨fun h => by simp at h, fun ⟨x, hx, _⟩ => absurd hx (by omega)⟩⟩
theorem nwI_no {A : Nat → Nat → Int} {S a : Nat} {g : Nat → Int} {P : Nat} (h : nwI A S a g P) (hn : ¬ (A 5 a = 1 ∧ S.testBit (A 3 a).toNat = true ∧ S.testBit (A 4 a).toNat = true)) : nwI A S (a + 1) g P := ⟨h.1, fun v => by
  rw [h.2 v]
  constructor
  · rintro ⟨x, h1, h2⟩
    exact ⟨x, by omega, h2⟩
  · rintro ⟨x, h1, h2, h3, h4, h5⟩
    by_cases e : x = a
    · subst e
      exact absurd ⟨h2, h4, h5⟩ hn
    · exact ⟨x, by omega, h2, h3, h4, h5⟩⟩
theorem nwI_yes {A : Nat → Nat → Int} {S a : Nat} {g : Nat → Int} {P : Nat} (h : nwI A S a g P) (hy : A 5 a = 1 ∧ S.testBit (A 3 a).toNat = true ∧ S.testBit (A 4 a).toNat = true) (hg : (g a).toNat < 12) : nwI A S (a + 1) g (P ||| 2 ^ (g a).toNat) := ⟨Nat.or_lt_two_pow (n := 12) h.1 (Nat.pow_lt_pow_right (by decide) hg), fun v => by
  rw [Nat.testBit_or, Bool.or_eq_true, h.2 v, Nat.testBit_two_pow, decide_eq_true_eq]
  constructor
  · rintro (⟨x, h1, h2⟩ | e)
    · exact ⟨x, by omega, h2⟩
    · exact ⟨a, by omega, hy.1, e, hy.2.1, hy.2.2⟩
  · rintro ⟨x, h1, h2, h3, h4, h5⟩
    by_cases e : x = a
    · subst e
      exact Or.inr h3
    · exact Or.inl ⟨x, by omega, h2, h3, h4, h5⟩⟩
section sp_nw
variable {d : Nat} {post : Option mj_V → mj_H → Prop} {K : Nat → Nat × Nat} {A : Nat → Nat → Int} {ρ : Nat → Nat → Option Nat}
abbrev nwL (S : Nat) (pass : Int) (P Q : Nat) (a : Int) (q6 q7 : Option mj_V) : mj_L := [some (.inr (.inl (some 1))), some (.inl (iZ (S : Int))), some (.inl (iZ pass)), some (.inl (iZ (P : Int))), some (.inl (iZ (Q : Int))), some (.inl (iZ a)), q6, q7]
set_option maxRecDepth 100000 in
theorem nw_inner (L : Lay K ρ) (hm : 0 ≤ A 1 5 ∧ A 1 5 ≤ 24) (ha : ∀ a : Nat, (a : Int) < A 1 5 → (0 ≤ A 3 a ∧ A 3 a < 12) ∧ (0 ≤ A 4 a ∧ A 4 a < 12) ∧ (A 5 a = 0 ∨ A 5 a = 1)) {S : Nat} (hS : S < 4096) {pass : Int}
    (kk : ∀ (P Q : Nat) (q6 q7 : Option mj_V), nwI A S (A 1 5).toNat (A 3) P → nwI A S (A 1 5).toNat (A 4) Q → mj_W (mj_lv d) prog_9_method_5_code 7 1 0 0 post 100 (nwL S pass P Q (A 1 5) q6 q7) [] (123, K, zs A, ρ) 0 0) : ∀ (j a : Nat) (P Q : Nat) (q6 q7 : Option mj_V), (A 1 5).toNat - a < j → a ≤ (A 1 5).toNat → nwI A S a (A 3) P → nwI A S a (A 4) Q → mj_W (mj_lv d) prog_9_method_5_code 7 1 0 0 post 27 (nwL S pass P Q a q6 q7) [] (123, K, zs A, ρ) 0 0
  | 0, a, _, _, _, _, h, _, _, _ => absurd h (by omega)
  | j + 1, a, P, Q, q6, q7, h, hle, hP, hQ => by
    refine mq_iload d135_27 rfl ?_
    refine mq_aload_n d135_29 rfl rfl ?_
    refine zg_getI L d135_30 rfl rfl (by decide) rfl ?_
    refine zq_icmp_ge (tgt := 100) d135_33 (by decide) (by omega) (by omega) (fun g => ?_) (fun g => ?_)
    · have e : (a : Int) = A 1 5 := by omega
      have e2 : a = (A 1 5).toNat := by omega
      rw [e]
      rw [e2] at hP hQ
      exact kk P Q q6 q7 hP hQ
    · have hz := ha a g
      have next : ∀ (P Q : Nat) (q6 q7 : Int32), nwI A S (a + 1) (A 3) P → nwI A S (a + 1) (A 4) Q → mj_W (mj_lv d) prog_9_method_5_code 7 1 0 0 post 94 (nwL S pass P Q a (some (.inl q6)) (some (.inl q7))) [] (123, K, zs A, ρ) 0 0 := fun P Q q6 q7 hP hQ => by
        refine zq_iinc d135_94 rfl rfl ?_
        refine mq_goto (tgt := 27) d135_97 (by decide) ?_
        exact nw_inner L hm ha hS kk j (a + 1) P Q (some (.inl q6)) (some (.inl q7)) (by omega) (by omega) hP hQ
      refine zq_iconst d135_36 ?_
      refine mq_aload_n d135_37 rfl rfl ?_
      refine zg_getR L 3 d135_38 rfl rfl (by decide) rfl (by decide) rfl ?_
      refine mq_iload d135_41 rfl ?_
      refine zg_iald L d135_43 (by decide) rfl (by omega) ?_
      rw [Int.toNat_natCast]
      refine zn_shl1 d135_44 (by omega) ?_
      refine mq_istore d135_45 (Nat.le_of_ble_eq_true rfl) rfl ?_
      refine zq_iconst d135_47 ?_
      refine mq_aload_n d135_48 rfl rfl ?_
      refine zg_getR L 4 d135_49 rfl rfl (by decide) rfl (by decide) rfl ?_
      refine mq_iload d135_52 rfl ?_
      refine zg_iald L d135_54 (by decide) rfl (by omega) ?_
      rw [Int.toNat_natCast]
      refine zn_shl1 d135_55 (by omega) ?_
      refine mq_istore d135_56 (Nat.le_of_ble_eq_true rfl) rfl ?_
      refine mq_aload_n d135_58 rfl rfl ?_
      refine zg_getR L 5 d135_59 rfl rfl (by decide) rfl (by decide) rfl ?_
      refine mq_iload d135_62 rfl ?_
      refine zg_zald L d135_64 (by decide) rfl (by omega) ?_
      rw [Int.toNat_natCast]
      refine zq_if_eq (tgt := 94) d135_65 (by decide) (by omega) (fun g1 => ?_) (fun g1 => ?_)
      · exact next P Q _ _ (nwI_no hP (fun q => by omega)) (nwI_no hQ (fun q => by omega))
      · refine mq_iload_n d135_68 rfl rfl ?_
        refine mq_iload d135_69 rfl ?_
        refine zn_iand d135_71 ?_
        have r1 := and_lt (v := 2 ^ (A 3 a).toNat) hS
        refine zq_if_eq (tgt := 94) d135_72 (by decide) (by omega) (fun g2 => ?_) (fun g2 => ?_)
        · have t1 := tb_and.mp (Int.ofNat_eq_zero.mp g2)
          exact next P Q _ _ (nwI_no hP (fun q => by rw [t1] at q; cases q.2.1)) (nwI_no hQ (fun q => by rw [t1] at q; cases q.2.1))
        · refine mq_iload_n d135_75 rfl rfl ?_
          refine mq_iload d135_76 rfl ?_
          refine zn_iand d135_78 ?_
          have r2 := and_lt (v := 2 ^ (A 4 a).toNat) hS
          refine zq_if_eq (tgt := 94) d135_79 (by decide) (by omega) (fun g3 => ?_) (fun g3 => ?_)
          · have t1 := tb_and.mp (Int.ofNat_eq_zero.mp g3)
            exact next P Q _ _ (nwI_no hP (fun q => by rw [t1] at q; cases q.2.2)) (nwI_no hQ (fun q => by rw [t1] at q; cases q.2.2))
          · have t1 : S.testBit (A 3 a).toNat = true := by
              cases q : S.testBit (A 3 a).toNat with
              | true => rfl
              | false => exact absurd (Int.ofNat_eq_zero.mpr (tb_and.mpr q)) g2
            have t2 : S.testBit (A 4 a).toNat = true := by
              cases q : S.testBit (A 4 a).toNat with
              | true => rfl
              | false => exact absurd (Int.ofNat_eq_zero.mpr (tb_and.mpr q)) g3
            refine mq_iload_n d135_82 rfl rfl ?_
            refine mq_iload d135_83 rfl ?_
            refine zn_ior d135_85 ?_
            refine mq_istore_n d135_86 rfl (Nat.le_of_ble_eq_true rfl) rfl ?_
            refine mq_iload d135_87 rfl ?_
            refine mq_iload d135_89 rfl ?_
            refine zn_ior d135_91 ?_
            refine mq_istore d135_92 (Nat.le_of_ble_eq_true rfl) rfl ?_
            exact next _ _ _ _ (nwI_yes hP ⟨by omega, t1, t2⟩ (by omega)) (nwI_yes hQ ⟨by omega, t1, t2⟩ (by omega))
/-- the weights of the graph that is held -/
def gW (A : Nat → Nat → Int) (c : Nat → Int) : Nat → Nat → Int := wt (A 1 5).toNat (fun a => (A 3 a).toNat) (fun a => (A 4 a).toNat) (A 5) c
/-- the set S of nodes costs what all of them cost -/
def pl (A : Nat → Nat → Int) (S : Nat) : Prop := S < 4096 ∧ (∀ v, S.testBit v = true → v < (A 1 4).toNat) ∧ ∀ c : Nat → Int, (∀ a, a < (A 1 5).toNat → 0 ≤ c a) → ∀ C, isMin (gW A c) (fun v => S.testBit v) C → isMin (gW A c) (full (A 1 4).toNat) C
theorem pl_step {S P Q : Nat} (h : pl A S) (hP : nwI A S (A 1 5).toNat (A 3) P) (hQ : nwI A S (A 1 5).toNat (A 4) Q) : pl A (S &&& (P &&& Q)) := by
  obtain ⟨h1, h2, h3⟩ := h
  refine ⟨and_lt h1, fun v hv => ?_, fun c hc C hC => h3 c hc C ?_⟩
  · rw [Nat.testBit_and, Bool.and_eq_true] at hv
    exact h2 v hv.1
  · refine isMin_peel (fun v u => wt_nonneg hc v u) (N := (A 1 4).toNat) h2 (fun v hv => ?_) (fun v hv hv2 => ?_) hC
    · rw [Nat.testBit_and, Bool.and_eq_true] at hv
      exact hv.1
    · rw [Nat.testBit_and, hv, Bool.true_and, Nat.testBit_and] at hv2
      cases hp : P.testBit v with
      | false =>
        refine Or.inl (fun u hu => ?_)
        show cnt _ _ = 0
        rw [cnt_congr (g := fun _ => 0) (fun a ha => if_neg (fun q => ?_)), cnt_zero]
        dsimp only at q
        have := (hP.2 v).mpr ⟨a, ha, q.1, q.2.1, by rw [q.2.1]; exact hv, by rw [q.2.2]; exact hu⟩
        rw [hp] at this
        cases this
      | true =>
        rw [hp, Bool.true_and] at hv2
        refine Or.inr (fun u hu => ?_)
        show cnt _ _ = 0
        rw [cnt_congr (g := fun _ => 0) (fun a ha => if_neg (fun q => ?_)), cnt_zero]
        dsimp only at q
        have := (hQ.2 v).mpr ⟨a, ha, q.1, q.2.2, by rw [q.2.1]; exact hu, by rw [q.2.2]; exact hv⟩
        rw [hv2] at this
        cases this
theorem pl_0 (hn : 0 ≤ A 1 4 ∧ A 1 4 ≤ 12) : pl A (2 ^ (A 1 4).toNat - 1) := by
  have hp : 2 ^ (A 1 4).toNat ≤ 2 ^ 12 := Nat.pow_le_pow_right (by decide) (by omega)
  have h0 := Nat.two_pow_pos (A 1 4).toNat
  refine ⟨by omega, fun v hv => ?_, fun c _ C hC => ?_⟩
  · rw [Nat.testBit_two_pow_sub_one] at hv
    exact of_decide_eq_true hv
  · refine isMin_congr (fun v => ?_) (fun l _ => rfl) hC
    rw [Nat.testBit_two_pow_sub_one]
    rfl
set_option maxRecDepth 100000 in
theorem nw_outer (L : Lay K ρ) (hn : 0 ≤ A 1 4 ∧ A 1 4 ≤ 12) (hm : 0 ≤ A 1 5 ∧ A 1 5 ≤ 24) (ha : ∀ a : Nat, (a : Int) < A 1 5 → (0 ≤ A 3 a ∧ A 3 a < 12) ∧ (0 ≤ A 4 a ∧ A 4 a < 12) ∧ (A 5 a = 0 ∨ A 5 a = 1))
    (k : ∀ S, pl A S → post (some (.inl (iZ (S : Int)))) (123, K, zs A, ρ)) : ∀ (j p S : Nat) (s3 s4 s5 s6 s7 : Option mj_V), (A 1 4).toNat - p < j → p ≤ (A 1 4).toNat → pl A S → mj_W (mj_lv d) prog_9_method_5_code 7 1 0 0 post 11 [some (.inr (.inl (some 1))), some (.inl (iZ (S : Int))), some (.inl (iZ (p : Int))), s3, s4, s5, s6, s7] [] (123, K, zs A, ρ) 0 0
  | 0, p, _, _, _, _, _, _, h, _, _ => absurd h (by omega)
  | j + 1, p, S, s3, s4, s5, s6, s7, h, hle, hS => by
    refine mq_iload_n d135_11 rfl rfl ?_
    refine mq_aload_n d135_12 rfl rfl ?_
    refine zg_getI L d135_13 rfl rfl (by decide) rfl ?_
    refine zq_icmp_ge (tgt := 113) d135_16 (by decide) (by omega) (by omega) (fun g => ?_) (fun g => ?_)
    · refine mq_iload_n d135_113 rfl rfl ?_
      exact zg_reti d135_114 rfl (k S hS)
    · refine zq_iconst d135_19 ?_
      refine mq_istore_n d135_20 rfl (Nat.le_of_ble_eq_true rfl) rfl ?_
      refine zq_iconst d135_21 ?_
      refine mq_istore d135_22 (Nat.le_of_ble_eq_true rfl) rfl ?_
      refine zq_iconst d135_24 ?_
      refine mq_istore d135_25 (Nat.le_of_ble_eq_true rfl) rfl ?_
      refine nw_inner L hm ha hS.1 (pass := (p : Int)) (fun P Q q6 q7 hP hQ => ?_) ((A 1 5).toNat + 1) 0 0 0 s6 s7 (by omega) (by omega) nwI_0 nwI_0
      refine mq_iload_n d135_100 rfl rfl ?_
      refine mq_iload_n d135_101 rfl rfl ?_
      refine mq_iload d135_102 rfl ?_
      refine zn_iand d135_104 ?_
      refine zn_iand d135_105 ?_
      refine mq_istore_n d135_106 rfl (Nat.le_of_ble_eq_true rfl) rfl ?_
      refine zq_iinc d135_107 rfl rfl ?_
      refine mq_goto (tgt := 11) d135_110 (by decide) ?_
      exact nw_outer L hn hm ha k j (p + 1) _ _ _ _ _ _ (by omega) (by omega) (pl_step hS hP hQ)
set_option maxRecDepth 100000 in
theorem s_nodesOnWaysRound (L : Lay K ρ) (hn : 0 ≤ A 1 4 ∧ A 1 4 ≤ 12) (hm : 0 ≤ A 1 5 ∧ A 1 5 ≤ 24) (ha : ∀ a : Nat, (a : Int) < A 1 5 → (0 ≤ A 3 a ∧ A 3 a < 12) ∧ (0 ≤ A 4 a ∧ A 4 a < 12) ∧ (A 5 a = 0 ∨ A 5 a = 1))
    (k : ∀ S, pl A S → post (some (.inl (iZ (S : Int)))) (123, K, zs A, ρ)) : mj_lv (d + 1) m_Turning_nodesOnWaysRound [.inr (.inl (some 1))] (123, K, zs A, ρ) post := by
  show mj_W (mj_lv d) prog_9_method_5_code 7 1 0 0 post 0 [some (.inr (.inl (some 1))), none, none, none, none, none, none, none] [] (123, K, zs A, ρ) 0 0
  refine zq_iconst d135_0 ?_
  refine mq_aload_n d135_1 rfl rfl ?_
  refine zg_getI L d135_2 rfl rfl (by decide) rfl ?_
  refine zn_shl1 d135_5 (by omega) ?_
  refine zq_iconst d135_6 ?_
  refine zq_isub d135_7 ?_
  have h0 := Nat.two_pow_pos (A 1 4).toNat
  have e : ((2 ^ (A 1 4).toNat : Nat) : Int) - 1 = ((2 ^ (A 1 4).toNat - 1 : Nat) : Int) := by omega
  rw [e]
  refine mq_istore_n d135_8 rfl (Nat.le_of_ble_eq_true rfl) rfl ?_
  refine zq_iconst d135_9 ?_
  refine mq_istore_n d135_10 rfl (Nat.le_of_ble_eq_true rfl) rfl ?_
  exact nw_outer L hn hm ha k ((A 1 4).toNat + 1) 0 _ none none none none none (by omega) (by omega) (pl_0 hn)
end sp_nw
