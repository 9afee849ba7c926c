section zn_rows
variable {d : Nat} {b : ByteArray} {o rt mc ms : Nat} {post : Option mj_V → mj_H → Prop} {pc : Nat} {lv : mj_L} {st : List mj_V} {nn : Nat} {K : Nat → Nat × Nat} {σ : Nat → Nat → Int32} {ρ : Nat → Nat → Option Nat} {uc us : Nat}
theorem zn_iand {x z : Nat} (e0 : decode b pc = .ok (.iand, 1)) (k : mj_W (mj_lv d) b o rt mc ms post (pc + 1) lv (.inl (iZ ((x &&& z : Nat) : Int)) :: st) (nn, K, σ, ρ) uc us) : mj_W (mj_lv d) b o rt mc ms post pc lv (.inl (iZ (z : Int)) :: .inl (iZ (x : Int)) :: st) (nn, K, σ, ρ) uc us := mq_iand e0 (by rw [iZ_nI, iZ_nI, zx_and]; exact k)
theorem zn_ior {x z : Nat} (e0 : decode b pc = .ok (.ior, 1)) (k : mj_W (mj_lv d) b o rt mc ms post (pc + 1) lv (.inl (iZ ((x ||| z : Nat) : Int)) :: st) (nn, K, σ, ρ) uc us) : mj_W (mj_lv d) b o rt mc ms post pc lv (.inl (iZ (z : Int)) :: .inl (iZ (x : Int)) :: st) (nn, K, σ, ρ) uc us := mq_ior e0 (by rw [iZ_nI, iZ_nI, zx_or]; exact k)
theorem zn_ixor {x z : Nat} (e0 : decode b pc = .ok (.ixor, 1)) (k : mj_W (mj_lv d) b o rt mc ms post (pc + 1) lv (.inl (iZ ((x ^^^ z : Nat) : Int)) :: st) (nn, K, σ, ρ) uc us) : mj_W (mj_lv d) b o rt mc ms post pc lv (.inl (iZ (z : Int)) :: .inl (iZ (x : Int)) :: st) (nn, K, σ, ρ) uc us := mq_ixor e0 (by rw [iZ_nI, iZ_nI, zx_xor]; exact k)
theorem zn_shl1 {z : Int} (e0 : decode b pc = .ok (.ishl, 1)) (r : 0 ≤ z ∧ z < 31) (k : mj_W (mj_lv d) b o rt mc ms post (pc + 1) lv (.inl (iZ ((2 ^ z.toNat : Nat) : Int)) :: st) (nn, K, σ, ρ) uc us) : mj_W (mj_lv d) b o rt mc ms post pc lv (.inl (iZ z) :: .inl (iZ 1) :: st) (nn, K, σ, ρ) uc us := zb_ishl e0 ⟨by decide, r.1, by omega⟩ (by rw [show (1 : Int).toNat = 1 from rfl, Nat.one_mul]; exact Nat.pow_lt_pow_right (by decide) (by omega)) (by rw [show (1 : Int).toNat = 1 from rfl, Nat.one_mul]; exact k)
theorem zn_shr {x : Nat} {z : Int} (e0 : decode b pc = .ok (.ishr, 1)) (r : x < 2147483648 ∧ 0 ≤ z ∧ z < 32) (k : mj_W (mj_lv d) b o rt mc ms post (pc + 1) lv (.inl (iZ ((x / 2 ^ z.toNat : Nat) : Int)) :: st) (nn, K, σ, ρ) uc us) : mj_W (mj_lv d) b o rt mc ms post pc lv (.inl (iZ z) :: .inl (iZ (x : Int)) :: st) (nn, K, σ, ρ) uc us := zb_ishr e0 ⟨by omega, by omega, r.2.1, r.2.2⟩ (by rw [Int.toNat_natCast]; exact k)
end zn_rows
theorem tb_and {s v : Nat} : s &&& 2 ^ v = 0 ↔ s.testBit v = false := by
  constructor
  · intro h
    have h2 := congrArg (fun x => x.testBit v) h
    simpa [Nat.testBit_and, Nat.testBit_two_pow] using h2
  · intro h
    apply Nat.eq_of_testBit_eq
    intro i
    rw [Nat.testBit_and, Nat.testBit_two_pow, Nat.zero_testBit]
    by_cases e : v = i
    · subst e
      simp [h]
    · simp [e]
theorem and_lt {s v n : Nat} (h : s < n) : s &&& v < n := Nat.lt_of_le_of_lt Nat.and_le_left h
/-- the arcs below a whose ends lie in the set S: the nodes where they begin (g their from) -/
def nwI (A : Nat → Nat → Int) (S a : Nat) (g : Nat → Int) (P : Nat) : Prop := P < 4096 ∧ ∀ v, P.testBit v = true ↔ ∃ x, x < a ∧ A 5 x = 1 ∧ (g x).toNat = v ∧ S.testBit (A 3 x).toNat = true ∧ S.testBit (A 4 x).toNat = true
theorem nwI_0 {A : Nat → Nat → Int} {S : Nat} {g : Nat → Int} : nwI A S 0 g 0 := ⟨by decide, fun v => ⟨fun h => by simp at h, fun ⟨x, hx, _⟩ => absurd hx (by omega)⟩⟩
theorem nwI_no {A : Nat → Nat → Int} {S a : Nat} {g : Nat → Int} {P : Nat} (h : nwI A S a g P) (hn : ¬ (A 5 a = 1 ∧ S.testBit (A 3 a).toNat = true ∧ S.testBit (A 4 a).toNat = true)) : nwI A S (a + 1) g P := ⟨h.1, fun v => by
  rw [h.2 v]
  constructor
  · rintro ⟨x, h1, h2⟩
    exact ⟨x, by omega, h2⟩
  · rintro ⟨x, h1, h2, h3, h4, h5⟩
    by_cases e : x = a
    · subst e
      exact absurd ⟨h2, h4, h5⟩ hn
    · exact ⟨x, by omega, h2, h3, h4, h5⟩⟩
theorem nwI_yes {A : Nat → Nat → Int} {S a : Nat} {g : Nat → Int} {P : Nat} (h : nwI A S a g P) (hy : A 5 a = 1 ∧ S.testBit (A 3 a).toNat = true ∧ S.testBit (A 4 a).toNat = true) (hg : (g a).toNat < 12) : nwI A S (a + 1) g (P ||| 2 ^ (g a).toNat) := ⟨Nat.or_lt_two_pow (n := 12) h.1 (Nat.pow_lt_pow_right (by decide) hg), fun v => by
  rw [Nat.testBit_or, Bool.or_eq_true, h.2 v, Nat.testBit_two_pow, decide_eq_true_eq]
  constructor
  · rintro (⟨x, h1, h2⟩ | e)
    · exact ⟨x, by omega, h2⟩
    · exact ⟨a, by omega, hy.1, e, hy.2.1, hy.2.2⟩
  · rintro ⟨x, h1, h2, h3, h4, h5⟩
    by_cases e : x = a
    · subst e
      exact Or.inr h3
    · exact Or.inl ⟨x, by omega, h2, h3, h4, h5⟩⟩
section sp_nw
variable {d : Nat} {post : Option mj_V → mj_H → Prop} {K : Nat → Nat × Nat} {A : Nat → Nat → Int} {ρ : Nat → Nat → Option Nat}
abbrev nwL (S : Nat) (pass : Int) (P Q : Nat) (a : Int) (q6 q7 : Option mj_V) : mj_L := [some (.inr (.inl (some 1))), some (.inl (iZ (S : Int))), some (.inl (iZ pass)), some (.inl (iZ (P : Int))), some (.inl (iZ (Q : Int))), some (.inl (iZ a)), q6, q7]
set_option maxRecDepth 100000 in
theorem nw_inner (L : Lay K ρ) (hm : 0 ≤ A 1 5 ∧ A 1 5 ≤ 24) (ha : ∀ a : Nat, (a : Int) < A 1 5 → (0 ≤ A 3 a ∧ A 3 a < 12) ∧ (0 ≤ A 4 a ∧ A 4 a < 12) ∧ (A 5 a = 0 ∨ A 5 a = 1)) {S : Nat} (hS : S < 4096) {pass : Int}
    (kk : ∀ (P Q : Nat) (q6 q7 : Option mj_V), nwI A S (A 1 5).toNat (A 3) P → nwI A S (A 1 5).toNat (A 4) Q → mj_W (mj_lv d) prog_9_method_5_code 7 1 0 0 post 100 (nwL S pass P Q (A 1 5) q6 q7) [] (123, K, zs A, ρ) 0 0) : ∀ (j a : Nat) (P Q : Nat) (q6 q7 : Option mj_V), (A 1 5).toNat - a < j → a ≤ (A 1 5).toNat → mj_ok (nwL S pass P Q a q6 q7) 7 = true → nwI A S a (A 3) P → nwI A S a (A 4) Q → mj_W (mj_lv d) prog_9_method_5_code 7 1 0 0 post 27 (nwL S pass P Q a q6 q7) [] (123, K, zs A, ρ) 0 0
  | 0, a, _, _, _, _, h, _, _, _, _ => absurd h (by omega)
  | j + 1, a, P, Q, q6, q7, h, hle, hok, hP, hQ => by
    refine mq_iload d135_27 rfl ?_
    refine mq_aload_n d135_29 rfl rfl ?_
    refine zg_getI L d135_30 rfl rfl (by decide) rfl ?_
    refine zq_icmp_ge (tgt := 100) d135_33 (by decide) (by omega) (by omega) (fun g => ?_) (fun g => ?_)
    · have e : (a : Int) = A 1 5 := by omega
      have e2 : a = (A 1 5).toNat := by omega
      rw [e]
      rw [e2] at hP hQ
      exact kk P Q q6 q7 hP hQ
    · have hz := ha a g
      have next : ∀ (P Q : Nat) (q6 q7 : Int32), nwI A S (a + 1) (A 3) P → nwI A S (a + 1) (A 4) Q → mj_W (mj_lv d) prog_9_method_5_code 7 1 0 0 post 94 (nwL S pass P Q a (some (.inl q6)) (some (.inl q7))) [] (123, K, zs A, ρ) 0 0 := fun P Q q6 q7 hP hQ => by
        refine zq_iinc d135_94 rfl rfl ?_
        refine mq_goto (tgt := 27) d135_97 (by decide) ?_
        exact nw_inner L hm ha hS kk j (a + 1) P Q (some (.inl q6)) (some (.inl q7)) (by omega) (by omega) rfl hP hQ
      refine zq_iconst d135_36 ?_
      refine mq_aload_n d135_37 rfl rfl ?_
      refine zg_getR L 3 d135_38 rfl rfl (by decide) rfl (by decide) rfl ?_
      refine mq_iload d135_41 rfl ?_
      refine zg_iald L d135_43 (by decide) rfl (by omega) ?_
      rw [Int.toNat_natCast]
      refine zn_shl1 d135_44 (by omega) ?_
      refine mq_istore d135_45 (Nat.le_of_ble_eq_true rfl) rfl ?_
      refine zq_iconst d135_47 ?_
      refine mq_aload_n d135_48 rfl rfl ?_
      refine zg_getR L 4 d135_49 rfl rfl (by decide) rfl (by decide) rfl ?_
      refine mq_iload d135_52 rfl ?_
      refine zg_iald L d135_54 (by decide) rfl (by omega) ?_
      rw [Int.toNat_natCast]
      refine zn_shl1 d135_55 (by omega) ?_
      refine mq_istore d135_56 (Nat.le_of_ble_eq_true rfl) rfl ?_
      refine mq_aload_n d135_58 rfl rfl ?_
      refine zg_getR L 5 d135_59 rfl rfl (by decide) rfl (by decide) rfl ?_
      refine mq_iload d135_62 rfl ?_
      refine zg_zald L d135_64 (by decide) rfl (by omega) ?_
      rw [Int.toNat_natCast]
      refine zq_if_eq (tgt := 94) d135_65 (by decide) (by omega) (fun g1 => ?_) (fun g1 => ?_)
      · exact next P Q _ _ (nwI_no hP (fun q => by omega)) (nwI_no hQ (fun q => by omega))
      · refine mq_iload_n d135_68 rfl rfl ?_
        refine mq_iload d135_69 rfl ?_
        refine zn_iand d135_71 ?_
        have r1 := and_lt (v := 2 ^ (A 3 a).toNat) hS
        refine zq_if_eq (tgt := 94) d135_72 (by decide) (by omega) (fun g2 => ?_) (fun g2 => ?_)
        · have t1 := tb_and.mp (Int.ofNat_eq_zero.mp g2)
          exact next P Q _ _ (nwI_no hP (fun q => by rw [t1] at q; cases q.2.1)) (nwI_no hQ (fun q => by rw [t1] at q; cases q.2.1))
        · refine mq_iload_n d135_75 rfl rfl ?_
          refine mq_iload d135_76 rfl ?_
          refine zn_iand d135_78 ?_
          have r2 := and_lt (v := 2 ^ (A 4 a).toNat) hS
          refine zq_if_eq (tgt := 94) d135_79 (by decide) (by omega) (fun g3 => ?_) (fun g3 => ?_)
          · have t1 := tb_and.mp (Int.ofNat_eq_zero.mp g3)
            exact next P Q _ _ (nwI_no hP (fun q => by rw [t1] at q; cases q.2.2)) (nwI_no hQ (fun q => by rw [t1] at q; cases q.2.2))
          · have t1 : S.testBit (A 3 a).toNat = true := by
              cases q : S.testBit (A 3 a).toNat with
              | true => rfl
              | false => exact absurd (Int.ofNat_eq_zero.mpr (tb_and.mpr q)) g2
            have t2 : S.testBit (A 4 a).toNat = true := by
              cases q : S.testBit (A 4 a).toNat with
              | true => rfl
              | false => exact absurd (Int.ofNat_eq_zero.mpr (tb_and.mpr q)) g3
            refine mq_iload_n d135_82 rfl rfl ?_
            refine mq_iload d135_83 rfl ?_
            refine zn_ior d135_85 ?_
            refine mq_istore_n d135_86 rfl (Nat.le_of_ble_eq_true rfl) rfl ?_
            refine mq_iload d135_87 rfl ?_
            refine mq_iload d135_89 rfl ?_
            refine zn_ior d135_91 ?_
            refine mq_istore d135_92 (Nat.le_of_ble_eq_true rfl) rfl ?_
            exact next _ _ _ _ (nwI_yes hP ⟨by omega, t1, t2⟩ (by omega)) (nwI_yes hQ ⟨by omega, t1, t2⟩ (by omega))
end sp_nw
