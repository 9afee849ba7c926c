/-- bit v of s as a number -/
def sB (s v : Nat) : Int := if s.testBit v = true then 1 else 0
theorem sB01 (s v : Nat) : sB s v = 0 ∨ sB s v = 1 := by
  unfold sB
  split
  · exact Or.inr rfl
  · exact Or.inl rfl
theorem cnt_mul {f : Nat → Int} {c : Int} : ∀ m : Nat, cnt (fun a => c * f a) m = c * cnt f m
  | 0 => by show (0 : Int) = c * 0; omega
  | m + 1 => by
    show cnt (fun a => c * f a) m + c * f m = c * (cnt f m + f m)
    rw [cnt_mul m, Int.mul_add]
theorem cnt_up {f : Nat → Int} {b : Int} : ∀ {m : Nat}, (∀ a, a < m → b ≤ f a) → b * m ≤ cnt f m
  | 0, _ => by show b * 0 ≤ 0; omega
  | m + 1, h => by
    have h1 := cnt_up (m := m) (fun a ha => h a (by omega))
    have h2 := h m (by omega)
    show _ ≤ cnt f m + f m
    rw [Int.natCast_add, Int.mul_add]
    omega
section zsb
variable {d : Nat} {b : ByteArray} {o rt mc ms : Nat} {post : Option mj_V → mj_H → Prop} {pc : Nat} {lv : mj_L} {st : List mj_V} {nn : Nat} {K : Nat → Nat × Nat} {σ : Nat → Nat → Int32} {ρ : Nat → Nat → Option Nat} {uc us : Nat}
theorem zn_sb {x : Nat} {z : Int} (e0 : decode b pc = .ok (.ishr, 1)) (e1 : decode b (pc + 1) = .ok (.iconst 1, 1)) (e2 : decode b (pc + 2) = .ok (.iand, 1)) (r : x < 2147483648 ∧ 0 ≤ z ∧ z < 32) (k : mj_W (mj_lv d) b o rt mc ms post (pc + 3) lv (.inl (iZ (sB x z.toNat)) :: st) (nn, K, σ, ρ) uc us) : mj_W (mj_lv d) b o rt mc ms post pc lv (.inl (iZ z) :: .inl (iZ (x : Int)) :: st) (nn, K, σ, ρ) uc us := by
  refine zn_shr e0 r (zq_iconst e1 (zn_and1 e2 ?_))
  rw [tb_div]
  unfold sB at k
  by_cases h : x.testBit z.toNat = true
  · rw [if_pos h] at k ⊢
    exact k
  · rw [if_neg h] at k ⊢
    exact k
end zsb
section sp_ml
variable {d : Nat} {post : Option mj_V → mj_H → Prop} {K : Nat → Nat × Nat} {ρ : Nat → Nat → Option Nat} {A : Nat → Nat → Int}
/-- arc a blocks a move of s by bb -/
def blk (A : Nat → Nat → Int) (s : Nat) (bb : Int) (a : Nat) : Prop := A 97 a = 1 ∧ bb * (sB s (A 101 a).toNat - sB s (A 100 a).toNat) < 0 ∧ A 99 (A 101 a).toNat - A 99 (A 100 a).toNat = 1
/-- what change answers -/
def chR (A : Nat → Nat → Int) (s : Nat) (bb c : Int) : Prop := (c = 100 ∧ ∃ a, a < (A 93 1).toNat ∧ blk A s bb a) ∨ ((∀ a, a < (A 93 1).toNat → ¬ blk A s bb a) ∧ c = bb * len (A 93 1).toNat (fun a => (A 100 a).toNat) (fun a => (A 101 a).toNat) (A 97) (sB s))
/-- the ends are nodes, the layers small -/
def lyOK (A : Nat → Nat → Int) : Prop := (0 ≤ A 93 0 ∧ A 93 0 ≤ 12) ∧ (0 ≤ A 93 1 ∧ A 93 1 ≤ 24) ∧ (∀ a : Nat, (a : Int) < A 93 1 → (0 ≤ A 100 a ∧ A 100 a < A 93 0) ∧ (0 ≤ A 101 a ∧ A 101 a < A 93 0) ∧ (A 97 a = 0 ∨ A 97 a = 1)) ∧ ∀ v : Nat, (v : Int) < A 93 0 → 0 ≤ A 99 v ∧ A 99 v ≤ 1000
set_option maxRecDepth 100000 in
theorem ch_loop (L : Lay K ρ) (hA : lyOK A) {s : Nat} (hs : s < 4096) {bb : Int} (hb : bb = 1 ∨ bb = -1) (k : ∀ c, chR A s bb c → post (some (.inl (iZ c))) (123, K, zs (A), ρ)) : ∀ (j i : Nat) (x5 : Option mj_V) (c : Int), (A 93 1).toNat - i < j → i ≤ (A 93 1).toNat → (∀ a, a < i → ¬ blk A s bb a) → c = cnt (fun a => bb * (if A 97 a = 1 then sB s (A 101 a).toNat - sB s (A 100 a).toNat else 0)) i → -(i : Int) ≤ c → c ≤ i → mj_W (mj_lv d) prog_11_method_13_code 9 1 0 0 post 5 [some (.inr (.inl (some 93))), some (.inl (iZ ((s : Int)))), some (.inl (iZ (bb))), some (.inl (iZ (c))), some (.inl (iZ ((i : Int)))), x5] [] (123, K, zs (A), ρ) 0 0
  | 0, i, _, _, h, _, _, _, _, _ => absurd h (by omega)
  | j + 1, i, x5, c, h, hi, hn, hc, c1, c2 => by
    obtain ⟨a1, a2, a3, a4⟩ := id hA
    refine mq_iload d37_5 rfl ?_
    refine mq_aload_n d37_7 rfl rfl ?_
    refine zg_getI L d37_8 rfl rfl (by decide) rfl ?_
    refine zq_icmp_ge (tgt := 103) d37_11 (by decide) (by omega) (by omega) (fun g => ?_) (fun g => ?_)
    · refine mq_iload_n d37_103 rfl rfl ?_
      refine zg_reti d37_104 rfl ?_
      have e : i = (A 93 1).toNat := by omega
      rw [e] at hn hc
      refine k c (Or.inr ⟨hn, ?_⟩)
      rw [hc, cnt_mul]
      rfl
    · have z := a3 i g
      have s1 := sB01 s (A 101 i).toNat
      have s2 := sB01 s (A 100 i).toNat
      have z4 := a4 (A 101 i).toNat (by omega)
      have z5 := a4 (A 100 i).toNat (by omega)
      have next : ∀ w : Int, w = bb * (if A 97 i = 1 then sB s (A 101 i).toNat - sB s (A 100 i).toNat else 0) → ¬ blk A s bb i → mj_W (mj_lv d) prog_11_method_13_code 9 1 0 0 post 92 [some (.inr (.inl (some 93))), some (.inl (iZ ((s : Int)))), some (.inl (iZ (bb))), some (.inl (iZ (c))), some (.inl (iZ ((i : Int)))), some (.inl (iZ (w)))] [] (123, K, zs (A), ρ) 0 0 := fun w hw hbk => by
        refine mq_iload_n d37_92 rfl rfl ?_
        refine mq_iload d37_93 rfl ?_
        refine zq_iadd d37_95 ?_
        refine mq_istore_n d37_96 rfl (Nat.le_of_ble_eq_true rfl) rfl ?_
        refine zq_iinc d37_97 rfl rfl ?_
        refine mq_goto (tgt := 5) d37_100 (by decide) ?_
        have hw2 : -1 ≤ w ∧ w ≤ 1 := by
          rw [hw]
          split
          · rcases hb with e | e <;> rw [e] <;> omega
          · omega
        refine ch_loop L hA hs hb k j (i + 1) _ (c + w) (by omega) (by omega) (fun a ha => ?_) ?_ (by omega) (by omega)
        · by_cases q : a = i
          · rw [q]
            exact hbk
          · exact hn a (by omega)
        · rw [hc, hw]
          rfl
      refine mq_aload_n d37_14 rfl rfl ?_
      refine zg_getR L 97 d37_15 rfl rfl (by decide) rfl (by decide) rfl ?_
      refine mq_iload d37_18 rfl ?_
      refine zg_zaldN L d37_20 (by decide) rfl (by omega) ?_
      refine zq_if_eq (tgt := 52) d37_21 (by decide) (by omega) (fun g2 => ?_) (fun g2 => ?_)
      · refine zq_iconst d37_52 ?_
        refine mq_istore d37_53 (Nat.le_of_ble_eq_true rfl) rfl ?_
        refine mq_iload d37_55 rfl ?_
        refine zq_if_ge (tgt := 92) d37_57 (by decide) (by omega) (fun g3 => ?_) (fun g3 => absurd g3 (by omega))
        exact next 0 (by rw [if_neg (by omega)]; omega) (fun q => by have := q.1; omega)
      · refine mq_iload_n d37_24 rfl rfl ?_
        refine mq_iload_n d37_25 rfl rfl ?_
        refine mq_aload_n d37_26 rfl rfl ?_
        refine zg_getR L 101 d37_27 rfl rfl (by decide) rfl (by decide) rfl ?_
        refine mq_iload d37_30 rfl ?_
        refine zg_ialdN L d37_32 (by decide) rfl (by omega) ?_
        refine zn_sb d37_33 d37_34 d37_35 (by omega) ?_
        refine mq_iload_n d37_36 rfl rfl ?_
        refine mq_aload_n d37_37 rfl rfl ?_
        refine zg_getR L 100 d37_38 rfl rfl (by decide) rfl (by decide) rfl ?_
        refine mq_iload d37_41 rfl ?_
        refine zg_ialdN L d37_43 (by decide) rfl (by omega) ?_
        refine zn_sb d37_44 d37_45 d37_46 (by omega) ?_
        refine zq_isub d37_47 ?_
        refine zq_imul d37_48 ?_
        refine mq_goto (tgt := 53) d37_49 (by decide) ?_
        refine mq_istore d37_53 (Nat.le_of_ble_eq_true rfl) rfl ?_
        refine mq_iload d37_55 rfl ?_
        have hw2 : -1 ≤ bb * (sB s (A 101 i).toNat - sB s (A 100 i).toNat) ∧ bb * (sB s (A 101 i).toNat - sB s (A 100 i).toNat) ≤ 1 := by
          rcases hb with e | e <;> rw [e] <;> omega
        have e97 : A 97 i = 1 := by omega
        refine zq_if_ge (tgt := 92) d37_57 (by decide) (by omega) (fun g3 => ?_) (fun g3 => ?_)
        · exact next _ (by rw [if_pos e97]) (fun q => by have := q.2.1; omega)
        · refine mq_aload_n d37_60 rfl rfl ?_
          refine zg_getR L 99 d37_61 rfl rfl (by decide) rfl (by decide) rfl ?_
          refine mq_aload_n d37_64 rfl rfl ?_
          refine zg_getR L 101 d37_65 rfl rfl (by decide) rfl (by decide) rfl ?_
          refine mq_iload d37_68 rfl ?_
          refine zg_ialdN L d37_70 (by decide) rfl (by omega) ?_
          refine zg_iald L d37_71 (by decide) rfl (by omega) ?_
          refine mq_aload_n d37_72 rfl rfl ?_
          refine zg_getR L 99 d37_73 rfl rfl (by decide) rfl (by decide) rfl ?_
          refine mq_aload_n d37_76 rfl rfl ?_
          refine zg_getR L 100 d37_77 rfl rfl (by decide) rfl (by decide) rfl ?_
          refine mq_iload d37_80 rfl ?_
          refine zg_ialdN L d37_82 (by decide) rfl (by omega) ?_
          refine zg_iald L d37_83 (by decide) rfl (by omega) ?_
          refine zq_isub d37_84 ?_
          refine zq_iconst d37_85 ?_
          refine zq_icmp_ne (tgt := 92) d37_86 (by decide) (by omega) (by omega) (fun g4 => ?_) (fun g4 => ?_)
          · exact next _ (by rw [if_pos e97]) (fun q => by have := q.2.2; omega)
          · refine zq_bipush d37_89 rfl ?_
            refine zg_reti d37_91 rfl ?_
            exact k 100 (Or.inl ⟨rfl, i, by omega, e97, g3, g4⟩)
set_option maxRecDepth 100000 in
theorem s_change (L : Lay K ρ) (hA : lyOK A) {s : Nat} (hs : s < 4096) {bb : Int} (hb : bb = 1 ∨ bb = -1) (k : ∀ c, chR A s bb c → post (some (.inl (iZ c))) (123, K, zs (A), ρ)) : mj_lv (d + 1) m_Mod_change [.inr (.inl (some 93)), .inl (iZ (s : Int)), .inl (iZ bb)] (123, K, zs (A), ρ) post := by
  show mj_W (mj_lv d) prog_11_method_13_code 9 1 0 0 post 0 [some (.inr (.inl (some 93))), some (.inl (iZ ((s : Int)))), some (.inl (iZ (bb))), none, none, none] [] (123, K, zs (A), ρ) 0 0
  refine zq_iconst d37_0 ?_
  refine mq_istore_n d37_1 rfl (Nat.le_of_ble_eq_true rfl) rfl ?_
  refine zq_iconst d37_2 ?_
  refine mq_istore d37_3 (Nat.le_of_ble_eq_true rfl) rfl ?_
  exact ch_loop L hA hs hb k ((A 93 1).toNat + 1) 0 none 0 (by omega) (by omega) (fun a h => absurd h (by omega)) rfl (by omega) (by omega)
set_option maxRecDepth 100000 in
theorem ia_loop (L : Lay K ρ) (hA : lyOK A) {s : Nat} (hs : s < 4096) (k1 : (∀ v, v < (A 93 0).toNat → sB s v = 1 → A 99 v ≠ 0) → post (some (.inl (iZ 1))) (123, K, zs (A), ρ)) (k0 : (∃ v, v < (A 93 0).toNat ∧ sB s v = 1 ∧ A 99 v = 0) → post (some (.inl (iZ 0))) (123, K, zs (A), ρ)) : ∀ (j i : Nat), (A 93 0).toNat - i < j → i ≤ (A 93 0).toNat → (∀ v, v < i → sB s v = 1 → A 99 v ≠ 0) → mj_W (mj_lv d) prog_11_method_14_code 9 2 0 0 post 2 [some (.inr (.inl (some 93))), some (.inl (iZ ((s : Int)))), some (.inl (iZ ((i : Int))))] [] (123, K, zs (A), ρ) 0 0
  | 0, i, h, _, _ => absurd h (by omega)
  | j + 1, i, h, hi, hn => by
    obtain ⟨a1, a2, a3, a4⟩ := id hA
    refine mq_iload_n d38_2 rfl rfl ?_
    refine mq_aload_n d38_3 rfl rfl ?_
    refine zg_getI L d38_4 rfl rfl (by decide) rfl ?_
    refine zq_icmp_ge (tgt := 36) d38_7 (by decide) (by omega) (by omega) (fun g => ?_) (fun g => ?_)
    · refine zq_iconst d38_36 ?_
      refine zg_retz d38_37 rfl (by decide) ?_
      have e : i = (A 93 0).toNat := by omega
      rw [e] at hn
      exact k1 hn
    · have z := a4 i g
      have s1 := sB01 s i
      have next : (sB s i = 1 → A 99 i ≠ 0) → mj_W (mj_lv d) prog_11_method_14_code 9 2 0 0 post 30 [some (.inr (.inl (some 93))), some (.inl (iZ ((s : Int)))), some (.inl (iZ ((i : Int))))] [] (123, K, zs (A), ρ) 0 0 := fun q => by
        refine zq_iinc d38_30 rfl rfl ?_
        refine mq_goto (tgt := 2) d38_33 (by decide) ?_
        refine ia_loop L hA hs k1 k0 j (i + 1) (by omega) (by omega) (fun v hv => ?_)
        by_cases e : v = i
        · rw [e]
          exact q
        · exact hn v (by omega)
      refine mq_iload_n d38_10 rfl rfl ?_
      refine mq_iload_n d38_11 rfl rfl ?_
      refine zn_sb d38_12 d38_13 d38_14 (by omega) ?_
      rw [Int.toNat_natCast]
      refine zq_iconst d38_15 ?_
      refine zq_icmp_ne (tgt := 30) d38_16 (by decide) (by omega) (by omega) (fun g2 => ?_) (fun g2 => ?_)
      · exact next (fun q => absurd q g2)
      · refine mq_aload_n d38_19 rfl rfl ?_
        refine zg_getR L 99 d38_20 rfl rfl (by decide) rfl (by decide) rfl ?_
        refine mq_iload_n d38_23 rfl rfl ?_
        refine zg_ialdN L d38_24 (by decide) rfl (by omega) ?_
        refine zq_if_ne (tgt := 30) d38_25 (by decide) (by omega) (fun g3 => ?_) (fun g3 => ?_)
        · exact next (fun _ => g3)
        · refine zq_iconst d38_28 ?_
          refine zg_retz d38_29 rfl (by decide) ?_
          exact k0 ⟨i, by omega, g2, g3⟩
set_option maxRecDepth 100000 in
theorem s_isAbove (L : Lay K ρ) (hA : lyOK A) {s : Nat} (hs : s < 4096) (k1 : (∀ v, v < (A 93 0).toNat → sB s v = 1 → A 99 v ≠ 0) → post (some (.inl (iZ 1))) (123, K, zs (A), ρ)) (k0 : (∃ v, v < (A 93 0).toNat ∧ sB s v = 1 ∧ A 99 v = 0) → post (some (.inl (iZ 0))) (123, K, zs (A), ρ)) : mj_lv (d + 1) m_Mod_isAbove [.inr (.inl (some 93)), .inl (iZ (s : Int))] (123, K, zs (A), ρ) post := by
  show mj_W (mj_lv d) prog_11_method_14_code 9 2 0 0 post 0 [some (.inr (.inl (some 93))), some (.inl (iZ ((s : Int)))), none] [] (123, K, zs (A), ρ) 0 0
  refine zq_iconst d38_0 ?_
  refine mq_istore_n d38_1 rfl (Nat.le_of_ble_eq_true rfl) rfl ?_
  exact ia_loop L hA hs k1 k0 ((A 93 0).toNat + 1) 0 (by omega) (by omega) (fun a h => absurd h (by omega))
/-- A, but the first i nodes of s moved by bb -/
def mvA (A : Nat → Nat → Int) (s : Nat) (bb : Int) (i : Nat) : Nat → Nat → Int := fun c v => if c = 99 ∧ v < i then A 99 v + sB s v * bb else A c v
theorem mvA_s {s : Nat} {bb : Int} {i : Nat} : mj_u2 (mvA A s bb i) 99 i (A 99 i + sB s i * bb) = mvA A s bb (i + 1) := by
  funext c v
  rw [u2_at]
  unfold mvA
  by_cases h : c = 99 ∧ v = i
  · rw [if_pos h, if_pos (by omega), h.2]
  · rw [if_neg h]
    by_cases h2 : c = 99 ∧ v < i
    · rw [if_pos h2, if_pos (by omega)]
    · rw [if_neg h2, if_neg (by omega)]
theorem mvA_c {s : Nat} {bb : Int} {i c : Nat} (h : c ≠ 99) : mvA A s bb i c = A c := by
  funext v
  unfold mvA
  rw [if_neg (fun q => h q.1)]
set_option maxRecDepth 100000 in
theorem mv_loop (L : Lay K ρ) (hn : 0 ≤ A 93 0 ∧ A 93 0 ≤ 12) {s : Nat} (hs : s < 4096) {bb : Int} (k : post none (123, K, zs (mvA A s bb (A 93 0).toNat), ρ)) : ∀ (j i : Nat), (A 93 0).toNat - i < j → i ≤ (A 93 0).toNat → mj_W (mj_lv d) prog_11_method_15_code 9 0 0 0 post 2 [some (.inr (.inl (some 93))), some (.inl (iZ ((s : Int)))), some (.inl (iZ (bb))), some (.inl (iZ ((i : Int))))] [] (123, K, zs (mvA A s bb i), ρ) 0 0
  | 0, i, h, _ => absurd h (by omega)
  | j + 1, i, h, hi => by
    refine mq_iload_n d39_2 rfl rfl ?_
    refine mq_aload_n d39_3 rfl rfl ?_
    refine zg_getIe L (A 93 0) d39_4 rfl rfl (by decide) rfl (by rw [mvA_c (by decide)]) ?_
    refine zq_icmp_ge (tgt := 39) d39_7 (by decide) (by omega) (by omega) (fun g => ?_) (fun g => ?_)
    · refine zg_retv d39_39 (by decide) ?_
      have e : i = (A 93 0).toNat := by omega
      rw [e]
      exact k
    · have s1 := sB01 s i
      have next : ∀ w : Int, w = sB s i * bb → mj_W (mj_lv d) prog_11_method_15_code 9 0 0 0 post 31 [some (.inr (.inl (some 93))), some (.inl (iZ ((s : Int)))), some (.inl (iZ (bb))), some (.inl (iZ ((i : Int))))] [.inl (iZ w), .inl (iZ (mvA A s bb i 99 i)), .inl (iZ (i : Int)), .inr (.inl (some 99))] (123, K, zs (mvA A s bb i), ρ) 0 0 := fun w hw => by
        refine zq_iadd d39_31 ?_
        refine zg_iastN L d39_32 (by decide) rfl (by omega) ?_
        rw [hw, show mvA A s bb i 99 i = A 99 i by unfold mvA; rw [if_neg (by omega)], mvA_s]
        refine zq_iinc d39_33 rfl rfl ?_
        refine mq_goto (tgt := 2) d39_36 (by decide) ?_
        exact mv_loop L hn hs k j (i + 1) (by omega) (by omega)
      refine mq_aload_n d39_10 rfl rfl ?_
      refine zg_getR L 99 d39_11 rfl rfl (by decide) rfl (by decide) rfl ?_
      refine mq_iload_n d39_14 rfl rfl ?_
      refine mq_dup2 d39_15 rfl rfl ?_
      refine zg_ialdN L d39_16 (by decide) rfl (by omega) ?_
      refine mq_iload_n d39_17 rfl rfl ?_
      refine mq_iload_n d39_18 rfl rfl ?_
      refine zn_sb d39_19 d39_20 d39_21 (by omega) ?_
      rw [Int.toNat_natCast]
      refine zq_iconst d39_22 ?_
      refine zq_icmp_ne (tgt := 30) d39_23 (by decide) (by omega) (by omega) (fun g2 => ?_) (fun g2 => ?_)
      · refine zq_iconst d39_30 ?_
        exact next 0 (by rw [show sB s i = 0 by omega]; omega)
      · refine mq_iload_n d39_26 rfl rfl ?_
        refine mq_goto (tgt := 31) d39_27 (by decide) ?_
        exact next bb (by rw [g2]; omega)
set_option maxRecDepth 100000 in
theorem s_move (L : Lay K ρ) (hn : 0 ≤ A 93 0 ∧ A 93 0 ≤ 12) {s : Nat} (hs : s < 4096) {bb : Int} (k : post none (123, K, zs (mvA A s bb (A 93 0).toNat), ρ)) : mj_lv (d + 1) m_Mod_move [.inr (.inl (some 93)), .inl (iZ (s : Int)), .inl (iZ bb)] (123, K, zs (A), ρ) post := by
  show mj_W (mj_lv d) prog_11_method_15_code 9 0 0 0 post 0 [some (.inr (.inl (some 93))), some (.inl (iZ ((s : Int)))), some (.inl (iZ (bb))), none] [] (123, K, zs (A), ρ) 0 0
  refine zq_iconst d39_0 ?_
  refine mq_istore_n d39_1 rfl (Nat.le_of_ble_eq_true rfl) rfl ?_
  have := mv_loop (d := d) L hn hs k ((A 93 0).toNat + 1) 0 (by omega) (by omega)
  rw [show mvA A s bb 0 = A by funext c v; unfold mvA; rw [if_neg (by omega)]] at this
  exact this
end sp_ml
