section zr_sbs
variable {d : Nat} {b : ByteArray} {o rt mc ms : Nat} {post : Option mj_V → mj_H → Prop} {pc : Nat} {lv : mj_L} {st : List mj_V} {K : Nat → Nat × Nat} {A : Nat → Nat → Int} {ρ : Nat → Nat → Option Nat} {uc us : Nat}
theorem zr_sb {x z : Nat} (e0 : decode b pc = .ok (.ishr, 1)) (e1 : decode b (pc + 1) = .ok (.iconst 1, 1)) (e2 : decode b (pc + 2) = .ok (.iand, 1)) (r : x < 2147483648 ∧ z < 32) (k : mj_W (mj_lv d) b o rt mc ms post (pc + 3) lv (.inl (iZ (sB x z)) :: st) (123, K, zs A, ρ) uc us) : mj_W (mj_lv d) b o rt mc ms post pc lv (.inl (iZ (z : Nat)) :: .inl (iZ (x : Nat)) :: st) (123, K, zs A, ρ) uc us := zn_sb e0 e1 e2 (by omega) (by rw [Int.toNat_natCast]; exact k)
end zr_sbs
def hideQ (p : Prop) : Prop := True ∧ p
section sp_tc
variable {d : Nat} {post : Option mj_V → mj_H → Prop} {K : Nat → Nat × Nat} {ρ : Nat → Nat → Option Nat} {A : Nat → Nat → Int} {n m : Nat} {fr to : Nat → Nat} {th w : Nat → Int} {dp : Nat → Nat}
set_option maxRecDepth 100000 in
theorem s_floorDiv {a : Int} (ra : 0 ≤ a ∧ a < 1000000) (kk : post (some (.inl (iZ (a / 4)))) (123, K, zs (A), ρ)) : mj_lv (d + 1) m_Math_floorDiv [.inl (iZ a), .inl (iZ 4)] (123, K, zs (A), ρ) post := by
  have hx : (a.toNat ^^^ (4 : Int).toNat) < 2 ^ 31 := Nat.xor_lt_two_pow (by omega) (by decide)
  show mj_W (mj_lv d) prog_12_method_47_code 11 1 0 0 post 0 [some (.inl (iZ (a))), some (.inl (iZ (4))), none] [] (123, K, zs (A), ρ) 0 0
  refine mq_iload_n d140_0 rfl rfl ?_
  refine mq_iload_n d140_1 rfl rfl ?_
  refine zr_idiv d140_2 (by omega) (by omega) ?_
  refine mq_istore_n d140_3 rfl (Nat.le_of_ble_eq_true rfl) rfl ?_
  refine mq_iload_n d140_4 rfl rfl ?_
  refine mq_iload_n d140_5 rfl rfl ?_
  refine zb_ixor d140_6 (by omega) ?_
  refine zq_if_ge (tgt := 21) d140_7 (by decide) (by omega) (fun g => ?_) (fun g => ?_)
  · refine mq_iload_n d140_21 rfl rfl ?_
    refine zg_reti d140_22 rfl ?_
    exact kk
  · omega
/-- the graph as the tree has it -/
def tgC (A : Nat → Nat → Int) (n m : Nat) (fr to : Nat → Nat) (th w : Nat → Int) : Prop := A 1 4 = (n : Nat) ∧ A 1 5 = (m : Nat) ∧ n ≤ 12 ∧ m ≤ 24 ∧ (∀ a, a < m → (A 3 a = (fr a : Nat) ∧ A 4 a = (to a : Nat)) ∧ (fr a < n ∧ to a < n) ∧ A 5 a = th a ∧ (th a = 0 ∨ th a = 1)) ∧ ∀ v, v < n → A 2 v = w v ∧ 1 ≤ w v ∧ w v ≤ 9
theorem tgC_eo {B : Nat → Nat → Int} (h : tgC A n m fr to th w) (e : ∀ c, c < 6 → c ≠ 0 → B c = A c) : tgC B n m fr to th w := by
  unfold tgC at *
  rw [e 1 (by decide) (by decide), e 2 (by decide) (by decide), e 3 (by decide) (by decide), e 4 (by decide) (by decide), e 5 (by decide) (by decide)]
  exact h
set_option maxRecDepth 100000 in
theorem lm_1 (L : Lay K ρ) {S : Nat} (hn : n ≤ 12) (hS : S < 2147483648) (hT : ∀ u, u < n → sB S u = 1 → -100000 ≤ A 89 u ∧ A 89 u ≤ 100000)
    (kk : ∀ v, (∀ u, u < n → sB S u = 1 → v ≤ A 89 u) → ((v = 2147483647 ∧ ∀ u, u < n → sB S u ≠ 1) ∨ ∃ u, u < n ∧ sB S u = 1 ∧ v = A 89 u) → post (some (.inl (iZ v))) (123, K, zs (A), ρ)) : ∀ (j i : Nat) (v : Int), n - i < j → i ≤ n → (∀ u, u < i → sB S u = 1 → v ≤ A 89 u) → ((v = 2147483647 ∧ ∀ u, u < i → sB S u ≠ 1) ∨ ∃ u, u < i ∧ sB S u = 1 ∧ v = A 89 u) → (-100000 ≤ v ∧ v ≤ 2147483647) → mj_W (mj_lv d) prog_8_method_8_code 6 1 0 0 post 6 [some (.inr (.inl (some 88))), some (.inl (iZ ((n : Nat)))), some (.inl (iZ ((S : Nat)))), some (.inl (iZ (v))), some (.inl (iZ ((i : Nat))))] [] (123, K, zs (A), ρ) 0 0
  | 0, i, _, hj, _, _, _, _ => absurd hj (by omega)
  | j + 1, i, v, hj, hi, h1, h2, rv => by
    have m0 : i < n → n - (i + 1) < j := by omega
    have sb := sB01 S i
    refine mq_iload d129_6 rfl ?_
    refine mq_iload_n d129_8 rfl rfl ?_
    refine zq_icmp_ge (tgt := 39) d129_9 (by decide) (by omega) (by omega) (fun g1 => ?_) (fun g1 => ?_)
    · have e : i = n := by omega
      subst e
      refine mq_iload_n d129_39 rfl rfl ?_
      refine zg_reti d129_40 rfl ?_
      exact kk v h1 h2
    · have hin : i < n := by omega
      refine mq_iload_n d129_12 rfl rfl ?_
      refine mq_iload d129_13 rfl ?_
      refine zr_sb d129_15 d129_16 d129_17 (by omega) ?_
      refine zq_if_eq (tgt := 33) d129_18 (by decide) (by omega) (fun g2 => ?_) (fun g2 => ?_)
      · refine zq_iinc d129_33 rfl rfl ?_
        refine mq_goto (tgt := 6) d129_36 (by decide) ?_
        refine lm_1 L hn hS hT kk j (i + 1) v (m0 hin) hin (fun u hu q => ?_) ?_ rv
        · by_cases e : u = i
          · rw [e, g2] at q
            exact absurd q (by decide)
          · exact h1 u (by omega) q
        · rcases h2 with ⟨a1, a2⟩ | ⟨u, a1, a2⟩
          · refine Or.inl ⟨a1, fun u hu => ?_⟩
            by_cases e : u = i
            · rw [e, g2]
              decide
            · exact a2 u (by omega)
          · exact Or.inr ⟨u, by omega, a2⟩
      · have s1 : sB S i = 1 := by
          rcases sb with q | q
          · exact absurd q g2
          · exact q
        have rT := hT i hin s1
        have h2' : hideQ ((v = 2147483647 ∧ ∀ u, u < i → sB S u ≠ 1) ∨ ∃ u, u < i ∧ sB S u = 1 ∧ v = A 89 u) := ⟨trivial, h2⟩
        clear h2
        refine mq_iload_n d129_21 rfl rfl ?_
        refine mq_aload_n d129_22 rfl rfl ?_
        refine zg_getR L 89 d129_23 rfl rfl (by decide) rfl (by decide) rfl ?_
        refine mq_iload d129_26 rfl ?_
        refine zg_ialdN L d129_28 (by decide) rfl (by omega) ?_
        refine zr_min d129_29 rfl rfl (by omega) (by omega) ?_
        refine mq_istore_n d129_32 rfl (Nat.le_of_ble_eq_true rfl) rfl ?_
        refine zq_iinc d129_33 rfl rfl ?_
        refine mq_goto (tgt := 6) d129_36 (by decide) ?_
        refine lm_1 L hn hS hT kk j (i + 1) _ (m0 hin) hin (fun u hu q => ?_) ?_ ?_
        · by_cases e : u = i
          · rw [e]
            split <;> omega
          · have := h1 u (by omega) q
            split <;> omega
        · right
          by_cases e : A 89 i < v
          · rw [if_pos e]
            exact ⟨i, by omega, s1, rfl⟩
          · rw [if_neg e]
            rcases h2'.2 with ⟨a1, a2⟩ | ⟨u, a1, a2⟩
            · omega
            · exact ⟨u, by omega, a2⟩
        · split <;> omega
set_option maxRecDepth 100000 in
theorem s_leftmost (L : Lay K ρ) {S : Nat} (hn : n ≤ 12) (hS : S < 2147483648) (hT : ∀ u, u < n → sB S u = 1 → -100000 ≤ A 89 u ∧ A 89 u ≤ 100000)
    (kk : ∀ v, (∀ u, u < n → sB S u = 1 → v ≤ A 89 u) → ((v = 2147483647 ∧ ∀ u, u < n → sB S u ≠ 1) ∨ ∃ u, u < n ∧ sB S u = 1 ∧ v = A 89 u) → post (some (.inl (iZ v))) (123, K, zs (A), ρ)) : mj_lv (d + 1) m_Tree_leftmost [.inr (.inl (some 88)), .inl (iZ (n : Nat)), .inl (iZ (S : Nat))] (123, K, zs (A), ρ) post := by
  show mj_W (mj_lv d) prog_8_method_8_code 6 1 0 0 post 0 [some (.inr (.inl (some 88))), some (.inl (iZ ((n : Nat)))), some (.inl (iZ ((S : Nat)))), none, none] [] (123, K, zs (A), ρ) 0 0
  refine zr_ldc (2147483647) d129_0 (by decide) ?_
  refine mq_istore_n d129_2 rfl (Nat.le_of_ble_eq_true rfl) rfl ?_
  refine zq_iconst d129_3 ?_
  refine mq_istore d129_4 (Nat.le_of_ble_eq_true rfl) rfl ?_
  exact lm_1 L hn hS hT kk (n + 1) 0 _ (by omega) (by omega) (fun u hu => absurd hu (by omega)) (Or.inl ⟨rfl, fun u hu => absurd hu (by omega)⟩) (by decide)
/-- a value under way to the most -/
def sbI (n : Nat) (w : Nat → Int) (dp : Nat → Nat) (T : Nat → Int) (O S : Nat) (D : Nat → Nat → Prop) (v : Int) : Prop := (∀ u, u < n → sB S u = 1 → -T u ≤ v) ∧ (∀ a b, a < n → b < n → D a b → sB O a = 1 → sB S b = 1 → dp a = dp b → T a + w a + 1 - T b ≤ v) ∧ ((∃ u, u < n ∧ sB S u = 1 ∧ v = -T u) ∨ ∃ a b, a < n ∧ b < n ∧ sB O a = 1 ∧ sB S b = 1 ∧ dp a = dp b ∧ v = T a + w a + 1 - T b)
theorem sbI_no {T : Nat → Int} {O S : Nat} {D D2 : Nat → Nat → Prop} {v : Int} (h : sbI n w dp T O S D v) (hD : ∀ a b, D2 a b → D a b ∨ ¬ (sB O a = 1 ∧ sB S b = 1 ∧ dp a = dp b)) : sbI n w dp T O S D2 v := ⟨h.1, fun a b h1 h2 h3 h4 h5 h6 => by
  rcases hD a b h3 with q | q
  · exact h.2.1 a b h1 h2 q h4 h5 h6
  · exact absurd ⟨h4, h5, h6⟩ q, h.2.2⟩
theorem sbI_no2 {T : Nat → Int} {O S v : Nat} {x : Int} (h : sbI n w dp T O S (fun a b => b < v ∨ (b = v ∧ a < n)) x) : sbI n w dp T O S (fun a b => b < v + 1) x := ⟨h.1, fun a b h1 h2 h3 h4 h5 h6 => h.2.1 a b h1 h2 (by omega) h4 h5 h6, h.2.2⟩
theorem sbI_yes {T : Nat → Int} {O S : Nat} {D D2 : Nat → Nat → Prop} {v v2 : Int} {a0 b0 : Nat} (ha : a0 < n) (hb : b0 < n) (h4 : sB O a0 = 1) (h5 : sB S b0 = 1) (h6 : dp a0 = dp b0) (h : sbI n w dp T O S D v) (hD : ∀ a b, D2 a b → D a b ∨ (a = a0 ∧ b = b0)) (hv : v2 = if v < T a0 + w a0 + 1 - T b0 then T a0 + w a0 + 1 - T b0 else v) : sbI n w dp T O S D2 v2 := by
  have ge : v ≤ v2 ∧ T a0 + w a0 + 1 - T b0 ≤ v2 := by
    rw [hv]
    split <;> omega
  refine ⟨fun u h1 h2 => ?_, fun a b h1 h2 h3 h4 h5 h6 => ?_, ?_⟩
  · have := h.1 u h1 h2
    omega
  · rcases hD a b h3 with q | q
    · have := h.2.1 a b h1 h2 q h4 h5 h6
      omega
    · rw [q.1, q.2]
      exact ge.2
  · rw [hv]
    by_cases e : v < T a0 + w a0 + 1 - T b0
    · rw [if_pos e]
      exact Or.inr ⟨a0, b0, ha, hb, h4, h5, h6, rfl⟩
    · rw [if_neg e]
      exact h.2.2
theorem sbI_rng {T : Nat → Int} {O S : Nat} {D : Nat → Nat → Prop} {v : Int} (h : sbI n w dp T O S D v) (hS : ∀ u, u < n → sB S u = 1 → -1000 ≤ T u ∧ T u ≤ 1000) (hO : ∀ u, u < n → sB O u = 1 → -1000 ≤ T u ∧ T u ≤ 1000) (hw : ∀ u, u < n → 1 ≤ w u ∧ w u ≤ 9) : -3000 ≤ v ∧ v ≤ 3000 := by
  rcases h.2.2 with ⟨u, h1, h2, h3⟩ | ⟨a, b, h1, h2, h3, h4, h5, h6⟩
  · have := hS u h1 h2
    omega
  · have a1 := hO a h1 h3
    have a2 := hS b h2 h4
    have a3 := hw a h1
    omega
section sb
variable {O S : Nat}
set_option maxRecDepth 100000 in
theorem tbs_1 (L : Lay K ρ) (hG : tgC A n m fr to th w) (h91 : ∀ u, u < n → A 91 u = (dp u : Nat) ∧ dp u < 12) (hO : O < 2147483648) (hS : S < 2147483648) (rS : ∀ u, u < n → sB S u = 1 → -1000 ≤ A 89 u ∧ A 89 u ≤ 1000) (rO : ∀ u, u < n → sB O u = 1 → -1000 ≤ A 89 u ∧ A 89 u ≤ 1000) {v : Nat} (hv : v < n)
    (kk : ∀ x x6 x7, sbI n w dp (A 89) O S (fun a b => b < v + 1) x → (∀ y, x7 = some y → ∃ w, y = .inl w) → mj_W (mj_lv (d + 1)) prog_8_method_7_code 6 1 0 0 post 121 [some (.inr (.inl (some 88))), some (.inr (.inl (some 1))), some (.inl (iZ ((O : Nat)))), some (.inl (iZ ((S : Nat)))), some (.inl (iZ (x))), some (.inl (iZ ((v : Nat)))), some (.inl x6), x7] [] (123, K, zs (A), ρ) 0 0) : ∀ (j u : Nat) (x : Int) (x7 : Option mj_V), n - u < j → u ≤ n → (∀ y, x7 = some y → ∃ w, y = .inl w) → sbI n w dp (A 89) O S (fun a b => b < v ∨ (b = v ∧ a < u)) x → mj_W (mj_lv (d + 1)) prog_8_method_7_code 6 1 0 0 post 27 [some (.inr (.inl (some 88))), some (.inr (.inl (some 1))), some (.inl (iZ ((O : Nat)))), some (.inl (iZ ((S : Nat)))), some (.inl (iZ (x))), some (.inl (iZ ((v : Nat)))), some (.inl (iZ ((u : Nat)))), x7] [] (123, K, zs (A), ρ) 0 0
  | 0, u, _, _, hj, _, _, _ => absurd hj (by omega)
  | j + 1, u, x, x7, hj, hu, hx7, hI => by
    obtain ⟨q1, q2, q3, q4, q5, q6⟩ := id hG
    have rx := sbI_rng hI rS rO (fun u hu => (q6 u hu).2)
    have m0 : u < n → n - (u + 1) < j := by omega
    have hI' : hideQ (sbI n w dp (A 89) O S (fun a b => b < v ∨ (b = v ∧ a < u)) x) := ⟨trivial, hI⟩
    clear hI
    refine mq_iload d128_27 rfl ?_
    refine mq_aload_n d128_29 rfl rfl ?_
    refine zg_getIe L ((n : Nat)) d128_30 rfl rfl (by decide) rfl (q1) ?_
    refine zq_icmp_ge (tgt := 121) d128_33 (by decide) (by omega) (by omega) (fun g1 => ?_) (fun g1 => ?_)
    · have e : u = n := by omega
      subst e
      exact kk x _ x7 (sbI_no2 hI'.2) hx7
    · have hun : u < n := by omega
      obtain ⟨d1, d2⟩ := h91 u hun
      obtain ⟨d3, d4⟩ := h91 v hv
      obtain ⟨w1, w2, w3⟩ := q6 u hun
      have st7 : mj_ok [some (.inr (.inl (some 88))), some (.inr (.inl (some 1))), some (.inl (iZ ((O : Nat)))), some (.inl (iZ ((S : Nat)))), some (.inl (iZ (x))), some (.inl (iZ ((v : Nat)))), some (.inl (iZ ((u : Nat)))), x7] 7 = true := by
        cases x7 with
        | none => rfl
        | some y =>
          obtain ⟨w, rfl⟩ := hx7 y rfl
          rfl
      have s1 := sB01 S v
      have s2 := sB01 O u
      have next : ∀ x2 y7, sbI n w dp (A 89) O S (fun a b => b < v ∨ (b = v ∧ a < u + 1)) x2 → mj_W (mj_lv (d + 1)) prog_8_method_7_code 6 1 0 0 post 115 [some (.inr (.inl (some 88))), some (.inr (.inl (some 1))), some (.inl (iZ ((O : Nat)))), some (.inl (iZ ((S : Nat)))), some (.inl (iZ (x2))), some (.inl (iZ ((v : Nat)))), some (.inl (iZ ((u : Nat)))), some (.inl y7)] [] (123, K, zs (A), ρ) 0 0 := fun x2 y7 h2 => by
        refine zq_iinc d128_115 rfl rfl ?_
        refine mq_goto (tgt := 27) d128_118 (by decide) ?_
        exact tbs_1 L hG h91 hO hS rS rO hv kk j (u + 1) x2 _ (m0 hun) hun (fun y e => ⟨_, (Option.some.inj e).symm⟩) h2
      have no : ¬ (sB O u = 1 ∧ sB S v = 1 ∧ dp u = dp v) → sbI n w dp (A 89) O S (fun a b => b < v ∨ (b = v ∧ a < u + 1)) x := fun q => sbI_no hI'.2 (fun a b h => by
        by_cases e : b = v ∧ a = u
        · right
          rw [e.1, e.2]
          exact q
        · left
          omega)
      refine mq_aload_n d128_36 rfl rfl ?_
      refine zg_getR L 91 d128_37 rfl rfl (by decide) rfl (by decide) rfl ?_
      refine mq_iload d128_40 rfl ?_
      refine zr_ialdV L ((dp u : Nat)) d128_42 (by decide) rfl (by omega) (d1) ?_
      refine mq_aload_n d128_43 rfl rfl ?_
      refine zg_getR L 91 d128_44 rfl rfl (by decide) rfl (by decide) rfl ?_
      refine mq_iload d128_47 rfl ?_
      refine zr_ialdV L ((dp v : Nat)) d128_49 (by decide) rfl (by omega) (d3) ?_
      refine zq_icmp_ne (tgt := 57) d128_50 (by decide) (by omega) (by omega) (fun g2 => ?_) (fun g2 => ?_)
      · refine zq_iconst d128_57 ?_
        refine mq_istore d128_58 (Nat.le_of_ble_eq_true rfl) st7 ?_
        refine mq_iload d128_60 rfl ?_
        refine zq_if_eq (tgt := 115) d128_62 (by decide) (by omega) (fun g3 => ?_) (fun g3 => ?_)
        · exact next x _ (no (fun q => by omega))
        · exact absurd rfl g3
      · refine zq_iconst d128_53 ?_
        refine mq_goto (tgt := 58) d128_54 (by decide) ?_
        refine mq_istore d128_58 (Nat.le_of_ble_eq_true rfl) st7 ?_
        refine mq_iload d128_60 rfl ?_
        refine zq_if_eq (tgt := 115) d128_62 (by decide) (by omega) (fun g3 => ?_) (fun g3 => ?_)
        · exact absurd g3 (by decide)
        · refine mq_iload_n d128_65 rfl rfl ?_
          refine mq_iload d128_66 rfl ?_
          refine zr_sb d128_68 d128_69 d128_70 (by omega) ?_
          refine zq_if_eq (tgt := 115) d128_71 (by decide) (by omega) (fun g4 => ?_) (fun g4 => ?_)
          · exact next x _ (no (fun q => by omega))
          · refine mq_iload_n d128_74 rfl rfl ?_
            refine mq_iload d128_75 rfl ?_
            refine zr_sb d128_77 d128_78 d128_79 (by omega) ?_
            refine zq_if_eq (tgt := 115) d128_80 (by decide) (by omega) (fun g5 => ?_) (fun g5 => ?_)
            · exact next x _ (no (fun q => by omega))
            · have t1 : sB S v = 1 := by omega
              have t2 : sB O u = 1 := by omega
              have rv := rS v hv t1
              have ru := rO u hun t2
              refine mq_iload d128_83 rfl ?_
              refine mq_aload_n d128_85 rfl rfl ?_
              refine zg_getR L 89 d128_86 rfl rfl (by decide) rfl (by decide) rfl ?_
              refine mq_iload d128_89 rfl ?_
              refine zg_ialdN L d128_91 (by decide) rfl (by omega) ?_
              refine mq_aload_n d128_92 rfl rfl ?_
              refine zg_getR L 2 d128_93 rfl rfl (by decide) rfl (by decide) rfl ?_
              refine mq_iload d128_96 rfl ?_
              refine zr_ialdV L (w u) d128_98 (by decide) rfl (by omega) (w1) ?_
              refine zq_iadd d128_99 ?_
              refine zq_iconst d128_100 ?_
              refine zq_iadd d128_101 ?_
              refine mq_aload_n d128_102 rfl rfl ?_
              refine zg_getR L 89 d128_103 rfl rfl (by decide) rfl (by decide) rfl ?_
              refine mq_iload d128_106 rfl ?_
              refine zg_ialdN L d128_108 (by decide) rfl (by omega) ?_
              refine zq_isub d128_109 ?_
              refine zr_max d128_110 rfl rfl (by omega) (by omega) ?_
              refine mq_istore d128_113 (Nat.le_of_ble_eq_true rfl) rfl ?_
              refine next _ _ (sbI_yes hun hv t2 t1 (by omega) hI'.2 (fun a b h => ?_) rfl)
              by_cases e : b = v ∧ a = u
              · exact Or.inr ⟨e.2, e.1⟩
              · left
                omega
set_option maxRecDepth 100000 in
theorem tbs_2 (L : Lay K ρ) (hG : tgC A n m fr to th w) (h91 : ∀ u, u < n → A 91 u = (dp u : Nat) ∧ dp u < 12) (hO : O < 2147483648) (hS : S < 2147483648) (rS : ∀ u, u < n → sB S u = 1 → -1000 ≤ A 89 u ∧ A 89 u ≤ 1000) (rO : ∀ u, u < n → sB O u = 1 → -1000 ≤ A 89 u ∧ A 89 u ≤ 1000)
    (kk : ∀ x, rmX n w dp (A 89) O S x → post (some (.inl (iZ x))) (123, K, zs (A), ρ)) : ∀ (j v : Nat) (x : Int) (x6 x7 : Option mj_V), n - v < j → v ≤ n → (∀ y, x6 = some y → ∃ w, y = .inl w) → (∀ y, x7 = some y → ∃ w, y = .inl w) → sbI n w dp (A 89) O S (fun a b => b < v) x → mj_W (mj_lv (d + 1)) prog_8_method_7_code 6 1 0 0 post 15 [some (.inr (.inl (some 88))), some (.inr (.inl (some 1))), some (.inl (iZ ((O : Nat)))), some (.inl (iZ ((S : Nat)))), some (.inl (iZ (x))), some (.inl (iZ ((v : Nat)))), x6, x7] [] (123, K, zs (A), ρ) 0 0
  | 0, v, _, _, _, hj, _, _, _, _ => absurd hj (by omega)
  | j + 1, v, x, x6, x7, hj, hv, hx6, hx7, hI => by
    have q1 := hG.1
    have q3 := hG.2.2.1
    have m0 : v < n → n - (v + 1) < j := by omega
    have hI' : hideQ (sbI n w dp (A 89) O S (fun a b => b < v) x) := ⟨trivial, hI⟩
    clear hI
    refine mq_iload d128_15 rfl ?_
    refine mq_aload_n d128_17 rfl rfl ?_
    refine zg_getIe L ((n : Nat)) d128_18 rfl rfl (by decide) rfl (q1) ?_
    refine zq_icmp_ge (tgt := 127) d128_21 (by decide) (by omega) (by omega) (fun g1 => ?_) (fun g1 => ?_)
    · have e : v = n := by omega
      subst e
      refine mq_iload d128_127 rfl ?_
      refine zg_reti d128_129 rfl ?_
      exact kk x ⟨hI'.2.1, fun a b h1 h2 h4 h5 h6 => hI'.2.2.1 a b h1 h2 h2 h4 h5 h6, hI'.2.2.2⟩
    · have st6 : mj_ok [some (.inr (.inl (some 88))), some (.inr (.inl (some 1))), some (.inl (iZ ((O : Nat)))), some (.inl (iZ ((S : Nat)))), some (.inl (iZ (x))), some (.inl (iZ ((v : Nat)))), x6, x7] 6 = true := by
        cases x6 with
        | none => rfl
        | some y =>
          obtain ⟨w, rfl⟩ := hx6 y rfl
          rfl
      have hvn : v < n := by omega
      refine zq_iconst d128_24 ?_
      refine mq_istore d128_25 (Nat.le_of_ble_eq_true rfl) st6 ?_
      refine tbs_1 L hG h91 hO hS rS rO hvn (fun x2 y6 y7 h2 hy7 => ?_) (n + 1) 0 x x7 (by omega) (by omega) hx7 (sbI_no hI'.2 (fun a b h => Or.inl (by omega)))
      refine zq_iinc d128_121 rfl rfl ?_
      refine mq_goto (tgt := 15) d128_124 (by decide) ?_
      exact tbs_2 L hG h91 hO hS rS rO kk j (v + 1) x2 _ _ (m0 hvn) hvn (fun y e => ⟨_, (Option.some.inj e).symm⟩) hy7 h2
set_option maxRecDepth 100000 in
theorem s_shiftBehind (L : Lay K ρ) (hG : tgC A n m fr to th w) (h91 : ∀ u, u < n → A 91 u = (dp u : Nat) ∧ dp u < 12) (hO : O < 2147483648) (hS : S < 2147483648) (rS : ∀ u, u < n → sB S u = 1 → -1000 ≤ A 89 u ∧ A 89 u ≤ 1000) (rO : ∀ u, u < n → sB O u = 1 → -1000 ≤ A 89 u ∧ A 89 u ≤ 1000) {u0 : Nat} (hu0 : u0 < n) (hs0 : sB S u0 = 1)
    (kk : ∀ x, rmX n w dp (A 89) O S x → post (some (.inl (iZ x))) (123, K, zs (A), ρ)) : mj_lv (d + 2) m_Tree_shiftBehind [.inr (.inl (some 88)), .inr (.inl (some 1)), .inl (iZ (O : Nat)), .inl (iZ (S : Nat))] (123, K, zs (A), ρ) post := by
  have q1 := hG.1
  have q3 := hG.2.2.1
  show mj_W (mj_lv (d + 1)) prog_8_method_7_code 6 1 0 0 post 0 [some (.inr (.inl (some 88))), some (.inr (.inl (some 1))), some (.inl (iZ ((O : Nat)))), some (.inl (iZ ((S : Nat)))), none, none, none, none] [] (123, K, zs (A), ρ) 0 0
  refine mq_aload_n d128_0 rfl rfl ?_
  refine mq_aload_n d128_1 rfl rfl ?_
  refine zg_getIe L ((n : Nat)) d128_2 rfl rfl (by decide) rfl (q1) ?_
  refine mq_iload_n d128_5 rfl rfl ?_
  refine zg_callV (c := 88) L [_, _] d128_6 rfl rfl ⟨rfl, rfl⟩ rfl ⟨rfl, rfl⟩ ⟨by decide, by decide⟩ (by decide) rfl ?_
  refine s_leftmost L q3 hS (fun u h1 h2 => by have := rS u h1 h2; omega) (fun v h1 h2 => ?_)
  obtain ⟨u, u1, u2, u3⟩ : ∃ u, u < n ∧ sB S u = 1 ∧ v = A 89 u := by
    rcases h2 with ⟨-, q⟩ | q
    · exact absurd hs0 (q u0 hu0)
    · exact q
  clear h2
  refine zq_ineg d128_9 ?_
  refine mq_istore d128_10 (Nat.le_of_ble_eq_true rfl) rfl ?_
  refine zq_iconst d128_12 ?_
  refine mq_istore d128_13 (Nat.le_of_ble_eq_true rfl) rfl ?_
  refine tbs_2 L hG h91 hO hS rS rO kk (n + 1) 0 _ _ _ (by omega) (by omega) (fun y e => absurd e (by simp)) (fun y e => absurd e (by simp)) ⟨fun u h3 h4 => ?_, fun a b _ _ q => absurd q (by omega), Or.inl ⟨u, u1, u2, by rw [u3]⟩⟩
  have := h1 u h3 h4
  omega
end sb
set_option maxRecDepth 100000 in
theorem mv_1 (L : Lay K ρ) {S : Nat} (hS : S < 2147483648) {r : Int} (kk : ∀ A2, eo [89] A A2 → (∀ u, u < 12 → A2 89 u = shT (A 89) S r u) → post none (123, K, zs (A2), ρ)) : ∀ (j i : Nat) (A2 : Nat → Nat → Int), 12 - i < j → i ≤ 12 → eo [89] A A2 → (∀ u, u < i → A2 89 u = shT (A 89) S r u) → (∀ u, i ≤ u → A2 89 u = A 89 u) → mj_W (mj_lv d) prog_8_method_9_code 6 0 0 0 post 2 [some (.inr (.inl (some 88))), some (.inl (iZ ((S : Nat)))), some (.inl (iZ (r))), some (.inl (iZ ((i : Nat))))] [] (123, K, zs (A2), ρ) 0 0
  | 0, i, _, hj, _, _, _, _ => absurd hj (by omega)
  | j + 1, i, A2, hj, hi, hE, h1, h2 => by
    have sb := sB01 S i
    refine mq_iload_n d130_2 rfl rfl ?_
    refine zq_bipush d130_3 rfl ?_
    refine zq_icmp_ge (tgt := 32) d130_5 (by decide) (by omega) (by omega) (fun g1 => ?_) (fun g1 => ?_)
    · have e : i = 12 := by omega
      subst e
      refine zg_retv d130_32 (by decide) ?_
      exact kk A2 hE h1
    · have eS : shT (A 89) S r i = A 89 i + (if sB S i = 1 then r else 0) := rfl
      refine mq_iload_n d130_8 rfl rfl ?_
      refine mq_iload_n d130_9 rfl rfl ?_
      refine zr_sb d130_10 d130_11 d130_12 (by omega) ?_
      refine zq_if_eq (tgt := 26) d130_13 (by decide) (by omega) (fun g2 => ?_) (fun g2 => ?_)
      · refine zq_iinc d130_26 rfl rfl ?_
        refine mq_goto (tgt := 2) d130_29 (by decide) ?_
        refine mv_1 L hS kk j (i + 1) A2 (by omega) (by omega) hE (fun u hu => ?_) (fun u hu => h2 u (by omega))
        by_cases e : u = i
        · rw [e, eS, if_neg (by omega), h2 i (by omega)]
          omega
        · exact h1 u (by omega)
      · refine mq_aload_n d130_16 rfl rfl ?_
        refine zg_getR L 89 d130_17 rfl rfl (by decide) rfl (by decide) rfl ?_
        refine mq_iload_n d130_20 rfl rfl ?_
        refine mq_dup2 d130_21 rfl rfl ?_
        refine zg_ialdN L d130_22 (by decide) rfl (by omega) ?_
        refine mq_iload_n d130_23 rfl rfl ?_
        refine zq_iadd d130_24 ?_
        refine zg_iastN L d130_25 (by decide) rfl (by omega) ?_
        refine zq_iinc d130_26 rfl rfl ?_
        refine mq_goto (tgt := 2) d130_29 (by decide) ?_
        refine mv_1 L hS kk j (i + 1) _ (by omega) (by omega) (eo_u2 rfl hE) (fun u hu => ?_) (fun u hu => by rw [u2_k (by omega)]; exact h2 u (by omega))
        by_cases e : u = i
        · rw [e, u2_self, eS, if_pos (by omega), h2 i (by omega)]
        · rw [u2_k e]
          exact h1 u (by omega)
set_option maxRecDepth 100000 in
theorem s_tmove (L : Lay K ρ) {S : Nat} (hS : S < 2147483648) {r : Int} (kk : ∀ A2, eo [89] A A2 → (∀ u, u < 12 → A2 89 u = shT (A 89) S r u) → post none (123, K, zs (A2), ρ)) : mj_lv (d + 1) m_Tree_move [.inr (.inl (some 88)), .inl (iZ (S : Nat)), .inl (iZ r)] (123, K, zs (A), ρ) post := by
  show mj_W (mj_lv d) prog_8_method_9_code 6 0 0 0 post 0 [some (.inr (.inl (some 88))), some (.inl (iZ ((S : Nat)))), some (.inl (iZ (r))), none] [] (123, K, zs (A), ρ) 0 0
  refine zq_iconst d130_0 ?_
  refine mq_istore_n d130_1 rfl (Nat.le_of_ble_eq_true rfl) rfl ?_
  exact mv_1 L hS kk 13 0 A (by omega) (by omega) eo_refl (fun u hu => absurd hu (by omega)) (fun u _ => rfl)
set_option maxRecDepth 100000 in
theorem s_twiceMiddle (L : Lay K ρ) (hG : tgC A n m fr to th w) {v : Nat} (hv : v < n) (kk : post (some (.inl (iZ (2 * A 89 v + w v)))) (123, K, zs (A), ρ)) : mj_lv (d + 1) m_Tree_twiceMiddle [.inr (.inl (some 88)), .inr (.inl (some 1)), .inl (iZ (v : Nat))] (123, K, zs (A), ρ) post := by
  have q3 := hG.2.2.1
  have q6 := hG.2.2.2.2.2 v hv
  show mj_W (mj_lv d) prog_8_method_6_code 6 1 0 0 post 0 [some (.inr (.inl (some 88))), some (.inr (.inl (some 1))), some (.inl (iZ ((v : Nat))))] [] (123, K, zs (A), ρ) 0 0
  refine zq_iconst d127_0 ?_
  refine mq_aload_n d127_1 rfl rfl ?_
  refine zg_getR L 89 d127_2 rfl rfl (by decide) rfl (by decide) rfl ?_
  refine mq_iload_n d127_5 rfl rfl ?_
  refine zg_ialdN L d127_6 (by decide) rfl (by omega) ?_
  refine zq_imul d127_7 ?_
  refine mq_aload_n d127_8 rfl rfl ?_
  refine zg_getR L 2 d127_9 rfl rfl (by decide) rfl (by decide) rfl ?_
  refine mq_iload_n d127_12 rfl rfl ?_
  refine zr_ialdV L (w v) d127_13 (by decide) rfl (by omega) (q6.1) ?_
  refine zq_iadd d127_14 ?_
  refine zg_reti d127_15 rfl ?_
  exact kk
end sp_tc
