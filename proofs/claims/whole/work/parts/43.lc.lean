section zn4_rows
variable {d : Nat} {b : ByteArray} {o rt mc ms : Nat} {post : Option mj_V → mj_H → Prop} {pc : Nat} {lv : mj_L} {st : List mj_V} {nn : Nat} {K : Nat → Nat × Nat} {σ : Nat → Nat → Int32} {ρ : Nat → Nat → Option Nat} {uc us : Nat}
theorem zn_andn {x z : Nat} (e0 : decode b pc = .ok (.ixor, 1)) (e1 : decode b (pc + 1) = .ok (.iand, 1)) (k : mj_W (mj_lv d) b o rt mc ms post (pc + 2) lv (.inl (iZ ((x ^^^ (x &&& z) : Nat) : Int)) :: st) (nn, K, σ, ρ) uc us) : mj_W (mj_lv d) b o rt mc ms post pc lv (.inl (iZ (-1)) :: .inl (iZ (z : Int)) :: .inl (iZ (x : Int)) :: st) (nn, K, σ, ρ) uc us := mq_ixor e0 (mq_iand e1 (by rw [show (iZ (-1)) = (-1 : Int32) from rfl, iZ_nI, iZ_nI, zx_andn]; exact k))
end zn4_rows
theorem tb_xor {T v : Nat} (h : T.testBit v = true) (u : Nat) : (T ^^^ 2 ^ v).testBit u = (T.testBit u && decide (u ≠ v)) := by
  rw [Nat.testBit_xor, Nat.testBit_two_pow]
  by_cases e : v = u
  · subst e
    simp [h]
  · have e2 : u ≠ v := fun q => e q.symm
    simp [e, e2]
theorem xor_less {T v : Nat} (h : T.testBit v = true) : T ^^^ 2 ^ v < T := by
  have e : T &&& (T ^^^ 2 ^ v) = T ^^^ 2 ^ v := by
    apply Nat.eq_of_testBit_eq
    intro i
    rw [Nat.testBit_and, tb_xor h]
    cases T.testBit i <;> rfl
  have hle : T &&& (T ^^^ 2 ^ v) ≤ T := Nat.and_le_left
  rw [e] at hle
  have hne : T ^^^ 2 ^ v ≠ T := fun q => by
    have h2 := tb_xor h v
    rw [q, h] at h2
    simp at h2
  omega
theorem sub_iff {T S : Nat} : T ^^^ (T &&& S) = 0 ↔ ∀ v, T.testBit v = true → S.testBit v = true := by
  constructor
  · intro h v hv
    have h2 := congrArg (fun x => x.testBit v) h
    simp only [Nat.testBit_xor, Nat.testBit_and, Nat.zero_testBit, hv] at h2
    cases q : S.testBit v with
    | true => rfl
    | false => rw [q] at h2; cases h2
  · intro h
    apply Nat.eq_of_testBit_eq
    intro i
    rw [Nat.testBit_xor, Nat.testBit_and, Nat.zero_testBit]
    cases q : T.testBit i with
    | false => rfl
    | true => rw [h i q]; rfl
theorem bit_lt12 {T v : Nat} (hT : T < 4096) (h : T.testBit v = true) : v < 12 := by
  rcases Nat.lt_or_ge v 12 with q | q
  · exact q
  · exfalso
    rw [Nat.testBit_lt_two_pow (Nat.lt_of_lt_of_le hT (Nat.le_trans (show 4096 ≤ 2 ^ 12 by decide) (Nat.pow_le_pow_right (by decide) q)))] at h
    cases h
theorem bit_ex {T : Nat} (h : T ≠ 0) : ∃ v, T.testBit v = true := Nat.exists_testBit_of_ne_zero h
section sp_lc
variable {d : Nat} {post : Option mj_V → mj_H → Prop} {K : Nat → Nat × Nat} {ρ : Nat → Nat → Option Nat}
theorem prOK_7 {A A2 : Nat → Nat → Int} {pw : Nat → Nat → Int} (h : prOK A pw) (e : ∀ c k, c ≠ 7 → A2 c k = A c k) : prOK A2 pw := ⟨fun v u hv hu => by rw [e _ _ (by decide)]; exact h.1 v u hv hu, fun v hv => by
  obtain ⟨F, h1, h2, h3⟩ := h.2 v hv
  exact ⟨F, h1, by rw [e _ _ (by decide)]; exact h2, h3⟩⟩
/-- the costs of all sets below i are known -/
def lcI (A A2 : Nat → Nat → Int) (pw : Nat → Nat → Int) (S i : Nat) : Prop := (∀ c k, c ≠ 7 → A2 c k = A c k) ∧ ∀ T, T < i → (∀ v, T.testBit v = true → S.testBit v = true) → isMin pw (fun v => T.testBit v) (A2 7 T)
set_option maxRecDepth 100000 in
theorem lc_loop (L : Lay K ρ) {A : Nat → Nat → Int} {pw : Nat → Nat → Int} (hp : prOK A pw) (hd : ∀ v, pw v v = 0) {S : Nat} (hS : S < 4096)
    (hB : ∀ l, l.Nodup → (∀ v, v ∈ l → v < 12) → 0 ≤ bc pw l ∧ bc pw l ≤ 402653184) (hB2 : ∀ v T, 0 ≤ cnt (fun u => if Nat.testBit T u = true then pw v u else 0) 12 ∧ cnt (fun u => if Nat.testBit T u = true then pw v u else 0) 12 ≤ 402653184)
    (k : ∀ A2 c, (∀ c k, c ≠ 7 → A2 c k = A c k) → isMin pw (fun v => S.testBit v) c → post (some (.inl (iZ c))) (123, K, zs A2, ρ)) : ∀ (j i : Nat) (A2 : Nat → Nat → Int), S + 1 - i < j → 1 ≤ i → i ≤ S + 1 → lcI A A2 pw S i → mj_W (mj_lv (d + 2)) prog_9_method_7_code 7 1 0 0 post 9 [some (.inr (.inl (some 6))), some (.inl (iZ (S : Int))), some (.inl (iZ (i : Int)))] [] (123, K, zs A2, ρ) 0 0
  | 0, i, _, h, _, _, _ => absurd h (by omega)
  | j + 1, i, A2, h, h1, hi, hI => by
    refine mq_iload_n d137_9 rfl rfl ?_
    refine mq_iload_n d137_10 rfl rfl ?_
    refine zq_icmp_gt (tgt := 39) d137_11 (by decide) (by omega) (by omega) (fun g => ?_) (fun g => ?_)
    · refine mq_aload_n d137_39 rfl rfl ?_
      refine zg_getR L 7 d137_40 rfl rfl (by decide) rfl (by decide) rfl ?_
      refine mq_iload_n d137_43 rfl rfl ?_
      refine zg_iald L d137_44 (by decide) rfl (by omega) ?_
      rw [Int.toNat_natCast]
      exact zg_reti d137_45 rfl (k A2 _ hI.1 (hI.2 S (by omega) (fun v hv => hv)))
    · have nxt : ∀ A3, lcI A A3 pw S (i + 1) → mj_W (mj_lv (d + 2)) prog_9_method_7_code 7 1 0 0 post 33 [some (.inr (.inl (some 6))), some (.inl (iZ (S : Int))), some (.inl (iZ (i : Int)))] [] (123, K, zs A3, ρ) 0 0 := fun A3 h3 => by
        refine zq_iinc d137_33 rfl rfl ?_
        refine mq_goto (tgt := 9) d137_36 (by decide) ?_
        exact lc_loop L hp hd hS hB hB2 k j (i + 1) A3 (by omega) (by omega) (by omega) h3
      refine mq_iload_n d137_14 rfl rfl ?_
      refine mq_iload_n d137_15 rfl rfl ?_
      refine zq_iconst d137_16 ?_
      refine zn_andn d137_17 d137_18 ?_
      have hx : i ^^^ (i &&& S) < 4096 := Nat.xor_lt_two_pow (n := 12) (by omega) (and_lt (by omega))
      refine zq_if_ne (tgt := 33) d137_19 (by decide) (rg_nat hx) (fun g2 => ?_) (fun g2 => ?_)
      · refine nxt A2 ⟨hI.1, fun T hT hs => ?_⟩
        by_cases e : T = i
        · subst e
          exact absurd (Int.ofNat_eq_zero.mpr (sub_iff.mpr hs)) g2
        · exact hI.2 T (by omega) hs
      · have hsub := sub_iff.mp (Int.ofNat_eq_zero.mp g2)
        have hmin : ∀ v, i.testBit v = true → isMin pw (fun u => i.testBit u && decide (u ≠ v)) (A2 7 (i ^^^ 2 ^ v)) := fun v hv => by
          have h9 := hI.2 (i ^^^ 2 ^ v) (xor_less hv) (fun u hu => by
            rw [tb_xor hv, Bool.and_eq_true] at hu
            exact hsub u hu.1)
          exact isMin_congr (fun u => tb_xor hv u) (fun _ _ => rfl) h9
        have hval : ∀ v, i.testBit v = true → 0 ≤ A2 7 (i ^^^ 2 ^ v) ∧ A2 7 (i ^^^ 2 ^ v) ≤ 402653184 := fun v hv => by
          obtain ⟨⟨l, hl, e⟩, -⟩ := hmin v hv
          rw [← e]
          refine hB l hl.1 (fun u hu => ?_)
          have := (hl.2 u).mp hu
          rw [Bool.and_eq_true] at this
          exact bit_lt12 (T := i) (by omega) this.1
        refine mq_aload_n d137_22 rfl rfl ?_
        refine zg_getR L 7 d137_23 rfl rfl (by decide) rfl (by decide) rfl ?_
        refine mq_iload_n d137_26 rfl rfl ?_
        refine mq_aload_n d137_27 rfl rfl ?_
        refine mq_iload_n d137_28 rfl rfl ?_
        refine zg_callV (c := 6) L [_] d137_29 rfl rfl ⟨rfl, rfl⟩ rfl ⟨rfl, rfl⟩ ⟨by decide, by decide⟩ (by decide) rfl ?_
        refine s_costOfFront L (prOK_7 hp hI.1) (T := i) (by omega) (fun v _ hv => ?_) (fun w hw => ?_)
        · have a1 := hval v hv
          have a2 := hB2 v i
          unfold cfD
          omega
        · refine zg_iast L d137_32 (by decide) rfl (by omega) ?_
          rw [Int.toNat_natCast]
          refine nxt _ ⟨fun c k hc => by rw [u2_c hc]; exact hI.1 c k hc, fun T hT hs => ?_⟩
          by_cases e : T = i
          · subst e
            rw [u2_self]
            have heq : ∀ v, cnt (fun u => if T.testBit u = true ∧ u ≠ v then pw v u else 0) 12 = cnt (fun u => if T.testBit u = true then pw v u else 0) 12 := fun v => cnt_congr (fun u _ => by
              by_cases q : u = v
              · subst q
                rw [hd]
                simp
              · simp [q])
            refine isMin_step (N := 12) (fun v hv => bit_lt12 (T := T) (by omega) hv) (cv := fun v => A2 7 (T ^^^ 2 ^ v)) hmin ?_ (fun v hv => ?_)
            · rcases hw.1 with q | ⟨v, q1, q2, q3⟩
              · exfalso
                obtain ⟨v, hv⟩ := bit_ex (T := T) (by omega)
                have a1 := hw.2 v (bit_lt12 (T := T) (by omega) hv) hv
                have a2 := hval v hv
                have a3 := hB2 v T
                unfold cfD at a1
                omega
              · refine ⟨v, q2, ?_⟩
                rw [heq, q3]
                rfl
            · rw [heq]
              exact hw.2 v (bit_lt12 (T := T) (by omega) hv) hv
          · rw [u2_k e]
            exact hI.2 T (by omega) hs
set_option maxRecDepth 100000 in
theorem s_leastCost (L : Lay K ρ) {A : Nat → Nat → Int} {pw : Nat → Nat → Int} (hp : prOK A pw) (hd : ∀ v, pw v v = 0) {S : Nat} (hS : S < 4096)
    (hB : ∀ l, l.Nodup → (∀ v, v ∈ l → v < 12) → 0 ≤ bc pw l ∧ bc pw l ≤ 402653184) (hB2 : ∀ v T, 0 ≤ cnt (fun u => if Nat.testBit T u = true then pw v u else 0) 12 ∧ cnt (fun u => if Nat.testBit T u = true then pw v u else 0) 12 ≤ 402653184)
    (k : ∀ A2 c, (∀ c k, c ≠ 7 → A2 c k = A c k) → isMin pw (fun v => S.testBit v) c → post (some (.inl (iZ c))) (123, K, zs A2, ρ)) : mj_lv (d + 3) m_Turning_leastCost [.inr (.inl (some 6)), .inl (iZ (S : Int))] (123, K, zs A, ρ) post := by
  show mj_W (mj_lv (d + 2)) prog_9_method_7_code 7 1 0 0 post 0 [some (.inr (.inl (some 6))), some (.inl (iZ (S : Int))), none] [] (123, K, zs A, ρ) 0 0
  refine mq_aload_n d137_0 rfl rfl ?_
  refine zg_getR L 7 d137_1 rfl rfl (by decide) rfl (by decide) rfl ?_
  refine zq_iconst d137_4 ?_
  refine zq_iconst d137_5 ?_
  refine zg_iast L d137_6 (by decide) rfl (by omega) ?_
  refine zq_iconst d137_7 ?_
  refine mq_istore_n d137_8 rfl (Nat.le_of_ble_eq_true rfl) rfl ?_
  refine lc_loop L hp hd hS hB hB2 k (S + 1) 1 _ (by omega) (by omega) (by omega) ⟨fun c k hc => u2_c hc, fun T hT _ => ?_⟩
  have e : T = 0 := by omega
  subst e
  show isMin pw _ (mj_u2 A 7 0 0 7 0)
  rw [u2_self]
  exact isMin_nil (fun v => by simp)
end sp_lc
