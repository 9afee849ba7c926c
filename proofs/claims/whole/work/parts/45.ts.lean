theorem bc_congr {w w2 : Nat → Nat → Int} : ∀ {l : List Nat}, (∀ v, v ∈ l → ∀ u, u ∈ l → w v u = w2 v u) → bc w l = bc w2 l
  | [], _ => rfl
  | x :: l, h => by
    have e : ∀ {k : List Nat}, (∀ u, u ∈ k → w x u = w2 x u) → sumL (w x) k = sumL (w2 x) k := fun {k} => by
      induction k with
      | nil => exact fun _ => rfl
      | cons y k ih =>
        intro hk
        show w x y + sumL (w x) k = w2 x y + sumL (w2 x) k
        rw [hk y List.mem_cons_self, ih (fun u hu => hk u (List.mem_cons_of_mem _ hu))]
    show bc w l + sumL (w x) l = bc w2 l + sumL (w2 x) l
    rw [bc_congr (fun v hv u hu => h v (List.mem_cons_of_mem _ hv) u (List.mem_cons_of_mem _ hu)), e (fun u hu => h x List.mem_cons_self u (List.mem_cons_of_mem _ hu))]
theorem wW_range (a : Nat) : 0 ≤ wW a ∧ wW a ≤ 16777216 := by
  have h1 := mk2_pos a
  have h2 : mk2 a ≤ 8388608 := by
    have e : mk2 a = ((2 ^ (23 - a) : Nat) : Int) := by
      unfold mk2
      rw [Int.natCast_pow]
      rfl
    rw [e]
    have h3 : 2 ^ (23 - a) ≤ 2 ^ 23 := Nat.pow_le_pow_right (by decide) (by omega)
    exact Int.ofNat_le.mpr (Nat.le_trans h3 (by decide))
  unfold wW
  omega
theorem cnt_bound {g : Nat → Int} : ∀ {m : Nat}, (∀ a, a < m → g a ≤ 16777216) → cnt g m ≤ 16777216 * m
  | 0, _ => Int.le_refl _
  | m + 1, h => by
    have h1 := cnt_bound (m := m) (fun a ha => h a (by omega))
    have h2 := h m (by omega)
    show cnt g m + g m ≤ 16777216 * ((m + 1 : Nat) : Int)
    omega
section sp_ts
variable {d : Nat} {post : Option mj_V → mj_H → Prop} {K : Nat → Nat × Nat} {ρ : Nat → Nat → Option Nat}
/-- the arcs that are there within S -/
def thS (A : Nat → Nat → Int) (S a : Nat) : Int := if A 5 a = 1 ∧ S.testBit (A 3 a).toNat = true ∧ S.testBit (A 4 a).toNat = true then 1 else 0
theorem spT_wt {A : Nat → Nat → Int} {S m v u : Nat} : cnt (spT A S v u) m = wt m (fun a => (A 3 a).toNat) (fun a => (A 4 a).toNat) (thS A S) wW v u := by
  unfold wt
  refine cnt_congr (fun a _ => ?_)
  unfold spT thS
  by_cases h : A 5 a = 1 ∧ S.testBit (A 3 a).toNat = true ∧ S.testBit (A 4 a).toNat = true
  · rw [if_pos h]
    by_cases h2 : (A 3 a).toNat = v ∧ (A 4 a).toNat = u
    · rw [if_pos ⟨h.1, h2.1, h2.2, h.2⟩, if_pos ⟨rfl, h2⟩]
    · rw [if_neg (fun q => h2 ⟨q.2.1, q.2.2.1⟩), if_neg (fun q => h2 q.2)]
  · rw [if_neg h, if_neg (fun q => h ⟨q.1, q.2.2.2⟩), if_neg (fun q => absurd q.1 (by decide))]
/-- what the search for the turned arcs leaves -/
def tsR (A A2 : Nat → Nat → Int) : Prop := (∀ c k, c ≠ 6 → c ≠ 7 → c ≠ 8 → c ≠ 9 → A2 c k = A c k) ∧ ∃ x, isTurn (A 1 4).toNat (A 1 5).toNat (fun a => (A 3 a).toNat) (fun a => (A 4 a).toNat) (A 5) x ∧ A2 6 4 = cnt x (A 1 5).toNat ∧ A2 6 3 = cnt (fun a => x a * mk2 a) (A 1 5).toNat
theorem ts_of {A : Nat → Nat → Int} (hm : 0 ≤ A 1 5 ∧ A 1 5 ≤ 24) {c : Int} (h : isMin (gW A wW) (full (A 1 4).toNat) c) : 0 ≤ c ∧ c ≤ 402653184 ∧ ∃ x, isTurn (A 1 4).toNat (A 1 5).toNat (fun a => (A 3 a).toNat) (fun a => (A 4 a).toNat) (A 5) x ∧ (c + 16777216 - 1) / 16777216 = cnt x (A 1 5).toNat ∧ cnt x (A 1 5).toNat * 16777216 - c = cnt (fun a => x a * mk2 a) (A 1 5).toNat := by
  obtain ⟨⟨l, h1, h2⟩, h3⟩ := h
  have e : c = cnt (fun a => ind (fun a => (A 3 a).toNat) (fun a => (A 4 a).toNat) (A 5) l a * wW a) (A 1 5).toNat := by
    rw [← h2]
    exact bc_ind h1.1 wW
  have e2 := e
  rw [wW_sum] at e2
  have r1 := vb_range (x := ind (fun a => (A 3 a).toNat) (fun a => (A 4 a).toNat) (A 5) l) (m := (A 1 5).toNat) (by omega) ind01
  have r2 := cnt_range (f := ind (fun a => (A 3 a).toNat) (fun a => (A 4 a).toNat) (A 5) l) (m := (A 1 5).toNat) ind01
  have r3 : 0 ≤ c := by
    rw [← h2]
    show 0 ≤ bc (wt _ _ _ _ _) l
    rw [bc_wt h1.1]
    exact cnt_nonneg (fun a _ => by
      split
      · exact (wW_range a).1
      · exact Int.le_refl _)
  refine ⟨r3, by omega, _, ⟨l, h1, fun a _ => rfl, fun l2 hl2 => ?_⟩, by omega, by omega⟩
  have := h3 l2 hl2
  rw [← h2] at this
  exact this
theorem iZ_div {a b : Int} (ha : 0 ≤ a ∧ a < 2147483648) (hb : 0 < b ∧ b < 2147483648) : iZ a / iZ b = iZ (a / b) := by
  rw [iZ_nat ha.1, iZ_nat (Int.le_of_lt hb.1), pk_div (by omega) (by omega) (by omega), ← iZ_nI, Int.natCast_ediv, Int.toNat_of_nonneg ha.1, Int.toNat_of_nonneg (Int.le_of_lt hb.1)]
set_option maxRecDepth 100000 in
theorem ts_end (L : Lay K ρ) {A A2 : Nat → Nat → Int} (hm : 0 ≤ A 1 5 ∧ A 1 5 ≤ 24) (hA : ∀ c k, c ≠ 6 → c ≠ 7 → c ≠ 8 → c ≠ 9 → A2 c k = A c k) {S : Nat} {c : Int} (h : isMin (gW A wW) (full (A 1 4).toNat) c)
    (k : ∀ A2, tsR A A2 → post none (123, K, zs A2, ρ)) : mj_W (mj_lv (d + 3)) prog_9_method_3_code 7 0 0 0 post 23 [some (.inr (.inl (some 6))), some (.inr (.inl (some 1))), some (.inl (iZ (S : Int))), some (.inl (iZ c))] [] (123, K, zs A2, ρ) 0 0 := by
  obtain ⟨r1, r2, x, hx, e1, e2⟩ := ts_of hm h
  refine mq_aload_n d133_23 rfl rfl ?_
  refine mq_iload_n d133_24 rfl rfl ?_
  refine mq_ldc (v := iZ 16777216) d133_25 (by decide) ?_
  refine zq_iadd d133_27 ?_
  refine zq_iconst d133_28 ?_
  refine zq_isub d133_29 ?_
  refine mq_ldc (v := iZ 16777216) d133_30 (by decide) ?_
  refine mq_idiv d133_32 (by decide) ?_
  rw [iZ_div (by omega) (by decide), e1]
  refine zg_putI L d133_33 rfl rfl rfl rfl (by decide) rfl ?_
  refine mq_aload_n d133_36 rfl rfl ?_
  refine mq_aload_n d133_37 rfl rfl ?_
  refine zg_getIe L (cnt x (A 1 5).toNat) d133_38 rfl rfl (by decide) rfl (by simp [u2_at]) ?_
  refine mq_ldc (v := iZ 16777216) d133_41 (by decide) ?_
  refine zq_imul d133_43 ?_
  refine mq_iload_n d133_44 rfl rfl ?_
  refine zq_isub d133_45 ?_
  rw [e2]
  refine zg_putI L d133_46 rfl rfl rfl rfl (by decide) rfl ?_
  refine zg_retv d133_49 (by decide) (k _ ⟨fun c k h6 h7 h8 h9 => ?_, x, hx, by simp [u2_at], by simp [u2_at]⟩)
  rw [u2_c h6, u2_c h6]
  exact hA c k h6 h7 h8 h9
set_option maxRecDepth 100000 in
theorem s_tsearch (L : Lay K ρ) {A : Nat → Nat → Int} (hn : 0 ≤ A 1 4 ∧ A 1 4 ≤ 12) (hm : 0 ≤ A 1 5 ∧ A 1 5 ≤ 24) (ha : ∀ a : Nat, (a : Int) < A 1 5 → (0 ≤ A 3 a ∧ A 3 a < 12) ∧ (0 ≤ A 4 a ∧ A 4 a < 12) ∧ (A 5 a = 0 ∨ A 5 a = 1)) (hne : ∀ a : Nat, (a : Int) < A 1 5 → A 3 a ≠ A 4 a)
    (k : ∀ A2, tsR A A2 → post none (123, K, zs A2, ρ)) : mj_lv (d + 4) m_Turning_search [.inr (.inl (some 6)), .inr (.inl (some 1))] (123, K, zs A, ρ) post := by
  show mj_W (mj_lv (d + 3)) prog_9_method_3_code 7 0 0 0 post 0 [some (.inr (.inl (some 6))), some (.inr (.inl (some 1))), none, none] [] (123, K, zs A, ρ) 0 0
  refine mq_aload_n d133_0 rfl rfl ?_
  refine zg_callS [_] d133_1 rfl rfl ⟨rfl, rfl⟩ rfl ⟨rfl, rfl⟩ ⟨by decide, by decide⟩ ?_
  refine s_nodesOnWaysRound L hn hm ha (fun S hS => ?_)
  have hw : ∀ a, a < (A 1 5).toNat → 0 ≤ wW a := fun a _ => (wW_range a).1
  refine mq_istore_n d133_4 rfl (Nat.le_of_ble_eq_true rfl) rfl ?_
  refine zq_iconst d133_5 ?_
  refine mq_istore_n d133_6 rfl (Nat.le_of_ble_eq_true rfl) rfl ?_
  refine mq_iload_n d133_7 rfl rfl ?_
  refine zq_if_eq (tgt := 23) d133_8 (by decide) (rg_nat hS.1) (fun g => ?_) (fun g => ?_)
  · have e : S = 0 := Int.ofNat_eq_zero.mp g
    subst e
    exact ts_end L hm (fun _ _ _ _ _ _ => rfl) (hS.2.2 wW hw 0 (isMin_nil (fun v => by simp))) k
  · refine mq_aload_n d133_11 rfl rfl ?_
    refine mq_aload_n d133_12 rfl rfl ?_
    refine mq_iload_n d133_13 rfl rfl ?_
    refine zg_callV (c := 6) L [_, _] d133_14 rfl rfl ⟨rfl, rfl⟩ rfl ⟨rfl, rfl⟩ ⟨by decide, by decide⟩ (by decide) rfl ?_
    refine s_setPrices L hm ha hS.1 (fun A2 hI => ?_)
    obtain ⟨h1, h2, h3⟩ := hI
    refine mq_aload_n d133_17 rfl rfl ?_
    refine mq_iload_n d133_18 rfl rfl ?_
    refine zg_callV (c := 6) L [_] d133_19 rfl rfl ⟨rfl, rfl⟩ rfl ⟨rfl, rfl⟩ ⟨by decide, by decide⟩ (by decide) rfl ?_
    have h24 : (16777216 : Int) * ((A 1 5).toNat : Int) ≤ 402653184 := by omega
    refine s_leastCost L (pw := fun v u => cnt (spT A S v u) (A 1 5).toNat) ⟨h2, fun v hv => ?_⟩ (fun v => ?_) hS.1 (fun l hl _ => ?_) (fun v T => ?_) (fun A3 c hA3 hc => ?_)
    · obtain ⟨F, g1, g2, g3⟩ := h3 v hv
      refine ⟨F, g1, g2, fun u hu hf => ?_⟩
      show cnt _ _ = 0
      rw [cnt_congr (f := spT A S v u) (g := fun _ => 0) (fun a ha => if_neg (g3 u hu hf a ha)), cnt_zero]
    · show cnt _ _ = 0
      rw [cnt_congr (f := spT A S v v) (g := fun _ => 0) (fun a ha2 => if_neg (fun q => ?_)), cnt_zero]
      have q1 := hne a (by omega)
      have q2 := ha a (by omega)
      have q3 := q.2.1
      have q4 := q.2.2.1
      omega
    · have e : bc (fun v u => cnt (spT A S v u) (A 1 5).toNat) l = bc (wt (A 1 5).toNat (fun a => (A 3 a).toNat) (fun a => (A 4 a).toNat) (thS A S) wW) l := bc_congr (fun v _ u _ => spT_wt)
      rw [e, bc_wt hl]
      refine ⟨cnt_nonneg (fun a _ => ?_), Int.le_trans (cnt_bound (fun a _ => ?_)) h24⟩
      · split
        · exact (wW_range a).1
        · exact Int.le_refl _
      · split
        · exact (wW_range a).2
        · decide
    · have e : cnt (fun u => if T.testBit u = true then cnt (spT A S v u) (A 1 5).toNat else 0) 12 = sumL (wt (A 1 5).toNat (fun a => (A 3 a).toNat) (fun a => (A 4 a).toNat) (thS A S) wW v) ((List.range 12).filter (fun u => T.testBit u)) := by
        rw [sumL_cnt (N := 12) (List.Pairwise.filter _ List.nodup_range) (fun u hu => List.mem_range.mp (List.mem_filter.mp hu).1)]
        refine cnt_congr (fun u hu => ?_)
        by_cases q : T.testBit u = true
        · rw [if_pos q, if_pos (List.mem_filter.mpr ⟨List.mem_range.mpr hu, q⟩), spT_wt]
        · rw [if_neg q, if_neg (fun r => q (List.mem_filter.mp r).2)]
      rw [e, sumL_wt (List.Pairwise.filter _ List.nodup_range)]
      refine ⟨cnt_nonneg (fun a _ => ?_), Int.le_trans (cnt_bound (fun a _ => ?_)) h24⟩
      · split
        · exact (wW_range a).1
        · exact Int.le_refl _
      · split
        · exact (wW_range a).2
        · decide
    · refine mq_istore_n d133_22 rfl (Nat.le_of_ble_eq_true rfl) rfl ?_
      refine ts_end L hm (fun c k h6 h7 h8 h9 => by rw [hA3 c k h7]; exact h1 c k h8 h9) (hS.2.2 wW hw c ?_) k
      refine isMin_congr (fun _ => rfl) (fun l hl => bc_congr (fun v hv u hu => ?_)) hc
      have b1 := (hl.2 v).mp hv
      have b2 := (hl.2 u).mp hu
      show cnt (spT A S v u) _ = cnt _ _
      refine cnt_congr (fun a _ => ?_)
      unfold spT
      dsimp only
      by_cases q : A 5 a = 1 ∧ (A 3 a).toNat = v ∧ (A 4 a).toNat = u
      · rw [if_pos q, if_pos ⟨q.1, q.2.1, q.2.2, by rw [q.2.1]; exact b1, by rw [q.2.2]; exact b2⟩]
      · rw [if_neg q, if_neg (fun r => q ⟨r.1, r.2.1, r.2.2.1⟩)]
end sp_ts
