section sp_cr
variable {d : Nat} {post : Option mj_V → mj_H → Prop} {K : Nat → Nat × Nat} {ρ : Nat → Nat → Option Nat} {A : Nat → Nat → Int}
section ci
variable {c co cx : Nat} {o t : Nat → Nat}
/-- the crossings of the first p pieces -/
def xIn (s : Nat → Int) (o t : Nat → Nat) (p : Nat) : Int := cnt (fun i => cnt (fun j => xX (s (o i)) (s (t i)) (s (o j)) (s (t j))) i) p
set_option maxRecDepth 100000 in
theorem ci_1 (L : Lay K ρ) (ho : owO A co cx c o t) (hs : ∀ i, i < c → (0 ≤ A 74 (o i) ∧ A 74 (o i) ≤ 1000) ∧ (0 ≤ A 74 (t i) ∧ A 74 (t i) ≤ 1000)) {p : Nat} (hp : p < c)
    (kk : ∀ x6 x7 x8, (∀ y, x7 = some y → ∃ w, y = .inl w) → (∀ y, x8 = some y → ∃ w, y = .inl w) → mj_W (mj_lv d) prog_4_method_13_code 2 1 0 0 post 93 [some (.inr (.inl (some 46))), some (.inl (iZ ((c : Nat)))), some (.inr (.inl (some co))), some (.inr (.inl (some cx))), some (.inl (iZ (xIn (A 74) o t (p + 1)))), some (.inl (iZ ((p : Nat)))), some (.inl x6), x7, x8] [] (123, K, zs (A), ρ) 0 0) : ∀ (j q : Nat) (x7 x8 : Option mj_V), p - q < j → q ≤ p → (∀ y, x7 = some y → ∃ w, y = .inl w) → (∀ y, x8 = some y → ∃ w, y = .inl w) → mj_W (mj_lv d) prog_4_method_13_code 2 1 0 0 post 15 [some (.inr (.inl (some 46))), some (.inl (iZ ((c : Nat)))), some (.inr (.inl (some co))), some (.inr (.inl (some cx))), some (.inl (iZ (xIn (A 74) o t p + cnt (fun j => xX (A 74 (o p)) (A 74 (t p)) (A 74 (o j)) (A 74 (t j))) q))), some (.inl (iZ ((p : Nat)))), some (.inl (iZ ((q : Nat)))), x7, x8] [] (123, K, zs (A), ρ) 0 0
  | 0, q, _, _, hj, _, _, _ => absurd hj (by omega)
  | j + 1, q, x7, x8, hj, hq, hx7, hx8 => by
    obtain ⟨h1, ⟨h2, h3, h4⟩, ⟨h5, h6, h7⟩, k1, k2, h8⟩ := id ho
    refine mq_iload d101_15 rfl ?_
    refine mq_iload d101_17 rfl ?_
    refine zq_icmp_ge (tgt := 93) d101_19 (by decide) (by omega) (by omega) (fun g => ?_) (fun g => ?_)
    · have e : q = p := by omega
      subst e
      exact kk _ x7 x8 hx7 hx8
    · obtain ⟨⟨p1, p2⟩, ⟨p3, p4⟩⟩ := h8 p hp
      obtain ⟨⟨q1, q2⟩, ⟨q3, q4⟩⟩ := h8 q (by omega)
      obtain ⟨⟨s1, s2⟩, ⟨s3, s4⟩⟩ := hs p hp
      obtain ⟨⟨s5, s6⟩, ⟨s7, s8⟩⟩ := hs q (by omega)
      have okL : ∀ (v : Option mj_V), (∀ y, v = some y → ∃ w, y = .inl w) → v = none ∨ ∃ w, v = some (.inl w) := fun v hv => by
        cases v with
        | none => exact Or.inl rfl
        | some y =>
          obtain ⟨w, rfl⟩ := hv y rfl
          exact Or.inr ⟨w, rfl⟩
      have st : ∀ u v : Int, mj_ok [some (.inr (.inl (some 46))), some (.inl (iZ ((c : Nat)))), some (.inr (.inl (some co))), some (.inr (.inl (some cx))), some (.inl (iZ (u))), some (.inl (iZ ((p : Nat)))), some (.inl (iZ ((q : Nat)))), x7, x8] 7 = true ∧ mj_ok [some (.inr (.inl (some 46))), some (.inl (iZ ((c : Nat)))), some (.inr (.inl (some co))), some (.inr (.inl (some cx))), some (.inl (iZ (u))), some (.inl (iZ ((p : Nat)))), some (.inl (iZ ((q : Nat)))), some (.inl (iZ (v))), x8] 8 = true := fun u v => by
        rcases okL x7 hx7 with e | ⟨w, e⟩ <;> rcases okL x8 hx8 with e2 | ⟨w2, e2⟩ <;> rw [e, e2] <;> exact ⟨rfl, rfl⟩
      have eS : cnt (fun j => xX (A 74 (o p)) (A 74 (t p)) (A 74 (o j)) (A 74 (t j))) (q + 1) = cnt (fun j => xX (A 74 (o p)) (A 74 (t p)) (A 74 (o j)) (A 74 (t j))) q + xX (A 74 (o p)) (A 74 (t p)) (A 74 (o q)) (A 74 (t q)) := rfl
      have fin := fun y7 y8 => ci_1 L ho hs hp kk j (q + 1) (some (.inl y7)) (some (.inl y8)) (by omega) (by omega) (fun y e => ⟨_, (Option.some.inj e).symm⟩) (fun y e => ⟨_, (Option.some.inj e).symm⟩)
      rw [eS] at fin
      have no : ¬ ((A 74 (o p) - A 74 (o q) < 0 ∧ 0 < A 74 (t p) - A 74 (t q)) ∨ (0 < A 74 (o p) - A 74 (o q) ∧ A 74 (t p) - A 74 (t q) < 0)) → xIn (A 74) o t p + (cnt (fun j => xX (A 74 (o p)) (A 74 (t p)) (A 74 (o j)) (A 74 (t j))) q + xX (A 74 (o p)) (A 74 (t p)) (A 74 (o q)) (A 74 (t q))) = xIn (A 74) o t p + cnt (fun j => xX (A 74 (o p)) (A 74 (t p)) (A 74 (o j)) (A 74 (t j))) q := fun y => by
        have : xX (A 74 (o p)) (A 74 (t p)) (A 74 (o q)) (A 74 (t q)) = 0 := if_neg y
        omega
      have yes : ((A 74 (o p) - A 74 (o q) < 0 ∧ 0 < A 74 (t p) - A 74 (t q)) ∨ (0 < A 74 (o p) - A 74 (o q) ∧ A 74 (t p) - A 74 (t q) < 0)) → xIn (A 74) o t p + (cnt (fun j => xX (A 74 (o p)) (A 74 (t p)) (A 74 (o j)) (A 74 (t j))) q + xX (A 74 (o p)) (A 74 (t p)) (A 74 (o q)) (A 74 (t q))) = xIn (A 74) o t p + cnt (fun j => xX (A 74 (o p)) (A 74 (t p)) (A 74 (o j)) (A 74 (t j))) q + 1 := fun y => by
        have : xX (A 74 (o p)) (A 74 (t p)) (A 74 (o q)) (A 74 (t q)) = 1 := if_pos y
        omega
      refine mq_aload_n d101_22 rfl rfl ?_
      refine zg_getR L 74 d101_23 rfl rfl (by decide) rfl (by decide) rfl ?_
      refine mq_aload_n d101_26 rfl rfl ?_
      refine mq_iload d101_27 rfl ?_
      refine zr_ialdV L ((o p : Nat)) d101_29 (by omega) (k1) (by omega) (p1) ?_
      refine zg_ialdN L d101_30 (by decide) rfl (by omega) ?_
      refine mq_aload_n d101_31 rfl rfl ?_
      refine zg_getR L 74 d101_32 rfl rfl (by decide) rfl (by decide) rfl ?_
      refine mq_aload_n d101_35 rfl rfl ?_
      refine mq_iload d101_36 rfl ?_
      refine zr_ialdV L ((o q : Nat)) d101_38 (by omega) (k1) (by omega) (q1) ?_
      refine zg_ialdN L d101_39 (by decide) rfl (by omega) ?_
      refine zq_isub d101_40 ?_
      refine mq_istore d101_41 (Nat.le_of_ble_eq_true rfl) (st _ 0).1 ?_
      refine mq_aload_n d101_43 rfl rfl ?_
      refine zg_getR L 74 d101_44 rfl rfl (by decide) rfl (by decide) rfl ?_
      refine mq_aload_n d101_47 rfl rfl ?_
      refine mq_iload d101_48 rfl ?_
      refine zr_ialdV L ((t p : Nat)) d101_50 (by omega) (k2) (by omega) (p3) ?_
      refine zg_ialdN L d101_51 (by decide) rfl (by omega) ?_
      refine mq_aload_n d101_52 rfl rfl ?_
      refine zg_getR L 74 d101_53 rfl rfl (by decide) rfl (by decide) rfl ?_
      refine mq_aload_n d101_56 rfl rfl ?_
      refine mq_iload d101_57 rfl ?_
      refine zr_ialdV L ((t q : Nat)) d101_59 (by omega) (k2) (by omega) (q3) ?_
      refine zg_ialdN L d101_60 (by decide) rfl (by omega) ?_
      refine zq_isub d101_61 ?_
      refine mq_istore d101_62 (Nat.le_of_ble_eq_true rfl) (st _ _).2 ?_
      refine mq_iload d101_64 rfl ?_
      refine zq_if_ge (tgt := 74) d101_66 (by decide) (by omega) (fun g1 => ?_) (fun g1 => ?_)
      · refine mq_iload d101_74 rfl ?_
        refine zq_if_le (tgt := 87) d101_76 (by decide) (by omega) (fun g2 => ?_) (fun g2 => ?_)
        · rw [no (by omega)] at fin
          refine zq_iinc d101_87 rfl rfl ?_
          refine mq_goto (tgt := 15) d101_90 (by decide) ?_
          exact fin _ _
        · refine mq_iload d101_79 rfl ?_
          refine zq_if_ge (tgt := 87) d101_81 (by decide) (by omega) (fun g3 => ?_) (fun g3 => ?_)
          · rw [no (by omega)] at fin
            refine zq_iinc d101_87 rfl rfl ?_
            refine mq_goto (tgt := 15) d101_90 (by decide) ?_
            exact fin _ _
          · rw [yes (by omega)] at fin
            refine zq_iinc d101_84 rfl rfl ?_
            refine zq_iinc d101_87 rfl rfl ?_
            refine mq_goto (tgt := 15) d101_90 (by decide) ?_
            exact fin _ _
      · refine mq_iload d101_69 rfl ?_
        refine zq_if_gt (tgt := 84) d101_71 (by decide) (by omega) (fun g2 => ?_) (fun g2 => ?_)
        · rw [yes (by omega)] at fin
          refine zq_iinc d101_84 rfl rfl ?_
          refine zq_iinc d101_87 rfl rfl ?_
          refine mq_goto (tgt := 15) d101_90 (by decide) ?_
          exact fin _ _
        · refine mq_iload d101_74 rfl ?_
          refine zq_if_le (tgt := 87) d101_76 (by decide) (by omega) (fun g3 => ?_) (fun g3 => ?_)
          · rw [no (by omega)] at fin
            refine zq_iinc d101_87 rfl rfl ?_
            refine mq_goto (tgt := 15) d101_90 (by decide) ?_
            exact fin _ _
          · omega
set_option maxRecDepth 100000 in
theorem ci_2 (L : Lay K ρ) (ho : owO A co cx c o t) (hs : ∀ i, i < c → (0 ≤ A 74 (o i) ∧ A 74 (o i) ≤ 1000) ∧ (0 ≤ A 74 (t i) ∧ A 74 (t i) ≤ 1000)) (kk : post (some (.inl (iZ (xIn (A 74) o t c)))) (123, K, zs (A), ρ)) : ∀ (j p : Nat) (x6 x7 x8 : Option mj_V), c - p < j → 1 ≤ p → (p ≤ c ∨ p = 1) → (∀ y, x6 = some y → ∃ w, y = .inl w) → (∀ y, x7 = some y → ∃ w, y = .inl w) → (∀ y, x8 = some y → ∃ w, y = .inl w) → mj_W (mj_lv d) prog_4_method_13_code 2 1 0 0 post 6 [some (.inr (.inl (some 46))), some (.inl (iZ ((c : Nat)))), some (.inr (.inl (some co))), some (.inr (.inl (some cx))), some (.inl (iZ (xIn (A 74) o t p))), some (.inl (iZ ((p : Nat)))), x6, x7, x8] [] (123, K, zs (A), ρ) 0 0
  | 0, p, _, _, _, hj, _, _, _, _, _ => absurd hj (by omega)
  | j + 1, p, x6, x7, x8, hj, p1, hp, hx6, hx7, hx8 => by
    obtain ⟨h1, ⟨h2, h3, h4⟩, ⟨h5, h6, h7⟩, k1, k2, h8⟩ := id ho
    refine mq_iload d101_6 rfl ?_
    refine mq_iload_n d101_8 rfl rfl ?_
    refine zq_icmp_ge (tgt := 99) d101_9 (by decide) (by omega) (by omega) (fun g => ?_) (fun g => ?_)
    · have e : xIn (A 74) o t p = xIn (A 74) o t c := by
        by_cases q : c = 0
        · have : p = 1 := by omega
          rw [this, q]
          rfl
        · rw [show p = c by omega]
      rw [e]
      refine mq_iload d101_99 rfl ?_
      refine zg_reti d101_101 rfl ?_
      exact kk
    · have st6 : mj_ok [some (.inr (.inl (some 46))), some (.inl (iZ ((c : Nat)))), some (.inr (.inl (some co))), some (.inr (.inl (some cx))), some (.inl (iZ (xIn (A 74) o t p))), some (.inl (iZ ((p : Nat)))), x6, x7, x8] 6 = true := by
        cases x6 with
        | none => rfl
        | some y =>
          obtain ⟨w, rfl⟩ := hx6 y rfl
          rfl
      refine zq_iconst d101_12 ?_
      refine mq_istore d101_13 (Nat.le_of_ble_eq_true rfl) st6 ?_
      have e0 : xIn (A 74) o t p = xIn (A 74) o t p + cnt (fun j => xX (A 74 (o p)) (A 74 (t p)) (A 74 (o j)) (A 74 (t j))) 0 := by
        show _ = _ + 0
        omega
      rw [e0]
      refine ci_1 L ho hs (by omega) (fun y6 y7 y8 hy7 hy8 => ?_) (p + 1) 0 x7 x8 (by omega) (by omega) hx7 hx8
      refine zq_iinc d101_93 rfl rfl ?_
      refine mq_goto (tgt := 6) d101_96 (by decide) ?_
      exact ci_2 L ho hs kk j (p + 1) _ _ _ (by omega) (by omega) (by omega) (fun y e => ⟨_, (Option.some.inj e).symm⟩) hy7 hy8
set_option maxRecDepth 100000 in
theorem s_crossingsIn (L : Lay K ρ) (ho : owO A co cx c o t) (hs : ∀ i, i < c → (0 ≤ A 74 (o i) ∧ A 74 (o i) ≤ 1000) ∧ (0 ≤ A 74 (t i) ∧ A 74 (t i) ≤ 1000)) (kk : post (some (.inl (iZ (xIn (A 74) o t c)))) (123, K, zs (A), ρ)) : mj_lv (d + 1) m_Orders_crossingsIn [.inr (.inl (some 46)), .inl (iZ (c : Nat)), .inr (.inl (some co)), .inr (.inl (some cx))] (123, K, zs (A), ρ) post := by
  show mj_W (mj_lv d) prog_4_method_13_code 2 1 0 0 post 0 [some (.inr (.inl (some 46))), some (.inl (iZ ((c : Nat)))), some (.inr (.inl (some co))), some (.inr (.inl (some cx))), none, none, none, none, none] [] (123, K, zs (A), ρ) 0 0
  refine zq_iconst d101_0 ?_
  refine mq_istore d101_1 (Nat.le_of_ble_eq_true rfl) rfl ?_
  refine zq_iconst d101_3 ?_
  refine mq_istore d101_4 (Nat.le_of_ble_eq_true rfl) rfl ?_
  exact ci_2 L ho hs kk (c + 1) 1 _ _ _ (by omega) (by omega) (by omega) (fun y e => absurd e (by simp)) (fun y e => absurd e (by simp)) (fun y e => absurd e (by simp))
end ci
section cs
variable {Q : Nat → Int → Prop} {sz : Nat → Nat} {h N : Nat} {g pu pd : Nat → Nat}
/-- what is known of rows and pieces -/
def cxO (Q : Nat → Int → Prop) (sz : Nat → Nat) (h N : Nat) (g pu pd : Nat → Nat) : Prop := h ≤ 12 ∧ (∀ l, l < h → sz l ≤ 36) ∧ N ≤ 84 ∧ (∀ l x, Q l x → 0 ≤ x ∧ x < 72) ∧ (∀ l k x y, Q l x → Q k y → x.toNat = y.toNat → l = k ∧ x = y) ∧ pcOK Q h N g pu pd ∧ ∀ l, ctg g l N ≤ 24
/-- the class's rows and spots -/
def roC (A : Nat → Nat → Int) (Q : Nat → Int → Prop) (sz : Nat → Nat) (h : Nat) (z : wSt) : Prop := A 46 6 = (h : Nat) ∧ (∀ l, l < h → A 47 l = (sz l : Nat)) ∧ (∀ l, l < h → ∀ j, j < sz l → A (49 + l) j = z.1 l j) ∧ ∀ l, l < h → ∀ x : Nat, Q l (x : Nat) → A 74 x = z.2 x
theorem pc_seq (hx : cxO Q sz h N g pu pd) (hp : pcC A g pu pd N) {l : Nat} (hl : l + 1 < h) : owO A (21 + l) (34 + l) (ctg g l N) (fun i => (A (21 + l) i).toNat) (fun i => (A (34 + l) i).toNat) ∧ owO A (34 + l) (21 + l) (ctg g l N) (fun i => (A (34 + l) i).toNat) (fun i => (A (21 + l) i).toNat) ∧ (∀ p, p < N → g p = l → (A (21 + l) (ctg g l p)).toNat = pu p ∧ (A (34 + l) (ctg g l p)).toNat = pd p) ∧ ∀ i, i < ctg g l N → Q l ((A (21 + l) i).toNat : Nat) ∧ Q (l + 1) ((A (34 + l) i).toNat : Nat) := by
  obtain ⟨x1, x2, x3, x4, x5, x6, x7⟩ := hx
  have key : ∀ p, p < N → g p = l → A (21 + l) (ctg g l p) = (pu p : Nat) ∧ A (34 + l) (ctg g l p) = (pd p : Nat) := fun p hp2 e => by
    have := hp.2 p hp2
    rw [e] at this
    exact this
  have all : ∀ i, i < ctg g l N → ∃ p, p < N ∧ g p = l ∧ A (21 + l) i = (pu p : Nat) ∧ A (34 + l) i = (pd p : Nat) ∧ pu p < 72 ∧ pd p < 72 := fun i hi => by
    obtain ⟨p, p1, p2, p3⟩ := ctg_ex hi
    have h1 := key p p1 p2
    rw [p3] at h1
    obtain ⟨h2, h3, -⟩ := x6 p p1
    have h4 := x4 _ _ h2
    have h5 := x4 _ _ h3
    exact ⟨p, p1, p2, h1.1, h1.2, by omega, by omega⟩
  have v : ∀ i, i < ctg g l N → (A (21 + l) i = ((A (21 + l) i).toNat : Nat) ∧ (A (21 + l) i).toNat < 72) ∧ (A (34 + l) i = ((A (34 + l) i).toNat : Nat) ∧ (A (34 + l) i).toNat < 72) := fun i hi => by
    obtain ⟨p, p1, p2, p3, p4, p5, p6⟩ := all i hi
    omega
  refine ⟨⟨x7 l, by omega, by omega, kd21 (by omega), kd34 (by omega), v⟩, ⟨x7 l, by omega, by omega, kd34 (by omega), kd21 (by omega), fun i hi => ⟨(v i hi).2, (v i hi).1⟩⟩, fun p hp2 e => ?_, fun i hi => ?_⟩
  · have := key p hp2 e
    omega
  · obtain ⟨p, p1, p2, p3, p4, p5, p6⟩ := all i hi
    obtain ⟨h2, h3, -⟩ := x6 p p1
    rw [p2] at h2 h3
    rw [p3, p4]
    simp only [Int.toNat_natCast]
    exact ⟨h2, h3⟩
theorem ro_at (hx : cxO Q sz h N g pu pd) {z : wSt} (hz : wok Q sz h z) (hr : roC A Q sz h z) {l x : Nat} (hl : l < h) (hq : Q l (x : Nat)) : A 74 x = z.2 x ∧ 0 ≤ A 74 x ∧ A 74 x < 36 := by
  have e := hr.2.2.2 l hl x hq
  have s := wok_s hz hl hq
  have b := hx.2.1 l hl
  rw [Int.toNat_natCast] at s
  rw [e]
  omega
set_option maxRecDepth 100000 in
theorem cs_1 (L : Lay K ρ) (hx : cxO Q sz h N g pu pd) (hp : pcC A g pu pd N) {z : wSt} (hz : wok Q sz h z) (hr : roC A Q sz h z) (kk : post (some (.inl (iZ (crV g pu pd z.2 N)))) (123, K, zs (A), ρ)) : ∀ (j l : Nat), h - 1 - l < j → l ≤ h - 1 → mj_W (mj_lv (d + 1)) prog_4_method_12_code 2 1 0 0 post 4 [some (.inr (.inl (some 46))), some (.inr (.inl (some 16))), some (.inl (iZ (cnt (fun l => cnt (fun p => if g p = l then cnt (fun q => if g q = l then crX g pu pd z.2 p q + crX g pu pd z.2 q p else 0) p else 0) N) l))), some (.inl (iZ ((l : Nat))))] [] (123, K, zs (A), ρ) 0 0
  | 0, l, hj, _ => absurd hj (by omega)
  | j + 1, l, hj, hl => by
    obtain ⟨x1, x2, x3, x4, x5, x6, x7⟩ := id hx
    refine mq_iload_n d100_4 rfl rfl ?_
    refine mq_aload_n d100_5 rfl rfl ?_
    refine zg_getIe L ((h : Nat)) d100_6 rfl rfl (by decide) rfl (hr.1) ?_
    refine zq_iconst d100_9 ?_
    refine zq_isub d100_10 ?_
    refine zq_icmp_ge (tgt := 45) d100_11 (by decide) (by omega) (by omega) (fun gb => ?_) (fun gb => ?_)
    · have e : l = h - 1 := by omega
      subst e
      rw [← crV_gaps (fun p hp2 => by have := (x6 p hp2).2.2; omega)]
      refine mq_iload_n d100_45 rfl rfl ?_
      refine zg_reti d100_46 rfl ?_
      exact kk
    · have hl1 : l + 1 < h := by omega
      obtain ⟨o1, o2, o3, o4⟩ := pc_seq hx hp hl1
      refine mq_iload_n d100_14 rfl rfl ?_
      refine mq_aload_n d100_15 rfl rfl ?_
      refine mq_aload_n d100_16 rfl rfl ?_
      refine zg_getR L 19 d100_17 rfl rfl (by decide) rfl (by decide) rfl ?_
      refine mq_iload_n d100_20 rfl rfl ?_
      refine zr_ialdV L ((ctg g l N : Nat)) d100_21 (by decide) rfl (by omega) (hp.1 l (by omega)) ?_
      refine mq_aload_n d100_22 rfl rfl ?_
      refine zg_getR L 20 d100_23 rfl rfl (by decide) rfl (by decide) rfl ?_
      refine mq_iload_n d100_26 rfl rfl ?_
      refine zr_aald L (21 + l) d100_27 (by decide) rfl (by omega) (rf20 (by omega)) ?_
      refine mq_aload_n d100_28 rfl rfl ?_
      refine zg_getR L 33 d100_29 rfl rfl (by decide) rfl (by decide) rfl ?_
      refine mq_iload_n d100_32 rfl rfl ?_
      refine zr_aald L (34 + l) d100_33 (by decide) rfl (by omega) (rf33 (by omega)) ?_
      refine zg_callV (c := 46) L [_, _, _] d100_34 rfl rfl ⟨rfl, rfl⟩ rfl ⟨rfl, rfl⟩ ⟨by decide, by decide⟩ (by decide) rfl ?_
      refine s_crossingsIn L o1 (fun i hi => ?_) ?_
      · have h1 := ro_at hx hz hr (by omega) (o4 i hi).1
        have h2 := ro_at hx hz hr hl1 (o4 i hi).2
        omega
      · have e1 : xIn (A 74) (fun i => (A (21 + l) i).toNat) (fun i => (A (34 + l) i).toNat) (ctg g l N) = cnt (fun p => if g p = l then cnt (fun q => if g q = l then crX g pu pd z.2 p q + crX g pu pd z.2 q p else 0) p else 0) N := by
          refine crs_gap (a := fun i => A 74 (A (21 + l) i).toNat) (b := fun i => A 74 (A (34 + l) i).toNat) (fun p hp2 e => ?_)
          obtain ⟨y1, y2, -⟩ := x6 p hp2
          obtain ⟨y3, y4⟩ := o3 p hp2 e
          rw [e] at y1 y2
          show A 74 (A (21 + l) (ctg g l p)).toNat = _ ∧ A 74 (A (34 + l) (ctg g l p)).toNat = _
          rw [y3, y4]
          exact ⟨(ro_at hx hz hr (by omega) y1).1, (ro_at hx hz hr hl1 y2).1⟩
        rw [e1]
        refine zq_iadd d100_37 ?_
        refine mq_istore_n d100_38 rfl (Nat.le_of_ble_eq_true rfl) rfl ?_
        refine zq_iinc d100_39 rfl rfl ?_
        refine mq_goto (tgt := 4) d100_42 (by decide) ?_
        exact cs_1 L hx hp hz hr kk j (l + 1) (by omega) (by omega)
set_option maxRecDepth 100000 in
theorem s_crossings (L : Lay K ρ) (hx : cxO Q sz h N g pu pd) (hp : pcC A g pu pd N) {z : wSt} (hz : wok Q sz h z) (hr : roC A Q sz h z) (kk : post (some (.inl (iZ (crV g pu pd z.2 N)))) (123, K, zs (A), ρ)) : mj_lv (d + 2) m_Orders_crossings [.inr (.inl (some 46)), .inr (.inl (some 16))] (123, K, zs (A), ρ) post := by
  show mj_W (mj_lv (d + 1)) prog_4_method_12_code 2 1 0 0 post 0 [some (.inr (.inl (some 46))), some (.inr (.inl (some 16))), none, none] [] (123, K, zs (A), ρ) 0 0
  refine zq_iconst d100_0 ?_
  refine mq_istore_n d100_1 rfl (Nat.le_of_ble_eq_true rfl) rfl ?_
  refine zq_iconst d100_2 ?_
  refine mq_istore_n d100_3 rfl (Nat.le_of_ble_eq_true rfl) rfl ?_
  exact cs_1 L hx hp hz hr kk (h - 1 + 1) 0 (by omega) (by omega)
end cs
end sp_cr
