/-- what the pieces join -/
def pcOK (Q : Nat → Int → Prop) (h N : Nat) (g pu pd : Nat → Nat) : Prop := ∀ p, p < N → Q (g p) (pu p : Nat) ∧ Q (g p + 1) (pd p : Nat) ∧ g p + 1 < h
theorem nbr_congr {r s1 s2 : Nat → Int} {x : Nat} (h : s1 x = s2 x) : ∀ k, nbr r s1 k x = nbr r s2 k x
  | 0 => h
  | k + 1 => by
    show upf _ _ _ _ = upf _ _ _ _
    unfold upf
    rw [nbr_congr h k]
/-- two pieces cross -/
def xX (a b a2 b2 : Int) : Int := if (a - a2 < 0 ∧ 0 < b - b2) ∨ (0 < a - a2 ∧ b - b2 < 0) then 1 else 0
theorem crs_gap {g pu pd : Nat → Nat} {s : Nat → Int} {N l : Nat} {a b : Nat → Int} (h : ∀ p, p < N → g p = l → a (ctg g l p) = s (pu p) ∧ b (ctg g l p) = s (pd p)) : cnt (fun i => cnt (fun j => xX (a i) (b i) (a j) (b j)) i) (ctg g l N) = cnt (fun p => if g p = l then cnt (fun q => if g q = l then crX g pu pd s p q + crX g pu pd s q p else 0) p else 0) N := by
  refine ctg_sum (fun p hp e => ?_)
  refine ctg_sum (fun q hq e2 => ?_)
  rw [(h p hp e).1, (h p hp e).2, (h q (by omega) e2).1, (h q (by omega) e2).2]
  unfold xX crX
  by_cases c1 : s (pu p) < s (pu q) ∧ s (pd q) < s (pd p)
  · rw [if_pos (by omega), if_pos (by omega), if_neg (by omega)]
    rfl
  · by_cases c2 : s (pu q) < s (pu p) ∧ s (pd p) < s (pd q)
    · rw [if_pos (by omega), if_neg (by omega), if_pos (by omega)]
      rfl
    · rw [if_neg (by omega), if_neg (by omega), if_neg (by omega)]
      rfl
section sp_md
variable {d : Nat} {post : Option mj_V → mj_H → Prop} {K : Nat → Nat × Nat} {ρ : Nat → Nat → Option Nat} {A : Nat → Nat → Int}
/-- the pieces of one layer as findMiddles has them -/
def owO (A : Nat → Nat → Int) (co cx c : Nat) (o t : Nat → Nat) : Prop := c ≤ 24 ∧ (co < 123 ∧ co ≠ 75 ∧ co ≠ 76) ∧ (cx < 123 ∧ cx ≠ 75 ∧ cx ≠ 76) ∧ ly_kd co = (1, 24) ∧ ly_kd cx = (1, 24) ∧ ∀ i, i < c → (A co i = (o i : Nat) ∧ o i < 72) ∧ (A cx i = (t i : Nat) ∧ t i < 72)
def smO (o t : Nat → Nat) (s : Nat → Int) (k x : Nat) : Int := cnt (fun i => if o i = x then s (t i) else 0) k
def nnO (o : Nat → Nat) (k x : Nat) : Int := cnt (fun i => if o i = x then 1 else 0) k
section fm
variable {l s c co cx : Nat} {o t : Nat → Nat} {f : Nat → Int}
set_option maxRecDepth 100000 in
theorem fm_1 (L : Lay K ρ) (hl : l < 12) (h47 : A 47 l = (s : Nat)) (hs : s ≤ 36) (hr : ∀ j, j < s → A (49 + l) j = f j ∧ 0 ≤ f j ∧ f j < 72) {x6 : Option mj_V} (kk : ∀ A2, eo [75, 76] A A2 → (∀ j, j < s → A2 75 (f j).toNat = 0 ∧ A2 76 (f j).toNat = 0) → mj_W (mj_lv d) prog_4_method_8_code 2 0 0 0 post 50 [some (.inr (.inl (some 46))), some (.inl (iZ ((l : Nat)))), some (.inl (iZ ((c : Nat)))), some (.inr (.inl (some co))), some (.inr (.inl (some cx))), some (.inl (iZ ((s : Nat)))), x6] [] (123, K, zs (A2), ρ) 0 0) : ∀ (j i : Nat) (A2 : Nat → Nat → Int), s - i < j → i ≤ s → eo [75, 76] A A2 → (∀ j, j < i → A2 75 (f j).toNat = 0 ∧ A2 76 (f j).toNat = 0) → mj_W (mj_lv d) prog_4_method_8_code 2 0 0 0 post 3 [some (.inr (.inl (some 46))), some (.inl (iZ ((l : Nat)))), some (.inl (iZ ((c : Nat)))), some (.inr (.inl (some co))), some (.inr (.inl (some cx))), some (.inl (iZ ((i : Nat)))), x6] [] (123, K, zs (A2), ρ) 0 0
  | 0, i, _, hj, _, _, _ => absurd hj (by omega)
  | j + 1, i, A2, hj, hi, hE, hI => by
    have e1 : A2 (49 + l) = A (49 + l) := hE _ (by simp; omega)
    refine mq_iload d96_3 rfl ?_
    refine mq_aload_n d96_5 rfl rfl ?_
    refine zg_getR L 47 d96_6 rfl rfl (by decide) rfl (by decide) rfl ?_
    refine mq_iload_n d96_9 rfl rfl ?_
    refine zr_ialdV L ((s : Nat)) d96_10 (by decide) rfl (by omega) ((by rw [hE 47 rfl]; exact h47)) ?_
    refine zq_icmp_ge (tgt := 50) d96_11 (by decide) (by omega) (by omega) (fun g => ?_) (fun g => ?_)
    · have e : i = s := by omega
      subst e
      exact kk A2 hE hI
    · obtain ⟨r1, r2, r3⟩ := hr i (by omega)
      refine mq_aload_n d96_14 rfl rfl ?_
      refine zg_getR L 75 d96_15 rfl rfl (by decide) rfl (by decide) rfl ?_
      refine mq_aload_n d96_18 rfl rfl ?_
      refine zg_getR L 48 d96_19 rfl rfl (by decide) rfl (by decide) rfl ?_
      refine mq_iload_n d96_22 rfl rfl ?_
      refine zr_aald L (49 + l) d96_23 (by decide) rfl (by omega) (rf48 hl) ?_
      refine mq_iload d96_24 rfl ?_
      refine zr_ialdV L (f i) d96_26 (by omega) (kd49 hl) (by omega) ((by rw [e1]; exact r1)) ?_
      refine zq_iconst d96_27 ?_
      refine zg_iast L d96_28 (by decide) rfl (by omega) ?_
      refine mq_aload_n d96_29 rfl rfl ?_
      refine zg_getR L 76 d96_30 rfl rfl (by decide) rfl (by decide) rfl ?_
      refine mq_aload_n d96_33 rfl rfl ?_
      refine zg_getR L 48 d96_34 rfl rfl (by decide) rfl (by decide) rfl ?_
      refine mq_iload_n d96_37 rfl rfl ?_
      refine zr_aald L (49 + l) d96_38 (by decide) rfl (by omega) (rf48 hl) ?_
      refine mq_iload d96_39 rfl ?_
      refine zr_ialdV L (f i) d96_41 (by omega) (kd49 hl) (by omega) ((by rw [u2_c (by omega), e1]; exact r1)) ?_
      refine zq_iconst d96_42 ?_
      refine zg_iast L d96_43 (by decide) rfl (by omega) ?_
      refine zq_iinc d96_44 rfl rfl ?_
      refine mq_goto (tgt := 3) d96_47 (by decide) ?_
      refine fm_1 L hl h47 hs hr kk j (i + 1) _ (by omega) (by omega) (eo_u2 rfl (eo_u2 rfl hE)) (fun b hb => ?_)
      rw [u2_c (by decide), u2_upf, u2_upf, u2_cell (by decide)]
      unfold upf
      by_cases q : (f b).toNat = (f i).toNat
      · rw [if_pos q, if_pos q]
        exact ⟨rfl, rfl⟩
      · rw [if_neg q, if_neg q]
        refine hI b ?_
        rcases Nat.lt_or_ge b i with y | y
        · exact y
        · have : b = i := by omega
          rw [this] at q
          exact absurd rfl q
set_option maxRecDepth 100000 in
theorem fm_2 (L : Lay K ρ) (ho : owO A co cx c o t) {x6 : Option mj_V} (kk : ∀ A2, eo [75, 76] A A2 → (∀ j, j < s → A2 75 (f j).toNat = smO o t (A 74) c (f j).toNat ∧ A2 76 (f j).toNat = nnO o c (f j).toNat) → mj_W (mj_lv d) prog_4_method_8_code 2 0 0 0 post 100 [some (.inr (.inl (some 46))), some (.inl (iZ ((l : Nat)))), some (.inl (iZ ((c : Nat)))), some (.inr (.inl (some co))), some (.inr (.inl (some cx))), some (.inl (iZ ((c : Nat)))), x6] [] (123, K, zs (A2), ρ) 0 0) : ∀ (j i : Nat) (A2 : Nat → Nat → Int), c - i < j → i ≤ c → eo [75, 76] A A2 → (∀ j, j < s → A2 75 (f j).toNat = smO o t (A 74) i (f j).toNat ∧ A2 76 (f j).toNat = nnO o i (f j).toNat) → mj_W (mj_lv d) prog_4_method_8_code 2 0 0 0 post 53 [some (.inr (.inl (some 46))), some (.inl (iZ ((l : Nat)))), some (.inl (iZ ((c : Nat)))), some (.inr (.inl (some co))), some (.inr (.inl (some cx))), some (.inl (iZ ((i : Nat)))), x6] [] (123, K, zs (A2), ρ) 0 0
  | 0, i, _, hj, _, _, _ => absurd hj (by omega)
  | j + 1, i, A2, hj, hi, hE, hI => by
    obtain ⟨h1, ⟨h2, h3, h4⟩, ⟨h5, h6, h7⟩, k1, k2, h8⟩ := id ho
    have eo1 : A2 co = A co := hE _ (by simp; omega)
    have ex1 : A2 cx = A cx := hE _ (by simp; omega)
    refine mq_iload d96_53 rfl ?_
    refine mq_iload_n d96_55 rfl rfl ?_
    refine zq_icmp_ge (tgt := 100) d96_56 (by decide) (by omega) (by omega) (fun g => ?_) (fun g => ?_)
    · have e : i = c := by omega
      subst e
      exact kk A2 hE hI
    · obtain ⟨⟨o1, o2⟩, ⟨t1, t2⟩⟩ := h8 i (by omega)
      refine mq_aload_n d96_59 rfl rfl ?_
      refine zg_getR L 75 d96_60 rfl rfl (by decide) rfl (by decide) rfl ?_
      refine mq_aload_n d96_63 rfl rfl ?_
      refine mq_iload d96_64 rfl ?_
      refine zr_ialdV L ((o i : Nat)) d96_66 (by omega) (k1) (by omega) ((by rw [eo1]; exact o1)) ?_
      refine mq_dup2 d96_67 rfl rfl ?_
      refine zg_ialdN L d96_68 (by decide) rfl (by omega) ?_
      refine mq_aload_n d96_69 rfl rfl ?_
      refine zg_getR L 74 d96_70 rfl rfl (by decide) rfl (by decide) rfl ?_
      refine mq_aload d96_73 rfl ?_
      refine mq_iload d96_75 rfl ?_
      refine zr_ialdV L ((t i : Nat)) d96_77 (by omega) (k2) (by omega) ((by rw [ex1]; exact t1)) ?_
      refine zr_ialdV L (A 74 (t i)) d96_78 (by decide) rfl (by omega) ((by rw [hE 74 rfl])) ?_
      refine zq_iadd d96_79 ?_
      refine zg_iastN L d96_80 (by decide) rfl (by omega) ?_
      refine mq_aload_n d96_81 rfl rfl ?_
      refine zg_getR L 76 d96_82 rfl rfl (by decide) rfl (by decide) rfl ?_
      refine mq_aload_n d96_85 rfl rfl ?_
      refine mq_iload d96_86 rfl ?_
      refine zr_ialdV L ((o i : Nat)) d96_88 (by omega) (k1) (by omega) ((by rw [u2_c (by omega), eo1]; exact o1)) ?_
      refine mq_dup2 d96_89 rfl rfl ?_
      refine zg_ialdN L d96_90 (by decide) rfl (by omega) ?_
      refine zq_iconst d96_91 ?_
      refine zq_iadd d96_92 ?_
      refine zg_iastN L d96_93 (by decide) rfl (by omega) ?_
      refine zq_iinc d96_94 rfl rfl ?_
      refine mq_goto (tgt := 53) d96_97 (by decide) ?_
      refine fm_2 L ho kk j (i + 1) _ (by omega) (by omega) (eo_u2 rfl (eo_u2 rfl hE)) (fun b hb => ?_)
      have hb2 := hI b hb
      have es : smO o t (A 74) (i + 1) (f b).toNat = smO o t (A 74) i (f b).toNat + (if o i = (f b).toNat then A 74 (t i) else 0) := rfl
      have en : nnO o (i + 1) (f b).toNat = nnO o i (f b).toNat + (if o i = (f b).toNat then 1 else 0) := rfl
      rw [u2_c (by decide), u2_upf, u2_upf, es, en]
      unfold upf
      by_cases q : (f b).toNat = o i
      · rw [if_pos q, if_pos q, if_pos q.symm, if_pos q.symm, ← q, hb2.1, u2_c (by decide), hb2.2]
        exact ⟨rfl, rfl⟩
      · rw [if_neg q, if_neg q, if_neg (fun y => q y.symm), if_neg (fun y => q y.symm), u2_c (by decide), hb2.1, hb2.2]
        omega
set_option maxRecDepth 100000 in
theorem fm_3 (L : Lay K ρ) (hl : l < 12) (h47 : A 47 l = (s : Nat)) (hs : s ≤ 36) (hr : ∀ j, j < s → A (49 + l) j = f j ∧ 0 ≤ f j ∧ f j < 72) (hinj : ∀ i j, i < s → j < s → (f i).toNat = (f j).toNat → i = j) (hnn : ∀ x, 0 ≤ nnO o c x ∧ nnO o c x ≤ 100)
    (kk : ∀ A2, eo [75, 76] A A2 → (∀ j, j < s → A2 75 (f j).toNat = (if nnO o c (f j).toNat = 0 then ((j : Nat) : Int) else smO o t (A 74) c (f j).toNat) ∧ A2 76 (f j).toNat = (if nnO o c (f j).toNat = 0 then 1 else nnO o c (f j).toNat)) → post none (123, K, zs (A2), ρ)) : ∀ (j i : Nat) (A2 : Nat → Nat → Int) (x6 : Option mj_V), s - i < j → i ≤ s → (∀ y, x6 = some y → ∃ w, y = .inl w) → eo [75, 76] A A2 → (∀ j, j < s → A2 75 (f j).toNat = (if j < i ∧ nnO o c (f j).toNat = 0 then ((j : Nat) : Int) else smO o t (A 74) c (f j).toNat) ∧ A2 76 (f j).toNat = (if j < i ∧ nnO o c (f j).toNat = 0 then 1 else nnO o c (f j).toNat)) → mj_W (mj_lv d) prog_4_method_8_code 2 0 0 0 post 103 [some (.inr (.inl (some 46))), some (.inl (iZ ((l : Nat)))), some (.inl (iZ ((c : Nat)))), some (.inr (.inl (some co))), some (.inr (.inl (some cx))), some (.inl (iZ ((i : Nat)))), x6] [] (123, K, zs (A2), ρ) 0 0
  | 0, i, _, _, hj, _, _, _, _ => absurd hj (by omega)
  | j + 1, i, A2, x6, hj, hi, hx6, hE, hI => by
    have e1 : A2 (49 + l) = A (49 + l) := hE _ (by simp; omega)
    refine mq_iload d96_103 rfl ?_
    refine mq_aload_n d96_105 rfl rfl ?_
    refine zg_getR L 47 d96_106 rfl rfl (by decide) rfl (by decide) rfl ?_
    refine mq_iload_n d96_109 rfl rfl ?_
    refine zr_ialdV L ((s : Nat)) d96_110 (by decide) rfl (by omega) ((by rw [hE 47 rfl]; exact h47)) ?_
    refine zq_icmp_ge (tgt := 158) d96_111 (by decide) (by omega) (by omega) (fun g => ?_) (fun g => ?_)
    · have e : i = s := by omega
      subst e
      refine zg_retv d96_158 (by decide) ?_
      refine kk A2 hE (fun j hj => ?_)
      have := hI j hj
      simp only [hj, true_and] at this
      exact this
    · have his : i < s := by omega
      obtain ⟨r1, r2, r3⟩ := hr i his
      have hn := hnn (f i).toNat
      have hii := hI i his
      rw [if_neg (by omega), if_neg (by omega)] at hii
      have st6 : mj_ok [some (.inr (.inl (some 46))), some (.inl (iZ ((l : Nat)))), some (.inl (iZ ((c : Nat)))), some (.inr (.inl (some co))), some (.inr (.inl (some cx))), some (.inl (iZ ((i : Nat)))), x6] 6 = true := by
        cases x6 with
        | none => rfl
        | some y =>
          obtain ⟨w, rfl⟩ := hx6 y rfl
          rfl
      refine mq_aload_n d96_114 rfl rfl ?_
      refine zg_getR L 48 d96_115 rfl rfl (by decide) rfl (by decide) rfl ?_
      refine mq_iload_n d96_118 rfl rfl ?_
      refine zr_aald L (49 + l) d96_119 (by decide) rfl (by omega) (rf48 hl) ?_
      refine mq_iload d96_120 rfl ?_
      refine zr_ialdV L (f i) d96_122 (by omega) (kd49 hl) (by omega) ((by rw [e1]; exact r1)) ?_
      refine mq_istore d96_123 (Nat.le_of_ble_eq_true rfl) st6 ?_
      refine mq_aload_n d96_125 rfl rfl ?_
      refine zg_getR L 76 d96_126 rfl rfl (by decide) rfl (by decide) rfl ?_
      refine mq_iload d96_129 rfl ?_
      refine zg_ialde L (nnO o c (f i).toNat) d96_131 (by decide) rfl (by omega) hii.2 ?_
      refine zq_if_ne (tgt := 152) d96_132 (by decide) (by omega) (fun g2 => ?_) (fun g2 => ?_)
      · refine zq_iinc d96_152 rfl rfl ?_
        refine mq_goto (tgt := 103) d96_155 (by decide) ?_
        refine fm_3 L hl h47 hs hr hinj hnn kk j (i + 1) A2 _ (by omega) (by omega) (fun y e => ⟨_, (Option.some.inj e).symm⟩) hE (fun b hb => ?_)
        have := hI b hb
        by_cases y : b = i
        · subst y
          rw [if_neg (fun z => g2 z.2), if_neg (fun z => g2 z.2)]
          exact hii
        · have e2 : (b < i + 1 ∧ nnO o c (f b).toNat = 0) ↔ (b < i ∧ nnO o c (f b).toNat = 0) := by omega
          simp only [e2]
          exact this
      · refine mq_aload_n d96_135 rfl rfl ?_
        refine zg_getR L 75 d96_136 rfl rfl (by decide) rfl (by decide) rfl ?_
        refine mq_iload d96_139 rfl ?_
        refine mq_iload d96_141 rfl ?_
        refine zg_iast L d96_143 (by decide) rfl (by omega) ?_
        refine mq_aload_n d96_144 rfl rfl ?_
        refine zg_getR L 76 d96_145 rfl rfl (by decide) rfl (by decide) rfl ?_
        refine mq_iload d96_148 rfl ?_
        refine zq_iconst d96_150 ?_
        refine zg_iast L d96_151 (by decide) rfl (by omega) ?_
        refine zq_iinc d96_152 rfl rfl ?_
        refine mq_goto (tgt := 103) d96_155 (by decide) ?_
        refine fm_3 L hl h47 hs hr hinj hnn kk j (i + 1) _ _ (by omega) (by omega) (fun y e => ⟨_, (Option.some.inj e).symm⟩) (eo_u2 rfl (eo_u2 rfl hE)) (fun b hb => ?_)
        rw [u2_c (by decide), u2_upf, u2_upf, u2_cell (by decide)]
        unfold upf
        have := hI b hb
        by_cases y : b = i
        · subst y
          rw [if_pos rfl, if_pos rfl, if_pos ⟨by omega, g2⟩, if_pos ⟨by omega, g2⟩]
          exact ⟨rfl, rfl⟩
        · have q : (f b).toNat ≠ (f i).toNat := fun z => y (hinj b i hb his z)
          rw [if_neg q, if_neg q]
          have e2 : (b < i + 1 ∧ nnO o c (f b).toNat = 0) ↔ (b < i ∧ nnO o c (f b).toNat = 0) := by omega
          simp only [e2]
          exact this
theorem nnO_rng {o : Nat → Nat} {c x : Nat} (hc : c ≤ 24) : 0 ≤ nnO o c x ∧ nnO o c x ≤ 100 := by
  have h1 := mdN_nn (pd := o) (N := c) (x := x)
  have h2 := mdN_le (pd := o) (N := c) (x := x)
  unfold mdN at h1 h2
  unfold nnO
  omega
set_option maxRecDepth 100000 in
theorem s_findMiddles (L : Lay K ρ) (hl : l < 12) (h47 : A 47 l = (s : Nat)) (hs : s ≤ 36) (hr : ∀ j, j < s → A (49 + l) j = f j ∧ 0 ≤ f j ∧ f j < 72) (hinj : ∀ i j, i < s → j < s → (f i).toNat = (f j).toNat → i = j) (ho : owO A co cx c o t)
    (kk : ∀ A2, eo [75, 76] A A2 → (∀ j, j < s → A2 75 (f j).toNat = (if nnO o c (f j).toNat = 0 then ((j : Nat) : Int) else smO o t (A 74) c (f j).toNat) ∧ A2 76 (f j).toNat = (if nnO o c (f j).toNat = 0 then 1 else nnO o c (f j).toNat)) → post none (123, K, zs (A2), ρ)) : mj_lv (d + 1) m_Orders_findMiddles [.inr (.inl (some 46)), .inl (iZ (l : Nat)), .inl (iZ (c : Nat)), .inr (.inl (some co)), .inr (.inl (some cx))] (123, K, zs (A), ρ) post := by
  show mj_W (mj_lv d) prog_4_method_8_code 2 0 0 0 post 0 [some (.inr (.inl (some 46))), some (.inl (iZ ((l : Nat)))), some (.inl (iZ ((c : Nat)))), some (.inr (.inl (some co))), some (.inr (.inl (some cx))), none, none] [] (123, K, zs (A), ρ) 0 0
  obtain ⟨h1, ⟨h2, h3, h4⟩, ⟨h5, h6, h7⟩, k1, k2, h8⟩ := id ho
  refine zq_iconst d96_0 ?_
  refine mq_istore d96_1 (Nat.le_of_ble_eq_true rfl) rfl ?_
  refine fm_1 L hl h47 hs hr (fun A2 hE h0 => ?_) (s + 1) 0 A (by omega) (by omega) eo_refl (fun b hb => absurd hb (by omega))
  refine zq_iconst d96_50 ?_
  refine mq_istore d96_51 (Nat.le_of_ble_eq_true rfl) rfl ?_
  refine fm_2 (s := s) (f := f) L ho (fun A3 hE3 h3 => ?_) (c + 1) 0 A2 (by omega) (by omega) hE (fun b hb => h0 b hb)
  refine zq_iconst d96_100 ?_
  refine mq_istore d96_101 (Nat.le_of_ble_eq_true rfl) rfl ?_
  refine fm_3 L hl h47 hs hr hinj (fun x => nnO_rng h1) kk (s + 1) 0 A3 _ (by omega) (by omega) (fun y e => absurd e (by simp)) hE3 (fun b hb => ?_)
  rw [if_neg (by omega), if_neg (by omega)]
  exact h3 b hb
end fm
end sp_md
