section gdm
variable {Q : Nat → Int → Prop} {sz : Nat → Nat} {h N : Nat} {g pu pd : Nat → Nat} {z : wSt}
/-- the meant state, with layers l and l + 1 in their orders q and q2 -/
def zz1 (sz : Nat → Nat) (M : Nat → Nat → Int) (z : wSt) (l q : Nat) : wSt := (upf z.1 l (fun j => M l (pk (sz l) q j)), nbr (fun j => M l (pk (sz l) q j)) z.2 (sz l))
def zzS (sz : Nat → Nat) (M : Nat → Nat → Int) (z : wSt) (l q q2 : Nat) : wSt := zz1 sz M (zz1 sz M z l q) (l + 1) q2
theorem zz_ok (hQ : ∀ l k x y, Q l x → Q k y → x.toNat = y.toNat → l = k ∧ x = y) (hz : wok Q sz h z) (h6 : ∀ l, l < h → sz l ≤ 6) {l q q2 : Nat} (hl : l + 1 < h) (hq : q < pF (sz l)) (hq2 : q2 < pF (sz (l + 1))) : wok Q sz h (zzS sz z.1 z l q q2) ∧ stands sz z.1 (zzS sz z.1 z l q q2) l q ∧ stands sz z.1 (zzS sz z.1 z l q q2) (l + 1) q2 := by
  have h1 : wok Q sz h (zz1 sz z.1 z l q) := wok_set hQ hz (row_prw (h6 l (by omega)) hq (hz l (by omega)).1)
  refine ⟨wok_set hQ h1 (row_prw (h6 (l + 1) hl) hq2 (hz (l + 1) hl).1), fun j hj => ?_, stands_set (fun _ _ => rfl)⟩
  show upf (upf z.1 l _) (l + 1) _ l j = _
  rw [upf_n (by omega), upf_s]
def prV (sz : Nat → Nat) (N : Nat) (g pu pd : Nat → Nat) (z : wSt) (l q q2 : Nat) : Int := crG g pu pd N (zzS sz z.1 z l q q2).2 l
theorem crG_rng {s : Nat → Int} {l : Nat} (h : N ≤ 84) : 0 ≤ crG g pu pd N s l ∧ crG g pu pd N s l ≤ 7056 := by
  refine ⟨cnt_nonneg (fun p _ => ?_), ?_⟩
  · split
    · exact cnt_nonneg (fun q _ => by unfold crX; split <;> decide)
    · exact Int.le_refl _
  · have h1 := cnt_bnd (b := 84) (m := N) (g := fun p => if g p = l then cnt (fun q => crX g pu pd s p q) N else 0) (fun p _ => by
      have := cnt_bnd (b := 1) (m := N) (g := fun q => crX g pu pd s p q) (fun q _ => by unfold crX; split <;> decide)
      show (if g p = l then cnt (fun q => crX g pu pd s p q) N else 0) ≤ 84
      split <;> omega)
    unfold crG
    omega
/-- the least of the first p sums -/
def mnP (best : Nat → Int) (pr : Nat → Int) (p : Nat) (v : Int) : Prop := (p = 0 ∧ v = 2147483647) ∨ (0 < p ∧ (∀ q, q < p → v ≤ best q + pr q) ∧ ∃ q, q < p ∧ v = best q + pr q)
theorem mnP_s {best pr : Nat → Int} {p : Nat} {v w : Int} (h : mnP best pr p v) (hb : best p + pr p ≤ 2147483647) (hw : w = if best p + pr p < v then best p + pr p else v) : mnP best pr (p + 1) w := by
  refine Or.inr ⟨by omega, fun q hq => ?_, ?_⟩
  · rw [hw]
    by_cases e : q = p
    · rw [e]
      split <;> omega
    · rcases h with ⟨h1, h2⟩ | ⟨h1, h2, h3⟩
      · omega
      · have := h2 q (by omega)
        split <;> omega
  · rw [hw]
    by_cases e : best p + pr p < v
    · rw [if_pos e]
      exact ⟨p, by omega, rfl⟩
    · rw [if_neg e]
      rcases h with ⟨h1, h2⟩ | ⟨h1, h2, q, h3, h4⟩
      · exact ⟨p, by omega, by omega⟩
      · exact ⟨q, by omega, h4⟩
theorem mnP_rng {best pr : Nat → Int} {p : Nat} {v : Int} (h : mnP best pr p v) (hb : ∀ q, q < p → 0 ≤ best q + pr q ∧ best q + pr q ≤ 200000) : 0 ≤ v ∧ v ≤ 2147483647 := by
  rcases h with ⟨h1, h2⟩ | ⟨h1, h2, q, h3, h4⟩
  · omega
  · have := hb q h3
    omega
end gdm
section sp_gd
variable {d : Nat} {post : Option mj_V → mj_H → Prop} {K : Nat → Nat × Nat} {ρ : Nat → Nat → Option Nat} {A : Nat → Nat → Int} {Q : Nat → Int → Prop} {sz : Nat → Nat} {h N : Nat} {g pu pd : Nat → Nat} {z : wSt}
/-- the order that stands at the k-th turn -/
def kkI (F k : Nat) : Nat := if k < F then k else F - 1
theorem kkI_s {F k : Nat} (h : k < F) : (if kkI F k + 1 < F then kkI F k + 1 else kkI F k) = kkI F (k + 1) := by
  unfold kkI
  rw [if_pos h]
  by_cases e : k + 1 < F
  · rw [if_pos e, if_pos e]
  · rw [if_neg e, if_neg e]
    omega
/-- what permuting needs -/
def gdO (A : Nat → Nat → Int) (Q : Nat → Int → Prop) (sz : Nat → Nat) (h N : Nat) (g pu pd : Nat → Nat) (z : wSt) : Prop := cxO Q sz h N g pu pd ∧ pcC A g pu pd N ∧ wok Q sz h z ∧ roC A Q sz h z ∧ ∀ l, l < h → sz l ≤ 6
theorem gdO_eo {B : Nat → Nat → Int} (G : gdO A Q sz h N g pu pd z) (e : ∀ c, c < 77 → B c = A c) : gdO B Q sz h N g pu pd z := by
  obtain ⟨g1, g2, g3, g4, g5⟩ := G
  refine ⟨g1, pcC_eo (fun q hq => by have := (g1.2.2.2.2.2.1 q hq).2.2; have := g1.1; omega) g2 (fun c a b => e c (by omega)), g3, roC_eo g4 g1.1 (fun c hc => e c (by omega)), g5⟩
set_option maxRecDepth 100000 in
theorem gd_1 (L : Lay K ρ) (G : gdO A Q sz h N g pu pd z) {l p : Nat} (hl : l + 1 < h) (hp : p < pF (sz l)) {best : Nat → Int} (hb : ∀ q, q < pF (sz l) → A 78 q = best q ∧ 0 ≤ best q ∧ best q ≤ 100000)
    (h83 : ∀ i j, i < 6 → j < 6 → A 83 (i * 6 + j) = prI g pu pd N l z.2 (A 81) (i : Nat) (j : Nat)) (h81 : ∀ i, i < sz l → A 81 (pk (sz l) p i) = (i : Nat))
    (kk : ∀ A2 x9, eo [79, 82] A A2 → (∀ q2, q2 < pF (sz (l + 1)) → mnP best (fun q => prV sz N g pu pd z l q q2) (p + 1) (A2 79 q2)) → mj_W (mj_lv (d + 2)) prog_5_method_6_code 3 0 0 0 post 128 [some (.inr (.inl (some 77))), some (.inr (.inl (some 16))), some (.inr (.inl (some 46))), some (.inl (iZ ((l : Nat)))), some (.inl (iZ ((sz l : Nat)))), some (.inl (iZ ((sz (l + 1) : Nat)))), some (.inl (iZ ((pF (sz l) : Nat)))), some (.inl (iZ ((pF (sz (l + 1)) : Nat)))), some (.inl (iZ ((p : Nat)))), some (.inl x9)] [] (123, K, zs (A2), ρ) 0 0) : ∀ (j k : Nat) (A2 : Nat → Nat → Int), pF (sz (l + 1)) - k < j → k ≤ pF (sz (l + 1)) → eo [79, 82] A A2 → (∀ j, j < sz (l + 1) → A2 82 j = (pk (sz (l + 1)) (kkI (pF (sz (l + 1))) k) j : Nat)) → (∀ j, sz (l + 1) ≤ j → j < 6 → A2 82 j = (j : Nat)) → (∀ q2, q2 < pF (sz (l + 1)) → mnP best (fun q => prV sz N g pu pd z l q q2) (if q2 < k then p + 1 else p) (A2 79 q2)) → mj_W (mj_lv (d + 2)) prog_5_method_6_code 3 0 0 0 post 75 [some (.inr (.inl (some 77))), some (.inr (.inl (some 16))), some (.inr (.inl (some 46))), some (.inl (iZ ((l : Nat)))), some (.inl (iZ ((sz l : Nat)))), some (.inl (iZ ((sz (l + 1) : Nat)))), some (.inl (iZ ((pF (sz l) : Nat)))), some (.inl (iZ ((pF (sz (l + 1)) : Nat)))), some (.inl (iZ ((p : Nat)))), some (.inl (iZ ((k : Nat))))] [] (123, K, zs (A2), ρ) 0 0
  | 0, k, _, hj, _, _, _, _, _ => absurd hj (by omega)
  | j + 1, k, A2, hj, hk, hE, h82, h82b, hM => by
    have m0 : k < pF (sz (l + 1)) → pF (sz (l + 1)) - (k + 1) < j := by omega
    obtain ⟨g1, g2, g3, g4, g5⟩ := id G
    obtain ⟨x1, x2, x3, y4, y5, y6, y7⟩ := id g1
    have s6 := g5 l (by omega)
    have s6' := g5 (l + 1) hl
    have F720 : pF (sz (l + 1)) ≤ 720 ∧ pF (sz l) ≤ 720 := by
      have q6 := pF6
      have a1 := fct_pF s6
      have a2 := fct_pF s6'
      have a3 := fct_mono s6
      have a4 := fct_mono s6'
      have a5 : fct 6 = 720 := by decide
      omega
    refine mq_iload d107_75 rfl ?_
    refine mq_iload d107_77 rfl ?_
    refine zq_icmp_ge (tgt := 128) d107_79 (by decide) (by omega) (by omega) (fun gb => ?_) (fun gb => ?_)
    · have e : k = pF (sz (l + 1)) := by omega
      subst e
      refine kk A2 _ hE (fun q2 hq2 => ?_)
      have := hM q2 hq2
      rw [if_pos hq2] at this
      exact this
    · have hkF : k < pF (sz (l + 1)) := by omega
      have ek : kkI (pF (sz (l + 1))) k = k := if_pos hkF
      rw [ek] at h82
      have hpp := pk_perm s6' hkF
      obtain ⟨b1, b2, b3⟩ := hb p hp
      have hMk := hM k hkF
      rw [if_neg (by omega)] at hMk
      have rng : ∀ q, q < p → 0 ≤ best q + prV sz N g pu pd z l q k ∧ best q + prV sz N g pu pd z l q k ≤ 200000 := fun q hq => by
        have a1 := hb q (by omega)
        have a2 : 0 ≤ prV sz N g pu pd z l q k ∧ prV sz N g pu pd z l q k ≤ 7056 := crG_rng x3
        omega
      have rv := mnP_rng hMk rng
      have rp : 0 ≤ prV sz N g pu pd z l p k ∧ prV sz N g pu pd z l p k ≤ 7056 := crG_rng x3
      obtain ⟨zk, zs1, zs2⟩ := zz_ok y5 g3 g5 hl hp hkF
      have epr : cnt (fun i => cnt (fun j => if i < j then A2 83 (pk (sz (l + 1)) k i * 6 + pk (sz (l + 1)) k j) else 0) (sz (l + 1))) (sz (l + 1)) = prV sz N g pu pd z l p k := by
        have := price_eq (ua := A 81) (at0 := z.2) y6 (fun k hk => (g3 k hk).1) (fun k hk => (g3 k hk).2) hl s6 s6' hp hkF h81 zk zs1 zs2
        unfold prV
        rw [← this]
        refine cnt_congr (fun i hi => cnt_congr (fun j hj => ?_))
        rw [hE 83 rfl, h83 _ _ (by have := hpp.1 i hi; omega) (by have := hpp.1 j hj; omega)]
      refine mq_aload_n d107_82 rfl rfl ?_
      refine zg_getR L 79 d107_83 rfl rfl (by decide) rfl (by decide) rfl ?_
      refine mq_iload d107_86 rfl ?_
      refine mq_aload_n d107_88 rfl rfl ?_
      refine zg_getR L 79 d107_89 rfl rfl (by decide) rfl (by decide) rfl ?_
      refine mq_iload d107_92 rfl ?_
      refine zg_ialdN L d107_94 (by decide) rfl (by omega) ?_
      refine mq_aload_n d107_95 rfl rfl ?_
      refine zg_getR L 78 d107_96 rfl rfl (by decide) rfl (by decide) rfl ?_
      refine mq_iload d107_99 rfl ?_
      refine zr_ialdV L (best p) d107_101 (by decide) rfl (by omega) ((by rw [hE 78 rfl]; exact b1)) ?_
      refine mq_aload_n d107_102 rfl rfl ?_
      refine mq_iload d107_103 rfl ?_
      refine zg_callV (c := 77) L [_] d107_105 rfl rfl ⟨rfl, rfl⟩ rfl ⟨rfl, rfl⟩ ⟨by decide, by decide⟩ (by decide) rfl ?_
      refine s_price (d := d + 1) (lo := pk (sz (l + 1)) k) L s6' (fun i hi => ⟨h82 i hi, by have := hpp.1 i hi; omega⟩) ?_
      rw [epr]
      refine zq_iadd d107_108 ?_
      refine zr_min d107_109 rfl rfl (by omega) (by omega) ?_
      refine zg_iastN L d107_112 (by decide) rfl (by omega) ?_
      refine mq_aload_n d107_113 rfl rfl ?_
      refine zg_getR L 82 d107_114 rfl rfl (by decide) rfl (by decide) rfl ?_
      refine mq_iload d107_117 rfl ?_
      refine zg_callS [_, _] d107_119 rfl rfl ⟨rfl, rfl⟩ rfl ⟨rfl, rfl⟩ ⟨by decide, by decide⟩ ?_
      have c82 : mj_u2 A2 79 k (if best p + prV sz N g pu pd z l p k < A2 79 k then best p + prV sz N g pu pd z l p k else A2 79 k) 82 = A2 82 := u2_cell (by decide)
      refine s_standNext (d := d) (c := 82) L (by decide) rfl s6' hkF (by rw [c82]; exact h82) (by rw [c82]; exact h82b) (fun A3 e3 n82 n82b => ?_)
      have := kkI_s hkF
      rw [ek] at this
      rw [this] at n82
      refine zq_iinc d107_122 rfl rfl ?_
      refine mq_goto (tgt := 75) d107_125 (by decide) ?_
      refine gd_1 L G hl hp hb h83 h81 kk j (k + 1) A3 (m0 hkF) hkF (eo_trans (eo_u2 rfl hE) (eo_mono (by decide) e3)) n82 n82b (fun q2 hq2 => ?_)
      rw [e3 79 rfl]
      by_cases e : q2 = k
      · subst e
        rw [u2_self, if_pos (by omega)]
        exact mnP_s hMk (by show best p + prV sz N g pu pd z l p q2 ≤ _; omega) rfl
      · rw [u2_k e]
        have h1 := hM q2 hq2
        by_cases e2 : q2 < k
        · rw [if_pos e2] at h1
          rw [if_pos (by omega)]
          exact h1
        · rw [if_neg e2] at h1
          rw [if_neg (by omega)]
          exact h1
set_option maxRecDepth 100000 in
theorem gd_2 (L : Lay K ρ) (G : gdO A Q sz h N g pu pd z) {l : Nat} (hl : l + 1 < h) {best : Nat → Int} (hb : ∀ q, q < pF (sz l) → A 78 q = best q ∧ 0 ≤ best q ∧ best q ≤ 100000)
    (kk : ∀ A2 x9, eo [79, 80, 81, 82, 83] A A2 → (∀ q2, q2 < pF (sz (l + 1)) → mnP best (fun q => prV sz N g pu pd z l q q2) (pF (sz l)) (A2 79 q2)) → mj_W (mj_lv (d + 2)) prog_5_method_6_code 3 0 0 0 post 143 [some (.inr (.inl (some 77))), some (.inr (.inl (some 16))), some (.inr (.inl (some 46))), some (.inl (iZ ((l : Nat)))), some (.inl (iZ ((sz l : Nat)))), some (.inl (iZ ((sz (l + 1) : Nat)))), some (.inl (iZ ((pF (sz l) : Nat)))), some (.inl (iZ ((pF (sz (l + 1)) : Nat)))), some (.inl (iZ ((pF (sz l) : Nat)))), x9] [] (123, K, zs (A2), ρ) 0 0) : ∀ (j p : Nat) (A2 : Nat → Nat → Int) (x9 : Option mj_V), pF (sz l) - p < j → p ≤ pF (sz l) → (∀ y, x9 = some y → ∃ w, y = .inl w) → eo [79, 80, 81, 82, 83] A A2 → (∀ j, j < sz l → A2 80 j = (pk (sz l) (kkI (pF (sz l)) p) j : Nat)) → (∀ j, sz l ≤ j → j < 6 → A2 80 j = (j : Nat)) → (∀ q2, q2 < pF (sz (l + 1)) → mnP best (fun q => prV sz N g pu pd z l q q2) p (A2 79 q2)) → mj_W (mj_lv (d + 2)) prog_5_method_6_code 3 0 0 0 post 51 [some (.inr (.inl (some 77))), some (.inr (.inl (some 16))), some (.inr (.inl (some 46))), some (.inl (iZ ((l : Nat)))), some (.inl (iZ ((sz l : Nat)))), some (.inl (iZ ((sz (l + 1) : Nat)))), some (.inl (iZ ((pF (sz l) : Nat)))), some (.inl (iZ ((pF (sz (l + 1)) : Nat)))), some (.inl (iZ ((p : Nat)))), x9] [] (123, K, zs (A2), ρ) 0 0
  | 0, p, _, _, hj, _, _, _, _, _, _ => absurd hj (by omega)
  | j + 1, p, A2, x9, hj, hp, hx9, hE, h80, h80b, hM => by
    obtain ⟨g1, g2, g3, g4, g5⟩ := id G
    have s6 := g5 l (by omega)
    have s6' := g5 (l + 1) hl
    have Fp := pF_pos s6'
    have F720 : pF (sz (l + 1)) ≤ 720 ∧ pF (sz l) ≤ 720 := by
      have a1 := fct_pF s6
      have a2 := fct_pF s6'
      have a3 := fct_mono s6
      have a4 := fct_mono s6'
      have a5 : fct 6 = 720 := by decide
      omega
    refine mq_iload d107_51 rfl ?_
    refine mq_iload d107_53 rfl ?_
    refine zq_icmp_ge (tgt := 143) d107_55 (by decide) (by omega) (by omega) (fun gb => ?_) (fun gb => ?_)
    · have e : p = pF (sz l) := by omega
      subst e
      exact kk A2 x9 hE hM
    · have hpF : p < pF (sz l) := by omega
      have ep : kkI (pF (sz l)) p = p := if_pos hpF
      rw [ep] at h80
      obtain ⟨-, a2, -, a4, -⟩ := gdO_eo G (B := A2) (fun c hc => hE c (by simp; omega))
      refine mq_aload_n d107_58 rfl rfl ?_
      refine mq_aload_n d107_59 rfl rfl ?_
      refine mq_aload_n d107_60 rfl rfl ?_
      refine mq_iload_n d107_61 rfl rfl ?_
      refine zg_callV (c := 77) L [_, _, _] d107_62 rfl rfl ⟨rfl, rfl⟩ rfl ⟨rfl, rfl⟩ ⟨by decide, by decide⟩ (by decide) rfl ?_
      refine s_psetPrices (d := d) L g1 a2 g3 a4 g5 hl hpF h80 h80b (fun A3 e3 h81 h83 => ?_)
      refine mq_aload_n d107_65 rfl rfl ?_
      refine zg_getR L 82 d107_66 rfl rfl (by decide) rfl (by decide) rfl ?_
      refine zg_callS [_] d107_69 rfl rfl ⟨rfl, rfl⟩ rfl ⟨rfl, rfl⟩ ⟨by decide, by decide⟩ ?_
      refine s_standFirst (d := d + 1) (c := 82) L (by decide) rfl (fun A4 e4 h82 => ?_)
      have c4 : ∀ c, c ≠ 82 → A4 c = A3 c := fun c hc => e4 c (by simp; omega)
      have E4 : eo [79, 80, 81, 82, 83] A A4 := eo_trans (eo_trans hE (eo_mono (by decide) e3)) (eo_mono (by decide) e4)
      have st9 : mj_ok [some (.inr (.inl (some 77))), some (.inr (.inl (some 16))), some (.inr (.inl (some 46))), some (.inl (iZ ((l : Nat)))), some (.inl (iZ ((sz l : Nat)))), some (.inl (iZ ((sz (l + 1) : Nat)))), some (.inl (iZ ((pF (sz l) : Nat)))), some (.inl (iZ ((pF (sz (l + 1)) : Nat)))), some (.inl (iZ ((p : Nat)))), x9] 9 = true := by
        cases x9 with
        | none => rfl
        | some y =>
          obtain ⟨w, rfl⟩ := hx9 y rfl
          rfl
      refine zq_iconst d107_72 ?_
      refine mq_istore d107_73 (Nat.le_of_ble_eq_true rfl) st9 ?_
      refine gd_1 (A := A4) (best := best) L (gdO_eo G (fun c hc => E4 c (by simp; omega))) hl hpF (fun q hq => by rw [E4 78 rfl]; exact hb q hq) (by rw [c4 83 (by decide), c4 81 (by decide)]; exact h83) (by rw [c4 81 (by decide)]; exact h81) (fun A5 y9 e5 h5 => ?_) (pF (sz (l + 1)) + 1) 0 A4 (by omega) (by omega) eo_refl (fun j hj => ?_) (fun j h1 h2 => h82 j h2) (fun q2 hq2 => ?_)
      · have c80 : A5 80 = A2 80 := by rw [e5 80 rfl, c4 80 (by decide), e3 80 rfl]
        refine mq_aload_n d107_128 rfl rfl ?_
        refine zg_getR L 80 d107_129 rfl rfl (by decide) rfl (by decide) rfl ?_
        refine mq_iload d107_132 rfl ?_
        refine zg_callS [_, _] d107_134 rfl rfl ⟨rfl, rfl⟩ rfl ⟨rfl, rfl⟩ ⟨by decide, by decide⟩ ?_
        refine s_standNext (d := d) (c := 80) L (by decide) rfl s6 hpF (by rw [c80]; exact h80) (by rw [c80]; exact h80b) (fun A6 e6 n80 n80b => ?_)
        have := kkI_s hpF
        rw [ep] at this
        rw [this] at n80
        refine zq_iinc d107_137 rfl rfl ?_
        refine mq_goto (tgt := 51) d107_140 (by decide) ?_
        refine gd_2 L G hl hb kk j (p + 1) A6 _ (by omega) hpF (fun y e => ⟨_, (Option.some.inj e).symm⟩) (eo_trans (eo_trans E4 (eo_mono (by decide) e5)) (eo_mono (by decide) e6)) n80 n80b (fun q2 hq2 => ?_)
        rw [e6 79 rfl]
        exact h5 q2 hq2
      · have e0 : kkI (pF (sz (l + 1))) 0 = 0 := if_pos Fp
        rw [e0, pk_0 s6' hj, h82 j (by omega)]
      · rw [if_neg (by omega), c4 79 (by decide), e3 79 rfl]
        exact hM q2 hq2
set_option maxRecDepth 100000 in
theorem s_goDown (L : Lay K ρ) (G : gdO A Q sz h N g pu pd z) {l : Nat} (hl : l + 1 < h) (hb : ∀ q, q < pF (sz l) → 0 ≤ A 78 q ∧ A 78 q ≤ 100000) (hd : dpB Q sz h N g pu pd z.1 l (A 78))
    (kk : ∀ A2, eo [78, 79, 80, 81, 82, 83] A A2 → dpB Q sz h N g pu pd z.1 (l + 1) (A2 78) → (∀ q, q < pF (sz (l + 1)) → ∃ q2, q2 < pF (sz l) ∧ A2 78 q ≤ A 78 q2 + 7056 ∧ 0 ≤ A2 78 q) → post none (123, K, zs (A2), ρ)) : mj_lv (d + 3) m_Permuting_goDown [.inr (.inl (some 77)), .inr (.inl (some 16)), .inr (.inl (some 46)), .inl (iZ (l : Nat))] (123, K, zs (A), ρ) post := by
  obtain ⟨g1, g2, g3, g4, g5⟩ := id G
  obtain ⟨x1, x2, x3, y4, y5, y6, y7⟩ := id g1
  have s6 := g5 l (by omega)
  have s6' := g5 (l + 1) hl
  have Fp := pF_pos s6
  have Fp' := pF_pos s6'
  have F720 : pF (sz (l + 1)) ≤ 720 ∧ pF (sz l) ≤ 720 := by
    have a1 := fct_pF s6
    have a2 := fct_pF s6'
    have a3 := fct_mono s6
    have a4 := fct_mono s6'
    have a5 : fct 6 = 720 := by decide
    omega
  have e1 : ((l : Nat) : Int) + 1 = ((l + 1 : Nat) : Int) := by omega
  show mj_W (mj_lv (d + 2)) prog_5_method_6_code 3 0 0 0 post 0 [some (.inr (.inl (some 77))), some (.inr (.inl (some 16))), some (.inr (.inl (some 46))), some (.inl (iZ ((l : Nat)))), none, none, none, none, none, none] [] (123, K, zs (A), ρ) 0 0
  refine mq_aload_n d107_0 rfl rfl ?_
  refine zg_getR L 47 d107_1 rfl rfl (by decide) rfl (by decide) rfl ?_
  refine mq_iload_n d107_4 rfl rfl ?_
  refine zr_ialdV L ((sz l : Nat)) d107_5 (by decide) rfl (by omega) (g4.2.1 l (by omega)) ?_
  refine mq_istore d107_6 (Nat.le_of_ble_eq_true rfl) rfl ?_
  refine mq_aload_n d107_8 rfl rfl ?_
  refine zg_getR L 47 d107_9 rfl rfl (by decide) rfl (by decide) rfl ?_
  refine mq_iload_n d107_12 rfl rfl ?_
  refine zq_iconst d107_13 ?_
  refine zq_iadd d107_14 ?_
  rw [e1]
  refine zr_ialdV L ((sz (l + 1) : Nat)) d107_15 (by decide) rfl (by omega) (g4.2.1 (l + 1) hl) ?_
  refine mq_istore d107_16 (Nat.le_of_ble_eq_true rfl) rfl ?_
  refine mq_iload d107_18 rfl ?_
  refine zg_callS [_] d107_20 rfl rfl ⟨rfl, rfl⟩ rfl ⟨rfl, rfl⟩ ⟨by decide, by decide⟩ ?_
  refine s_permutations (d := d + 1) s6 ?_
  refine mq_istore d107_23 (Nat.le_of_ble_eq_true rfl) rfl ?_
  refine mq_iload d107_25 rfl ?_
  refine zg_callS [_] d107_27 rfl rfl ⟨rfl, rfl⟩ rfl ⟨rfl, rfl⟩ ⟨by decide, by decide⟩ ?_
  refine s_permutations (d := d + 1) s6' ?_
  refine mq_istore d107_30 (Nat.le_of_ble_eq_true rfl) rfl ?_
  refine mq_aload_n d107_32 rfl rfl ?_
  refine zg_getR L 79 d107_33 rfl rfl (by decide) rfl (by decide) rfl ?_
  refine zr_ldc (2147483647) d107_36 (by decide) ?_
  refine zg_callS [_, _] d107_38 rfl rfl ⟨rfl, rfl⟩ rfl ⟨rfl, rfl⟩ ⟨by decide, by decide⟩ ?_
  refine s_fill L (by decide) rfl (by decide) ?_
  obtain ⟨B, hB⟩ : ∃ B, B = fl A 79 720 2147483647 := ⟨_, rfl⟩
  rw [← hB]
  have bc : ∀ c, c ≠ 79 → B c = A c := fun c hc => by rw [hB, fl_c hc]
  refine mq_aload_n d107_41 rfl rfl ?_
  refine zg_getR L 80 d107_42 rfl rfl (by decide) rfl (by decide) rfl ?_
  refine zg_callS [_] d107_45 rfl rfl ⟨rfl, rfl⟩ rfl ⟨rfl, rfl⟩ ⟨by decide, by decide⟩ ?_
  refine s_standFirst (d := d + 1) (c := 80) L (by decide) rfl (fun A2 e2 h80 => ?_)
  have E2 : eo [79, 80, 81, 82, 83] A A2 := fun c hc => by
    simp at hc
    rw [e2 c (by simp; omega), bc c (by omega)]
  refine zq_iconst d107_48 ?_
  refine mq_istore d107_49 (Nat.le_of_ble_eq_true rfl) rfl ?_
  refine gd_2 (A := A) (best := A 78) L G hl (fun q hq => ⟨rfl, hb q hq⟩) (fun A3 y9 e3 h3 => ?_) (pF (sz l) + 1) 0 A2 _ (by omega) (by omega) (fun y e => absurd e (by simp)) E2 (fun j hj => ?_) (fun j h1 h2 => h80 j h2) (fun q2 hq2 => ?_)
  · refine mq_aload_n d107_143 rfl rfl ?_
    refine zg_getR L 79 d107_144 rfl rfl (by decide) rfl (by decide) rfl ?_
    refine zq_iconst d107_147 ?_
    refine mq_aload_n d107_148 rfl rfl ?_
    refine zg_getR L 78 d107_149 rfl rfl (by decide) rfl (by decide) rfl ?_
    refine zq_iconst d107_152 ?_
    refine mq_iload d107_153 rfl ?_
    refine zr_copy L d107_155 rfl (by decide) rfl (by decide) rfl (by omega) rfl ?_
    refine zg_retv d107_158 (by decide) ?_
    have fin : ∀ q2, q2 < pF (sz (l + 1)) → cpA A3 79 78 (pF (sz (l + 1))) 78 q2 = A3 79 q2 := fun q2 hq2 => cpA_in hq2
    have hmn : ∀ q2, q2 < pF (sz (l + 1)) → (∀ q, q < pF (sz l) → A3 79 q2 ≤ A 78 q + prV sz N g pu pd z l q q2) ∧ ∃ q, q < pF (sz l) ∧ A3 79 q2 = A 78 q + prV sz N g pu pd z l q q2 := fun q2 hq2 => by
      rcases h3 q2 hq2 with ⟨q, -⟩ | ⟨-, q, r⟩
      · omega
      · exact ⟨q, r⟩
    refine kk _ (fun c hc => ?_) ?_ (fun q hq => ?_)
    · simp at hc
      rw [cpA_c (by omega)]
      exact e3 c (by simp; omega)
    · refine dpB_s (best := A 78) (pr := prV sz N g pu pd z l) y5 y6 (fun k hk => (g3 k hk).1) hl s6' hd (fun q q2 z' hq hq2 hz' s1 s2 => ?_) (fun q2 hq2 => ?_)
      · obtain ⟨zk, zs1, zs2⟩ := zz_ok y5 g3 g5 hl hq hq2
        refine crG_rows y6 zk hz' (fun k hk hkh j hj => ?_)
        rcases hk with e | e
        · subst e
          rw [zs1 j hj, s1 j hj]
        · subst e
          rw [zs2 j hj, s2 j hj]
      · rw [fin q2 hq2]
        exact hmn q2 hq2
    · obtain ⟨-, q2, h4, h5⟩ := hmn q hq
      have a2 : 0 ≤ prV sz N g pu pd z l q2 q ∧ prV sz N g pu pd z l q2 q ≤ 7056 := crG_rng x3
      have a3 := hb q2 h4
      exact ⟨q2, h4, by rw [fin q hq]; omega, by rw [fin q hq]; omega⟩
  · have e0 : kkI (pF (sz l)) 0 = 0 := if_pos Fp
    rw [e0, pk_0 s6 hj, h80 j (by omega)]
  · refine Or.inl ⟨rfl, ?_⟩
    rw [e2 79 rfl, hB, fl_lt (by omega)]
/-- what fewest must be -/
def PMv (Q : Nat → Int → Prop) (sz : Nat → Nat) (h N : Nat) (g pu pd : Nat → Nat) (v : Int) : Prop := (5000 < totF sz h → v = -4) ∧ (totF sz h ≤ 5000 → mnV Q sz h N g pu pd v)
set_option maxRecDepth 100000 in
theorem ps_1 (L : Lay K ρ) (G : gdO A Q sz h N g pu pd z) (hh : 1 ≤ h) (kk : ∀ A2, eo [78, 79, 80, 81, 82, 83] A A2 → dpB Q sz h N g pu pd z.1 (h - 1) (A2 78) → (∀ q, q < pF (sz (h - 1)) → 0 ≤ A2 78 q ∧ A2 78 q ≤ 100000) → mj_W (mj_lv (d + 3)) prog_5_method_2_code 3 0 0 0 post 47 [some (.inr (.inl (some 77))), some (.inr (.inl (some 16))), some (.inr (.inl (some 46))), some (.inl (iZ ((h - 1 : Nat))))] [] (123, K, zs (A2), ρ) 0 0) : ∀ (j l : Nat) (A2 : Nat → Nat → Int), h - 1 - l < j → l ≤ h - 1 → eo [78, 79, 80, 81, 82, 83] A A2 → dpB Q sz h N g pu pd z.1 l (A2 78) → (∀ q, q < pF (sz l) → 0 ≤ A2 78 q ∧ A2 78 q ≤ 8000 * l) → mj_W (mj_lv (d + 3)) prog_5_method_2_code 3 0 0 0 post 24 [some (.inr (.inl (some 77))), some (.inr (.inl (some 16))), some (.inr (.inl (some 46))), some (.inl (iZ ((l : Nat))))] [] (123, K, zs (A2), ρ) 0 0
  | 0, l, _, hj, _, _, _, _ => absurd hj (by omega)
  | j + 1, l, A2, hj, hl, hE, hd, hb => by
    obtain ⟨g1, g2, g3, g4, g5⟩ := id G
    have h12 := g1.1
    refine mq_iload_n d103_24 rfl rfl ?_
    refine mq_aload_n d103_25 rfl rfl ?_
    refine zg_getIe L ((h : Nat)) d103_26 rfl rfl (by decide) rfl ((by rw [hE 46 rfl]; exact g4.1)) ?_
    refine zq_iconst d103_29 ?_
    refine zq_isub d103_30 ?_
    refine zq_icmp_ge (tgt := 47) d103_31 (by decide) (by omega) (by omega) (fun gb => ?_) (fun gb => ?_)
    · have e : l = h - 1 := by omega
      subst e
      exact kk A2 hE hd (fun q hq => by have := hb q hq; omega)
    · refine mq_aload_n d103_34 rfl rfl ?_
      refine mq_aload_n d103_35 rfl rfl ?_
      refine mq_aload_n d103_36 rfl rfl ?_
      refine mq_iload_n d103_37 rfl rfl ?_
      refine zg_callV (c := 77) L [_, _, _] d103_38 rfl rfl ⟨rfl, rfl⟩ rfl ⟨rfl, rfl⟩ ⟨by decide, by decide⟩ (by decide) rfl ?_
      refine s_goDown (d := d) L (gdO_eo G (fun c hc => hE c (by simp; omega))) (show l + 1 < h by omega) (fun q hq => by have := hb q hq; omega) hd (fun A3 e3 hd3 hb3 => ?_)
      refine zq_iinc d103_41 rfl rfl ?_
      refine mq_goto (tgt := 24) d103_44 (by decide) ?_
      refine ps_1 L G hh kk j (l + 1) A3 (by omega) (by omega) (eo_trans hE e3) hd3 (fun q hq => ?_)
      obtain ⟨q2, h1, h2, h3⟩ := hb3 q hq
      have := hb q2 h1
      omega
set_option maxRecDepth 100000 in
theorem s_psearch (L : Lay K ρ) (hx : cxO Q sz h N g pu pd) (hpc : pcC A g pu pd N) (hz : wok Q sz h z) (hr : roC A Q sz h z) (kk : ∀ A2, (∀ c, c < 77 ∨ 83 < c → A2 c = A c) → PMv Q sz h N g pu pd (A2 77 6) → post none (123, K, zs (A2), ρ)) : mj_lv (d + 4) m_Permuting_search [.inr (.inl (some 77)), .inr (.inl (some 16)), .inr (.inl (some 46))] (123, K, zs (A), ρ) post := by
  obtain ⟨x1, x2, x3, y4, y5, y6, y7⟩ := id hx
  show mj_W (mj_lv (d + 3)) prog_5_method_2_code 3 0 0 0 post 0 [some (.inr (.inl (some 77))), some (.inr (.inl (some 16))), some (.inr (.inl (some 46))), none] [] (123, K, zs (A), ρ) 0 0
  refine mq_aload_n d103_0 rfl rfl ?_
  refine zg_callS [_] d103_1 rfl rfl ⟨rfl, rfl⟩ rfl ⟨rfl, rfl⟩ ⟨by decide, by decide⟩ ?_
  refine s_hasTooMany (d := d + 2) L hr.1 (fun l hl => ⟨hr.2.1 l hl, x2 l hl⟩) x1 (fun ht => ?_) (fun ht => ?_)
  · refine zq_if_eq (tgt := 14) d103_4 (by decide) (by omega) (fun gb => ?_) (fun gb => ?_)
    · exact absurd gb (by decide)
    · refine mq_aload_n d103_7 rfl rfl ?_
      refine zq_bipush d103_8 rfl ?_
      refine zg_putI L d103_10 rfl rfl rfl rfl (by decide) rfl ?_
      refine zg_retv d103_13 (by decide) ?_
      refine kk _ (fun c hc => u2_cell (by omega)) ⟨fun _ => u2_self, fun q => by omega⟩
  · have h6 : ∀ l, l < h → sz l ≤ 6 := fun l hl => tot_6 ht hl
    refine zq_if_eq (tgt := 14) d103_4 (by decide) (by omega) (fun gb => ?_) (fun gb => ?_)
    · refine mq_aload_n d103_14 rfl rfl ?_
      refine zg_getR L 78 d103_15 rfl rfl (by decide) rfl (by decide) rfl ?_
      refine zq_iconst d103_18 ?_
      refine zg_callS [_, _] d103_19 rfl rfl ⟨rfl, rfl⟩ rfl ⟨rfl, rfl⟩ ⟨by decide, by decide⟩ ?_
      refine s_fill L (by decide) rfl (by decide) ?_
      obtain ⟨B, hB⟩ : ∃ B, B = fl A 78 720 0 := ⟨_, rfl⟩
      rw [← hB]
      have bc : ∀ c, c ≠ 78 → B c = A c := fun c hc => by rw [hB, fl_c hc]
      have G : gdO B Q sz h N g pu pd z := gdO_eo ⟨hx, hpc, hz, hr, h6⟩ (fun c hc => bc c (by omega))
      refine zq_iconst d103_22 ?_
      refine mq_istore_n d103_23 rfl (Nat.le_of_ble_eq_true rfl) rfl ?_
      by_cases hh : 1 ≤ h
      · have F0 : pF (sz 0) ≤ 720 := by
          have a1 := fct_pF (h6 0 (by omega))
          have a3 := fct_mono (h6 0 (by omega))
          have a5 : fct 6 = 720 := by decide
          omega
        have b0 : ∀ q, q < pF (sz 0) → B 78 q = 0 := fun q hq => by rw [hB, fl_lt (by omega)]
        have s6 := h6 (h - 1) (by omega)
        have Fp := pF_pos s6
        have F7 : pF (sz (h - 1)) ≤ 720 := by
          have a1 := fct_pF s6
          have a3 := fct_mono s6
          have a5 : fct 6 = 720 := by decide
          omega
        refine ps_1 (A := B) L G hh (fun A2 e2 hd hb => ?_) h 0 B (by omega) (by omega) eo_refl (dpB_0 y5 hz (fun l hl => (hz l hl).1) (by omega) (h6 0 (by omega)) b0) (fun q hq => by rw [b0 q hq]; omega)
        have e46 : A2 46 = A 46 := by rw [e2 46 rfl, bc 46 (by decide)]
        have e47 : A2 47 = A 47 := by rw [e2 47 rfl, bc 47 (by decide)]
        have eh : ((h : Nat) : Int) - 1 = ((h - 1 : Nat) : Int) := by omega
        refine mq_aload_n d103_47 rfl rfl ?_
        refine zq_iconst d103_48 ?_
        refine zg_putI L d103_49 rfl rfl rfl rfl (by decide) rfl ?_
        refine mq_aload_n d103_52 rfl rfl ?_
        refine zg_getIe L ((h : Nat)) d103_53 rfl rfl (by decide) rfl ((by rw [u2_c (by decide), e46]; exact hr.1)) ?_
        refine zq_if_le (tgt := 81) d103_56 (by decide) (by omega) (fun g2 => ?_) (fun g2 => ?_)
        · omega
        · refine mq_aload_n d103_59 rfl rfl ?_
          refine mq_aload_n d103_60 rfl rfl ?_
          refine mq_aload_n d103_61 rfl rfl ?_
          refine zg_getR L 47 d103_62 rfl rfl (by decide) rfl (by decide) rfl ?_
          refine mq_aload_n d103_65 rfl rfl ?_
          refine zg_getIe L ((h : Nat)) d103_66 rfl rfl (by decide) rfl ((by rw [u2_c (by decide), e46]; exact hr.1)) ?_
          refine zq_iconst d103_69 ?_
          refine zq_isub d103_70 ?_
          rw [eh]
          refine zr_ialdV L ((sz (h - 1) : Nat)) d103_71 (by decide) rfl (by omega) ((by rw [u2_c (by decide), e47]; exact hr.2.1 (h - 1) (by omega))) ?_
          refine zg_callS [_] d103_72 rfl rfl ⟨rfl, rfl⟩ rfl ⟨rfl, rfl⟩ ⟨by decide, by decide⟩ ?_
          refine s_permutations (d := d + 2) s6 ?_
          refine zg_callV (c := 77) L [_] d103_75 rfl rfl ⟨rfl, rfl⟩ rfl ⟨rfl, rfl⟩ ⟨by decide, by decide⟩ (by decide) rfl ?_
          refine s_least (d := d + 2) L F7 Fp (fun q hq => by rw [u2_c (by decide)]; have := hb q hq; omega) (fun v v1 v2 => ?_)
          refine zg_putI L d103_78 rfl rfl rfl rfl (by decide) rfl ?_
          refine zg_retv d103_81 (by decide) ?_
          rw [u2_cell (by decide)] at v1 v2
          refine kk _ (fun c hc => ?_) ⟨fun q => by omega, fun _ => ?_⟩
          · rw [u2_cell (by omega), u2_cell (by omega), e2 c (by simp; omega), bc c (by omega)]
          · rw [u2_self]
            exact dpB_end y6 (fun l hl => (hz l hl).1) (by omega) hd ⟨v1, v2⟩
      · have h0 : h = 0 := by omega
        refine mq_iload_n d103_24 rfl rfl ?_
        refine mq_aload_n d103_25 rfl rfl ?_
        refine zg_getIe L ((h : Nat)) d103_26 rfl rfl (by decide) rfl ((by rw [bc 46 (by decide)]; exact hr.1)) ?_
        refine zq_iconst d103_29 ?_
        refine zq_isub d103_30 ?_
        refine zq_icmp_ge (tgt := 47) d103_31 (by decide) (by omega) (by omega) (fun g1 => ?_) (fun g1 => ?_)
        · refine mq_aload_n d103_47 rfl rfl ?_
          refine zq_iconst d103_48 ?_
          refine zg_putI L d103_49 rfl rfl rfl rfl (by decide) rfl ?_
          refine mq_aload_n d103_52 rfl rfl ?_
          refine zg_getIe L ((h : Nat)) d103_53 rfl rfl (by decide) rfl ((by rw [u2_c (by decide), bc 46 (by decide)]; exact hr.1)) ?_
          refine zq_if_le (tgt := 81) d103_56 (by decide) (by omega) (fun g2 => ?_) (fun g2 => ?_)
          · refine zg_retv d103_81 (by decide) ?_
            refine kk _ (fun c hc => ?_) ⟨fun q => by omega, fun _ => ?_⟩
            · rw [u2_cell (by omega), bc c (by omega)]
            · rw [u2_self]
              have N0 : N = 0 := by
                rcases Nat.eq_zero_or_pos N with q | q
                · exact q
                · have := (y6 0 q).2.2
                  omega
              subst N0
              exact ⟨⟨z, hz, rfl⟩, fun z' _ => Int.le_refl _⟩
          · omega
        · omega
    · exact absurd rfl gb
end sp_gd
