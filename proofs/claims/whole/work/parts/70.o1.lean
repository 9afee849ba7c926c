section sp_o1
variable {d : Nat} {post : Option mj_V → mj_H → Prop} {K : Nat → Nat × Nat} {ρ : Nat → Nat → Option Nat} {A : Nat → Nat → Int} {n m : Nat} {U W : Nat → Nat} {th : Nat → Int}
theorem gr_cg (G : GrOK A) : cgOK A := ⟨G.1, G.2.1, G.2.2.2.2.2.2.1⟩
/-- what settle changes -/
def seE (A A2 : Nat → Nat → Int) : Prop := eo [0, 6, 7, 8, 9, 10, 11, 12, 13, 14, 15] A A2 ∧ (∀ j, j ≠ 8 → A2 0 j = A 0 j) ∧ A2 0 8 = 1 ∧ (A 0 8 = 1 → A2 = A)
set_option maxRecDepth 100000 in
theorem s_settle (L : Lay K ρ) (G : cgOK A) (hf : A 0 8 = 0 ∨ A 0 8 = 1) (hs : A 0 8 = 1 → SCc A) (kk : ∀ A2, seE A A2 → SCc A2 → post none (123, K, zs (A2), ρ)) : mj_lv (d + 5) m_Main_settle [.inr (.inl (some 0))] (123, K, zs (A), ρ) post := by
  show mj_W (mj_lv (d + 4)) prog_1_method_25_code 8 0 0 0 post 0 [some (.inr (.inl (some 0)))] [] (123, K, zs (A), ρ) 0 0
  obtain ⟨q1, q2, q3⟩ := id G
  refine mq_aload_n d24_0 rfl rfl ?_
  refine zg_getI L d24_1 rfl rfl (by decide) rfl ?_
  refine zq_if_ne (tgt := 38) d24_4 (by decide) (by omega) (fun g => ?_) (fun g => ?_)
  · refine zg_retv d24_38 (by decide) ?_
    exact kk A ⟨eo_refl, fun _ _ => rfl, by omega, fun _ => rfl⟩ (hs (by omega))
  · refine mq_aload_n d24_7 rfl rfl ?_
    refine zg_getR L 6 d24_8 rfl rfl (by decide) rfl (by decide) rfl ?_
    refine mq_aload_n d24_11 rfl rfl ?_
    refine zg_getR L 1 d24_12 rfl rfl (by decide) rfl (by decide) rfl ?_
    refine zg_callV (c := 6) L [_] d24_15 rfl rfl ⟨rfl, rfl⟩ rfl ⟨rfl, rfl⟩ ⟨by decide, by decide⟩ (by decide) rfl ?_
    refine s_tsearch L q1 q2 (fun a h => by have := q3 a h; omega) (fun a h => (q3 a h).2.2.1) (fun A2 ⟨hE, x, hx, h64, h63⟩ => ?_)
    have hE2 : eo [6, 7, 8, 9] A A2 := eo_of (fun c k hc => hE c k (fun q => by rw [q] at hc; exact absurd hc (by decide)) (fun q => by rw [q] at hc; exact absurd hc (by decide)) (fun q => by rw [q] at hc; exact absurd hc (by decide)) (fun q => by rw [q] at hc; exact absurd hc (by decide)))
    have G2 : cgOK A2 := by
      unfold cgOK
      rw [hE2 1 rfl, hE2 3 rfl, hE2 4 rfl, hE2 5 rfl]
      exact G
    refine mq_aload_n d24_18 rfl rfl ?_
    refine zg_getR L 10 d24_19 rfl rfl (by decide) rfl (by decide) rfl ?_
    refine mq_aload_n d24_22 rfl rfl ?_
    refine zg_getR L 1 d24_23 rfl rfl (by decide) rfl (by decide) rfl ?_
    refine mq_aload_n d24_26 rfl rfl ?_
    refine zg_getR L 6 d24_27 rfl rfl (by decide) rfl (by decide) rfl ?_
    refine zg_callV (c := 10) L [_, _] d24_30 rfl rfl ⟨rfl, rfl⟩ rfl ⟨rfl, rfl⟩ ⟨by decide, by decide⟩ (by decide) rfl ?_
    refine s_lsearch L G2 (x := x) (by rw [hE2 1 rfl, hE2 3 rfl, hE2 4 rfl, hE2 5 rfl]; exact hx) (by rw [hE2 1 rfl]; exact h63) (by rw [hE2 1 rfl]; exact h64) (fun A3 e3 h3 => ?_)
    refine mq_aload_n d24_33 rfl rfl ?_
    refine zq_iconst d24_34 ?_
    refine zg_putZ L d24_35 rfl rfl rfl rfl (by first | decide | omega) (by decide) rfl ?_
    refine zg_retv d24_38 (by decide) ?_
    refine kk _ ⟨?_, ?_, u2_self, fun q => by omega⟩ ?_
    · exact eo_u2 rfl (eo_trans (eo_mono (by decide) hE2) (eo_mono (by decide) e3))
    · intro j hj
      rw [u2_k hj, e3 0 rfl, hE2 0 rfl]
    · obtain ⟨y, y1, y2, y3, y4, y5⟩ := h3
      refine ⟨y, ?_⟩
      unfold ulC at y4 ⊢
      simp only [u2_cell (c := 0) (a := 1) (by decide), u2_cell (c := 0) (a := 3) (by decide), u2_cell (c := 0) (a := 4) (by decide), u2_cell (c := 0) (a := 5) (by decide), u2_cell (c := 0) (a := 6) (by decide), u2_cell (c := 0) (a := 10) (by decide), u2_cell (c := 0) (a := 11) (by decide), u2_cell (c := 0) (a := 12) (by decide), u2_cell (c := 0) (a := 14) (by decide)]
      exact ⟨y1, y2, y3, y4, y5⟩
set_option maxRecDepth 100000 in
theorem s_make2 (L : Lay K ρ) (G : mgOK A) (hf : A 93 7 = 0 ∨ A 93 7 = 1) (hs : A 93 7 = 0 → SMm A) (k : ∀ A2, mkE A A2 → SMm A2 → (A 93 7 = 0 → A2 = A) → post none (123, K, zs (A2), ρ)) : mj_lv (d + 3) m_Mod_make [.inr (.inl (some 93))] (123, K, zs (A), ρ) post := by
  rcases hf with e | e
  · show mj_W (mj_lv (d + 2)) prog_11_method_17_code 9 0 0 0 post 0 [some (.inr (.inl (some 93)))] [] (123, K, zs (A), ρ) 0 0
    refine mq_aload_n d41_0 rfl rfl ?_
    refine zg_getI L d41_1 rfl rfl (by decide) rfl ?_
    refine zq_if_ne (tgt := 8) d41_4 (by decide) (by omega) (fun g => ?_) (fun g => ?_)
    · exact absurd e g
    · refine zg_retv d41_7 (by decide) ?_
      exact k A ⟨eo_refl, fun _ _ => rfl, g⟩ (hs g) (fun _ => rfl)
  · exact s_make L G (Or.inr e) hs (fun A2 h1 h2 => k A2 h1 h2 (fun q => by omega))
theorem SM_fr {B : Nat → Nat → Int} (e93 : ∀ j, j ≠ 7 → j ≠ 8 → B 93 j = A 93 j) (e : ∀ c, 95 ≤ c → c ≤ 101 → B c = A c) (h : SMm A) : SMm B := by
  unfold SMm tuR mUp mLo at *
  rw [e93 0 (by decide) (by decide), e93 1 (by decide) (by decide), e 95 (by decide) (by decide), e 96 (by decide) (by decide), e 97 (by decide) (by decide), e 98 (by decide) (by decide), e 99 (by decide) (by decide), e 100 (by decide) (by decide), e 101 (by decide) (by decide)]
  exact h
theorem SC_fr {B : Nat → Nat → Int} (e : ∀ c, c < 16 → c ≠ 0 → c ≠ 2 → B c = A c) (h : SCc A) : SCc B := by
  unfold SCc ulC at *
  rw [e 1 (by decide) (by decide) (by decide), e 3 (by decide) (by decide) (by decide), e 4 (by decide) (by decide) (by decide), e 5 (by decide) (by decide) (by decide), e 6 (by decide) (by decide) (by decide), e 10 (by decide) (by decide) (by decide), e 11 (by decide) (by decide) (by decide), e 12 (by decide) (by decide) (by decide), e 14 (by decide) (by decide) (by decide)]
  exact h
theorem Gr_fr {B : Nat → Nat → Int} (e93 : ∀ j, j ≠ 7 → B 93 j = A 93 j) (e : ∀ c, (1 ≤ c ∧ c ≤ 5) ∨ (94 ≤ c ∧ c ≤ 97) → B c = A c) (h : GrOK A) : GrOK B := by
  unfold GrOK at *
  rw [e93 0 (by decide), e93 1 (by decide), e93 2 (by decide), e 1 (by decide), e 2 (by decide), e 3 (by decide), e 4 (by decide), e 5 (by decide), e 94 (by decide), e 95 (by decide), e 96 (by decide), e 97 (by decide)]
  exact h
/-- the class has settled, the rest stands -/
theorem jj_se {RN PM GW : (Nat → Nat → Int) → Prop} {B : Nat → Nat → Int} (H : JJ SCc SMm RN PM GW A) (hE : seE A B) (hS : SCc B) : JJ SCc SMm RN PM GW B := by
  obtain ⟨HG, HF, h1, h2, h3, h4, h5⟩ := H
  obtain ⟨e1, e2, e3, e4⟩ := hE
  rcases HF.1 with q | q
  · obtain ⟨f1, f2, f3, f4, f5, f6, f7, f8, f9⟩ := id HF
    have n9 : A 0 9 = 0 := by
      rcases f2 with r | r
      · exact r
      · have := f7 r
        omega
    have n10 : A 0 10 = 0 := by
      rcases f3 with r | r
      · exact r
      · have := f8 r
        omega
    have n11 : A 0 11 = 0 := by
      rcases f4 with r | r
      · exact r
      · have := f9 r
        omega
    have c93 : B 93 = A 93 := e1 93 rfl
    refine ⟨Gr_fr (fun j _ => by rw [c93]) (fun c hc => ?_) HG, ?_, fun _ => hS, fun r => ?_, fun r => ?_, fun r => ?_, fun r => ?_⟩
    · refine e1 c ?_
      simp
      omega
    · unfold FlOK
      rw [e2 9 (by decide), e2 10 (by decide), e2 11 (by decide), e3, c93]
      exact ⟨Or.inr rfl, f2, f3, f4, f5, f6, fun r => ⟨rfl, (f7 r).2⟩, f8, fun r => rfl⟩
    · refine SM_fr (fun j _ _ => by rw [c93]) (fun c a b => ?_) (h2 (by rw [c93] at r; exact r))
      refine e1 c ?_
      simp
      omega
    · rw [e2 9 (by decide)] at r
      omega
    · rw [e2 10 (by decide)] at r
      omega
    · rw [e2 11 (by decide)] at r
      omega
  · rw [e4 q]
    exact ⟨HG, HF, h1, h2, h3, h4, h5⟩
/-- GW speaks of the graph and the tree alone -/
def GWf (GW : (Nat → Nat → Int) → Prop) : Prop := ∀ A B : Nat → Nat → Int, (∀ c, (1 ≤ c ∧ c ≤ 5) ∨ (88 ≤ c ∧ c ≤ 92) → B c = A c) → GW A → GW B
theorem jj_mk {RN PM GW : (Nat → Nat → Int) → Prop} {B : Nat → Nat → Int} (hGW : GWf GW) (H : JJ SCc SMm RN PM GW A) (hE : mkE A B) (hS : SMm B) (hB : A 93 7 = 0 → B = A) : JJ SCc SMm RN PM GW B := by
  obtain ⟨HG, HF, h1, h2, h3, h4, h5⟩ := H
  obtain ⟨e1, e2, e3⟩ := hE
  obtain ⟨f1, f2, f3, f4, f5, f6, f7, f8, f9⟩ := id HF
  have c0 : B 0 = A 0 := e1 0 rfl
  refine ⟨Gr_fr e2 (fun c hc => ?_) HG, ?_, fun r => ?_, fun _ => hS, fun r => ?_, fun r => ?_, fun r => ?_⟩
  · refine e1 c ?_
    simp
    omega
  · unfold FlOK
    rw [c0, e3, e2 8 (by decide)]
    exact ⟨f1, f2, f3, f4, Or.inl rfl, f6, fun r => ⟨(f7 r).1, rfl⟩, f8, f9⟩
  · rw [c0] at r
    refine SC_fr (fun c a _ _ => ?_) (h1 r)
    refine e1 c ?_
    simp
    omega
  · rw [c0] at r
    rw [hB (f7 r).2]
    exact h3 r
  · rw [c0] at r
    rw [hB (f7 (f8 r)).2]
    exact h4 r
  · rw [c0] at r
    refine hGW A B (fun c hc => ?_) (h5 r)
    refine e1 c ?_
    simp
    omega
theorem bk_congr {f t f2 t2 : Nat → Nat} {a : Nat} (h1 : f a = f2 a) (h2 : t a = t2 a) : ∀ l : List Nat, bk f t l a = bk f2 t2 l a
  | [] => rfl
  | v :: l => by
    unfold bk
    rw [bk_congr h1 h2 l, h1, h2]
theorem isTurn_congr {f t f2 t2 : Nat → Nat} {th2 x : Nat → Int} (h1 : ∀ a, a < m → f a = f2 a) (h2 : ∀ a, a < m → t a = t2 a) (h3 : ∀ a, a < m → th a = th2 a) (h : isTurn n m f t th x) : isTurn n m f2 t2 th2 x := by
  obtain ⟨l, a1, a2, a3⟩ := h
  have e : wt m f t th wW = wt m f2 t2 th2 wW := by
    funext v u
    refine cnt_congr (fun a ha => ?_)
    rw [h1 a ha, h2 a ha, h3 a ha]
  rw [e] at a3
  refine ⟨l, a1, fun a ha => ?_, a3⟩
  rw [a2 a ha]
  unfold ind
  rw [h3 a ha, bk_congr (h1 a ha) (h2 a ha)]
theorem isLay_congr {up lo up2 lo2 : Nat → Nat} {th2 y : Nat → Int} (h1 : ∀ a, a < m → up a = up2 a) (h2 : ∀ a, a < m → lo a = lo2 a) (h3 : ∀ a, a < m → th a = th2 a) (h : isLay n m up lo th y) : isLay n m up2 lo2 th2 y := by
  have el : ∀ z, len m up lo th z = len m up2 lo2 th2 z := fun z => cnt_congr (fun a ha => by rw [h1 a ha, h2 a ha, h3 a ha])
  have ef : ∀ z, feas n m up lo th z ↔ feas n m up2 lo2 th2 z := fun z => by
    unfold feas
    constructor
    · intro ⟨q1, q2⟩
      exact ⟨q1, fun a ha t => by rw [← h1 a ha, ← h2 a ha]; exact q2 a ha (by rw [h3 a ha]; exact t)⟩
    · intro ⟨q1, q2⟩
      exact ⟨q1, fun a ha t => by rw [h1 a ha, h2 a ha]; exact q2 a ha (by rw [← h3 a ha]; exact t)⟩
  have eo : ∀ z, isOpt n m up lo th z ↔ isOpt n m up2 lo2 th2 z := fun z => by
    unfold isOpt
    constructor
    · intro ⟨q1, q2⟩
      exact ⟨(ef z).mp q1, fun w hw => by rw [← el, ← el]; exact q2 w ((ef w).mpr hw)⟩
    · intro ⟨q1, q2⟩
      exact ⟨(ef z).mpr q1, fun w hw => by rw [el, el]; exact q2 w ((ef w).mp hw)⟩
  exact ⟨(eo y).mp h.1, fun z hz => h.2 z ((eo z).mpr hz)⟩
/-- both sides have the same turned arcs and the same layers -/
theorem both (G : GrOK A) (hS : SCc A) (hM : SMm A) : ∃ x, isTurn (A 1 4).toNat (A 1 5).toNat (fun a => (A 3 a).toNat) (fun a => (A 4 a).toNat) (A 5) x ∧ A 6 4 = cnt x (A 1 5).toNat ∧ A 6 3 = cnt (fun a => x a * mk2 a) (A 1 5).toNat ∧ (∀ a, a < (A 1 5).toNat → A 98 a = x a ∧ A 100 a = A 11 a ∧ A 101 a = A 12 a ∧ A 11 a = (if x a = 1 then A 4 a else A 3 a) ∧ A 12 a = (if x a = 1 then A 3 a else A 4 a)) ∧ isLay (A 1 4).toNat (A 1 5).toNat (fun a => (A 11 a).toNat) (fun a => (A 12 a).toNat) (A 5) (A 14) ∧ (∀ v, v < (A 1 4).toNat → A 99 v = A 14 v) ∧ A 10 5 = lcV (A 14) (A 1 4).toNat ∧ A 10 6 = len (A 1 5).toNat (fun a => (A 11 a).toNat) (fun a => (A 12 a).toNat) (A 5) (A 14) ∧ A 10 7 = A 10 6 - A 1 6 := by
  obtain ⟨g1, g2, ⟨g3, g4, g5⟩, g6, g7, g8, g9, g10⟩ := id G
  obtain ⟨x, x1, x2, x3, x4, x5, x6, x7, x8⟩ := hS
  obtain ⟨⟨t1, t2⟩, t3⟩ := hM
  have hc : ∀ a, a < (A 1 5).toNat → A 95 a = A 3 a ∧ A 96 a = A 4 a ∧ A 97 a = A 5 a := fun a ha => g7 a (by omega)
  have t1' : isTurn (A 1 4).toNat (A 1 5).toNat (fun a => (A 3 a).toNat) (fun a => (A 4 a).toNat) (A 5) (A 98) := by
    rw [g3, g4] at t1
    exact isTurn_congr (fun a ha => by rw [(hc a ha).1]) (fun a ha => by rw [(hc a ha).2.1]) (fun a ha => (hc a ha).2.2) t1
  have ex := isTurn_one (by omega) t1' x1
  have eu : ∀ a, a < (A 1 5).toNat → A 100 a = A 11 a ∧ A 101 a = A 12 a := fun a ha => by
    have h1 := t2 a (by omega)
    have h2 := x4 a ha
    have h3 := hc a ha
    rw [h1.1, h1.2, h2.1, h2.2, ex a ha, h3.1, h3.2.1]
    exact ⟨rfl, rfl⟩
  have t3' : isLay (A 1 4).toNat (A 1 5).toNat (fun a => (A 11 a).toNat) (fun a => (A 12 a).toNat) (A 5) (A 99) := by
    rw [g3, g4] at t3
    exact isLay_congr (fun a ha => by show (A 100 a).toNat = (A 11 a).toNat; rw [(eu a ha).1]) (fun a ha => by show (A 101 a).toNat = (A 12 a).toNat; rw [(eu a ha).2]) (fun a ha => (hc a ha).2.2) t3
  exact ⟨x, x1, x2, x3, fun a ha => ⟨ex a ha, (eu a ha).1, (eu a ha).2, x4 a ha⟩, x5, isLay_one t3' x5, x6, x7, x8⟩
end sp_o1
