section sp_l2
variable {d : Nat} {post : Option mj_V → mj_H → Prop} {K : Nat → Nat × Nat} {ρ : Nat → Nat → Option Nat} {A : Nat → Nat → Int} {n m : Nat} {U W Y : Nat → Nat} {th : Nat → Int}
set_option maxRecDepth 100000 in
theorem la_4 (L : Lay K ρ) {x1 : Int32} {x3 x4 x5 : Option mj_V} (kk : mj_W (mj_lv d) prog_11_method_26_code 9 0 0 0 post 251 [some (.inr (.inl (some 93))), some (.inl x1), some (.inl (iZ (12))), x3, x4, x5] [] (123, K, zs (fl A 112 12 0), ρ) 0 0) : ∀ (j i : Nat), 12 - i < j → i ≤ 12 → mj_W (mj_lv d) prog_11_method_26_code 9 0 0 0 post 232 [some (.inr (.inl (some 93))), some (.inl x1), some (.inl (iZ ((i : Int)))), x3, x4, x5] [] (123, K, zs (fl A 112 i 0), ρ) 0 0
  | 0, i, hj, _ => absurd hj (by omega)
  | j + 1, i, hj, hi => by
    refine mq_iload_n d50_232 rfl rfl ?_
    refine zq_bipush d50_233 rfl ?_
    refine zq_icmp_ge (tgt := 251) d50_235 (by decide) (by omega) (by omega) (fun g => ?_) (fun g => ?_)
    · have e : i = 12 := by omega
      subst e
      exact kk
    · refine mq_aload_n d50_238 rfl rfl ?_
      refine zg_getR L 112 d50_239 rfl rfl (by decide) rfl (by decide) rfl ?_
      refine mq_iload_n d50_242 rfl rfl ?_
      refine zq_iconst d50_243 ?_
      refine zg_iastN L d50_244 (by decide) rfl (by omega) ?_
      rw [fl_s]
      refine zq_iinc d50_245 rfl rfl ?_
      refine mq_goto (tgt := 232) d50_248 (by decide) ?_
      exact la_4 L kk j (i + 1) (by omega) (by omega)
/-- what lay leaves -/
def laL : List Nat := [93, 106, 107, 108, 109, 110, 111, 112, 113]
def laR (A : Nat → Nat → Int) (n m : Nat) (U W Y : Nat → Nat) (th : Nat → Int) (A2 : Nat → Nat → Int) : Prop := eo laL A A2 ∧ (∀ j, j ≠ 22 → A2 93 j = A 93 j) ∧ A2 93 22 = (wB U W Y th m : Nat) ∧ (∀ b, b < 80 → A2 107 b = (if b < n ∨ (12 ≤ b ∧ b < wF U W Y th m) then 1 else 0)) ∧ (∀ b, b < 80 → b < n ∨ (12 ≤ b ∧ b < wF U W Y th m) → A2 106 b = (wL m U W Y th b : Nat)) ∧ (∀ q, q < wB U W Y th m → A2 109 q = (wU m U W Y th q : Nat) ∧ A2 110 q = (wD m U W Y th q : Nat)) ∧ (∀ b, b < m → th b = 1 → A2 108 b = (wF U W Y th b : Nat))
set_option maxRecDepth 100000 in
theorem la_5 (L : Lay K ρ) (h2 : dr n m U W Y th) {x1 : Int32} {x4 x5 : Option mj_V} (kk : ∀ A2, laR A n m U W Y th A2 → rwM A2 (wK n m U W Y th) 80 → post none (123, K, zs (A2), ρ)) : ∀ (j i : Nat) (A2 : Nat → Nat → Int) (x3 : Option mj_V), 80 - i < j → i ≤ 80 → (∀ y, x3 = some y → ∃ w, y = .inl w) → laR A n m U W Y th A2 → rwM A2 (wK n m U W Y th) i → mj_W (mj_lv d) prog_11_method_26_code 9 0 0 0 post 253 [some (.inr (.inl (some 93))), some (.inl x1), some (.inl (iZ ((i : Int)))), x3, x4, x5] [] (123, K, zs (A2), ρ) 0 0
  | 0, i, _, _, hj, _, _, _, _ => absurd hj (by omega)
  | j + 1, i, A2, x3, hj, hi, hx3, hL, hR => by
    obtain ⟨hE, e93, e22, e107, e106, ePP, e108⟩ := id hL
    have hn12 := h2.1
    refine mq_iload_n d50_253 rfl rfl ?_
    refine zq_bipush d50_254 rfl ?_
    refine zq_icmp_ge (tgt := 320) d50_256 (by decide) (by omega) (by omega) (fun g => ?_) (fun g => ?_)
    · have e : i = 80 := by omega
      subst e
      refine zg_retv d50_320 (by decide) ?_
      exact kk A2 hL hR
    · have i80 : i < 80 := by omega
      by_cases q : wT n m U W Y th i
      · have e1 : A2 107 i = 1 := (e107 i i80).trans (if_pos q)
        have hl := wL_lt h2 q
        have ek := wK_t q
        have c80 := ctg_le (g := wK n m U W Y th) (l := wK n m U W Y th i) i
        have hs := hR.1 _ (show wK n m U W Y th i < 12 by omega)
        have st3 : mj_ok [some (.inr (.inl (some 93))), some (.inl x1), some (.inl (iZ ((i : Int)))), x3, x4, x5] 3 = true := by
          cases x3 with
          | none => rfl
          | some y =>
            obtain ⟨w, rfl⟩ := hx3 y rfl
            rfl
        refine mq_aload_n d50_259 rfl rfl ?_
        refine zg_getR L 107 d50_260 rfl rfl (by decide) rfl (by decide) rfl ?_
        refine mq_iload_n d50_263 rfl rfl ?_
        refine zr_zaldV L (1) d50_264 (by decide) rfl (by omega) (e1) ?_
        refine zq_if_eq (tgt := 314) d50_265 (by decide) (by omega) (fun g2 => ?_) (fun g2 => ?_)
        · exact absurd g2 (by decide)
        · refine mq_aload_n d50_268 rfl rfl ?_
          refine zg_getR L 106 d50_269 rfl rfl (by decide) rfl (by decide) rfl ?_
          refine mq_iload_n d50_272 rfl rfl ?_
          refine zr_ialdV L ((wK n m U W Y th i : Nat)) d50_273 (by decide) rfl (by omega) ((by rw [ek]; exact e106 i i80 q)) ?_
          refine mq_istore_n d50_274 rfl (Nat.le_of_ble_eq_true rfl) st3 ?_
          refine mq_aload_n d50_275 rfl rfl ?_
          refine zg_getR L 111 d50_276 rfl rfl (by decide) rfl (by decide) rfl ?_
          refine zq_bipush d50_279 rfl ?_
          refine mq_iload_n d50_281 rfl rfl ?_
          refine zq_imul d50_282 ?_
          refine mq_aload_n d50_283 rfl rfl ?_
          refine zg_getR L 112 d50_284 rfl rfl (by decide) rfl (by decide) rfl ?_
          refine mq_iload_n d50_287 rfl rfl ?_
          refine zr_ialdV L ((ctg (wK n m U W Y th) (wK n m U W Y th i) i : Nat)) d50_288 (by decide) rfl (by omega) (hs) ?_
          refine zq_iadd d50_289 ?_
          have e3 : (80 : Int) * ((wK n m U W Y th i : Nat) : Int) + ((ctg (wK n m U W Y th) (wK n m U W Y th i) i : Nat) : Int) = ((80 * wK n m U W Y th i + ctg (wK n m U W Y th) (wK n m U W Y th i) i : Nat) : Int) := by omega
          rw [e3]
          refine mq_iload_n d50_290 rfl rfl ?_
          refine zg_iastN L d50_291 (by decide) rfl (by omega) ?_
          refine mq_aload_n d50_292 rfl rfl ?_
          refine zg_getR L 113 d50_293 rfl rfl (by decide) rfl (by decide) rfl ?_
          refine mq_iload_n d50_296 rfl rfl ?_
          refine mq_aload_n d50_297 rfl rfl ?_
          refine zg_getR L 112 d50_298 rfl rfl (by decide) rfl (by decide) rfl ?_
          refine mq_iload_n d50_301 rfl rfl ?_
          refine zr_ialdV L ((ctg (wK n m U W Y th) (wK n m U W Y th i) i : Nat)) d50_302 (by decide) rfl (by omega) ((by rw [u2_c (by decide)]; exact hs)) ?_
          refine zg_iastN L d50_303 (by decide) rfl (by omega) ?_
          refine mq_aload_n d50_304 rfl rfl ?_
          refine zg_getR L 112 d50_305 rfl rfl (by decide) rfl (by decide) rfl ?_
          refine mq_iload_n d50_308 rfl rfl ?_
          refine mq_dup2 d50_309 rfl rfl ?_
          refine zr_ialdV L ((ctg (wK n m U W Y th) (wK n m U W Y th i) i : Nat)) d50_310 (by decide) rfl (by omega) ((by rw [u2_c (by decide), u2_c (by decide)]; exact hs)) ?_
          refine zq_iconst d50_311 ?_
          refine zq_iadd d50_312 ?_
          refine zg_iastN L d50_313 (by decide) rfl (by omega) ?_
          refine zq_iinc d50_314 rfl rfl ?_
          refine mq_goto (tgt := 253) d50_317 (by decide) ?_
          refine la_5 L h2 kk j (i + 1) _ _ (by omega) (by omega) (fun y e => ⟨_, (Option.some.inj e).symm⟩) ⟨eo_u2 rfl (eo_u2 rfl (eo_u2 rfl hE)), fun j hj => ?_, ?_, fun b hb => ?_, fun b hb hb2 => ?_, fun p hp => ?_, fun b hb tb => ?_⟩ (rwM_s i80 (by omega) hR)
          · rw [u2_c (by decide), u2_c (by decide), u2_c (by decide)]
            exact e93 j hj
          · rw [u2_c (by decide), u2_c (by decide), u2_c (by decide)]
            exact e22
          · rw [u2_c (by decide), u2_c (by decide), u2_c (by decide)]
            exact e107 b hb
          · rw [u2_c (by decide), u2_c (by decide), u2_c (by decide)]
            exact e106 b hb hb2
          · rw [u2_cell (by decide), u2_cell (by decide), u2_cell (by decide), u2_cell (by decide), u2_cell (by decide), u2_cell (by decide)]
            exact ePP p hp
          · rw [u2_c (by decide), u2_c (by decide), u2_c (by decide)]
            exact e108 b hb tb
      · have e1 : A2 107 i = 0 := (e107 i i80).trans (if_neg q)
        refine mq_aload_n d50_259 rfl rfl ?_
        refine zg_getR L 107 d50_260 rfl rfl (by decide) rfl (by decide) rfl ?_
        refine mq_iload_n d50_263 rfl rfl ?_
        refine zr_zaldV L (0) d50_264 (by decide) rfl (by omega) (e1) ?_
        refine zq_if_eq (tgt := 314) d50_265 (by decide) (by omega) (fun g2 => ?_) (fun g2 => ?_)
        · refine zq_iinc d50_314 rfl rfl ?_
          refine mq_goto (tgt := 253) d50_317 (by decide) ?_
          exact la_5 L h2 kk j (i + 1) A2 _ (by omega) (by omega) hx3 hL (rwM_n (by rw [wK_f q]; decide) hR)
        · exact absurd rfl g2
set_option maxRecDepth 100000 in
theorem s_lay (L : Lay K ρ) (h : mrC A n m U W Y th) (kk : ∀ A2, laR A n m U W Y th A2 → rwM A2 (wK n m U W Y th) 80 → post none (123, K, zs (A2), ρ)) : mj_lv (d + 1) m_Mod_lay [.inr (.inl (some 93))] (123, K, zs (A), ρ) post := by
  obtain ⟨h1, h2, h3⟩ := id h
  have hn12 := h2.1
  show mj_W (mj_lv d) prog_11_method_26_code 9 0 0 0 post 0 [some (.inr (.inl (some 93))), none, none, none, none, none] [] (123, K, zs (A), ρ) 0 0
  refine zq_iconst d50_0 ?_
  refine mq_istore_n d50_1 rfl (Nat.le_of_ble_eq_true rfl) rfl ?_
  refine la_1 L h (fun A2 hI => ?_) 81 0 A (by omega) (by omega) ⟨eo_refl, fun b hb => absurd hb (by omega)⟩
  obtain ⟨hE, hb⟩ := hI
  refine zq_bipush d50_57 rfl ?_
  refine mq_istore_n d50_59 rfl (Nat.le_of_ble_eq_true rfl) rfl ?_
  refine mq_aload_n d50_60 rfl rfl ?_
  refine zq_iconst d50_61 ?_
  refine zg_putI L d50_62 rfl rfl rfl rfl (by decide) rfl ?_
  refine zq_iconst d50_65 ?_
  refine mq_istore_n d50_66 rfl (Nat.le_of_ble_eq_true rfl) rfl ?_
  refine la_3 (A := A) L h (fun A3 x3 x4 x5 hI3 hx3 => ?_) (m + 1) 0 _ _ _ _ (by omega) (by omega) (fun y e => absurd e (by simp)) (fun y e => absurd e (by simp)) (fun y e => absurd e (by simp)) ⟨eo_u2 rfl (eo_mono (by decide) hE), fun j hj => ?_, u2_self, fun b hb2 => ?_, fun b hb2 hb3 => ?_, fun q hq => absurd hq (by show ¬ q < 0; omega), fun b hb => absurd hb (by omega)⟩
  · obtain ⟨gE, g93, g22, g107, g106, gPP, g108⟩ := hI3
    refine zq_iconst d50_230 ?_
    refine mq_istore_n d50_231 rfl (Nat.le_of_ble_eq_true rfl) rfl ?_
    have e0 : A3 = fl A3 112 0 0 := fl_0.symm
    rw [e0]
    refine la_4 L ?_ 13 0 (by omega) (by omega)
    refine zq_iconst d50_251 ?_
    refine mq_istore_n d50_252 rfl (Nat.le_of_ble_eq_true rfl) rfl ?_
    have fc : ∀ c, c ≠ 112 → fl A3 112 12 0 c = A3 c := fun c hc => fl_c hc
    refine la_5 (A := A) L h2 kk 81 0 _ _ (by omega) (by omega) hx3 ⟨?_, ?_, ?_, ?_, ?_, ?_, ?_⟩ ⟨fun l hl => ?_, fun i hi => absurd hi (by omega)⟩
    · intro c hc
      rw [fc c (fun q => by rw [q] at hc; exact absurd hc (by decide))]
      exact eo_mono (cs2 := laL) (by decide) gE c hc
    · intro j hj
      rw [fc 93 (by decide)]
      exact g93 j hj
    · rw [fc 93 (by decide)]
      exact g22
    · rw [fc 107 (by decide)]
      exact g107
    · rw [fc 106 (by decide)]
      exact g106
    · rw [fc 109 (by decide), fc 110 (by decide)]
      exact gPP
    · rw [fc 108 (by decide)]
      exact g108
    · rw [fl_lt hl]
      rfl
  · rw [u2_k hj, hE 93 rfl]
  · rw [u2_c (by decide), (hb b hb2).1]
    have : wF U W Y th 0 = 12 := rfl
    by_cases q : b < n
    · rw [if_pos q, if_pos (Or.inl q)]
    · rw [if_neg q, if_neg (by omega)]
  · have : wF U W Y th 0 = 12 := rfl
    have bn : b < n := by omega
    rw [u2_c (by decide), (hb b hb2).2, if_pos bn]
    unfold wL
    rw [if_pos (by omega)]
end sp_l2
