section sp_mk
variable {d : Nat} {post : Option mj_V → mj_H → Prop} {K : Nat → Nat × Nat} {ρ : Nat → Nat → Option Nat} {A : Nat → Nat → Int}
/-- the model's graph -/
def mgOK (A : Nat → Nat → Int) : Prop := (0 ≤ A 93 0 ∧ A 93 0 ≤ 12) ∧ (0 ≤ A 93 1 ∧ A 93 1 ≤ 24) ∧ ∀ a : Nat, (a : Int) < A 93 1 → (0 ≤ A 95 a ∧ A 95 a < A 93 0) ∧ (0 ≤ A 96 a ∧ A 96 a < A 93 0) ∧ A 95 a ≠ A 96 a ∧ (A 97 a = 0 ∨ A 97 a = 1)
/-- the model's turned arcs and layers are there -/
def SMm (A : Nat → Nat → Int) : Prop := tuR A A ∧ isLay (A 93 0).toNat (A 93 1).toNat (mUp A) (mLo A) (A 97) (A 99)
/-- cell 93, but for the field isNew, and what make writes -/
def mkE (A A2 : Nat → Nat → Int) : Prop := eo [93, 98, 99, 100, 101, 102, 103, 104, 105] A A2 ∧ (∀ j, j ≠ 7 → A2 93 j = A 93 j) ∧ A2 93 7 = 0
theorem mg_gr (G : GrOK A) : mgOK A := by
  obtain ⟨g1, g2, ⟨g3, g4, g5⟩, g6, g7, g8, g9, g10⟩ := G
  refine ⟨by omega, by omega, fun a ha => ?_⟩
  have h1 := g9 a (by omega)
  have h2 := g7 a (by omega)
  rw [h2.1, h2.2.1, h2.2.2, g3]
  exact h1
theorem mg_eo {A2 : Nat → Nat → Int} (G : mgOK A) (h0 : A2 93 0 = A 93 0) (h1 : A2 93 1 = A 93 1) (h2 : A2 95 = A 95) (h3 : A2 96 = A 96) (h4 : A2 97 = A 97) : mgOK A2 := by
  unfold mgOK
  rw [h0, h1, h2, h3, h4]
  exact G
set_option maxRecDepth 100000 in
theorem s_make (L : Lay K ρ) (G : mgOK A) (hf : A 93 7 = 0 ∨ A 93 7 = 1) (hs : A 93 7 = 0 → SMm A) (k : ∀ A2, mkE A A2 → SMm A2 → post none (123, K, zs (A2), ρ)) : mj_lv (d + 3) m_Mod_make [.inr (.inl (some 93))] (123, K, zs (A), ρ) post := by
  show mj_W (mj_lv (d + 2)) prog_11_method_17_code 9 0 0 0 post 0 [some (.inr (.inl (some 93)))] [] (123, K, zs (A), ρ) 0 0
  refine mq_aload_n d41_0 rfl rfl ?_
  refine zg_getI L d41_1 rfl rfl (by decide) rfl ?_
  refine zq_if_ne (tgt := 8) d41_4 (by decide) (by omega) (fun g => ?_) (fun g => ?_)
  · refine mq_aload_n d41_8 rfl rfl ?_
    refine zq_iconst d41_9 ?_
    refine zg_putZ L d41_10 rfl rfl rfl rfl (by first | decide | omega) (by decide) rfl ?_
    obtain ⟨B, hB⟩ : ∃ B, B = mj_u2 A 93 7 0 := ⟨_, rfl⟩
    rw [← hB]
    have eB : eo [93] A B := fun c hc => by rw [hB, u2_cell (fun q => by rw [q] at hc; exact absurd hc (by decide))]
    have f93 : ∀ j, j ≠ 7 → B 93 j = A 93 j := fun j hj => by rw [hB, u2_k hj]
    have f7 : B 93 7 = 0 := by rw [hB, u2_self]
    have GB : mgOK B := mg_eo G (f93 0 (by decide)) (f93 1 (by decide)) (eB 95 rfl) (eB 96 rfl) (eB 97 rfl)
    obtain ⟨b1, b2, b3⟩ := id GB
    refine mq_aload_n d41_13 rfl rfl ?_
    refine zg_callV (c := 93) L [] d41_14 rfl rfl ⟨rfl, rfl⟩ rfl ⟨rfl, rfl⟩ ⟨by decide, by decide⟩ (by decide) rfl ?_
    refine s_findTurned L b1 b2 (fun a h => by have := b3 a h; omega) (fun a h => (b3 a h).2.2.1) (fun A2 h2 ht => ?_)
    have e93 := h2 93 rfl
    have e95 := h2 95 rfl
    have e96 := h2 96 rfl
    have e97 := h2 97 rfl
    have ends : ∀ a : Nat, (a : Int) < B 93 1 → (0 ≤ A2 100 a ∧ A2 100 a < B 93 0) ∧ (0 ≤ A2 101 a ∧ A2 101 a < B 93 0) := fun a ha => by
      have h5 := ht.2 a (by omega)
      have h6 := b3 a ha
      rw [h5.1, h5.2]
      split <;> omega
    have hfy : fyOK A2 := by
      unfold fyOK
      rw [e93, e97]
      exact ⟨b1, b2, fun a ha => ⟨(ends a ha).1, (ends a ha).2, (b3 a ha).2.2.2⟩⟩
    obtain ⟨pos, p1, p2⟩ := turn_pos ht.1 (fun a ha => by have := b3 a (by omega); omega)
    refine mq_aload_n d41_17 rfl rfl ?_
    refine zg_callV (c := 93) L [] d41_18 rfl rfl ⟨rfl, rfl⟩ rfl ⟨rfl, rfl⟩ ⟨by decide, by decide⟩ (by decide) rfl ?_
    refine s_findLayers L hfy (pos := pos) (fun a ha hth => ?_) (fun v hv => by rw [e93] at hv ⊢; exact p1 v hv) (fun A3 h3 hl => ?_)
    · rw [e93] at ha
      rw [e97] at hth
      have h5 := p2 a ha hth
      have h6 := ht.2 a ha
      show pos (A2 100 a).toNat < pos (A2 101 a).toNat
      rw [h6.1, h6.2]
      by_cases q : A2 98 a = 1
      · simp only [q, if_pos] at h5 ⊢
        exact h5
      · simp only [q, if_neg, if_false] at h5 ⊢
        exact h5
    · refine zg_retv d41_21 (by decide) ?_
      refine k A3 ⟨fun c hc => ?_, fun j hj => ?_, ?_⟩ ⟨?_, ?_⟩
      · rw [eo_mono (cs2 := [93, 98, 99, 100, 101, 102, 103, 104, 105]) (by decide) h3 c hc, eo_mono (cs2 := [93, 98, 99, 100, 101, 102, 103, 104, 105]) (by decide) h2 c hc, eo_mono (cs2 := [93, 98, 99, 100, 101, 102, 103, 104, 105]) (by decide) eB c hc]
      · rw [h3 93 rfl, e93, f93 j hj]
      · rw [h3 93 rfl, e93, f7]
      · unfold tuR at ht ⊢
        rw [h3 93 rfl, h3 95 rfl, h3 96 rfl, h3 97 rfl, h3 98 rfl, h3 100 rfl, h3 101 rfl, e93, e95, e96, e97]
        exact ht
      · have hl2 := hl
        unfold mUp mLo at hl2 ⊢
        rw [h3 93 rfl, h3 97 rfl, h3 100 rfl, h3 101 rfl]
        exact hl2
  · refine zg_retv d41_7 (by decide) ?_
    exact k A ⟨eo_refl, fun _ _ => rfl, g⟩ (hs g)
end sp_mk
