def InvC : mj_H → Prop := InvP (JJ SCc SMm RNc PMc GWc)
set_option maxRecDepth 100000 in
theorem lw_iniC : lw_ini InvC := by
  refine lw_ini_of fun K σ ρ hK hρ h0 hI => ?_
  refine ⟨K, fun c k => (σ c k).toInt, ρ, by rw [← zs_of], ⟨hK, hρ⟩, ?_⟩
  have i0 : ∀ k, k < 40 → (σ 0 k).toInt = 0 := fun k hk => by rw [hI 0 (by decide) rfl k hk]; rfl
  have i1 : ∀ k, k < 40 → (σ 1 k).toInt = 0 := fun k hk => by rw [hI 1 (by decide) rfl k hk]; rfl
  have i93 : ∀ k, k < 40 → k ≠ 7 → (σ 93 k).toInt = 0 := fun k hk h7 => by rw [hI 93 (by decide) rfl k hk]; unfold ly_i; rw [if_neg (by omega), if_neg (by omega)]; rfl
  have i937 : (σ 93 7).toInt = 1 := by rw [hI 93 (by decide) rfl 7 (by decide)]; rfl
  have z : ∀ c, c < 123 → (ly_kd c).1 ≠ 0 → ∀ k, (σ c k).toInt = 0 := fun c hc hk k => by rw [h0 c hc hk k]; rfl
  have e14 := i1 4 (by decide)
  have e15 := i1 5 (by decide)
  have e16 := i1 6 (by decide)
  have e08 := i0 8 (by decide)
  have e09 := i0 9 (by decide)
  have e010 := i0 10 (by decide)
  have e011 := i0 11 (by decide)
  refine ⟨⟨by dsimp only; omega, by dsimp only; omega, ⟨?_, ?_, ?_⟩, fun k hk => ?_, fun k hk => ⟨?_, ?_, ?_⟩, fun v hv => ?_, fun a ha => ?_, ?_⟩, ⟨Or.inl e08, Or.inl e09, Or.inl e010, Or.inl e011, Or.inr i937, ?_, fun h => ?_, fun h => ?_, fun h => ?_⟩, fun h => ?_, fun h => ?_, fun h => ?_, fun h => ?_, fun h => ?_⟩
  · exact (i93 0 (by decide) (by decide)).trans e14.symm
  · exact (i93 1 (by decide) (by decide)).trans e15.symm
  · exact (i93 2 (by decide) (by decide)).trans e16.symm
  · exact (z 94 (by decide) (by decide) k).trans (z 2 (by decide) (by decide) k).symm
  · exact (z 95 (by decide) (by decide) k).trans (z 3 (by decide) (by decide) k).symm
  · exact (z 96 (by decide) (by decide) k).trans (z 4 (by decide) (by decide) k).symm
  · exact (z 97 (by decide) (by decide) k).trans (z 5 (by decide) (by decide) k).symm
  · dsimp only at hv
    omega
  · dsimp only at ha
    omega
  · dsimp only
    rw [e15, e16]
    rfl
  · exact (i93 8 (by decide) (by decide)).trans e09.symm
  · dsimp only at h
    omega
  · dsimp only at h
    omega
  · dsimp only at h
    omega
  · dsimp only at h
    omega
  · dsimp only at h
    omega
  · dsimp only at h
    omega
  · dsimp only at h
    omega
  · dsimp only at h
    omega
theorem lw_allC : lw_all InvC :=
  ⟨lw_iniC, fun x => op_node x, fun x y => op_width (fun A B e h => SC_fr (fun c hc h0 h2 => funext fun k => e c k h0 h2 (by omega) (by omega)) h) x y, fun x y => op_arc x y, fun x => op_drop x, fun _ => op_clear, fun _ => op_turns GWf_c, fun x => op_turned GWf_c x, fun x => op_layer GWf_c x, fun _ => op_layers GWf_c, fun _ => op_length GWf_c, fun _ => op_bends GWf_c, fun x => op_run PMf_c GWf_c x, fun _ => op_round, fun x => op_count x, fun x y => op_item x y, fun _ => op_fewest GWf_c, fun x => op_place x, fun x y => op_route x y, fun _ => op_wide, fun x => op_tidy x⟩
