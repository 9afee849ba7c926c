/-- f 0 + .. + f (m - 1) -/
def cnt (f : Nat → Int) : Nat → Int
  | 0 => 0
  | m + 1 => cnt f m + f m
theorem cnt_congr {f g : Nat → Int} : ∀ {m : Nat}, (∀ a, a < m → f a = g a) → cnt f m = cnt g m
  | 0, _ => rfl
  | m + 1, h => by
    show cnt f m + f m = cnt g m + g m
    rw [cnt_congr (m := m) (fun a ha => h a (by omega)), h m (by omega)]
theorem cnt_put {f : Nat → Int} {k : Nat} {v : Int} : ∀ {m : Nat}, k < m → cnt (fun a => if a = k then v else f a) m = cnt f m + v - f k
  | 0, h => absurd h (by omega)
  | m + 1, h => by
    show cnt _ m + (if m = k then v else f m) = cnt f m + f m + v - f k
    by_cases e : m = k
    · subst e
      rw [if_pos rfl, cnt_congr (m := m) (g := f) (fun a ha => by rw [if_neg (by omega)])]
      omega
    · rw [if_neg e, cnt_put (m := m) (by omega)]
      omega
theorem cnt_range {f : Nat → Int} : ∀ {m : Nat}, (∀ a, a < m → f a = 0 ∨ f a = 1) → 0 ≤ cnt f m ∧ cnt f m ≤ m
  | 0, _ => ⟨Int.le_refl _, Int.le_refl _⟩
  | m + 1, h => by
    have h1 := cnt_range (m := m) (fun a ha => h a (by omega))
    have h2 := h m (by omega)
    show 0 ≤ cnt f m + f m ∧ cnt f m + f m ≤ ((m + 1 : Nat) : Int)
    omega
/-- the graph, the same on both sides -/
def GrOK (A : Nat → Nat → Int) : Prop := (0 ≤ A 1 4 ∧ A 1 4 ≤ 12) ∧ (0 ≤ A 1 5 ∧ A 1 5 ≤ 24) ∧ (A 93 0 = A 1 4 ∧ A 93 1 = A 1 5 ∧ A 93 2 = A 1 6) ∧ (∀ k : Nat, k < 12 → A 94 k = A 2 k) ∧ (∀ k : Nat, k < 24 → A 95 k = A 3 k ∧ A 96 k = A 4 k ∧ A 97 k = A 5 k) ∧ (∀ v : Nat, (v : Int) < A 1 4 → 1 ≤ A 2 v ∧ A 2 v ≤ 9) ∧ (∀ a : Nat, (a : Int) < A 1 5 → (0 ≤ A 3 a ∧ A 3 a < A 1 4) ∧ (0 ≤ A 4 a ∧ A 4 a < A 1 4) ∧ A 3 a ≠ A 4 a ∧ (A 5 a = 0 ∨ A 5 a = 1)) ∧ A 1 6 = cnt (A 5) (A 1 5).toNat
/-- the flags -/
def FlOK (A : Nat → Nat → Int) : Prop := (A 0 8 = 0 ∨ A 0 8 = 1) ∧ (A 0 9 = 0 ∨ A 0 9 = 1) ∧ (A 0 10 = 0 ∨ A 0 10 = 1) ∧ (A 0 11 = 0 ∨ A 0 11 = 1) ∧ (A 93 7 = 0 ∨ A 93 7 = 1) ∧ A 93 8 = A 0 9 ∧ (A 0 9 = 1 → A 0 8 = 1 ∧ A 93 7 = 0) ∧ (A 0 10 = 1 → A 0 9 = 1) ∧ (A 0 11 = 1 → A 0 8 = 1)
def JJ (SC SM RN PM GW : (Nat → Nat → Int) → Prop) (A : Nat → Nat → Int) : Prop := GrOK A ∧ FlOK A ∧ (A 0 8 = 1 → SC A) ∧ (A 93 7 = 0 → SM A) ∧ (A 0 9 = 1 → RN A) ∧ (A 0 10 = 1 → PM A) ∧ (A 0 11 = 1 → GW A)
def InvP (J : (Nat → Nat → Int) → Prop) (h : mj_H) : Prop := ∃ (K : Nat → Nat × Nat) (A : Nat → Nat → Int) (ρ : Nat → Nat → Option Nat), h = (123, K, zs A, ρ) ∧ Lay K ρ ∧ J A
theorem i32r (x : Int32) : -2147483648 ≤ x.toInt ∧ x.toInt < 2147483648 := ⟨Int32.le_toInt x, Int32.toInt_lt x⟩
theorem gr_rt {A : Nat → Nat → Int} (G : GrOK A) : ∀ a : Nat, (a : Int) < A 1 5 → A 5 a = 0 ∨ A 5 a = 1 := fun a ha => (G.2.2.2.2.2.2.1 a ha).2.2.2
theorem gr_rtm {A : Nat → Nat → Int} (G : GrOK A) : ∀ a : Nat, (a : Int) < A 93 1 → A 97 a = 0 ∨ A 97 a = 1 := fun a ha => by
  have h1 := G.2.1
  have h2 := G.2.2.1
  have h3 := G.2.2.2.2.1 a (by omega)
  have h4 := gr_rt G a (by omega)
  omega
section sp_ops
variable {SC SM RN PM GW : (Nat → Nat → Int) → Prop}
set_option maxRecDepth 100000 in
set_option maxHeartbeats 4000000 in
theorem op_clear : lw_op (InvP (JJ SC SM RN PM GW)) m_Main_clear m_Mod_clear [] := by
  rintro h ⟨K, A, ρ, rfl, L, HG, HF, -⟩
  refine ⟨lyk L (by decide) rfl, ?_⟩
  refine s_clear (d := 3) L ?_
  refine ⟨_, rfl, lyk L (by decide) rfl, ?_⟩
  refine s_mclear (d := 4) L ?_
  refine ⟨by simp [u2_at]; rw [HG.2.2.1.1], K, _, ρ, rfl, L, ?_⟩
  refine ⟨?_, ?_, ?_⟩
  · unfold GrOK at HG ⊢
    simp only [u2_at]
    simp
    obtain ⟨g1, g2, g3, g4, g5, g6, g7, g8⟩ := HG
    exact ⟨g4, g5, fun v hv => by omega, fun a ha => by omega, rfl⟩
  · unfold FlOK
    simp [u2_at]
  · simp [u2_at]
set_option maxRecDepth 100000 in
set_option maxHeartbeats 4000000 in
theorem op_node (x : Int32) : lw_op (InvP (JJ SC SM RN PM GW)) m_Main_node m_Mod_node [.inl x] := by
  rintro h ⟨K, A, ρ, rfl, L, HG, HF, HR⟩
  refine ⟨lyk L (by decide) rfl, ?_⟩
  have rx := i32r x
  rw [iZ_of x]
  generalize x.toInt = y at rx
  have hn := HG.1
  have hm := HG.2.2.1
  refine s_node (d := 3) L rx hn (fun g => ?_) (fun g => ?_) (fun g => ?_)
  · refine ⟨_, rfl, lyk L (by decide) rfl, ?_⟩
    refine s_mnode (d := 4) L rx (by omega) (fun g2 => ⟨rfl, K, A, ρ, rfl, L, HG, HF, HR⟩) (fun g2 => by exfalso; omega) (fun g2 => by exfalso; omega)
  · refine ⟨_, rfl, lyk L (by decide) rfl, ?_⟩
    refine s_mnode (d := 4) L rx (by omega) (fun g2 => by exfalso; omega) (fun g2 => ⟨rfl, K, A, ρ, rfl, L, HG, HF, HR⟩) (fun g2 => by exfalso; omega)
  · refine ⟨_, rfl, lyk L (by decide) rfl, ?_⟩
    refine s_mnode (d := 4) L rx (by simp [u2_at]; omega) (fun g2 => by exfalso; omega) (fun g2 => by simp [u2_at] at g2; exfalso; omega) (fun g2 => ?_)
    refine ⟨by simp [u2_at]; rw [HG.2.2.1.1], K, _, ρ, rfl, L, ?_⟩
    refine ⟨?_, ?_, ?_⟩
    · unfold GrOK at HG ⊢
      simp only [u2_at]
      simp
      obtain ⟨g1, g2, g3, g4, g5, g6, g7, g8⟩ := HG
      refine ⟨by omega, by omega, by omega, fun k hk => ?_, g5, fun v hv => ?_, fun a ha => ?_, g8⟩
      · rw [hm.1]
        split
        · rfl
        · exact g4 k hk
      · split
        · omega
        · exact g6 v (by omega)
      · have := g7 a ha
        omega
    · unfold FlOK
      simp [u2_at]
    · simp [u2_at]
set_option maxRecDepth 100000 in
set_option maxHeartbeats 4000000 in
theorem op_width (hSC : ∀ A B : Nat → Nat → Int, (∀ c k, c ≠ 0 → c ≠ 2 → c ≠ 93 → c ≠ 94 → B c k = A c k) → SC A → SC B) (x y : Int32) : lw_op (InvP (JJ SC SM RN PM GW)) m_Main_width m_Mod_width [.inl x, .inl y] := by
  rintro h ⟨K, A, ρ, rfl, L, HG, HF, HR⟩
  refine ⟨lyk L (by decide) rfl, ?_⟩
  have rx := i32r x
  have ry := i32r y
  rw [iZ_of x, iZ_of y]
  generalize x.toInt = u at rx
  generalize y.toInt = v at ry
  have hn := HG.1
  have hm := HG.2.2.1
  refine s_width (d := 4) L rx ry hn (fun g => ?_) (fun g => ?_) (fun g => ?_)
  · refine ⟨_, rfl, lyk L (by decide) rfl, ?_⟩
    refine s_mwidth (d := 4) L rx ry (by omega) (fun g2 => ⟨rfl, K, A, ρ, rfl, L, HG, HF, HR⟩) (fun g2 => by exfalso; omega) (fun g2 => by exfalso; omega)
  · refine ⟨_, rfl, lyk L (by decide) rfl, ?_⟩
    refine s_mwidth (d := 4) L rx ry (by omega) (fun g2 => by exfalso; omega) (fun g2 => ⟨rfl, K, A, ρ, rfl, L, HG, HF, HR⟩) (fun g2 => by exfalso; omega)
  · refine ⟨_, rfl, lyk L (by decide) rfl, ?_⟩
    refine s_mwidth (d := 4) L rx ry (by simp [u2_at]; omega) (fun g2 => by simp [u2_at] at g2; exfalso; omega) (fun g2 => by exfalso; omega) (fun g2 => ?_)
    have hw := HG.2.2.2.1 u.toNat (by omega)
    refine ⟨by simp [u2_at]; rw [hw], K, _, ρ, rfl, L, ?_⟩
    refine ⟨?_, ?_, ?_, ?_⟩
    · unfold GrOK at HG ⊢
      simp only [u2_at]
      simp
      obtain ⟨g1, g2, g3, g4, g5, g6, g7, g8⟩ := HG
      refine ⟨g1, g2, g3, fun k hk => ?_, g5, fun v hv => ?_, g7, g8⟩
      · split
        · rfl
        · exact g4 k hk
      · split
        · omega
        · exact g6 v hv
    · unfold FlOK at HF ⊢
      simp [u2_at]
      exact HF.1
    · intro e
      refine hSC A _ (fun c k h0 h2 h93 hw => ?_) (HR.1 (by simpa [u2_at] using e))
      simp only [u2_at]
      simp [h0, h2, h93, hw]
    · simp [u2_at]
set_option maxRecDepth 100000 in
set_option maxHeartbeats 4000000 in
theorem op_arc (x y : Int32) : lw_op (InvP (JJ SC SM RN PM GW)) m_Main_arc m_Mod_arc [.inl x, .inl y] := by
  rintro h ⟨K, A, ρ, rfl, L, HG, HF, HR⟩
  refine ⟨lyk L (by decide) rfl, ?_⟩
  have rx := i32r x
  have ry := i32r y
  rw [iZ_of x, iZ_of y]
  generalize x.toInt = u at rx
  generalize y.toInt = v at ry
  have hn := HG.1
  have hm := HG.2.2.1
  have h5 := HG.2.1
  refine s_arc (d := 3) L rx ry hn h5 (fun g => ?_) (fun g => ?_) (fun g => ?_)
  · refine ⟨_, rfl, lyk L (by decide) rfl, ?_⟩
    refine s_marc (d := 4) L rx ry (by omega) (by omega) (fun g2 => ⟨rfl, K, A, ρ, rfl, L, HG, HF, HR⟩) (fun g2 => by exfalso; omega) (fun g2 => by exfalso; omega)
  · refine ⟨_, rfl, lyk L (by decide) rfl, ?_⟩
    refine s_marc (d := 4) L rx ry (by omega) (by omega) (fun g2 => by exfalso; omega) (fun g2 => ⟨rfl, K, A, ρ, rfl, L, HG, HF, HR⟩) (fun g2 => by exfalso; omega)
  · refine ⟨_, rfl, lyk L (by decide) rfl, ?_⟩
    refine s_marc (d := 4) L rx ry (by simp [u2_at]; omega) (by simp [u2_at]; omega) (fun g2 => by simp [u2_at] at g2; exfalso; omega) (fun g2 => by simp [u2_at] at g2; exfalso; omega) (fun g2 => ?_)
    refine ⟨by simp [u2_at]; rw [hm.2.1], K, _, ρ, rfl, L, ?_⟩
    refine ⟨?_, ?_, ?_⟩
    · unfold GrOK at HG ⊢
      simp only [u2_at]
      simp
      obtain ⟨g1, g2, g3, g4, g5, g6, g7, g8⟩ := HG
      rw [hm.1, hm.2.1, hm.2.2]
      refine ⟨g1, by omega, ⟨rfl, rfl, rfl⟩, g4, fun k hk => ?_, g6, fun a ha => ?_, ?_⟩
      · by_cases e : k = (A 1 5).toNat
        · simp [e]
        · simp [e]
          exact g5 k hk
      · by_cases e : a = (A 1 5).toNat
        · simp [e]
          omega
        · simp [e]
          exact g7 a (by omega)
      · have e1 : (A 1 5 + 1).toNat = (A 1 5).toNat + 1 := by omega
        rw [e1]
        show _ = cnt _ (A 1 5).toNat + _
        rw [cnt_congr (m := (A 1 5).toNat) (g := A 5) (fun a ha => by simp [u2_at, show a ≠ (A 1 5).toNat by omega]), ← g8]
        simp [u2_at]
    · unfold FlOK
      simp [u2_at]
    · simp [u2_at]
set_option maxRecDepth 100000 in
set_option maxHeartbeats 4000000 in
theorem op_drop (x : Int32) : lw_op (InvP (JJ SC SM RN PM GW)) m_Main_drop m_Mod_drop [.inl x] := by
  rintro h ⟨K, A, ρ, rfl, L, HG, HF, HR⟩
  refine ⟨lyk L (by decide) rfl, ?_⟩
  have rx := i32r x
  rw [iZ_of x]
  generalize x.toInt = u at rx
  have hm := HG.2.2.1
  have h5 := HG.2.1
  have hth : 0 ≤ u ∧ u < A 1 5 → A 97 u.toNat = A 5 u.toNat := fun q => (HG.2.2.2.2.1 u.toNat (by omega)).2.2
  refine s_drop (d := 3) L rx h5 (gr_rt HG) (fun g => ?_) (fun g => ?_)
  · refine ⟨_, rfl, lyk L (by decide) rfl, ?_⟩
    refine s_mdrop (d := 4) L rx (by omega) (gr_rtm HG) (fun g2 => ⟨rfl, K, A, ρ, rfl, L, HG, HF, HR⟩) (fun g2 => by exfalso; have := hth (by omega); omega)
  · refine ⟨_, rfl, lyk L (by decide) rfl, ?_⟩
    have hq := hth (by omega)
    refine s_mdrop (d := 4) L rx (by simp [u2_at]; omega) (fun a ha => by simp [u2_at] at ha ⊢; exact gr_rtm HG a ha) (fun g2 => by simp [u2_at] at g2; exfalso; omega) (fun g2 => ?_)
    refine ⟨by simp [u2_at]; rw [hm.2.2], K, _, ρ, rfl, L, ?_⟩
    refine ⟨?_, ?_, ?_⟩
    · unfold GrOK at HG ⊢
      simp only [u2_at]
      simp
      obtain ⟨g1, g2, g3, g4, g5, g6, g7, g8⟩ := HG
      rw [hm.1, hm.2.1, hm.2.2]
      refine ⟨g1, g2, ⟨rfl, rfl, rfl⟩, g4, fun k hk => ?_, g6, fun a ha => ?_, ?_⟩
      · by_cases e : k = u.toNat
        · simp [e]
          exact ⟨(g5 u.toNat (by omega)).1, (g5 u.toNat (by omega)).2.1⟩
        · simp [e]
          exact g5 k hk
      · by_cases e : a = u.toNat
        · simp [e]
          have := g7 u.toNat (by omega)
          omega
        · simp [e]
          exact g7 a ha
      · rw [cnt_congr (g := fun a => if a = u.toNat then 0 else A 5 a) (fun a ha => by simp [u2_at]), cnt_put (by omega), ← g8]
        omega
    · unfold FlOK
      simp [u2_at]
    · simp [u2_at]
end sp_ops
