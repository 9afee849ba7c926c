section rza
variable {n m : Nat} {up lo pos : Nat → Nat} {th F : Nat → Int} {a p τ : Nat} {y r : Nat → Int} {x : Int}
/-- the rules of the first a arcs -/
def dnR (a c : Nat) : Prop := (c < 24 ∧ c < a) ∨ (24 ≤ c ∧ c < 24 + a)
theorem dnR_s {c : Nat} (h : dnR (a + 1) c) : (dnR a c ∨ c = a) ∨ c = 24 + a := by
  unfold dnR at *
  omega
theorem dnR_all (hm : m ≤ 24) {c : Nat} (h : eO m th F c) : dnR m c := by
  unfold eO at h
  unfold dnR
  split at h <;> omega
theorem rz_arc0 (ha : a < 24) (ht : th a ≠ 1) (h : rz n (eS up lo) (eG up lo) eW (eO m th F) (dnR a) p τ y r x) : rz n (eS up lo) (eG up lo) eW (eO m th F) (dnR (a + 1)) p (τ + 2) y r x := by
  refine rz_mono (rz_skip (rz_skip h (c := a) (fun q => ?_)) (c := 24 + a) (fun q => ?_)) (fun c _ q => dnR_s q) (by omega)
  · unfold eO at q
    rw [if_pos ha] at q
    exact absurd q.2 ht
  · unfold eO at q
    rw [if_neg (by omega), show 24 + a - 24 = a by omega] at q
    exact absurd q.2.1 ht
theorem rz_arc1 (hin : ∀ a, a < m → up a < n ∧ lo a < n) (hp : ∀ a, a < m → th a = 1 → pos (up a) < pos (lo a)) (hm : m ≤ 24) (ha : a < m) (ht : th a = 1) (h : rz n (eS up lo) (eG up lo) eW (eO m th F) (dnR a) p τ y r x) (hv : y (lo a) < y (up a) + 1) {y2 r2 : Nat → Int} {x2 : Int} (hy : ∀ v, v < n → y2 v = if v = lo a then y (up a) + 1 else y v) (hr : ∀ v, v < n → r2 v = if v = lo a then (a : Int) else r v) (hx : x2 = if x < (lo a : Int) then (lo a : Int) else x) : rz n (eS up lo) (eG up lo) eW (eO m th F) (dnR (a + 1)) p (τ + 2) y2 r2 x2 := by
  have h24 : a < 24 := by omega
  have e1 : eS up lo a = up a := eS_dn h24
  have e2 : eG up lo a = lo a := eG_dn h24
  have e3 : eW a = 1 := if_pos h24
  have o1 : eO m th F a := by
    unfold eO
    rw [if_pos h24]
    exact ⟨ha, ht⟩
  refine rz_mono (rz_skip (rz_up (eO_in hin hp) h o1 (eW_le a) (by rw [e1, e2, e3]; exact hv) (y2 := y2) (r2 := r2) (x2 := x2) (fun v hv2 => by rw [e1, e2, e3]; exact hy v hv2) (fun v hv2 => by rw [e2]; exact hr v hv2) (by rw [e2]; exact hx)) (c := 24 + a) (fun q => ?_)) (fun c _ q => dnR_s q) (by omega)
  have n24 : ¬ 24 + a < 24 := by omega
  have ne : up a ≠ lo a := fun e => by
    have := hp a ha ht
    rw [e] at this
    omega
  have e4 : eW (24 + a) = -1 := if_neg n24
  rw [eS_ub n24, eG_ub n24, e4, show 24 + a - 24 = a by omega, hy _ (hin a ha).1, hy _ (hin a ha).2, if_pos rfl, if_neg ne]
  omega
theorem rz_arc2 (hin : ∀ a, a < m → up a < n ∧ lo a < n) (hp : ∀ a, a < m → th a = 1 → pos (up a) < pos (lo a)) (hm : m ≤ 24) (ha : a < m) (ht : th a = 1) (h : rz n (eS up lo) (eG up lo) eW (eO m th F) (dnR a) p τ y r x) (hF : 0 < F a) (hk : ¬ y (lo a) < y (up a) + 1) (hv : y (up a) < y (lo a) - 1) {y2 r2 : Nat → Int} {x2 : Int} (hy : ∀ v, v < n → y2 v = if v = up a then y (lo a) - 1 else y v) (hr : ∀ v, v < n → r2 v = if v = up a then (24 + a : Int) else r v) (hx : x2 = if x < (up a : Int) then (up a : Int) else x) : rz n (eS up lo) (eG up lo) eW (eO m th F) (dnR (a + 1)) p (τ + 2) y2 r2 x2 := by
  have h24 : a < 24 := by omega
  have e1 : eS up lo a = up a := eS_dn h24
  have e2 : eG up lo a = lo a := eG_dn h24
  have e3 : eW a = 1 := if_pos h24
  have n24 : ¬ 24 + a < 24 := by omega
  have e4 : eW (24 + a) = -1 := if_neg n24
  have e5 : eS up lo (24 + a) = lo a := by rw [eS_ub n24, show 24 + a - 24 = a by omega]
  have e6 : eG up lo (24 + a) = up a := by rw [eG_ub n24, show 24 + a - 24 = a by omega]
  have o1 : eO m th F (24 + a) := by
    unfold eO
    rw [if_neg n24, show 24 + a - 24 = a by omega]
    exact ⟨ha, ht, hF⟩
  refine rz_mono (rz_up (eO_in hin hp) (rz_skip h (c := a) (fun _ => by rw [e1, e2, e3]; omega)) o1 (eW_le _) (by rw [e4, e5, e6]; omega) (y2 := y2) (r2 := r2) (x2 := x2) (fun v hv2 => ?_) (fun v hv2 => ?_) (by rw [e6]; exact hx)) (fun c _ q => dnR_s q) (by omega)
  · rw [e4, e5, e6, hy v hv2]
    rfl
  · rw [e6, hr v hv2]
    rfl
theorem rz_arc3 (hm : m ≤ 24) (ha : a < m) (h : rz n (eS up lo) (eG up lo) eW (eO m th F) (dnR a) p τ y r x) (hk : ¬ y (lo a) < y (up a) + 1) (hv : ¬ (0 < F a ∧ y (up a) < y (lo a) - 1)) : rz n (eS up lo) (eG up lo) eW (eO m th F) (dnR (a + 1)) p (τ + 2) y r x := by
  have h24 : a < 24 := by omega
  have e1 : eS up lo a = up a := eS_dn h24
  have e2 : eG up lo a = lo a := eG_dn h24
  have e3 : eW a = 1 := if_pos h24
  have n24 : ¬ 24 + a < 24 := by omega
  have e4 : eW (24 + a) = -1 := if_neg n24
  have e5 : eS up lo (24 + a) = lo a := by rw [eS_ub n24, show 24 + a - 24 = a by omega]
  have e6 : eG up lo (24 + a) = up a := by rw [eG_ub n24, show 24 + a - 24 = a by omega]
  refine rz_mono (rz_skip (rz_skip h (c := a) (fun _ => by rw [e1, e2, e3]; omega)) (c := 24 + a) (fun q => ?_)) (fun c _ q => dnR_s q) (by omega)
  unfold eO at q
  rw [if_neg n24, show 24 + a - 24 = a by omega] at q
  rw [e4, e5, e6]
  have := q.2.2
  omega
end rza
