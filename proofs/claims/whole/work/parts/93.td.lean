section tpr
variable {n m : Nat} {fr to : Nat → Nat} {th w : Nat → Int} {pos : Nat → Nat}
/-- the parents by the first k arcs -/
def prP (fr to : Nat → Nat) (th : Nat → Int) : Nat → Nat → Int
  | 0, _ => -1
  | k + 1, v => if th k = 1 ∧ to k = v then (fr k : Nat) else prP fr to th k v
/-- no two arcs to one node -/
def noCf (to : Nat → Nat) (th : Nat → Int) (k : Nat) : Prop := ∀ a b, a < k → b < a → th a = 1 → th b = 1 → to a ≠ to b
theorem prP_ex : ∀ {k v : Nat}, (prP fr to th k v = -1 ∧ ∀ b, b < k → th b = 1 → to b ≠ v) ∨ ∃ b, b < k ∧ th b = 1 ∧ to b = v ∧ prP fr to th k v = (fr b : Nat)
  | 0, v => Or.inl ⟨rfl, fun b hb => absurd hb (by omega)⟩
  | k + 1, v => by
    unfold prP
    by_cases e : th k = 1 ∧ to k = v
    · rw [if_pos e]
      exact Or.inr ⟨k, by omega, e.1, e.2, rfl⟩
    · rw [if_neg e]
      rcases prP_ex (k := k) (v := v) with ⟨q1, q2⟩ | ⟨b, q1, q2, q3, q4⟩
      · refine Or.inl ⟨q1, fun b hb tb => ?_⟩
        by_cases y : b = k
        · rw [y] at tb ⊢
          exact fun z => e ⟨tb, z⟩
        · exact q2 b (by omega) tb
      · exact Or.inr ⟨b, by omega, q2, q3, q4⟩
theorem prP_cf {k : Nat} : prP fr to th k (to k) = -1 ↔ ∀ b, b < k → th b = 1 → to k ≠ to b := by
  constructor
  · intro e b hb tb q
    rcases prP_ex (fr := fr) (to := to) (th := th) (k := k) (v := to k) with ⟨q1, q2⟩ | ⟨c, q1, q2, q3, q4⟩
    · exact q2 b hb tb q.symm
    · omega
  · intro h
    rcases prP_ex (fr := fr) (to := to) (th := th) (k := k) (v := to k) with ⟨q1, q2⟩ | ⟨c, q1, q2, q3, q4⟩
    · exact q1
    · exact absurd q3.symm (h c q1 q2)
theorem noCf_s {k : Nat} (h : noCf to th k) (h1 : th k = 1 → prP fr to th k (to k) = -1) : noCf to th (k + 1) := fun a b ha hb ta tb => by
  by_cases e : a = k
  · subst e
    exact prP_cf.mp (h1 ta) b hb tb
  · exact h a b (by omega) hb ta tb
theorem noCf_no {k m : Nat} (hk : k < m) (h1 : th k = 1) (h2 : prP fr to th k (to k) ≠ -1) : ¬ noCf to th m := fun h => h2 (prP_cf.mpr (fun b hb tb => h k b hk hb h1 tb))
/-- as many roots as nodes without arcs to them -/
theorem roots_n (hin : ∀ a, a < m → to a < n) (h01 : ∀ a, a < m → th a = 0 ∨ th a = 1) : ∀ {k : Nat}, k ≤ m → noCf to th k → cnt (fun v => if prP fr to th k v < 0 then 1 else 0) n + cnt th k = n
  | 0, _, _ => by
    rw [cnt_congr (g := fun _ => 1) (fun v _ => if_pos (by show (-1 : Int) < 0; decide))]
    have : ∀ j : Nat, cnt (fun _ => 1) j = j := fun j => by
      induction j with
      | zero => rfl
      | succ j ih =>
        show cnt (fun _ => 1) j + 1 = _
        rw [ih]
        omega
    rw [this]
    show (n : Int) + 0 = n
    omega
  | k + 1, hk, hc => by
    have ih := roots_n hin h01 (k := k) (by omega) (fun a b ha => hc a b (by omega))
    have hto := hin k (by omega)
    show _ + (cnt th k + th k) = _
    rcases h01 k (by omega) with e | e
    · rw [cnt_congr (m := n) (g := fun v => if prP fr to th k v < 0 then 1 else 0) (fun v _ => by
        have : prP fr to th (k + 1) v = prP fr to th k v := if_neg (by omega)
        rw [this])]
      omega
    · have hno : prP fr to th k (to k) = -1 := prP_cf.mpr (fun b hb tb => hc k b (by omega) hb e tb)
      have h1 := cnt_put (f := fun v => if prP fr to th k v < 0 then 1 else 0) (v := 0) hto
      rw [cnt_congr (m := n) (g := fun a => if a = to k then 0 else if prP fr to th k a < 0 then 1 else 0) (fun v _ => ?_)]
      · rw [h1]
        simp only [hno]
        rw [if_pos (by decide)]
        omega
      · by_cases y : v = to k
        · rw [if_pos y]
          have : prP fr to th (k + 1) v = (fr k : Nat) := if_pos ⟨e, y.symm⟩
          rw [this, if_neg (by omega)]
        · rw [if_neg y]
          have : prP fr to th (k + 1) v = prP fr to th k v := if_neg (fun z => y z.2.symm)
          rw [this]
theorem pr_tr (hn : n ≤ 12) (hin : ∀ a, a < m → fr a < n ∧ to a < n) (hc : noCf to th m) (hpn : ∀ v, v < n → pos v < n) (hp : ∀ a, a < m → th a = 1 → pos (fr a) < pos (to a)) (hw : ∀ v, v < n → 1 ≤ w v ∧ w v ≤ 9) : trOK n m fr to th w (prP fr to th m) pos := by
  have uniq : ∀ a b, a < m → b < m → th a = 1 → th b = 1 → to a = to b → a = b := fun a b ha hb ta tb e => by
    rcases Nat.lt_trichotomy a b with q | q | q
    · exact absurd e.symm (hc b a hb q tb ta)
    · exact q
    · exact absurd e (hc a b ha q ta tb)
  refine ⟨hn, fun v hv => ⟨hpn v hv, ?_⟩, fun a ha ta => ?_, uniq, fun v hv e => ?_, hw⟩
  · rcases prP_ex (fr := fr) (to := to) (th := th) (k := m) (v := v) with ⟨q1, q2⟩ | ⟨c, q1, q2, q3, q4⟩
    · exact Or.inl q1
    · right
      have h1 := hin c q1
      have h2 := hp c q1 q2
      rw [q3] at h2
      rw [q4]
      refine ⟨by omega, by omega, ?_⟩
      rw [show ((fr c : Nat) : Int).toNat = fr c by omega]
      exact h2
  · refine ⟨(hin a ha).1, (hin a ha).2, ?_⟩
    rcases prP_ex (fr := fr) (to := to) (th := th) (k := m) (v := to a) with ⟨q1, q2⟩ | ⟨c, q1, q2, q3, q4⟩
    · exact absurd rfl (q2 a ha ta)
    · have := uniq c a q1 ha q2 ta q3
      rw [q4, this]
  · rcases prP_ex (fr := fr) (to := to) (th := th) (k := m) (v := v) with ⟨q1, q2⟩ | ⟨c, q1, q2, q3, q4⟩
    · omega
    · exact ⟨c, q1, q2, q3, q4.symm⟩
end tpr
