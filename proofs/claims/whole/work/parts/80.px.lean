-- all orders of the first s numbers, by the alphabet
def lexp : Nat → List Nat → List (List Nat)
  | 0, _ => [[]]
  | k + 1, l => l.flatMap (fun x => (lexp k (l.erase x)).map (fun t => x :: t))
theorem lexp_mem : ∀ (k : Nat) (l : List Nat) (f : Nat → Nat), l.Nodup → (∀ i, i < k → f i ∈ l) → (∀ i j, i < k → j < k → f i = f j → i = j) → (List.range k).map f ∈ lexp k l
  | 0, l, f, _, _, _ => by simp [lexp]
  | k + 1, l, f, hn, h1, h2 => by
    have ih := lexp_mem k (l.erase (f 0)) (fun i => f (i + 1)) (hn.erase _) (fun i hi => (List.mem_erase_of_ne (fun e => by have := h2 (i + 1) 0 (by omega) (by omega) e; omega)).mpr (h1 (i + 1) (by omega))) (fun i j hi hj e => by have := h2 (i + 1) (j + 1) (by omega) (by omega) e; omega)
    unfold lexp
    rw [List.mem_flatMap]
    refine ⟨f 0, h1 0 (by omega), ?_⟩
    rw [List.mem_map]
    refine ⟨_, ih, ?_⟩
    rw [List.range_succ_eq_map, List.map_cons, List.map_map]
    rfl
/-- what the next order is: place t goes up to what stands at o, and all behind is turned round -/
def nxF {α : Type} (s : Nat) (f : Nat → α) (t o : Nat) (j : Nat) : α := if j < t then f j else if j = t then f o else if s + t - j = o then f t else f (s + t - j)
/-- t and o as they are looked for -/
def nxP {α : Type} [LT α] (s : Nat) (f : Nat → α) (t o : Nat) : Prop := t < o ∧ o < s ∧ f t < f (t + 1) ∧ (∀ i, t < i → i + 1 < s → f (i + 1) < f i) ∧ f t < f o ∧ ∀ i, o < i → i < s → f i < f t
def nxC (s : Nat) (l g : List Nat) : Bool := (List.range s).any fun t => decide (t + 1 < s) && (decide (l.getD t 0 < l.getD (t + 1) 0) && ((List.range s).all (fun i => !decide (t < i) || (!decide (i + 1 < s) || decide (l.getD (i + 1) 0 < l.getD i 0))) && (List.range s).any (fun o => decide (t < o) && (decide (l.getD t 0 < l.getD o 0) && ((List.range s).all (fun i => !decide (o < i) || decide (l.getD i 0 < l.getD t 0)) && (List.range s).all (fun j => decide (g.getD j 0 = nxF s (fun i => l.getD i 0) t o j)))))))
theorem nxC_ex {s : Nat} {l g : List Nat} (h : nxC s l g = true) : ∃ t o, nxP s (fun i => l.getD i 0) t o ∧ ∀ j, j < s → g.getD j 0 = nxF s (fun i => l.getD i 0) t o j := by
  unfold nxC at h
  simp only [List.any_eq_true, List.all_eq_true, Bool.and_eq_true, Bool.or_eq_true, Bool.not_eq_true', decide_eq_true_eq, decide_eq_false_iff_not, List.mem_range] at h
  obtain ⟨t, h1, h2, h3, h4, o, h5, h6, h7, h8, h9⟩ := h
  refine ⟨t, o, ⟨h6, h5, h3, fun i a b => ?_, h7, fun i a b => ?_⟩, h9⟩
  · rcases h4 i (by omega) with q | q | q
    · exact absurd a q
    · exact absurd b q
    · exact q
  · rcases h8 i b with q | q
    · exact absurd a q
    · exact q
def chn (s : Nat) : List (List Nat) → Bool
  | a :: b :: r => nxC s a b && chn s (b :: r)
  | _ => true
theorem chn_at {s : Nat} : ∀ {P : List (List Nat)} {k : Nat}, chn s P = true → k + 1 < P.length → nxC s (P.getD k []) (P.getD (k + 1) []) = true
  | [], k, _, h => absurd h (by simp)
  | [a], k, _, h => absurd h (by simp)
  | a :: b :: r, 0, h, _ => by
    simp only [chn, Bool.and_eq_true] at h
    exact h.1
  | a :: b :: r, k + 1, h, hk => by
    simp only [chn, Bool.and_eq_true] at h
    exact chn_at (P := b :: r) (k := k) h.2 (by simpa using hk)
/-- the k-th order of s -/
def pk (s k j : Nat) : Nat := ((lexp s (List.range s)).getD k []).getD j 0
def pF (s : Nat) : Nat := (lexp s (List.range s)).length
def lastC (s : Nat) (l : List Nat) : Bool := (List.range s).all (fun i => !decide (i + 1 < s) || decide (l.getD (i + 1) 0 < l.getD i 0))
def pChk (s : Nat) : Bool := chn s (lexp s (List.range s)) && (lastC s ((lexp s (List.range s)).getLastD []) && ((List.range s).all (fun i => decide (((lexp s (List.range s)).headD []).getD i 0 = i)) && (lexp s (List.range s)).all (fun l => (List.range s).all (fun i => decide (l.getD i 0 < s) && (List.range s).all (fun j => decide (i ≤ j) || !decide (l.getD i 0 = l.getD j 0))))))
set_option maxRecDepth 100000 in
theorem pChk0 : pChk 0 = true := by decide +kernel
set_option maxRecDepth 100000 in
theorem pChk1 : pChk 1 = true := by decide +kernel
set_option maxRecDepth 100000 in
theorem pChk2 : pChk 2 = true := by decide +kernel
set_option maxRecDepth 100000 in
theorem pChk3 : pChk 3 = true := by decide +kernel
set_option maxRecDepth 100000 in
theorem pChk4 : pChk 4 = true := by decide +kernel
set_option maxRecDepth 100000 in
theorem pChk5 : pChk 5 = true := by decide +kernel
set_option maxRecDepth 100000 in
theorem pChk6 : pChk 6 = true := by decide +kernel
theorem pChk_6 {s : Nat} (h : s ≤ 6) : pChk s = true := by
  rcases s with _ | _ | _ | _ | _ | _ | _ | s
  · exact pChk0
  · exact pChk1
  · exact pChk2
  · exact pChk3
  · exact pChk4
  · exact pChk5
  · exact pChk6
  · omega
theorem pF6 : pF 0 = 1 ∧ pF 1 = 1 ∧ pF 2 = 2 ∧ pF 3 = 6 ∧ pF 4 = 24 ∧ pF 5 = 120 ∧ pF 6 = 720 := by
  refine ⟨?_, ?_, ?_, ?_, ?_, ?_, ?_⟩ <;> decide +kernel
