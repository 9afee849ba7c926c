-- trees: pr the parents (-1: none), dp the depths, w the widths
section tdy
variable {n m : Nat} {fr to : Nat → Nat} {th w pr : Nat → Int} {pos dp : Nat → Nat}
def dpt (pr : Nat → Int) : Nat → Nat → Nat
  | 0, _ => 0
  | k + 1, v => if pr v < 0 then 0 else dpt pr k (pr v).toNat + 1
/-- parents stand before their children -/
def tpOK (n : Nat) (pr : Nat → Int) (pos : Nat → Nat) : Prop := ∀ v, v < n → pos v < n ∧ (pr v = -1 ∨ (0 ≤ pr v ∧ pr v < n ∧ pos (pr v).toNat < pos v))
theorem dpt_fuel (h : tpOK n pr pos) : ∀ (k j v : Nat), v < n → pos v < k → pos v < j → dpt pr k v = dpt pr j v
  | 0, j, v, _, h1, _ => absurd h1 (by omega)
  | k + 1, 0, v, _, _, h2 => absurd h2 (by omega)
  | k + 1, j + 1, v, hv, h1, h2 => by
    unfold dpt
    by_cases e : pr v < 0
    · rw [if_pos e, if_pos e]
    · rw [if_neg e, if_neg e]
      rcases (h v hv).2 with q | q
      · omega
      · rw [dpt_fuel h k j (pr v).toNat (by omega) (by omega) (by omega)]
theorem dpt_le (h : tpOK n pr pos) : ∀ (k v : Nat), v < n → dpt pr k v ≤ pos v
  | 0, v, _ => Nat.zero_le _
  | k + 1, v, hv => by
    unfold dpt
    by_cases e : pr v < 0
    · rw [if_pos e]
      omega
    · rw [if_neg e]
      rcases (h v hv).2 with q | q
      · omega
      · have := dpt_le h k (pr v).toNat (by omega)
        omega
/-- depths -/
def dpV (pr : Nat → Int) (v : Nat) : Nat := dpt pr 12 v
theorem dpV_s (h : tpOK n pr pos) (hn : n ≤ 12) {v : Nat} (hv : v < n) (e : 0 ≤ pr v) : dpV pr v = dpV pr (pr v).toNat + 1 := by
  have h1 := h v hv
  unfold dpV
  have h2 : dpt pr 12 v = dpt pr 11 (pr v).toNat + 1 := by
    show (if pr v < 0 then 0 else dpt pr 11 (pr v).toNat + 1) = _
    rw [if_neg (by omega)]
  rw [h2, dpt_fuel h 11 12 (pr v).toNat (by omega) (by omega) (by omega)]
theorem dpV_0 {v : Nat} (e : pr v < 0) : dpV pr v = 0 := if_pos e
theorem dpV_lt (h : tpOK n pr pos) {v : Nat} (hv : v < n) : dpV pr v < n := by
  have h1 := dpt_le h 12 v hv
  have h2 := (h v hv).1
  unfold dpV
  omega
/-- how far a part goes: the most of these -/
def rmX (n : Nat) (w : Nat → Int) (dp : Nat → Nat) (T : Nat → Int) (O S : Nat) (v : Int) : Prop := (∀ u, u < n → sB S u = 1 → -T u ≤ v) ∧ (∀ a b, a < n → b < n → sB O a = 1 → sB S b = 1 → dp a = dp b → T a + w a + 1 - T b ≤ v) ∧ ((∃ u, u < n ∧ sB S u = 1 ∧ v = -T u) ∨ ∃ a b, a < n ∧ b < n ∧ sB O a = 1 ∧ sB S b = 1 ∧ dp a = dp b ∧ v = T a + w a + 1 - T b)
theorem rmX_one {T : Nat → Int} {O S : Nat} {v v2 : Int} (h : rmX n w dp T O S v) (h2 : rmX n w dp T O S v2) : v = v2 := by
  have key : ∀ {v v2 : Int}, rmX n w dp T O S v → rmX n w dp T O S v2 → v ≤ v2 := fun {v v2} h h2 => by
    rcases h.2.2 with ⟨u, h3, h4, h5⟩ | ⟨a, b, h3, h4, h5, h6, h7, h8⟩
    · have := h2.1 u h3 h4
      omega
    · have := h2.2.1 a b h3 h4 h5 h6 h7
      omega
  have := key h h2
  have := key h2 h
  omega
theorem rmX_congr {T T2 w2 : Nat → Int} {O S : Nat} {v : Int} (hT : ∀ u, u < n → sB S u = 1 → T u = T2 u) (hO : ∀ u, u < n → sB O u = 1 → T u = T2 u) (hw : ∀ u, u < n → w u = w2 u) (h : rmX n w dp T O S v) : rmX n w2 dp T2 O S v := by
  refine ⟨fun u h1 h2 => by rw [← hT u h1 h2]; exact h.1 u h1 h2, fun a b h1 h2 h3 h4 h5 => by rw [← hO a h1 h3, ← hT b h2 h4, ← hw a h1]; exact h.2.1 a b h1 h2 h3 h4 h5, ?_⟩
  rcases h.2.2 with ⟨u, h3, h4, h5⟩ | ⟨a, b, h3, h4, h5, h6, h7, h8⟩
  · exact Or.inl ⟨u, h3, h4, by rw [← hT u h3 h4]; exact h5⟩
  · exact Or.inr ⟨a, b, h3, h4, h5, h6, h7, by rw [← hO a h3 h5, ← hT b h4 h6, ← hw a h3]; exact h8⟩
noncomputable def rmV (n : Nat) (w : Nat → Int) (dp : Nat → Nat) (T : Nat → Int) (O S : Nat) : Int := Classical.epsilon (fun v => rmX n w dp T O S v)
theorem rmV_eq {T : Nat → Int} {O S : Nat} {v : Int} (h : rmX n w dp T O S v) : rmV n w dp T O S = v := rmX_one (Classical.epsilon_spec ⟨v, h⟩) h
/-- a set moves -/
def shT (T : Nat → Int) (S : Nat) (by' : Int) (u : Nat) : Int := T u + (if sB S u = 1 then by' else 0)
/-- the children of v by their arcs: places, all parts so far, first and last -/
noncomputable def jA (n : Nat) (fr to : Nat → Nat) (th w : Nat → Int) (dp : Nat → Nat) (v : Nat) (T : Nat → Int) (B : Nat → Nat) : Nat → (Nat → Int) × Nat × Int × Int
  | 0 => (T, 0, -1, -1)
  | a + 1 => if th a = 1 ∧ fr a = v then (shT (jA n fr to th w dp v T B a).1 (B (to a)) (rmV n w dp (jA n fr to th w dp v T B a).1 (jA n fr to th w dp v T B a).2.1 (B (to a))), (jA n fr to th w dp v T B a).2.1 ||| B (to a), (if (jA n fr to th w dp v T B a).2.2.1 < 0 then ((to a : Nat) : Int) else (jA n fr to th w dp v T B a).2.2.1), ((to a : Nat) : Int)) else jA n fr to th w dp v T B a
/-- node v is put over its children -/
noncomputable def jN (n m : Nat) (fr to : Nat → Nat) (th w : Nat → Int) (dp : Nat → Nat) (v : Nat) (z : (Nat → Int) × (Nat → Nat)) : (Nat → Int) × (Nat → Nat) :=
  (upf (jA n fr to th w dp v z.1 z.2 m).1 v (if (jA n fr to th w dp v z.1 z.2 m).2.2.1 < 0 then 0 else (2 * (jA n fr to th w dp v z.1 z.2 m).1 (jA n fr to th w dp v z.1 z.2 m).2.2.1.toNat + w (jA n fr to th w dp v z.1 z.2 m).2.2.1.toNat + 2 * (jA n fr to th w dp v z.1 z.2 m).1 (jA n fr to th w dp v z.1 z.2 m).2.2.2.toNat + w (jA n fr to th w dp v z.1 z.2 m).2.2.2.toNat) / 4 - w v / 2),
   upf z.2 v ((jA n fr to th w dp v z.1 z.2 m).2.1 ||| 2 ^ v))
/-- depth d, nodes below k -/
noncomputable def jD (n m : Nat) (fr to : Nat → Nat) (th w : Nat → Int) (dp : Nat → Nat) (d : Nat) (z : (Nat → Int) × (Nat → Nat)) : Nat → (Nat → Int) × (Nat → Nat)
  | 0 => z
  | v + 1 => if dp v = d then jN n m fr to th w dp v (jD n m fr to th w dp d z v) else jD n m fr to th w dp d z v
/-- k depths from below -/
noncomputable def jT (n m : Nat) (fr to : Nat → Nat) (th w : Nat → Int) (dp : Nat → Nat) : Nat → (Nat → Int) × (Nat → Nat)
  | 0 => (fun _ => 0, fun _ => 0)
  | k + 1 => jD n m fr to th w dp (n - 1 - k) (jT n m fr to th w dp k) n
/-- how much room the part of v may take -/
def eL (n : Nat) (pr : Nat → Int) : Nat → Nat → Int
  | 0, _ => 19
  | k + 1, v => 19 + cnt (fun c => if pr c = v then eL n pr k c else 0) n
theorem eL_p : ∀ k v, 19 ≤ eL n pr k v
  | 0, v => Int.le_refl _
  | k + 1, v => by
    have : 0 ≤ cnt (fun c => if pr c = v then eL n pr k c else 0) n := cnt_nonneg (fun c _ => by
      split
      · have := eL_p k c
        omega
      · exact Int.le_refl _)
    show 19 ≤ 19 + _
    omega
/-- all of one depth together -/
theorem eL_sum (h : tpOK n pr pos) (hn : n ≤ 12) : ∀ k d, cnt (fun v => if dpV pr v = d then eL n pr k v else 0) n ≤ 19 * cnt (fun v => if d ≤ dpV pr v then 1 else 0) n
  | 0, d => by
    rw [← cnt_mul]
    refine cnt_le (fun v _ => ?_)
    unfold eL
    split <;> split <;> omega
  | k + 1, d => by
    have ih := eL_sum h hn k (d + 1)
    have h1 : cnt (fun v => if dpV pr v = d then eL n pr (k + 1) v else 0) n = cnt (fun v => if dpV pr v = d then 19 else 0) n + cnt (fun v => cnt (fun c => if dpV pr v = d ∧ pr c = v then eL n pr k c else 0) n) n := by
      rw [← cnt_add]
      refine cnt_congr (fun v _ => ?_)
      by_cases e : dpV pr v = d
      · rw [if_pos e, if_pos e]
        show 19 + _ = _
        congr 1
        exact cnt_congr (fun c _ => by simp only [e, true_and])
      · rw [if_neg e, if_neg e, cnt_congr (g := fun _ => 0) (fun c _ => if_neg (fun q => e q.1)), cnt_zero]
        rfl
    have h2 : cnt (fun v => cnt (fun c => if dpV pr v = d ∧ pr c = v then eL n pr k c else 0) n) n ≤ cnt (fun v => if dpV pr v = d + 1 then eL n pr k v else 0) n := by
      rw [cnt_swap]
      refine cnt_le (fun c hc => ?_)
      have h19 := eL_p (n := n) (pr := pr) k c
      rcases (h c hc).2 with q | q
      · rw [cnt_congr (g := fun _ => 0) (fun v _ => if_neg (fun z => by omega)), cnt_zero]
        split <;> omega
      · rw [cnt_one (k := (pr c).toNat) (by omega) (fun a _ z => if_neg (fun y => by omega))]
        have := dpV_s h hn hc q.1
        split <;> split <;> omega
    have h3 : cnt (fun v => if dpV pr v = d then (19 : Int) else 0) n + 19 * cnt (fun v => if d + 1 ≤ dpV pr v then 1 else 0) n = 19 * cnt (fun v => if d ≤ dpV pr v then 1 else 0) n := by
      rw [← cnt_mul, ← cnt_mul, ← cnt_add]
      refine cnt_congr (fun v _ => ?_)
      split <;> split <;> split <;> omega
    omega
theorem eL_228 (h : tpOK n pr pos) (hn : n ≤ 12) {k v : Nat} (hv : v < n) : eL n pr k v ≤ 228 := by
  have h1 := eL_sum h hn k (dpV pr v)
  have h2 := cnt_ge (f := fun u => if dpV pr u = dpV pr v then eL n pr k u else 0) (m := n) (fun u _ => by
    split
    · have := eL_p (n := n) (pr := pr) k u
      omega
    · exact Int.le_refl _) v hv
  simp only [if_true] at h2
  have h3 := cnt_bnd (b := 1) (m := n) (g := fun u => if dpV pr v ≤ dpV pr u then (1 : Int) else 0) (fun a _ => by split <;> omega)
  omega
end tdy
