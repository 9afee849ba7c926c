-- rows: places 0 .. s-1 of f hold each x with P x once
def upf {α : Type} (f : Nat → α) (k : Nat) (x : α) (j : Nat) : α := if j = k then x else f j
theorem upf_s {α : Type} {f : Nat → α} {k : Nat} {x : α} : upf f k x k = x := if_pos rfl
theorem upf_n {α : Type} {f : Nat → α} {k j : Nat} {x : α} (h : j ≠ k) : upf f k x j = f j := if_neg h
def prw (P : Int → Prop) (s : Nat) (f : Nat → Int) : Prop := (∀ j, j < s → P (f j)) ∧ (∀ i j, i < s → j < s → f i = f j → i = j) ∧ ∀ x, P x → ∃ j, j < s ∧ f j = x
theorem prw_congr {P : Int → Prop} {s : Nat} {f g : Nat → Int} (h : prw P s f) (e : ∀ j, j < s → g j = f j) : prw P s g := by
  obtain ⟨h1, h2, h3⟩ := h
  refine ⟨fun j hj => by rw [e j hj]; exact h1 j hj, fun i j hi hj q => h2 i j hi hj (by rw [← e i hi, ← e j hj]; exact q), fun x hx => ?_⟩
  obtain ⟨j, hj, q⟩ := h3 x hx
  exact ⟨j, hj, by rw [e j hj]; exact q⟩
theorem prw_swap {P : Int → Prop} {s a b : Nat} {f g : Nat → Int} (h : prw P s f) (ha : a < s) (hb : b < s) (e : ∀ j, j < s → g j = f (if j = a then b else if j = b then a else j)) : prw P s g := by
  obtain ⟨h1, h2, h3⟩ := h
  have hs : ∀ j, j < s → (if j = a then b else if j = b then a else j) < s := fun j hj => by split <;> (try split) <;> omega
  refine ⟨fun j hj => by rw [e j hj]; exact h1 _ (hs j hj), fun i j hi hj q => ?_, fun x hx => ?_⟩
  · rw [e i hi, e j hj] at q
    have := h2 _ _ (hs i hi) (hs j hj) q
    split at this <;> split at this <;> (try split at this) <;> (try split at this) <;> omega
  · obtain ⟨j, hj, q⟩ := h3 x hx
    refine ⟨if j = a then b else if j = b then a else j, hs j hj, ?_⟩
    rw [e _ (hs j hj), ← q]
    congr 1
    by_cases e1 : j = a
    · rw [if_pos e1]
      by_cases e2 : b = a
      · rw [if_pos e2]
        omega
      · rw [if_neg e2, if_pos rfl]
        omega
    · rw [if_neg e1]
      by_cases e2 : j = b
      · rw [if_pos e2, if_pos rfl]
        omega
      · rw [if_neg e2, if_neg e1, if_neg e2]
/-- x goes up from place j while it is before what stands above -/
def shf (lt : Int → Int → Bool) (x : Int) : Nat → (Nat → Int) → Nat → Int
  | 0, f => upf f 0 x
  | j + 1, f => if lt x (f j) = true then shf lt x j (upf f (j + 1) (f j)) else upf f (j + 1) x
/-- by insertion, places 1 .. k -/
def isr (lt : Int → Int → Bool) : Nat → (Nat → Int) → Nat → Int
  | 0, f => f
  | k + 1, f => shf lt (isr lt k f (k + 1)) (k + 1) (isr lt k f)
section srt
variable {lt : Int → Int → Bool} {P : Int → Prop} {s : Nat}
theorem shf_prw {x : Int} : ∀ {j : Nat} {f : Nat → Int}, j < s → prw P s (upf f j x) → prw P s (shf lt x j f)
  | 0, f, _, h => h
  | j + 1, f, hj, h => by
    unfold shf
    split
    · refine shf_prw (by omega) (prw_swap h (a := j) (b := j + 1) (by omega) hj (fun i hi => ?_))
      unfold upf
      by_cases e1 : i = j
      · rw [if_pos e1, if_pos e1, if_pos rfl]
      · by_cases e2 : i = j + 1
        · rw [if_neg e1, if_pos e2, if_neg e1, if_pos e2, if_neg (by omega)]
        · rw [if_neg e1, if_neg e2, if_neg e1, if_neg e2, if_neg e2]
    · exact h
theorem isr_prw {f : Nat → Int} : ∀ {k : Nat}, (k < s ∨ k = 0) → prw P s f → prw P s (isr lt k f)
  | 0, _, h => h
  | k + 1, hk, h => by
    refine shf_prw (by omega) (prw_congr (isr_prw (k := k) (by omega) h) (fun j _ => ?_))
    unfold upf
    split
    · rename_i e
      rw [e]
    · rfl
theorem shf_off {x : Int} {i : Nat} : ∀ {j : Nat} {f : Nat → Int}, j < i → shf lt x j f i = f i
  | 0, f, h => if_neg (by omega)
  | j + 1, f, h => by
    unfold shf
    split
    · rw [shf_off (by omega), upf_n (by omega)]
    · exact upf_n (by omega)
theorem shf_congr {x : Int} {s : Nat} : ∀ {j : Nat} {f g : Nat → Int}, (∀ i, i < s → f i = g i) → j < s → ∀ i, i < s → shf lt x j f i = shf lt x j g i
  | 0, f, g, h, _, i, hi => by
    show upf f 0 x i = upf g 0 x i
    unfold upf
    rw [h i hi]
  | j + 1, f, g, h, hj, i, hi => by
    unfold shf
    rw [h j (by omega)]
    have e : ∀ z i, i < s → upf f (j + 1) z i = upf g (j + 1) z i := fun z i hi => by
      unfold upf
      rw [h i hi]
    split
    · exact shf_congr (e _) (by omega) i hi
    · exact e _ i hi
end srt
/-- numbers a row: spot (g j) becomes j -/
def nbr (g : Nat → Int) (s : Nat → Int) : Nat → Nat → Int
  | 0 => s
  | k + 1 => upf (nbr g s k) (g k).toNat (k : Int)
theorem nbr_in {g s : Nat → Int} {x : Nat} : ∀ {k : Nat}, (∀ i, i < k → (g i).toNat ≠ x) → nbr g s k x = s x
  | 0, _ => rfl
  | k + 1, h => by
    show upf _ _ _ _ = _
    rw [upf_n (fun e => h k (by omega) e.symm)]
    exact nbr_in (fun i hi => h i (by omega))
theorem nbr_at {g s : Nat → Int} {j : Nat} : ∀ {k : Nat}, (∀ i j, i < k → j < k → (g i).toNat = (g j).toNat → i = j) → j < k → nbr g s k (g j).toNat = j
  | 0, _, h => absurd h (by omega)
  | k + 1, h, hj => by
    show upf _ _ _ _ = _
    by_cases e : j = k
    · rw [e, upf_s]
    · rw [upf_n (fun q => e (h j k (by omega) (by omega) q))]
      exact nbr_at (fun i j hi hj => h i j (by omega) (by omega)) (by omega)
/-- the middle of item x as a fraction: own and oth are the pieces' items, N pieces, s the spots -/
def mdN (own : Nat → Nat) (N x : Nat) : Int := cnt (fun p => if own p = x then 1 else 0) N
def mdC (own : Nat → Nat) (N x : Nat) : Int := if mdN own N x = 0 then 1 else mdN own N x
def mdS (own oth : Nat → Nat) (s : Nat → Int) (N x : Nat) : Int := if mdN own N x = 0 then s x else cnt (fun p => if own p = x then s (oth p) else 0) N
def mdL (own oth : Nat → Nat) (s : Nat → Int) (N : Nat) (x y : Int) : Bool := decide (mdS own oth s N x.toNat * mdC own N y.toNat < mdS own oth s N y.toNat * mdC own N x.toNat)
/-- a state: rows and spots -/
abbrev wSt := (Nat → Nat → Int) × (Nat → Int)
/-- layer l is sorted by its middles -/
def stp (own oth : Nat → Nat) (N : Nat) (sz : Nat → Nat) (l : Nat) (z : wSt) : wSt := (upf z.1 l (isr (mdL own oth z.2 N) (sz l - 1) (z.1 l)), nbr (isr (mdL own oth z.2 N) (sz l - 1) (z.1 l)) z.2 (sz l))
def dnS (pu pd : Nat → Nat) (N : Nat) (sz : Nat → Nat) (z : wSt) : Nat → wSt
  | 0 => z
  | k + 1 => stp pd pu N sz (k + 1) (dnS pu pd N sz z k)
/-- k layers from below: h - 1, h - 2, .. -/
def upS (pu pd : Nat → Nat) (N : Nat) (sz : Nat → Nat) (h : Nat) (z : wSt) : Nat → wSt
  | 0 => z
  | k + 1 => stp pu pd N sz (h - 1 - k) (upS pu pd N sz h z k)
/-- a round over h layers -/
def rdS (pu pd : Nat → Nat) (N : Nat) (sz : Nat → Nat) (h : Nat) (z : wSt) : wSt := upS pu pd N sz (h - 1) (dnS pu pd N sz z (h - 1)) (h - 1)
/-- what the rows hold: Q l x: x is an item of layer l -/
def wok (Q : Nat → Int → Prop) (sz : Nat → Nat) (h : Nat) (z : wSt) : Prop := ∀ l, l < h → prw (Q l) (sz l) (z.1 l) ∧ ∀ j, j < sz l → z.2 (z.1 l j).toNat = j
theorem stp_ok {Q : Nat → Int → Prop} (hQ : ∀ l k x y, Q l x → Q k y → x.toNat = y.toNat → l = k ∧ x = y) {own oth : Nat → Nat} {N : Nat} {sz : Nat → Nat} {h l : Nat} {z : wSt} (hz : wok Q sz h z) (hl : l < h) : wok Q sz h (stp own oth N sz l z) := fun k hk => by
  have hp := isr_prw (lt := mdL own oth z.2 N) (k := sz l - 1) (by omega) (hz l hl).1
  by_cases e : k = l
  · subst e
    have e1 : (stp own oth N sz k z).1 k = isr (mdL own oth z.2 N) (sz k - 1) (z.1 k) := upf_s
    rw [e1]
    exact ⟨hp, fun j hj => nbr_at (fun a b ha hb q => hp.2.1 a b ha hb (hQ _ _ _ _ (hp.1 a ha) (hp.1 b hb) q).2) hj⟩
  · have e1 : (stp own oth N sz l z).1 k = z.1 k := upf_n e
    rw [e1]
    refine ⟨(hz k hk).1, fun j hj => ?_⟩
    refine Eq.trans (nbr_in (fun i hi q => ?_)) ((hz k hk).2 j hj)
    exact e (hQ _ _ _ _ (hp.1 i hi) ((hz k hk).1.1 j hj) q).1.symm
theorem dnS_ok {Q : Nat → Int → Prop} (hQ : ∀ l k x y, Q l x → Q k y → x.toNat = y.toNat → l = k ∧ x = y) {pu pd : Nat → Nat} {N : Nat} {sz : Nat → Nat} {h : Nat} {z : wSt} (hz : wok Q sz h z) : ∀ {k : Nat}, k < h ∨ k = 0 → wok Q sz h (dnS pu pd N sz z k)
  | 0, _ => hz
  | k + 1, hk => stp_ok hQ (dnS_ok hQ hz (by omega)) (by omega)
theorem upS_ok {Q : Nat → Int → Prop} (hQ : ∀ l k x y, Q l x → Q k y → x.toNat = y.toNat → l = k ∧ x = y) {pu pd : Nat → Nat} {N : Nat} {sz : Nat → Nat} {h b : Nat} {z : wSt} (hz : wok Q sz h z) (hb : b ≤ h) : ∀ {k : Nat}, k ≤ b → wok Q sz h (upS pu pd N sz b z k)
  | 0, _ => hz
  | k + 1, hk => stp_ok hQ (upS_ok hQ hz hb (by omega)) (by omega)
theorem rdS_ok {Q : Nat → Int → Prop} (hQ : ∀ l k x y, Q l x → Q k y → x.toNat = y.toNat → l = k ∧ x = y) {pu pd : Nat → Nat} {N : Nat} {sz : Nat → Nat} {h : Nat} {z : wSt} (hz : wok Q sz h z) : wok Q sz h (rdS pu pd N sz h z) := upS_ok hQ (dnS_ok hQ hz (by omega)) (by omega) (Nat.le_refl _)
/-- after r rounds: the state, and what is kept: round, crossings, rows -/
def rnS (pu pd : Nat → Nat) (N : Nat) (sz : Nat → Nat) (h : Nat) (z : wSt) : Nat → wSt
  | 0 => z
  | r + 1 => rdS pu pd N sz h (rnS pu pd N sz h z r)
def kpS (g pu pd : Nat → Nat) (N : Nat) (sz : Nat → Nat) (h : Nat) (z : wSt) : Nat → Nat
  | 0 => 0
  | r + 1 => if crV g pu pd (rnS pu pd N sz h z (r + 1)).2 N < crV g pu pd (rnS pu pd N sz h z (kpS g pu pd N sz h z r)).2 N then r + 1 else kpS g pu pd N sz h z r
theorem rnS_ok {Q : Nat → Int → Prop} (hQ : ∀ l k x y, Q l x → Q k y → x.toNat = y.toNat → l = k ∧ x = y) {pu pd : Nat → Nat} {N : Nat} {sz : Nat → Nat} {h : Nat} {z : wSt} (hz : wok Q sz h z) : ∀ r, wok Q sz h (rnS pu pd N sz h z r)
  | 0 => hz
  | r + 1 => rdS_ok hQ (rnS_ok hQ hz r)
theorem crV_nn {g pu pd : Nat → Nat} {s : Nat → Int} {N : Nat} : 0 ≤ crV g pu pd s N := cnt_nonneg (fun _ _ => cnt_nonneg (fun _ _ => by unfold crX; split <;> decide))
/-- no order has fewer crossings than none -/
theorem kpS_0 {g pu pd : Nat → Nat} {N : Nat} {sz : Nat → Nat} {h : Nat} {z : wSt} {r : Nat} (h0 : crV g pu pd (rnS pu pd N sz h z (kpS g pu pd N sz h z r)).2 N = 0) : ∀ j, kpS g pu pd N sz h z (r + j) = kpS g pu pd N sz h z r
  | 0 => rfl
  | j + 1 => by
    show (if crV g pu pd (rnS pu pd N sz h z (r + j + 1)).2 N < crV g pu pd (rnS pu pd N sz h z (kpS g pu pd N sz h z (r + j))).2 N then r + j + 1 else kpS g pu pd N sz h z (r + j)) = _
    rw [kpS_0 h0 j, h0, if_neg (by have := crV_nn (g := g) (pu := pu) (pd := pd) (s := (rnS pu pd N sz h z (r + j + 1)).2) (N := N); omega)]
