def mj_v (B : Nat) : mj_V → Value
  | .inl i => .int i
  | .inr (.inl r) => va_rf (r.map (B + ·))
  | .inr (.inr w) => .long w
theorem mj_cat {B : Nat} {v : mj_V} (h : mj_ca v = 1) : (mj_v B v).category = 1 := by
  rcases v with i | (_ | r) | w
  · rfl
  · rfl
  · rfl
  · simp [mj_ca] at h
theorem mj_cats (B : Nat) : ∀ st : List mj_V, ((st.map (mj_v B)).map fun v => v.category).sum = mj_ct st
  | [] => rfl
  | v :: st => by
    have ih := mj_cats B st
    have e : (mj_v B v).category = mj_ca v := by rcases v with i | (_ | r) | w <;> rfl
    show ((mj_v B v).category :: ((st.map (mj_v B)).map fun v => v.category)).sum = mj_ca v + mj_ct st
    rw [List.sum_cons, ih, e]
def mj_pr (B : Nat) (lv : mj_L) : List (Nat × Value) := lv.zipIdx.filterMap (fun q => q.1.map (fun v => (q.2, mj_v B v)))
theorem mj_pr_mem {B : Nat} {lv : mj_L} {j : Nat} {w : Value} : (j, w) ∈ mj_pr B lv ↔ ∃ v, lv[j]? = some (some v) ∧ w = mj_v B v := by
  unfold mj_pr
  rw [List.mem_filterMap]
  constructor
  · rintro ⟨⟨ov, k⟩, h1, h2⟩
    rw [List.mk_mem_zipIdx_iff_getElem?] at h1
    cases ov with
    | none => simp at h2
    | some v =>
      simp at h2
      obtain ⟨rfl, rfl⟩ := h2
      exact ⟨v, h1, rfl⟩
  · rintro ⟨v, h1, rfl⟩
    exact ⟨(some v, j), List.mk_mem_zipIdx_iff_getElem?.mpr h1, rfl⟩
def mj_LS (B : Nat) (ls : Array Slot) (nL : Nat) (lv : mj_L) : Prop := lv.length = nL ∧ lv_has ls nL (mj_pr B lv)
theorem mj_LS.get {B : Nat} {ls : Array Slot} {nL : Nat} {lv : mj_L} (h : mj_LS B ls nL lv) {i : Nat} {v : mj_V} (e : lv[i]? = some (some v)) : ls[i]? = some (.val (mj_v B v)) := h.2.2.2 (i, mj_v B v) (mj_pr_mem.mpr ⟨v, e, rfl⟩)
theorem mj_ok_cat {B : Nat} {lv : mj_L} {j : Nat} {v : mj_V} (h : mj_ok lv (j + 1) = true) (e : lv[j]? = some (some v)) : (mj_v B v).category = 1 := by
  rcases v with i | (_ | r) | w
  · rfl
  · rfl
  · rfl
  · simp [mj_ok, e] at h
theorem mj_LS.after1 {B : Nat} {ls' : Array Slot} {nL : Nat} {lv : mj_L} {i : Nat} {v : mj_V} (hl : lv.length = nL) (hok : mj_ok lv i = true) (h : lv_has ls' nL ((i, mj_v B v) :: (mj_pr B lv).filter (fun q => !(q.1 == i) && !(q.1 + 1 == i && q.2.category == 2)))) : mj_LS B ls' nL (lv.set i (some v)) := by
  refine ⟨by simp [hl], h.1, h.2.1, ?_⟩
  rintro ⟨j, w⟩ hq
  obtain ⟨v', e, rfl⟩ := mj_pr_mem.mp hq
  by_cases hj : j = i
  · subst hj
    have hlt : j < lv.length := by
      have := (List.getElem?_eq_some_iff.mp e).1
      simpa using this
    rw [List.getElem?_set_self hlt] at e
    cases e
    exact h.2.2 _ List.mem_cons_self
  · rw [List.getElem?_set_ne (Ne.symm hj)] at e
    refine h.2.2 _ (List.mem_cons_of_mem _ (List.mem_filter.mpr ⟨mj_pr_mem.mpr ⟨v', e, rfl⟩, ?_⟩))
    by_cases h2 : j + 1 = i
    · subst h2
      have := mj_ok_cat (B := B) hok e
      simp [this]
    · simp [hj, h2]
theorem mj_LS.after2 {B : Nat} {ls' : Array Slot} {nL : Nat} {lv : mj_L} {i : Nat} {v : mj_V} (hl : lv.length = nL) (hok : mj_ok lv i = true) (h : lv_has ls' nL ((i, mj_v B v) :: (mj_pr B lv).filter (fun q => !(q.1 == i) && (!(q.1 == i + 1) && !(q.1 + 1 == i && q.2.category == 2))))) : mj_LS B ls' nL ((lv.set i (some v)).set (i + 1) none) := by
  refine ⟨by simp [hl], h.1, h.2.1, ?_⟩
  rintro ⟨j, w⟩ hq
  obtain ⟨v', e, rfl⟩ := mj_pr_mem.mp hq
  have hj1 : j ≠ i + 1 := by
    intro q
    subst q
    have hlt := (List.getElem?_eq_some_iff.mp e).1
    rw [List.getElem?_set_self (by simpa using hlt)] at e
    cases e
  rw [List.getElem?_set_ne (Ne.symm hj1)] at e
  by_cases hj : j = i
  · subst hj
    have hlt : j < lv.length := by
      have := (List.getElem?_eq_some_iff.mp e).1
      simpa using this
    rw [List.getElem?_set_self hlt] at e
    cases e
    exact h.2.2 _ List.mem_cons_self
  · rw [List.getElem?_set_ne (Ne.symm hj)] at e
    refine h.2.2 _ (List.mem_cons_of_mem _ (List.mem_filter.mpr ⟨mj_pr_mem.mpr ⟨v', e, rfl⟩, ?_⟩))
    by_cases h2 : j + 1 = i
    · subst h2
      have := mj_ok_cat (B := B) hok e
      simp [this]
      omega
    · simp [hj, h2, hj1]
/-- the fields of an object of kind ci -/
def mj_fs (B : Nat) (h : mj_H) (ci a : Nat) : List Value := (List.range (pg_nf ci)).map (fun k => if pg_fr ci k = true then va_rf ((h.2.2.2 a k).map (B + ·)) else .int (h.2.2.1 a k))
def mj_E (cA : Nat → ClassId) (B : Nat) (h : mj_H) (a : Nat) : va_E :=
  if (h.2.1 a).1 = 0 then .inr ((h.2.1 a).2, mj_fs B h (h.2.1 a).2 a) else if (h.2.1 a).1 = 3 then .inl (cA 3, (h.2.1 a).2, .inr (.inr (.inr (.inr (fun k => (h.2.2.2 a k).map (B + ·)))))) else .inl (cA (h.2.1 a).1, (h.2.1 a).2, .inl (h.2.2.1 a))
/-- the heap H holds the cells h from B on -/
def mj_S0 (D : va_G) (cA : Nat → ClassId) (B : Nat) (h : mj_H) (H : Heap) : Prop := H.size = B + h.1 ∧ ∀ a, a < h.1 → va_at D pg_cl (B + a, mj_E cA B h a) H
def mj_S (D : va_G) (cA : Nat → ClassId) (B : Nat) (H0 : Heap) (h : mj_H) (H : Heap) (locs : List Loc) : Prop := mj_S0 D cA B h H ∧ (∀ q, q < B → H[q]? = H0[q]?) ∧ ∀ x ∈ locs, B ≤ x.base
abbrev mj_ty (cA : Nat → ClassId) : List (ClassId × FieldType) := [(cA 1, .int), (cA 2, .boolean), (cA 3, .array .int)]
section mj_heap
variable {D : va_G} {cA : Nat → ClassId} {B : Nat} {H0 H H1 : Heap} {h h2 : mj_H} {locs L : List Loc} {a ci n : Nat}
theorem mj_S.obj (hS : mj_S D cA B H0 h H locs) (ha : a < h.1 ∧ h.2.1 a = (0, ci)) : va_at D pg_cl (B + a, .inr (ci, mj_fs B h ci a)) H := by
  have := hS.1.2 a ha.1
  rw [mj_E, ha.2] at this
  simpa using this
theorem mj_S.ints (hS : mj_S D cA B H0 h H locs) (ha : a < h.1 ∧ h.2.1 a = (1, n)) : va_at D pg_cl (B + a, .inl (cA 1, n, .inl (h.2.2.1 a))) H := by
  have := hS.1.2 a ha.1
  rw [mj_E, ha.2] at this
  simpa using this
theorem mj_S.bools (hS : mj_S D cA B H0 h H locs) (ha : a < h.1 ∧ h.2.1 a = (2, n)) : va_at D pg_cl (B + a, .inl (cA 2, n, .inl (h.2.2.1 a))) H := by
  have := hS.1.2 a ha.1
  rw [mj_E, ha.2] at this
  simpa using this
theorem mj_S.rows (hS : mj_S D cA B H0 h H locs) (ha : a < h.1 ∧ h.2.1 a = (3, n)) : va_at D pg_cl (B + a, .inl (cA 3, n, .inr (.inr (.inr (.inr (fun k => (h.2.2.2 a k).map (B + ·))))))) H := by
  have := hS.1.2 a ha.1
  rw [mj_E, ha.2] at this
  simpa using this
theorem mj_one {cl : List vw_C} {q : Nat × va_E} (h : va_at D cl q H) : va_P D cl [q] H := fun k x hx => by
  have hz : k < 1 := (List.getElem?_eq_some_iff.mp hx).1
  rw [show k = 0 by omega] at hx
  cases hx
  exact h
theorem mj_S.put (hS : mj_S D cA B H0 h H locs) (hn : h2.1 = h.1) (ha : a < h.1) (z : H1.size = H.size) (oq : ∀ q, q ≠ B + a → H1[q]? = H[q]?) (he : va_at D pg_cl (B + a, mj_E cA B h2 a) H1) (ho : ∀ x, x ≠ a → mj_E cA B h2 x = mj_E cA B h x) (hL : ∀ x ∈ L, B ≤ x.base) : mj_S D cA B H0 h2 H1 (locs ++ L) := by
  refine ⟨⟨by rw [z, hn]; exact hS.1.1, fun x hx => ?_⟩, fun q hq => ?_, fun x hx => ?_⟩
  · by_cases e : x = a
    · subst e
      exact he
    · rw [ho x e]
      exact (hS.1.2 x (by omega)).kept (oq _ (by show B + x ≠ B + a; omega))
  · rw [oq q (by omega)]
    exact hS.2.1 q hq
  · rcases List.mem_append.mp hx with g | g
    · exact hS.2.2 x g
    · exact hL x g
theorem mj_S.grow (hS : mj_S D cA B H0 h H locs) (hn : h2.1 = h.1 + 1) (z : H1.size = H.size + 1) (o1 : ∀ q, q < H.size → H1[q]? = H[q]?) (he : va_at D pg_cl (B + h.1, mj_E cA B h2 h.1) H1) (ho : ∀ x, x < h.1 → mj_E cA B h2 x = mj_E cA B h x) : mj_S D cA B H0 h2 H1 locs := by
  have hz := hS.1.1
  refine ⟨⟨by rw [z, hn, hz]; omega, fun x hx => ?_⟩, fun q hq => ?_, hS.2.2⟩
  · by_cases e : x = h.1
    · subst e
      exact he
    · have hx' : x < h.1 := by omega
      rw [ho x hx']
      exact (hS.1.2 x hx').kept (o1 _ (by show B + x < H.size; omega))
  · rw [o1 q (by omega)]
    exact hS.2.1 q hq
theorem mj_E_off {σ : Nat → Nat → Int32} {ρ : Nat → Nat → Option Nat} {x : Nat} (h1 : σ x = h.2.2.1 x) (h3 : ρ x = h.2.2.2 x) : mj_E cA B (h.1, h.2.1, σ, ρ) x = mj_E cA B h x := by
  unfold mj_E mj_fs
  dsimp only
  rw [h1, h3]
end mj_heap
/-- words that are no plain ones: the nest's links, the arrays over int[] -/
def mj_Ex (s : State) : Prop := (∀ (own : String) (i : Nat) (y : MethodName) (host : String), Cond.methodLinkNest own i y host ∈ lw_tbl → va_Nw (.methodLinkNest own i y host) s) ∧ va_Nw (.arrayOver (.array .int)) s
/-- what stands while a method runs -/
def mj_Cx (D : va_G) (cA : Nat → ClassId) (B : Nat) (p : Program) (R : Room) (s : State) (m : MethodId) (args : Array Value) (meth : Method) (c : Code) (b : ByteArray) (o rt nL mc ms d : Nat) : Prop :=
  p.tables.exec = Jvm.exec ∧ c.code = b ∧ c.maxLocals = nL ∧ s.vm.findClass (pg_cn o) = some m.cls ∧ (∀ w ∈ pg_tb, w.before args s = true) ∧ va_K D pg_cl (mj_ty cA) s ∧ B ≤ s.heap.size ∧ (d + 1 ≤ R.frames ∧ 40 * (d + 1) ≤ R.locals ∧ mc ≤ R.cells ∧ ms ≤ R.slots) ∧ mj_Ex s ∧ (rt = 9 → meth.name = "<init>")
def mj_X (p : Program) (l : Launch) (e : Env) (R : Room) (s : State) (m : MethodId) (args : Array Value) (below : List Frame) (meth : Method) (c : Code) (Q : State → Prop) (D : va_G) (cA : Nat → ClassId) (B nL mc ms : Nat) : mj_P := fun pc lv st h uc us => uc ≤ mc → us ≤ ms → ∀ (H : Heap) (locs : List Loc) (ls : Array Slot), mj_S D cA B s.heap h H locs → mj_LS B ls nL lv → W p l e R s m args below meth c H locs uc us Q (F0 m pc ls (st.map (mj_v B)))
section mj_sim
variable {p : Program} {l : Launch} {e : Env} {R : Room} {s : State} {m : MethodId} {args : Array Value} {below : List Frame} {meth : Method} {c : Code} {Q : State → Prop} {D : va_G} {cA : Nat → ClassId} {B nL mc ms d : Nat} {b : ByteArray} {o rt : Nat}
theorem ms_iconst (C : mj_Cx D cA B p R s m args meth c b o rt nL mc ms d) : mr_iconst b o rt mc ms (mj_X p l e R s m args below meth c Q D cA B nL mc ms) := by
  obtain ⟨hx, hb, -⟩ := C
  intro pc lv st h uc us i v hd hv kk u1 u2 H locs ls hS hL
  have k := kk u1 u2 H locs ls hS hL
  exact lv_iconst hx hb hd hv k
theorem ms_bipush (C : mj_Cx D cA B p R s m args meth c b o rt nL mc ms d) : mr_bipush b o rt mc ms (mj_X p l e R s m args below meth c Q D cA B nL mc ms) := by
  obtain ⟨hx, hb, -⟩ := C
  intro pc lv st h uc us i v hd hv kk u1 u2 H locs ls hS hL
  have k := kk u1 u2 H locs ls hS hL
  exact lv_bipush hx hb hd hv k
theorem ms_sipush (C : mj_Cx D cA B p R s m args meth c b o rt nL mc ms d) : mr_sipush b o rt mc ms (mj_X p l e R s m args below meth c Q D cA B nL mc ms) := by
  obtain ⟨hx, hb, -⟩ := C
  intro pc lv st h uc us i v hd hv kk u1 u2 H locs ls hS hL
  have k := kk u1 u2 H locs ls hS hL
  exact lv_sipush hx hb hd hv k
theorem ms_iadd (C : mj_Cx D cA B p R s m args meth c b o rt nL mc ms d) : mr_iadd b o rt mc ms (mj_X p l e R s m args below meth c Q D cA B nL mc ms) := by
  obtain ⟨hx, hb, -⟩ := C
  intro pc lv st h uc us x z hd  kk u1 u2 H locs ls hS hL
  have k := kk u1 u2 H locs ls hS hL
  exact lv_iadd hx hb hd k
theorem ms_isub (C : mj_Cx D cA B p R s m args meth c b o rt nL mc ms d) : mr_isub b o rt mc ms (mj_X p l e R s m args below meth c Q D cA B nL mc ms) := by
  obtain ⟨hx, hb, -⟩ := C
  intro pc lv st h uc us x z hd  kk u1 u2 H locs ls hS hL
  have k := kk u1 u2 H locs ls hS hL
  exact lv_isub hx hb hd k
theorem ms_imul (C : mj_Cx D cA B p R s m args meth c b o rt nL mc ms d) : mr_imul b o rt mc ms (mj_X p l e R s m args below meth c Q D cA B nL mc ms) := by
  obtain ⟨hx, hb, -⟩ := C
  intro pc lv st h uc us x z hd  kk u1 u2 H locs ls hS hL
  have k := kk u1 u2 H locs ls hS hL
  exact lv_imul hx hb hd k
theorem ms_iand (C : mj_Cx D cA B p R s m args meth c b o rt nL mc ms d) : mr_iand b o rt mc ms (mj_X p l e R s m args below meth c Q D cA B nL mc ms) := by
  obtain ⟨hx, hb, -⟩ := C
  intro pc lv st h uc us x z hd  kk u1 u2 H locs ls hS hL
  have k := kk u1 u2 H locs ls hS hL
  exact lv_iand hx hb hd k
theorem ms_ior (C : mj_Cx D cA B p R s m args meth c b o rt nL mc ms d) : mr_ior b o rt mc ms (mj_X p l e R s m args below meth c Q D cA B nL mc ms) := by
  obtain ⟨hx, hb, -⟩ := C
  intro pc lv st h uc us x z hd  kk u1 u2 H locs ls hS hL
  have k := kk u1 u2 H locs ls hS hL
  exact lv_ior hx hb hd k
theorem ms_ixor (C : mj_Cx D cA B p R s m args meth c b o rt nL mc ms d) : mr_ixor b o rt mc ms (mj_X p l e R s m args below meth c Q D cA B nL mc ms) := by
  obtain ⟨hx, hb, -⟩ := C
  intro pc lv st h uc us x z hd  kk u1 u2 H locs ls hS hL
  have k := kk u1 u2 H locs ls hS hL
  exact lv_ixor hx hb hd k
theorem ms_ishl (C : mj_Cx D cA B p R s m args meth c b o rt nL mc ms d) : mr_ishl b o rt mc ms (mj_X p l e R s m args below meth c Q D cA B nL mc ms) := by
  obtain ⟨hx, hb, -⟩ := C
  intro pc lv st h uc us x z hd  kk u1 u2 H locs ls hS hL
  have k := kk u1 u2 H locs ls hS hL
  exact lv_ishl hx hb hd k
theorem ms_ishr (C : mj_Cx D cA B p R s m args meth c b o rt nL mc ms d) : mr_ishr b o rt mc ms (mj_X p l e R s m args below meth c Q D cA B nL mc ms) := by
  obtain ⟨hx, hb, -⟩ := C
  intro pc lv st h uc us x z hd  kk u1 u2 H locs ls hS hL
  have k := kk u1 u2 H locs ls hS hL
  exact lv_ishr hx hb hd k
theorem ms_iushr (C : mj_Cx D cA B p R s m args meth c b o rt nL mc ms d) : mr_iushr b o rt mc ms (mj_X p l e R s m args below meth c Q D cA B nL mc ms) := by
  obtain ⟨hx, hb, -⟩ := C
  intro pc lv st h uc us x z hd  kk u1 u2 H locs ls hS hL
  have k := kk u1 u2 H locs ls hS hL
  exact lv_iushr hx hb hd rfl k
theorem ms_idiv (C : mj_Cx D cA B p R s m args meth c b o rt nL mc ms d) : mr_idiv b o rt mc ms (mj_X p l e R s m args below meth c Q D cA B nL mc ms) := by
  obtain ⟨hx, hb, -⟩ := C
  intro pc lv st h uc us x z hd hne kk u1 u2 H locs ls hS hL
  have k := kk u1 u2 H locs ls hS hL
  exact lv_idiv hx hb hd hne k
theorem ms_irem (C : mj_Cx D cA B p R s m args meth c b o rt nL mc ms d) : mr_irem b o rt mc ms (mj_X p l e R s m args below meth c Q D cA B nL mc ms) := by
  obtain ⟨hx, hb, -⟩ := C
  intro pc lv st h uc us x z hd hne kk u1 u2 H locs ls hS hL
  have k := kk u1 u2 H locs ls hS hL
  exact lv_irem hx hb hd hne k
theorem ms_ineg (C : mj_Cx D cA B p R s m args meth c b o rt nL mc ms d) : mr_ineg b o rt mc ms (mj_X p l e R s m args below meth c Q D cA B nL mc ms) := by
  obtain ⟨hx, hb, -⟩ := C
  intro pc lv st h uc us x hd  kk u1 u2 H locs ls hS hL
  have k := kk u1 u2 H locs ls hS hL
  exact lv_ineg hx hb hd k
theorem ms_dup (C : mj_Cx D cA B p R s m args meth c b o rt nL mc ms d) : mr_dup b o rt mc ms (mj_X p l e R s m args below meth c Q D cA B nL mc ms) := by
  obtain ⟨hx, hb, -⟩ := C
  intro pc lv st h uc us v hd q0 kk u1 u2 H locs ls hS hL
  have k := kk u1 u2 H locs ls hS hL
  exact lv_dup hx hb hd (mj_cat q0) k
theorem ms_pop (C : mj_Cx D cA B p R s m args meth c b o rt nL mc ms d) : mr_pop b o rt mc ms (mj_X p l e R s m args below meth c Q D cA B nL mc ms) := by
  obtain ⟨hx, hb, -⟩ := C
  intro pc lv st h uc us v hd q0 kk u1 u2 H locs ls hS hL
  have k := kk u1 u2 H locs ls hS hL
  exact lv_pop hx hb hd (mj_cat q0) k
theorem ms_dup2 (C : mj_Cx D cA B p R s m args meth c b o rt nL mc ms d) : mr_dup2 b o rt mc ms (mj_X p l e R s m args below meth c Q D cA B nL mc ms) := by
  obtain ⟨hx, hb, -⟩ := C
  intro pc lv st h uc us v w hd q0 q1 kk u1 u2 H locs ls hS hL
  have k := kk u1 u2 H locs ls hS hL
  exact lv_dup2_11 hx hb hd (mj_cat q0) (mj_cat q1) k
theorem ms_dup_x1 (C : mj_Cx D cA B p R s m args meth c b o rt nL mc ms d) : mr_dup_x1 b o rt mc ms (mj_X p l e R s m args below meth c Q D cA B nL mc ms) := by
  obtain ⟨hx, hb, -⟩ := C
  intro pc lv st h uc us v w hd q0 q1 kk u1 u2 H locs ls hS hL
  have k := kk u1 u2 H locs ls hS hL
  exact lv_dup_x1 hx hb hd (mj_cat q0) (mj_cat q1) k
theorem ms_lconst (C : mj_Cx D cA B p R s m args meth c b o rt nL mc ms d) : mr_lconst b o rt mc ms (mj_X p l e R s m args below meth c Q D cA B nL mc ms) := by
  obtain ⟨hx, hb, -⟩ := C
  intro pc lv st h uc us f v hd hv kk u1 u2 H locs ls hS hL
  have k := kk u1 u2 H locs ls hS hL
  exact lv_lconst hx hb hd hv k
theorem ms_lmul (C : mj_Cx D cA B p R s m args meth c b o rt nL mc ms d) : mr_lmul b o rt mc ms (mj_X p l e R s m args below meth c Q D cA B nL mc ms) := by
  obtain ⟨hx, hb, -⟩ := C
  intro pc lv st h uc us x z hd  kk u1 u2 H locs ls hS hL
  have k := kk u1 u2 H locs ls hS hL
  exact lv_lmul hx hb hd k
theorem ms_lcmp (C : mj_Cx D cA B p R s m args meth c b o rt nL mc ms d) : mr_lcmp b o rt mc ms (mj_X p l e R s m args below meth c Q D cA B nL mc ms) := by
  obtain ⟨hx, hb, -⟩ := C
  intro pc lv st h uc us x z hd  kk u1 u2 H locs ls hS hL
  have k := kk u1 u2 H locs ls hS hL
  exact W.lcmp hx hb hd k
theorem ms_i2l (C : mj_Cx D cA B p R s m args meth c b o rt nL mc ms d) : mr_i2l b o rt mc ms (mj_X p l e R s m args below meth c Q D cA B nL mc ms) := by
  obtain ⟨hx, hb, -⟩ := C
  intro pc lv st h uc us x hd  kk u1 u2 H locs ls hS hL
  have k := kk u1 u2 H locs ls hS hL
  exact lv_i2l hx hb hd rfl k
theorem ms_icmp_eq (C : mj_Cx D cA B p R s m args meth c b o rt nL mc ms d) : mr_icmp_eq b o rt mc ms (mj_X p l e R s m args below meth c Q D cA B nL mc ms) := by
  obtain ⟨hx, hb, -⟩ := C
  intro pc lv st h uc us x z off tgt hd ht k1 k2 u1 u2 H locs ls hS hL
  exact lv_icmp_eq hx hb hd ht (fun g => k1 g u1 u2 H locs ls hS hL) (fun g => k2 g u1 u2 H locs ls hS hL)
theorem ms_icmp_ne (C : mj_Cx D cA B p R s m args meth c b o rt nL mc ms d) : mr_icmp_ne b o rt mc ms (mj_X p l e R s m args below meth c Q D cA B nL mc ms) := by
  obtain ⟨hx, hb, -⟩ := C
  intro pc lv st h uc us x z off tgt hd ht k1 k2 u1 u2 H locs ls hS hL
  exact lv_icmp_ne hx hb hd ht (fun g => k1 g u1 u2 H locs ls hS hL) (fun g => k2 g u1 u2 H locs ls hS hL)
theorem ms_icmp_lt (C : mj_Cx D cA B p R s m args meth c b o rt nL mc ms d) : mr_icmp_lt b o rt mc ms (mj_X p l e R s m args below meth c Q D cA B nL mc ms) := by
  obtain ⟨hx, hb, -⟩ := C
  intro pc lv st h uc us x z off tgt hd ht k1 k2 u1 u2 H locs ls hS hL
  exact lv_icmp_lt hx hb hd ht (fun g => k1 g u1 u2 H locs ls hS hL) (fun g => k2 g u1 u2 H locs ls hS hL)
theorem ms_icmp_ge (C : mj_Cx D cA B p R s m args meth c b o rt nL mc ms d) : mr_icmp_ge b o rt mc ms (mj_X p l e R s m args below meth c Q D cA B nL mc ms) := by
  obtain ⟨hx, hb, -⟩ := C
  intro pc lv st h uc us x z off tgt hd ht k1 k2 u1 u2 H locs ls hS hL
  exact lv_icmp_ge hx hb hd ht (fun g => k1 g u1 u2 H locs ls hS hL) (fun g => k2 g u1 u2 H locs ls hS hL)
theorem ms_icmp_gt (C : mj_Cx D cA B p R s m args meth c b o rt nL mc ms d) : mr_icmp_gt b o rt mc ms (mj_X p l e R s m args below meth c Q D cA B nL mc ms) := by
  obtain ⟨hx, hb, -⟩ := C
  intro pc lv st h uc us x z off tgt hd ht k1 k2 u1 u2 H locs ls hS hL
  exact lv_icmp_gt hx hb hd ht (fun g => k1 g u1 u2 H locs ls hS hL) (fun g => k2 g u1 u2 H locs ls hS hL)
theorem ms_icmp_le (C : mj_Cx D cA B p R s m args meth c b o rt nL mc ms d) : mr_icmp_le b o rt mc ms (mj_X p l e R s m args below meth c Q D cA B nL mc ms) := by
  obtain ⟨hx, hb, -⟩ := C
  intro pc lv st h uc us x z off tgt hd ht k1 k2 u1 u2 H locs ls hS hL
  exact lv_icmp_le hx hb hd ht (fun g => k1 g u1 u2 H locs ls hS hL) (fun g => k2 g u1 u2 H locs ls hS hL)
theorem ms_if_eq (C : mj_Cx D cA B p R s m args meth c b o rt nL mc ms d) : mr_if_eq b o rt mc ms (mj_X p l e R s m args below meth c Q D cA B nL mc ms) := by
  obtain ⟨hx, hb, -⟩ := C
  intro pc lv st h uc us x off tgt hd ht k1 k2 u1 u2 H locs ls hS hL
  exact lv_if_eq hx hb hd ht (fun g => k1 g u1 u2 H locs ls hS hL) (fun g => k2 g u1 u2 H locs ls hS hL)
theorem ms_if_ne (C : mj_Cx D cA B p R s m args meth c b o rt nL mc ms d) : mr_if_ne b o rt mc ms (mj_X p l e R s m args below meth c Q D cA B nL mc ms) := by
  obtain ⟨hx, hb, -⟩ := C
  intro pc lv st h uc us x off tgt hd ht k1 k2 u1 u2 H locs ls hS hL
  exact lv_if_ne hx hb hd ht (fun g => k1 g u1 u2 H locs ls hS hL) (fun g => k2 g u1 u2 H locs ls hS hL)
theorem ms_if_lt (C : mj_Cx D cA B p R s m args meth c b o rt nL mc ms d) : mr_if_lt b o rt mc ms (mj_X p l e R s m args below meth c Q D cA B nL mc ms) := by
  obtain ⟨hx, hb, -⟩ := C
  intro pc lv st h uc us x off tgt hd ht k1 k2 u1 u2 H locs ls hS hL
  exact lv_if_lt hx hb hd ht (fun g => k1 g u1 u2 H locs ls hS hL) (fun g => k2 g u1 u2 H locs ls hS hL)
theorem ms_if_ge (C : mj_Cx D cA B p R s m args meth c b o rt nL mc ms d) : mr_if_ge b o rt mc ms (mj_X p l e R s m args below meth c Q D cA B nL mc ms) := by
  obtain ⟨hx, hb, -⟩ := C
  intro pc lv st h uc us x off tgt hd ht k1 k2 u1 u2 H locs ls hS hL
  exact lv_if_ge hx hb hd ht (fun g => k1 g u1 u2 H locs ls hS hL) (fun g => k2 g u1 u2 H locs ls hS hL)
theorem ms_if_gt (C : mj_Cx D cA B p R s m args meth c b o rt nL mc ms d) : mr_if_gt b o rt mc ms (mj_X p l e R s m args below meth c Q D cA B nL mc ms) := by
  obtain ⟨hx, hb, -⟩ := C
  intro pc lv st h uc us x off tgt hd ht k1 k2 u1 u2 H locs ls hS hL
  exact lv_if_gt hx hb hd ht (fun g => k1 g u1 u2 H locs ls hS hL) (fun g => k2 g u1 u2 H locs ls hS hL)
theorem ms_if_le (C : mj_Cx D cA B p R s m args meth c b o rt nL mc ms d) : mr_if_le b o rt mc ms (mj_X p l e R s m args below meth c Q D cA B nL mc ms) := by
  obtain ⟨hx, hb, -⟩ := C
  intro pc lv st h uc us x off tgt hd ht k1 k2 u1 u2 H locs ls hS hL
  exact lv_if_le hx hb hd ht (fun g => k1 g u1 u2 H locs ls hS hL) (fun g => k2 g u1 u2 H locs ls hS hL)
theorem ms_goto (C : mj_Cx D cA B p R s m args meth c b o rt nL mc ms d) : mr_goto b o rt mc ms (mj_X p l e R s m args below meth c Q D cA B nL mc ms) := by
  obtain ⟨hx, hb, -⟩ := C
  intro pc lv st h uc us off tgt hd ht k u1 u2 H locs ls hS hL
  exact lv_goto hx hb hd ht (k u1 u2 H locs ls hS hL)
theorem ms_iload (C : mj_Cx D cA B p R s m args meth c b o rt nL mc ms d) : mr_iload b o rt mc ms (mj_X p l e R s m args below meth c Q D cA B nL mc ms) := by
  obtain ⟨hx, hb, -⟩ := C
  intro pc lv st h uc us i x hd e1 k u1 u2 H locs ls hS hL
  exact lv_iload hx hb hd (hL.get e1) (k u1 u2 H locs ls hS hL)
theorem ms_aload (C : mj_Cx D cA B p R s m args meth c b o rt nL mc ms d) : mr_aload b o rt mc ms (mj_X p l e R s m args below meth c Q D cA B nL mc ms) := by
  obtain ⟨hx, hb, -⟩ := C
  intro pc lv st h uc us i x hd e1 k u1 u2 H locs ls hS hL
  exact lv_aload hx hb hd (hL.get e1) (k u1 u2 H locs ls hS hL)
theorem ms_iload_n (C : mj_Cx D cA B p R s m args meth c b o rt nL mc ms d) : mr_iload_n b o rt mc ms (mj_X p l e R s m args below meth c Q D cA B nL mc ms) := by
  obtain ⟨hx, hb, -⟩ := C
  intro pc lv st h uc us f i x hd hi e1 k u1 u2 H locs ls hS hL
  exact lv_iload_n hx hb hd hi (hL.get e1) (k u1 u2 H locs ls hS hL)
theorem ms_aload_n (C : mj_Cx D cA B p R s m args meth c b o rt nL mc ms d) : mr_aload_n b o rt mc ms (mj_X p l e R s m args below meth c Q D cA B nL mc ms) := by
  obtain ⟨hx, hb, -⟩ := C
  intro pc lv st h uc us f i x hd hi e1 k u1 u2 H locs ls hS hL
  exact lv_aload_n hx hb hd hi (hL.get e1) (k u1 u2 H locs ls hS hL)
theorem ms_lload_n (C : mj_Cx D cA B p R s m args meth c b o rt nL mc ms d) : mr_lload_n b o rt mc ms (mj_X p l e R s m args below meth c Q D cA B nL mc ms) := by
  obtain ⟨hx, hb, -⟩ := C
  intro pc lv st h uc us f i x hd hi e1 k u1 u2 H locs ls hS hL
  exact lv_lload_n hx hb hd hi (hL.get e1) (k u1 u2 H locs ls hS hL)
theorem ms_istore (C : mj_Cx D cA B p R s m args meth c b o rt nL mc ms d) : mr_istore b o rt mc ms (mj_X p l e R s m args below meth c Q D cA B nL mc ms) := by
  obtain ⟨hx, hb, -⟩ := C
  intro pc lv st h uc us i x hd hi hok k u1 u2 H locs ls hS hL
  exact lv_istore (lv := mj_pr B lv) hx hb hd hL.2 (hL.1 ▸ hi) rfl (fun ls2 h9 => k u1 u2 H locs ls2 hS (mj_LS.after1 (v := .inl x) hL.1 hok h9))
theorem ms_istore_n (C : mj_Cx D cA B p R s m args meth c b o rt nL mc ms d) : mr_istore_n b o rt mc ms (mj_X p l e R s m args below meth c Q D cA B nL mc ms) := by
  obtain ⟨hx, hb, -⟩ := C
  intro pc lv st h uc us f i x hd hf hi hok k u1 u2 H locs ls hS hL
  exact lv_istore_n (lv := mj_pr B lv) hx hb hd hf hL.2 (hL.1 ▸ hi) rfl (fun ls2 h9 => k u1 u2 H locs ls2 hS (mj_LS.after1 (v := .inl x) hL.1 hok h9))
theorem ms_astore (C : mj_Cx D cA B p R s m args meth c b o rt nL mc ms d) : mr_astore b o rt mc ms (mj_X p l e R s m args below meth c Q D cA B nL mc ms) := by
  obtain ⟨hx, hb, -⟩ := C
  intro pc lv st h uc us i x hd hi hok k u1 u2 H locs ls hS hL
  exact lv_astore (lv := mj_pr B lv) hx hb hd hL.2 (hL.1 ▸ hi) rfl (fun ls2 h9 => k u1 u2 H locs ls2 hS (mj_LS.after1 (v := .inr (.inl (some x))) hL.1 hok h9))
theorem ms_astore_n (C : mj_Cx D cA B p R s m args meth c b o rt nL mc ms d) : mr_astore_n b o rt mc ms (mj_X p l e R s m args below meth c Q D cA B nL mc ms) := by
  obtain ⟨hx, hb, -⟩ := C
  intro pc lv st h uc us f i x hd hf hi hok k u1 u2 H locs ls hS hL
  exact lv_astore_n (lv := mj_pr B lv) hx hb hd hf hL.2 (hL.1 ▸ hi) rfl (fun ls2 h9 => k u1 u2 H locs ls2 hS (mj_LS.after1 (v := .inr (.inl (some x))) hL.1 hok h9))
theorem ms_lstore_n (C : mj_Cx D cA B p R s m args meth c b o rt nL mc ms d) : mr_lstore_n b o rt mc ms (mj_X p l e R s m args below meth c Q D cA B nL mc ms) := by
  obtain ⟨hx, hb, -⟩ := C
  intro pc lv st h uc us f i x hd hf hi hok k u1 u2 H locs ls hS hL
  exact lv_lstore_n (lv := mj_pr B lv) hx hb hd hf hL.2 (hL.1 ▸ hi) rfl (fun ls2 h9 => k u1 u2 H locs ls2 hS (mj_LS.after2 (v := .inr (.inr x)) hL.1 hok h9))
theorem ms_iinc (C : mj_Cx D cA B p R s m args meth c b o rt nL mc ms d) : mr_iinc b o rt mc ms (mj_X p l e R s m args below meth c Q D cA B nL mc ms) := by
  obtain ⟨hx, hb, -⟩ := C
  intro pc lv st h uc us i k x v hd e1 hv hok kk u1 u2 H locs ls hS hL
  obtain ⟨j, hj⟩ := List.getElem?_of_mem (mj_pr_mem (B := B).mpr ⟨_, e1, rfl⟩)
  exact lv_iinc (lv := mj_pr B lv) hx hb hd hL.2 hj hv (hL.1 ▸ (List.getElem?_eq_some_iff.mp e1).1) rfl (fun ls2 h9 => kk u1 u2 H locs ls2 hS (mj_LS.after1 (v := .inl v) hL.1 hok h9))
end mj_sim
