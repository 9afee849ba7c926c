theorem mj_outer (c : ClassId) (N h0 : Nat) : ∀ i : Nat, Jvm.Free.Multi.outerC c N h0 i = arrV c N (fun j => va_rf (if j < i then some (h0 + 1 + j) else none))
  | 0 => by
    show ({ cls := c, slots := Array.replicate N .null, vm := .none } : Cell) = _
    rw [arrV_new]
    refine congrArg (arrV c N) (funext fun j => ?_)
    simp [va_rf]
  | i + 1 => by
    show (Jvm.Free.Multi.outerC c N h0 i).setSlot i (.ref (h0 + 1 + i)) = _
    rw [mj_outer c N h0 i, arrV_store]
    refine congrArg (arrV c N) (funext fun j => ?_)
    by_cases e : j = i
    · subst e
      simp [updV, va_rf]
    · by_cases h : j < i
      · simp [updV, e, h, Nat.lt_succ_of_lt h]
      · simp [updV, e, h, show ¬ j < i + 1 by omega]
section mj_sim4
variable {p : Program} {l : Launch} {e : Env} {R : Room} {s : State} {m : MethodId} {args : Array Value} {below : List Frame} {meth : Method} {c : Code} {Q : State → Prop} {D : va_G} {cA : Nat → ClassId} {B nL mc ms d : Nat} {b : ByteArray} {o rt : Nat}
theorem ms_newm (C : mj_Cx D cA B p R s m args meth c b o rt nL mc ms d) : mr_newm b o rt mc ms (mj_X p l e R s m args below meth c Q D cA B nL mc ms) := by
  obtain ⟨hx, hb, hml, hown, hts, hK, hB, ⟨-, -, hmc, hms⟩, hE, -⟩ := C
  intro pc lv st h uc us i x z n k hd e1 e2 e3 e4 e5 e6 e7 e8 e9 kk u1 u2 H locs ls hS hL
  have hw : Cond.classLink (pg_cn o) i "[[I" ∈ lw_tbl := pg_is_mem (pg_use (pg_kG o) e1)
  have hs : "[" ++ (FieldType.array FieldType.int).toString = "[[I" := by decide +kernel
  have hcl : (Cond.classLink (pg_cn o) i ("[" ++ (FieldType.array FieldType.int).toString)).before args s = true := by rw [hs]; exact hts _ (pg_tb_of hw rfl)
  subst e4
  subst e5
  intro T hT Xs
  obtain ⟨vm₁, cA2, comp, -, fA, fC, hO, -, X', step⟩ := Xs.multianewarray2F (ty := .int) hx hown hcl hE.2 (hts _ (pg_tb_of (pg_is_mem pg_w7) rfl)) (g := F0 m pc ls (.int z :: .int x :: st.map (mj_v B))) rfl (by rw [hb]; exact hd) rfl e2 e3 (by omega) (by show _ * 4 ≤ _; omega) (by omega) rfl rfl (by omega) (by omega)
  have hc3 : cA2 = cA 3 := Option.some.inj (fA.symm.trans (hK.2 2 _ rfl).2)
  have hc1 : comp = cA 1 := Option.some.inj (fC.symm.trans (hK.2 0 _ rfl).2)
  subst hc3
  subst hc1
  generalize hF : Jvm.Free.Multi.fill (T.setVm vm₁) (cA 3) (cA 1) x.toNatClampNeg z.toNatClampNeg (defaultValue .int) x.toNatClampNeg = F at X' step
  have hTh : (T.setVm vm₁).heap = H := hT
  obtain ⟨f1, f2, -, -⟩ := Jvm.Free.Multi.fill_facts (T.setVm vm₁) (cA 3) (cA 1) x.toNatClampNeg z.toNatClampNeg (defaultValue .int) x.toNatClampNeg
  rw [hF, hTh] at f1 f2
  have hold : ∀ q : Nat, q < H.size → F.heap[q]? = H[q]? := fun q hq => by
    have := Jvm.Free.Multi.fill_old (T.setVm vm₁) (cA 3) (cA 1) x.toNatClampNeg z.toNatClampNeg (defaultValue .int) (a := q) (by rw [hTh]; exact hq) x.toNatClampNeg
    rw [hF, hTh] at this
    exact this
  have hrow : ∀ j : Nat, j < x.toNatClampNeg → F.heap[H.size + 1 + j]? = some (Jvm.Free.Multi.innerC (cA 1) z.toNatClampNeg (defaultValue .int)) := fun j hj => by
    have := Jvm.Free.Multi.fill_inner (T.setVm vm₁) (cA 3) (cA 1) x.toNatClampNeg z.toNatClampNeg (defaultValue .int) x.toNatClampNeg j hj
    rw [hF, hTh] at this
    exact this
  rw [mj_outer] at f2
  have hz := hS.1.1
  have K := kk (by omega) (by omega) F.heap locs ls ⟨⟨?_, ?_⟩, ?_, hS.2.2⟩ hL F rfl X'
  · obtain ⟨t, a1, b1⟩ := K
    refine ⟨t, step t ?_, b1⟩
    have e0 : T.heap.size = B + h.1 := by rw [hT]; exact hz
    rw [e0]
    exact a1
  · show F.heap.size = B + (h.1 + 1 + x.toNatClampNeg)
    rw [f1, hz]
    omega
  · intro a ha
    have ha : a < h.1 + 1 + x.toNatClampNeg := ha
    rw [mj_E_k]
    dsimp only
    by_cases h1 : a < h.1
    · rw [if_neg (show ¬ a = h.1 by omega), if_neg (show ¬ (h.1 < a ∧ a ≤ h.1 + x.toNatClampNeg) by omega), if_neg (show ¬ (h.1 ≤ a ∧ a ≤ h.1 + x.toNatClampNeg) by omega), if_neg (show ¬ a = h.1 by omega)]
      exact (hS.1.2 a h1).kept (hold _ (by show B + a < H.size; omega))
    · by_cases h2 : a = h.1
      · subst h2
        rw [if_pos rfl, if_pos (show h.1 ≤ h.1 ∧ h.1 ≤ h.1 + x.toNatClampNeg by omega), if_pos rfl]
        show F.heap[B + h.1]? = some (vp_cell _ _)
        rw [← hz, f2, vp_cell_q]
        refine congrArg some (congrArg (arrV _ _) (funext fun j => congrArg va_rf ?_))
        dsimp only
        by_cases hj : j < x.toNatClampNeg
        · rw [if_pos hj, if_pos hj, hz]
          show some (B + h.1 + 1 + j) = some (B + (h.1 + 1 + j))
          rw [show B + h.1 + 1 + j = B + (h.1 + 1 + j) by omega]
        · rw [if_neg hj, if_neg hj]
          rfl
      · rw [if_neg h2, if_pos (show h.1 < a ∧ a ≤ h.1 + x.toNatClampNeg by omega), if_pos (show h.1 ≤ a ∧ a ≤ h.1 + x.toNatClampNeg by omega), if_neg h2]
        show F.heap[B + a]? = some (vp_cell _ _)
        rw [show B + a = H.size + 1 + (a - h.1 - 1) by omega, hrow _ (by omega), vp_cell_i]
        show some ({ cls := cA 1, slots := Array.replicate z.toNatClampNeg (defaultValue .int), vm := .none } : Cell) = _
        rw [arrV_new]
        rfl
  · intro q hq
    rw [hold q (by omega)]
    exact hS.2.1 q hq
theorem ms_objI (C : mj_Cx D cA B p R s m args meth c b o rt nL mc ms d) : mr_objI b o rt mc ms (mj_X p l e R s m args below meth c Q D cA B nL mc ms) := by
  obtain ⟨hx, hb, hml, hown, hts, hK, hB, ⟨h1, h2, hmc, hms⟩, -⟩ := C
  intro pc lv st h uc us i a hd e1 e2 kk u1 u2 H locs ls hS hL
  have hw : Cond.methodLink (pg_cn o) i Lib.objectInit ∈ lw_tbl := pg_is_mem (pg_use (pg_kS o) e1)
  refine W.objInit hx hb hown (hts _ (pg_tb_of hw rfl)) (hts _ (pg_tb_of (pg_is_mem pg_w0) rfl)) (hts _ (pg_tb_of (pg_is_mem pg_u0) rfl)) rfl (by rw [hml]; exact hL.2.1) rfl hd (by omega) ?_ (kk u1 u2 H locs ls hS hL)
  show 2 * 0 + ((st.map (mj_v B)).map fun v => v.category).sum + 12 ≤ R.locals
  rw [mj_cats]
  have := Nat.le_of_ble_eq_true e2
  omega
theorem ms_max (C : mj_Cx D cA B p R s m args meth c b o rt nL mc ms d) : mr_max b o rt mc ms (mj_X p l e R s m args below meth c Q D cA B nL mc ms) := by
  obtain ⟨hx, hb, hml, hown, hts, hK, hB, ⟨h1, h2, hmc, hms⟩, -⟩ := C
  intro pc lv st h uc us i x z hd e1 e2 kk u1 u2 H locs ls hS hL
  have hw : Cond.methodLink (pg_cn o) i Lib.Math.max.name ∈ lw_tbl := pg_is_mem (pg_use (pg_kS o) e1)
  refine va_mmax hx hb (by rw [hml]; exact hL.2.1.symm) hown (hts _ (pg_tb_of hw rfl)) (hts _ (pg_tb_of (pg_is_mem pg_w1) rfl)) (hts _ (pg_tb_of (pg_is_mem pg_w5) rfl)) (hts _ (pg_tb_of (pg_is_mem pg_u1) rfl)) (by omega) ?_ (by omega) (by omega) hd (kk u1 u2 H locs ls hS hL)
  rw [mj_cats]
  have := Nat.le_of_ble_eq_true e2
  omega
theorem ms_min (C : mj_Cx D cA B p R s m args meth c b o rt nL mc ms d) : mr_min b o rt mc ms (mj_X p l e R s m args below meth c Q D cA B nL mc ms) := by
  obtain ⟨hx, hb, hml, hown, hts, hK, hB, ⟨h1, h2, hmc, hms⟩, -⟩ := C
  intro pc lv st h uc us i x z hd e1 e2 kk u1 u2 H locs ls hS hL
  have hw : Cond.methodLink (pg_cn o) i Lib.Math.min.name ∈ lw_tbl := pg_is_mem (pg_use (pg_kS o) e1)
  refine va_mmin hx hb (by rw [hml]; exact hL.2.1.symm) hown (hts _ (pg_tb_of hw rfl)) (hts _ (pg_tb_of (pg_is_mem pg_w2) rfl)) (hts _ (pg_tb_of (pg_is_mem pg_w5) rfl)) (hts _ (pg_tb_of (pg_is_mem pg_u2) rfl)) (by omega) ?_ (by omega) (by omega) hd (kk u1 u2 H locs ls hS hL)
  rw [mj_cats]
  have := Nat.le_of_ble_eq_true e2
  omega
theorem mj_copyW {cc : ByteArray} {H : Heap} {locs : List Loc} {cells slots pc : Nat} {ls : Array Slot} {rest : List Value} (hexec : p.tables.exec = Jvm.exec) (hb : c.code = cc) (hml : c.maxLocals = ls.size) {own : String} {index : Nat} (hown : s.vm.findClass own = some m.cls) (hlink : (Cond.methodLink own index arraycopyName).before args s = true) (hnat : (Cond.native arraycopyName).before args s = true) (hstat : (Cond.static arraycopyName).before args s = true) (hini : (Cond.initialized "java/lang/System").before args s = true)
    {a0 a : Nat} {cI : ClassId} {n0 n1 : Nat} {f g : Nat → Int32} (hAr : ArrOfT s cI .int) (hc0 : H[a0]? = some (vp_cell cI (n0, .inl f))) (hc1 : H[a]? = some (vp_cell cI (n1, .inl g)))
    {sp dp n : Int32} (h1 : ¬ sp < 0) (h2 : ¬ dp < 0) (h3 : ¬ n < 0) (h4 : sp.toNatClampNeg + n.toNatClampNeg ≤ n0) (h5 : dp.toNatClampNeg + n.toNatClampNeg ≤ n1)
    (hframes : 1 ≤ R.frames) (hlocals : (rest.map fun v => v.category).sum + (nativeFrameWords "java/lang/System" "arraycopy" 5 + 11) ≤ R.locals) (hdg : decode cc pc = .ok (.invokestatic index, 3))
    (kk : ∀ (H1 : Heap) (L : List Loc), H1.size = H.size → (∀ q : Nat, q ≠ a → H1[q]? = H[q]?) → H1[a]? = some (vp_cell cI (n1, .inl (va_cpy f g sp.toNatClampNeg dp.toNatClampNeg n.toNatClampNeg))) → (∀ q ∈ L, q.base = a) → W p l e R s m args below meth c H1 (locs ++ L) cells slots Q (F0 m (pc + 3) ls rest)) : W p l e R s m args below meth c H locs cells slots Q (F0 m pc ls (.int n :: .int dp :: .ref a :: .int sp :: .ref a0 :: rest)) := by
  have nn : ∀ z : Int32, ¬ z < 0 → z.toInt = (z.toNatClampNeg : Int) := by
    intro z hz
    have hz0 : (0 : Int) ≤ z.toInt := by
      have := Int32.not_lt.mp hz
      simpa using Int32.le_iff_toInt_le.mp this
    show z.toInt = ((z.toInt.toNat : Nat) : Int)
    omega
  intro T hT X
  obtain ⟨-, k0, hk0, cm0, hkk0⟩ := hAr n0 (fun j => .int (f j))
  obtain ⟨-, k1, hk1, cm1, hkk1⟩ := hAr n1 (fun j => .int (g j))
  obtain ⟨vm', X', step⟩ := X.arraycopy hexec hown hlink hnat hstat hini (src := a0) (dst := a) (cs := vp_cell cI (n0, .inl f)) (cd := vp_cell cI (n1, .inl g)) (srcPos := sp) (destPos := dp) (n := n) (by rw [hT]; exact hc0) (by rw [hT]; exact hc1)
    (fun _ h => by cases h) (fun _ h => by cases h) (fun h => by cases h) (fun h => by cases h) hk0 hk1 hkk0 hkk1 (by simp [refKind]) h1 h2 h3
    (by rw [nn sp h1, nn n h3]; show ¬ _ > ((arrV cI n0 (fun j => .int (f j))).slots.size : Int); rw [arrV_size]; omega)
    (by rw [nn dp h2, nn n h3]; show ¬ _ > ((arrV cI n1 (fun j => .int (g j))).slots.size : Int); rw [arrV_size]; omega)
    (fun vm₁ _ i hi => by
      have e : (vp_cell cI (n0, .inl f)).slots.getD (sp.toNatClampNeg + i) .null = .int (f (sp.toNatClampNeg + i)) := by
        show (arrV cI n0 (fun j => .int (f j))).slots.getD _ _ = _
        rw [Array.getD_eq_getD_getElem?, arrV_read _ _ (by omega)]
        rfl
      refine ⟨?_, ?_⟩
      · rw [e]
        rfl
      · rw [e]
        exact trivial)
    (g := F0 m pc ls (.int n :: .int dp :: .ref a :: .int sp :: .ref a0 :: rest)) rfl (by rw [hml]) (rest := rest) rfl (by rw [hb]; exact hdg) hframes (by show 2 * 0 + _ + _ ≤ _; omega)
  have e1 : copied (vp_cell cI (n0, .inl f)) (vp_cell cI (n1, .inl g)) sp dp n = vp_cell cI (n1, .inl (va_cpy f g sp.toNatClampNeg dp.toNatClampNeg n.toNatClampNeg)) := va_copied (fun z => .int z) cI cI f g h4
  rw [e1] at X' step
  have hl : a < H.size := (Array.getElem?_eq_some_iff.mp hc1).1
  have hheap : ((T.setVm vm').setCell a (vp_cell cI (n1, .inl (va_cpy f g sp.toNatClampNeg dp.toNatClampNeg n.toNatClampNeg)))).heap = H.setIfInBounds a (vp_cell cI (n1, .inl (va_cpy f g sp.toNatClampNeg dp.toNatClampNeg n.toNatClampNeg))) := by rw [← hT]; rfl
  obtain ⟨t, a1, b1⟩ := kk _ _ (by simp) (fun q hq => by simp [Array.getElem?_setIfInBounds, Ne.symm hq]) (by simp [Array.getElem?_setIfInBounds, hl]) (fun q hq => by
      obtain ⟨z, -, hz⟩ := List.mem_map.mp hq
      rw [← hz]) _ hheap X'
  exact ⟨t, step t a1, b1⟩
theorem ms_copy (C : mj_Cx D cA B p R s m args meth c b o rt nL mc ms d) : mr_copy b o rt mc ms (mj_X p l e R s m args below meth c Q D cA B nL mc ms) := by
  obtain ⟨hx, hb, hml, hown, hts, hK, hB, ⟨g1, g2, hmc, hms⟩, -⟩ := C
  intro pc lv st h uc us i a0 a1 n0 n1 sp dp n hd e1 ha0 ha1 e2 e3 e4 e5 e6 e7 kk u1 u2 H locs ls hS hL
  have hw : Cond.methodLink (pg_cn o) i arraycopyName ∈ lw_tbl := pg_is_mem (pg_use (pg_kS o) e1)
  refine mj_copyW hx hb (by rw [hml]; exact hL.2.1.symm) hown (hts _ (pg_tb_of hw rfl)) (hts _ (pg_tb_of (pg_is_mem pg_w4) rfl)) (hts _ (pg_tb_of (pg_is_mem pg_w3) rfl)) (hts _ (pg_tb_of (pg_is_mem pg_w6) rfl)) (hK.2 0 _ rfl).1 (hS.ints ha0) (hS.ints ha1) e2 e3 e4 e5 e6 (by omega) ?_ hd (fun H1 L z oq he hLL => ?_)
  · rw [mj_cats]
    have := Nat.le_of_ble_eq_true e7
    have h9 : nativeFrameWords "java/lang/System" "arraycopy" 5 = 7 := by decide +kernel
    omega
  · refine kk u1 u2 H1 _ ls (hS.put rfl ha1.1 z oq ?_ (fun q hq => mj_E_off (va_up_ne _ _ hq) rfl) (fun q hq => ?_)) hL
    · rw [mj_E1 (h := (h.1, h.2.1, va_up h.2.2.1 a1 (va_cpy (h.2.2.1 a0) (h.2.2.1 a1) sp.toNatClampNeg dp.toNatClampNeg n.toNatClampNeg), h.2.2.2)) ha1.2]
      dsimp only
      rw [va_up_self]
      exact he
    · rw [hLL q hq]
      exact Nat.le_add_right _ _
end mj_sim4
