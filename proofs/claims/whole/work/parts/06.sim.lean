section mj_facts
theorem mj_fldok {o i ci k : Nat} (h : pg_fld o i = some (ci, k)) : Cond.fieldLink (pg_cn o) i (pg_C ci) (pg_T ci k).2.1 (pg_T ci k).2.2.1 ∈ lw_tbl ∧ ci < 10 ∧ k < pg_nf ci := by
  have h1 := pg_use (pg_kF o) h
  simp only [Bool.and_eq_true, decide_eq_true_eq] at h1
  exact ⟨pg_is_mem h1.1, h1.2.1, h1.2.2⟩
def mj_clP (ci : Nat) : Prop := pg_cl[ci]? = some (pg_C ci, pg_T ci, pg_nf ci) ∧ (∀ w ∈ u_ws (pg_C ci) (pg_T ci) (pg_nf ci), w ∈ pg_tb) ∧ (Cond.instantiable (pg_C ci) (pg_nf ci) ∈ pg_tb ∧ Cond.initialized (pg_C ci) ∈ pg_tb) ∧ (∀ k, k < pg_nf ci → parseFieldDescriptor (pg_T ci k).2.2.1 = some (pg_ty ci k) ∧ (pg_T ci k).1 = pg_C ci ∧ (pg_T ci k).2.2.2 = pg_fin ci k) ∧ (∀ a, a < pg_nf ci → ∀ b, b < pg_nf ci → a ≠ b → (pg_T ci a).2.1 ≠ (pg_T ci b).2.1)
theorem mj_clok1 {ci : Nat} (e : pg_cl[ci]? = some (pg_C ci, pg_T ci, pg_nf ci)) (h : (pg_is (pg_xp.getD ci (0, 0, [])).1 (Cond.instantiable (pg_C ci) (pg_nf ci)) && (pg_is (pg_xp.getD ci (0, 0, [])).2.1 (Cond.initialized (pg_C ci)) && ((List.range (pg_nf ci)).all fun k => pg_is ((pg_xp.getD ci (0, 0, [])).2.2.getD k 0) (u_lay (pg_C ci) (pg_T ci) k)))) = true)
    (h2 : ((List.range (pg_nf ci)).all fun k => decide (parseFieldDescriptor (pg_T ci k).2.2.1 = some (pg_ty ci k)) && (decide ((pg_T ci k).1 = pg_C ci) && (decide ((pg_T ci k).2.2.2 = pg_fin ci k) && ((List.range (pg_nf ci)).all fun j => decide (j = k) || decide ((pg_T ci j).2.1 ≠ (pg_T ci k).2.1))))) = true) : mj_clP ci := by
  simp only [Bool.and_eq_true] at h
  obtain ⟨h3, h4, h5⟩ := h
  refine ⟨e, fun w hw => ?_, ⟨pg_tb_of (pg_is_mem h3) rfl, pg_tb_of (pg_is_mem h4) rfl⟩, fun k hk => ?_, fun a ha b hb hab => ?_⟩
  · obtain ⟨k, hk, rfl⟩ := List.mem_map.mp hw
    refine pg_tb_of (pg_is_mem (List.all_eq_true.mp h5 k hk)) ?_
    unfold u_lay
    split <;> rfl
  · have := List.all_eq_true.mp h2 k (List.mem_range.mpr hk)
    simp only [Bool.and_eq_true, decide_eq_true_eq] at this
    exact ⟨this.1, this.2.1, this.2.2.1⟩
  · have := List.all_eq_true.mp h2 b (List.mem_range.mpr hb)
    simp only [Bool.and_eq_true, decide_eq_true_eq] at this
    have := List.all_eq_true.mp this.2.2.2 a (List.mem_range.mpr ha)
    simp only [Bool.or_eq_true, decide_eq_true_eq] at this
    exact this.elim (fun q => absurd q hab) id
theorem mj_clok : ∀ ci, ci < 10 → mj_clP ci
  | 0, _ => mj_clok1 rfl pg_kX_0 pg_kT_0
  | 1, _ => mj_clok1 rfl pg_kX_1 pg_kT_1
  | 2, _ => mj_clok1 rfl pg_kX_2 pg_kT_2
  | 3, _ => mj_clok1 rfl pg_kX_3 pg_kT_3
  | 4, _ => mj_clok1 rfl pg_kX_4 pg_kT_4
  | 5, _ => mj_clok1 rfl pg_kX_5 pg_kT_5
  | 6, _ => mj_clok1 rfl pg_kX_6 pg_kT_6
  | 7, _ => mj_clok1 rfl pg_kX_7 pg_kT_7
  | 8, _ => mj_clok1 rfl pg_kX_8 pg_kT_8
  | 9, _ => mj_clok1 rfl pg_kX_9 pg_kT_9
  | _ + 10, h => absurd h (by omega)
theorem mj_fs_len {B : Nat} {h : mj_H} {ci a : Nat} : (mj_fs B h ci a).length = pg_nf ci := by simp [mj_fs]
theorem mj_fs_get {B : Nat} {h : mj_H} {ci a k : Nat} (hk : k < pg_nf ci) : (mj_fs B h ci a)[k]? = some (if pg_fr ci k = true then va_rf ((h.2.2.2 a k).map (B + ·)) else .int (h.2.2.1 a k)) := by simp [mj_fs, hk]
end mj_facts
section mj_w
variable {p : Program} {l : Launch} {e : Env} {R : Room} {s : State} {m : MethodId} {args : Array Value} {below : List Frame} {meth : Method} {c : Code} {H : Heap} {locs : List Loc} {cells slots : Nat} {Q : State → Prop}
variable {cc : ByteArray} {pc : Nat} {ls : Array Slot} {rest : List Value} {D : va_G} {cl : List vw_C} {a : Nat} {tys : List (ClassId × FieldType)}
theorem mj_putW (hexec : p.tables.exec = Jvm.exec) (hb : c.code = cc) {own ref C : String} {T : u_T} {N ci index : Nat} {Ts : List Cond} (hts : ∀ w ∈ Ts, w.before args s = true) (hin : ∀ w ∈ u_ws C T N, w ∈ Ts) (ty0 : Nat → FieldType) (hty : ∀ k, k < N → parseFieldDescriptor (T k).2.2.1 = some (ty0 k)) (hnm : ∀ a, a < N → ∀ b, b < N → a ≠ b → (T a).2.1 ≠ (T b).2.1) (hown : s.vm.findClass own = some m.cls) (hK : va_K D cl tys s) {fs : List Value} (he : va_at D cl (a, .inr (ci, fs)) H) (hc : cl[ci]? = some (C, T, N)) (k : Nat) (hk : k < N) (hlink : (Cond.fieldLink own index ref (T k).2.1 (T k).2.2.1).before args s = true) (hsame : ∀ x, s.fieldFound? (T k).1 (T k).2.1 (T k).2.2.1 = some x → s.fieldFound? ref (T k).2.1 (T k).2.2.1 = some x) (hfin : (T k).2.2.2 = false) {ty : FieldType} {v : Value} (hd : parseFieldDescriptor (T k).2.2.1 = some ty) (hn : narrow ty v = v) (hfit : fits ty v = true) (hl : k < fs.length)
    (hdg : decode cc pc = .ok (.putfield index, 3)) (kk : ∀ (H1 : Heap) (x : Nat), H1.size = H.size → (∀ q : Nat, q ≠ a → H1[q]? = H[q]?) → va_at D cl (a, .inr (ci, fs.set k v)) H1 → W p l e R s m args below meth c H1 (locs ++ [⟨a, x⟩]) cells slots Q (F0 m (pc + 3) ls rest)) : W p l e R s m args below meth c H locs cells slots Q (F0 m pc ls (v :: .ref a :: rest)) := by
  have hap := va_apart (own := own) hts hin ty0 hty hnm hK hc
  obtain ⟨r, h1, cell, q1, q2, q3, q4⟩ := he
  have hr : r = (C, T, N) := Option.some.inj (h1.symm.trans hc)
  subst hr
  obtain ⟨hS, hfc, kC, hkC, hkind⟩ := hK.1 ci _ hc
  obtain ⟨cf, kf, fi, f, hi, hsl⟩ := hS k hk
  have hlay := hts _ (hin _ (u_in_lay hk))
  unfold u_lay at hlay
  rw [if_neg (by rw [hfin]; decide)] at hlay
  have hst := (u_facts hfc hkC (u_lays hts hin hk) hi).1
  have h6 := u_store hfc hkC hkind hlay hi hd hn hfit
  refine W.putK hexec hb (f := f) ⟨hown, hlink, ⟨_, _, _, hsame _ hi⟩, hst⟩ (by rw [q2]; exact h6) q1 q3 (by rw [hsl]; exact k2_hasslot (q4 k hk)) rfl rfl hdg fun H' e1 e2 e3 => ?_
  rw [hsl] at e1 ⊢
  exact kk H' _ e2 e3 ⟨_, hc, t_OB.to (V := updV (vp_V fs) k v) ⟨_, e1, q2, q3, t_set q4 hap hk v⟩ (fun j _ => vp_updV_set hl v j)⟩
theorem mj_putFW (hexec : p.tables.exec = Jvm.exec) (hb : c.code = cc) {own ref C : String} {T : u_T} {N ci index : Nat} {Ts : List Cond} (hts : ∀ w ∈ Ts, w.before args s = true) (hin : ∀ w ∈ u_ws C T N, w ∈ Ts) (ty0 : Nat → FieldType) (hty : ∀ k, k < N → parseFieldDescriptor (T k).2.2.1 = some (ty0 k)) (hnm : ∀ a, a < N → ∀ b, b < N → a ≠ b → (T a).2.1 ≠ (T b).2.1) (hown : s.vm.findClass own = some m.cls) (hK : va_K D cl tys s) {fs : List Value} (he : va_at D cl (a, .inr (ci, fs)) H) (hc : cl[ci]? = some (C, T, N)) (k : Nat) (hk : k < N) (hlink : (Cond.fieldLink own index ref (T k).2.1 (T k).2.2.1).before args s = true) (hsame : ∀ x, s.fieldFound? (T k).1 (T k).2.1 (T k).2.2.1 = some x → s.fieldFound? ref (T k).2.1 (T k).2.2.1 = some x) (hfin : (T k).2.2.2 = true) (hin2 : meth.name = "<init>") (hdecl : (T k).1 = own) {ty : FieldType} {v : Value} (hd : parseFieldDescriptor (T k).2.2.1 = some ty) (hn : narrow ty v = v) (hfit : fits ty v = true) (hl : k < fs.length)
    (hdg : decode cc pc = .ok (.putfield index, 3)) (kk : ∀ (H1 : Heap) (x : Nat), H1.size = H.size → (∀ q : Nat, q ≠ a → H1[q]? = H[q]?) → va_at D cl (a, .inr (ci, fs.set k v)) H1 → W p l e R s m args below meth c H1 (locs ++ [⟨a, x⟩]) cells slots Q (F0 m (pc + 3) ls rest)) : W p l e R s m args below meth c H locs cells slots Q (F0 m pc ls (v :: .ref a :: rest)) := by
  have hap := va_apart (own := own) hts hin ty0 hty hnm hK hc
  obtain ⟨r, h1, cell, q1, q2, q3, q4⟩ := he
  have hr : r = (C, T, N) := Option.some.inj (h1.symm.trans hc)
  subst hr
  obtain ⟨hS, hfc, kC, hkC, hkind⟩ := hK.1 ci _ hc
  obtain ⟨cf, kf, fi, f, hi, hsl⟩ := hS k hk
  have hlay := hts _ (hin _ (u_in_lay hk))
  unfold u_lay at hlay
  rw [if_pos hfin] at hlay
  have hst := (u_facts hfc hkC (u_lays hts hin hk) hi).1
  have hcf : m.cls = cf := by
    obtain ⟨_, _, c', _, _, _, -, -, hf', -, -, -, hown2, -⟩ := Cond.laysFinal_spec hlay
    have e1 : c' = cf := by have := hi.symm.trans hf'; simp at this; exact this.1.symm
    rw [hdecl] at hown2
    rw [← e1]; exact Option.some.inj (hown.symm.trans hown2)
  have h6 := u_fits hfc hkC hkind (Or.inr hlay) hi hd hn hfit
  refine W.putFinK hexec hb hown hlink (hsame _ hi) hst hcf hin2 (by rw [q2]; exact h6) q1 q3 (by rw [hsl]; exact k2_hasslot (q4 k hk)) rfl rfl hdg fun H' e1 e2 e3 => ?_
  rw [hsl] at e1 ⊢
  exact kk H' _ e2 e3 ⟨_, hc, t_OB.to (V := updV (vp_V fs) k v) ⟨_, e1, q2, q3, t_set q4 hap hk v⟩ (fun j _ => vp_updV_set hl v j)⟩
end mj_w
