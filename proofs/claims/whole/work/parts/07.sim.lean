section mj_sim3
variable {p : Program} {l : Launch} {e : Env} {R : Room} {s : State} {m : MethodId} {args : Array Value} {below : List Frame} {meth : Method} {c : Code} {Q : State → Prop} {D : va_G} {cA : Nat → ClassId} {B nL mc ms d : Nat} {b : ByteArray} {o rt : Nat}
theorem ms_ldc (C : mj_Cx D cA B p R s m args meth c b o rt nL mc ms d) : mr_ldc b o rt mc ms (mj_X p l e R s m args below meth c Q D cA B nL mc ms) := by
  obtain ⟨hx, hb, hml, hown, hts, -⟩ := C
  intro pc lv st h uc us i v hd e1 k u1 u2 H locs ls hS hL
  have hw : Cond.constant (pg_cn o) i v ∈ lw_tbl := pg_is_mem (pg_use (pg_kL o) e1)
  exact lv_ldc hx hb hown (hts _ (pg_tb_of hw rfl)) hd (k u1 u2 H locs ls hS hL)
theorem ms_ldc2 (C : mj_Cx D cA B p R s m args meth c b o rt nL mc ms d) : mr_ldc2 b o rt mc ms (mj_X p l e R s m args below meth c Q D cA B nL mc ms) := by
  obtain ⟨hx, hb, hml, hown, hts, -⟩ := C
  intro pc lv st h uc us i v hd e1 k u1 u2 H locs ls hS hL
  unfold pg_ldl at e1
  split at e1
  · rename_i hh
    obtain ⟨rfl, rfl⟩ := hh
    cases e1
    exact lv_ldc2 hx hb hown (hts _ (pg_tb_of (pg_is_mem pg_w10) rfl)) hd (k u1 u2 H locs ls hS hL)
  · cases e1
theorem ms_getI (C : mj_Cx D cA B p R s m args meth c b o rt nL mc ms d) : mr_getI b o rt mc ms (mj_X p l e R s m args below meth c Q D cA B nL mc ms) := by
  obtain ⟨hx, hb, hml, hown, hts, hK, -⟩ := C
  intro pc lv st h uc us i ci k a hd e1 e2 ha kk u1 u2 H locs ls hS hL
  obtain ⟨f1, f2, f3⟩ := mj_fldok e1
  obtain ⟨g1, g2, -, g4, -⟩ := mj_clok ci f2
  have hv := mj_fs_get (B := B) (h := h) (a := a) f3
  rw [if_neg (by rw [e2]; decide)] at hv
  exact va_get (D := D) (ci := ci) hx hb hts g2 hown hK (mj_one (hS.obj ha)) 0 rfl g1 k f3 (hts _ (pg_tb_of f1 rfl)) (fun x9 h9 => by rw [(g4 k f3).2.1] at h9; exact h9) hv hd (kk u1 u2 H locs ls hS hL)
theorem ms_getR (C : mj_Cx D cA B p R s m args meth c b o rt nL mc ms d) : mr_getR b o rt mc ms (mj_X p l e R s m args below meth c Q D cA B nL mc ms) := by
  obtain ⟨hx, hb, hml, hown, hts, hK, -⟩ := C
  intro pc lv st h uc us i ci k a r hd e1 e2 ha hr kk u1 u2 H locs ls hS hL
  obtain ⟨f1, f2, f3⟩ := mj_fldok e1
  obtain ⟨g1, g2, -, g4, -⟩ := mj_clok ci f2
  have hv := mj_fs_get (B := B) (h := h) (a := a) f3
  rw [if_pos e2, hr] at hv
  exact va_get (D := D) (ci := ci) hx hb hts g2 hown hK (mj_one (hS.obj ha)) 0 rfl g1 k f3 (hts _ (pg_tb_of f1 rfl)) (fun x9 h9 => by rw [(g4 k f3).2.1] at h9; exact h9) hv hd (kk u1 u2 H locs ls hS hL)
theorem mj_u2_self {α : Type} {f : Nat → Nat → α} {a k : Nat} {v : α} : mj_u2 f a k v a = va_up (f a) k v := va_up_self _ _ _
theorem mj_u2_ne {α : Type} {f : Nat → Nat → α} {a k x : Nat} {v : α} (h : x ≠ a) : mj_u2 f a k v x = f x := va_up_ne _ _ h
theorem mj_fs_putI {h : mj_H} {ci a k : Nat} {x : Int32} (hk : k < pg_nf ci) (e2 : pg_fr ci k = false) : (mj_fs B h ci a).set k (.int x) = mj_fs B (h.1, h.2.1, mj_u2 h.2.2.1 a k x, h.2.2.2) ci a := by
  apply List.ext_getElem?
  intro j
  by_cases hj : j = k
  · subst hj
    rw [List.getElem?_set_self (by rw [mj_fs_len]; exact hk), mj_fs_get hk, if_neg (by rw [e2]; decide)]
    dsimp only
    rw [mj_u2_self, va_up_self]
  · rw [List.getElem?_set_ne (Ne.symm hj)]
    by_cases hl : j < pg_nf ci
    · rw [mj_fs_get hl, mj_fs_get hl]
      dsimp only
      rw [mj_u2_self, va_up_ne _ _ hj]
    · rw [List.getElem?_eq_none (by rw [mj_fs_len]; omega), List.getElem?_eq_none (by rw [mj_fs_len]; omega)]
theorem mj_fs_putR {h : mj_H} {ci a k x : Nat} (hk : k < pg_nf ci) (e2 : pg_fr ci k = true) : (mj_fs B h ci a).set k (.ref (B + x)) = mj_fs B (h.1, h.2.1, h.2.2.1, mj_u2 h.2.2.2 a k (some x)) ci a := by
  apply List.ext_getElem?
  intro j
  by_cases hj : j = k
  · subst hj
    rw [List.getElem?_set_self (by rw [mj_fs_len]; exact hk), mj_fs_get hk, if_pos e2]
    dsimp only
    rw [mj_u2_self, va_up_self]
    rfl
  · rw [List.getElem?_set_ne (Ne.symm hj)]
    by_cases hl : j < pg_nf ci
    · rw [mj_fs_get hl, mj_fs_get hl]
      dsimp only
      rw [mj_u2_self, va_up_ne _ _ hj]
    · rw [List.getElem?_eq_none (by rw [mj_fs_len]; omega), List.getElem?_eq_none (by rw [mj_fs_len]; omega)]
theorem mj_E0 {h : mj_H} {a ci : Nat} (hk : h.2.1 a = (0, ci)) : mj_E cA B h a = .inr (ci, mj_fs B h ci a) := by rw [mj_E, hk]; rfl
theorem mj_E1 {h : mj_H} {a n : Nat} (hk : h.2.1 a = (1, n)) : mj_E cA B h a = .inl (cA 1, n, .inl (h.2.2.1 a)) := by rw [mj_E, hk]; rfl
theorem mj_E2 {h : mj_H} {a n : Nat} (hk : h.2.1 a = (2, n)) : mj_E cA B h a = .inl (cA 2, n, .inl (h.2.2.1 a)) := by rw [mj_E, hk]; rfl
theorem mj_E3 {h : mj_H} {a n : Nat} (hk : h.2.1 a = (3, n)) : mj_E cA B h a = .inl (cA 3, n, .inr (.inr (.inr (.inr (fun k => (h.2.2.2 a k).map (B + ·)))))) := by rw [mj_E, hk]; rfl
theorem ms_putI (C : mj_Cx D cA B p R s m args meth c b o rt nL mc ms d) : mr_putI b o rt mc ms (mj_X p l e R s m args below meth c Q D cA B nL mc ms) := by
  obtain ⟨hx, hb, hml, hown, hts, hK, -⟩ := C
  intro pc lv st h uc us i ci k a x hd e1 e2 e3 e4 ha kk u1 u2 H locs ls hS hL
  obtain ⟨f1, f2, f3⟩ := mj_fldok e1
  obtain ⟨g1, g2, -, g4, g5⟩ := mj_clok ci f2
  refine mj_putW hx hb hts g2 (pg_ty ci) (fun k hk => (g4 k hk).1) g5 hown hK (hS.obj ha) g1 k f3 (hts _ (pg_tb_of f1 rfl)) (fun x9 h9 => by rw [(g4 k f3).2.1] at h9; exact h9) ((g4 k f3).2.2.trans e3) (g4 k f3).1 e4.1 e4.2 (by rw [mj_fs_len]; exact f3) hd (fun H1 y z oq he => ?_)
  refine kk u1 u2 H1 _ ls (hS.put rfl ha.1 z oq ?_ (fun q hq => mj_E_off (mj_u2_ne hq) rfl) (fun q hq => ?_)) hL
  · rw [mj_E0 (h := (h.1, h.2.1, mj_u2 h.2.2.1 a k x, h.2.2.2)) ha.2, ← mj_fs_putI f3 e2]
    exact he
  · rw [List.mem_singleton.mp hq]
    exact Nat.le_add_right _ _
def pg_okT (t : FieldType) : Bool := match t with
  | .int => true
  | .boolean => true
  | .object _ => true
  | .array _ => true
  | _ => false
theorem pg_kT2 : ((List.range 10).all fun ci => (List.range (pg_nf ci)).all fun k => pg_okT (pg_ty ci k)) = true := by decide +kernel
theorem mj_tyok {ci k : Nat} (h : ci < 10) (hk : k < pg_nf ci) : pg_okT (pg_ty ci k) = true := List.all_eq_true.mp (List.all_eq_true.mp pg_kT2 ci (List.mem_range.mpr h)) k (List.mem_range.mpr hk)
theorem mj_ty_ref {ci k : Nat} (f2 : ci < 10) (hk : k < pg_nf ci) (h : pg_fr ci k = true) (a : Nat) : narrow (pg_ty ci k) (.ref a) = .ref a ∧ fits (pg_ty ci k) (.ref a) = true := by
  have h2 := mj_tyok f2 hk
  unfold pg_fr at h
  generalize pg_ty ci k = t at h h2
  cases t <;> first | (simp [pg_isR] at h; done) | (simp [pg_okT] at h2; done) | exact ⟨rfl, rfl⟩
theorem ms_putF (C : mj_Cx D cA B p R s m args meth c b o rt nL mc ms d) : mr_putF b o rt mc ms (mj_X p l e R s m args below meth c Q D cA B nL mc ms) := by
  obtain ⟨hx, hb, hml, hown, hts, hK, -, -, -, hin2⟩ := C
  intro pc lv st h uc us i ci k a x hrt hd e1 e2 e3 e4 ha kk u1 u2 H locs ls hS hL
  obtain ⟨f1, f2, f3⟩ := mj_fldok e1
  obtain ⟨g1, g2, -, g4, g5⟩ := mj_clok ci f2
  subst e4
  have hC : pg_C o = pg_cn o := by
    have : ∀ z, z < 10 → pg_C z = pg_cn z := by decide +kernel
    exact this o f2
  refine mj_putFW hx hb hts g2 (pg_ty o) (fun k hk => (g4 k hk).1) g5 hown hK (hS.obj ha) g1 k f3 (hts _ (pg_tb_of f1 rfl)) (fun x9 h9 => by rw [(g4 k f3).2.1] at h9; exact h9) ((g4 k f3).2.2.trans e3) (hin2 hrt) ((g4 k f3).2.1.trans hC) (g4 k f3).1 (mj_ty_ref f2 f3 e2 _).1 (mj_ty_ref f2 f3 e2 _).2 (by rw [mj_fs_len]; exact f3) hd (fun H1 y z oq he => ?_)
  refine kk u1 u2 H1 _ ls (hS.put rfl ha.1 z oq ?_ (fun q hq => mj_E_off rfl (mj_u2_ne hq)) (fun q hq => ?_)) hL
  · rw [mj_E0 (h := (h.1, h.2.1, h.2.2.1, mj_u2 h.2.2.2 a k (some x))) ha.2, ← mj_fs_putR f3 e2]
    exact he
  · rw [List.mem_singleton.mp hq]
    exact Nat.le_add_right _ _
theorem ms_iald (C : mj_Cx D cA B p R s m args meth c b o rt nL mc ms d) : mr_iald b o rt mc ms (mj_X p l e R s m args below meth c Q D cA B nL mc ms) := by
  obtain ⟨hx, hb, hml, hown, hts, hK, -⟩ := C
  intro pc lv st h uc us a n i hd ha hin kk u1 u2 H locs ls hS hL
  exact va_iald hx hb hK (mj_one (hS.ints ha)) 0 0 rfl rfl hin hd (kk u1 u2 H locs ls hS hL)
theorem ms_zald (C : mj_Cx D cA B p R s m args meth c b o rt nL mc ms d) : mr_zald b o rt mc ms (mj_X p l e R s m args below meth c Q D cA B nL mc ms) := by
  obtain ⟨hx, hb, hml, hown, hts, hK, -⟩ := C
  intro pc lv st h uc us a n i hd ha hin kk u1 u2 H locs ls hS hL
  exact va_zald hx hb hK (mj_one (hS.bools ha)) 0 1 rfl rfl hin hd (kk u1 u2 H locs ls hS hL)
theorem ms_aald (C : mj_Cx D cA B p R s m args meth c b o rt nL mc ms d) : mr_aald b o rt mc ms (mj_X p l e R s m args below meth c Q D cA B nL mc ms) := by
  obtain ⟨hx, hb, hml, hown, hts, hK, -⟩ := C
  intro pc lv st h uc us a n i r hd ha hin hr kk u1 u2 H locs ls hS hL
  have hlt : i.toNatClampNeg < n := Nat.not_le.mp fun q => hin (Or.inr q)
  subst hr
  exact W.aald (v := va_rf ((h.2.2.2 a i.toNatClampNeg).map (B + ·))) (ty := .array .int) hx hb (hS.rows ha) ((hK.2 2 _ rfl).1 n (fun j => va_rf ((h.2.2.2 a j).map (B + ·)))) rfl (fun q => by cases q) (by show ¬ (i < 0 ∨ (arrV _ _ _).slots.size ≤ _); rw [arrV_size]; exact hin) (by show (arrV _ _ _).slots[_]? = _; rw [arrV_read _ _ hlt]) rfl rfl hd (kk u1 u2 H locs ls hS hL)
theorem ms_alen (C : mj_Cx D cA B p R s m args meth c b o rt nL mc ms d) : mr_alen b o rt mc ms (mj_X p l e R s m args below meth c Q D cA B nL mc ms) := by
  obtain ⟨hx, hb, hml, hown, hts, hK, -⟩ := C
  intro pc lv st h uc us a t n hd ha ht kk u1 u2 H locs ls hS hL
  have h9 : t = 1 ∨ t = 2 ∨ t = 3 := by omega
  rcases h9 with rfl | rfl | rfl
  · exact va_alen hx hb hK (mj_one (hS.ints ha)) 0 0 rfl rfl rfl hd (kk u1 u2 H locs ls hS hL)
  · exact va_alen hx hb hK (mj_one (hS.bools ha)) 0 1 rfl rfl rfl hd (kk u1 u2 H locs ls hS hL)
  · exact va_alen hx hb hK (mj_one (hS.rows ha)) 0 2 rfl rfl rfl hd (kk u1 u2 H locs ls hS hL)
theorem ms_iast (C : mj_Cx D cA B p R s m args meth c b o rt nL mc ms d) : mr_iast b o rt mc ms (mj_X p l e R s m args below meth c Q D cA B nL mc ms) := by
  obtain ⟨hx, hb, hml, hown, hts, hK, -⟩ := C
  intro pc lv st h uc us a n i x hd ha hin kk u1 u2 H locs ls hS hL
  refine W.iast hx hb (hS.ints ha) ((hK.2 0 _ rfl).1 n (fun j => .int (h.2.2.1 a j))) (fun q => by cases q) (by show ¬ (i < 0 ∨ (arrV _ _ _).slots.size ≤ _); rw [arrV_size]; exact hin) rfl rfl hd fun H1 e1 z oq => ?_
  refine kk u1 u2 H1 _ ls (hS.put rfl ha.1 z oq ?_ (fun q hq => mj_E_off (mj_u2_ne hq) rfl) (fun q hq => ?_)) hL
  · rw [mj_E1 (h := (h.1, h.2.1, mj_u2 h.2.2.1 a i.toNatClampNeg x, h.2.2.2)) ha.2]
    show H1[B + a]? = some (vp_cell _ _)
    rw [e1, vp_cell_i, vp_cell_i, arrV_store]
    congr 2
    funext q
    dsimp only
    rw [mj_u2_self]
    by_cases hq : q = i.toNatClampNeg
    · subst hq
      simp [updV, va_up]
    · simp [updV, va_up, hq]
  · rw [List.mem_singleton.mp hq]
    exact Nat.le_add_right _ _
theorem ms_zast (C : mj_Cx D cA B p R s m args meth c b o rt nL mc ms d) : mr_zast b o rt mc ms (mj_X p l e R s m args below meth c Q D cA B nL mc ms) := by
  obtain ⟨hx, hb, hml, hown, hts, hK, -⟩ := C
  intro pc lv st h uc us a n i x hd ha hin hnr kk u1 u2 H locs ls hS hL
  refine W.zast hx hb (hS.bools ha) ((hK.2 1 _ rfl).1 n (fun j => .int (h.2.2.1 a j))) (fun q => by cases q) (by show ¬ (i < 0 ∨ (arrV _ _ _).slots.size ≤ _); rw [arrV_size]; exact hin) rfl rfl hd fun H1 e1 z oq => ?_
  refine kk u1 u2 H1 _ ls (hS.put rfl ha.1 z oq ?_ (fun q hq => mj_E_off (mj_u2_ne hq) rfl) (fun q hq => ?_)) hL
  · rw [mj_E2 (h := (h.1, h.2.1, mj_u2 h.2.2.1 a i.toNatClampNeg x, h.2.2.2)) ha.2]
    show H1[B + a]? = some (vp_cell _ _)
    rw [e1, hnr, vp_cell_i, vp_cell_i, arrV_store]
    congr 2
    funext q
    dsimp only
    rw [mj_u2_self]
    by_cases hq : q = i.toNatClampNeg
    · subst hq
      simp [updV, va_up]
    · simp [updV, va_up, hq]
  · rw [List.mem_singleton.mp hq]
    exact Nat.le_add_right _ _
def mj_Ek (cA : Nat → ClassId) (B : Nat) (kd : Nat × Nat) (f : Nat → Int32) (g : Nat → Option Nat) : va_E :=
  if kd.1 = 0 then .inr (kd.2, (List.range (pg_nf kd.2)).map (fun k => if pg_fr kd.2 k = true then va_rf ((g k).map (B + ·)) else .int (f k))) else if kd.1 = 3 then .inl (cA 3, kd.2, .inr (.inr (.inr (.inr (fun k => (g k).map (B + ·)))))) else .inl (cA kd.1, kd.2, .inl f)
theorem mj_E_k {h : mj_H} {a : Nat} : mj_E cA B h a = mj_Ek cA B (h.2.1 a) (h.2.2.1 a) (h.2.2.2 a) := rfl
theorem mj_E_grow {h : mj_H} {kd : Nat × Nat} {x : Nat} (hx : x < h.1) : mj_E cA B (h.1 + 1, va_up h.2.1 h.1 kd, va_up h.2.2.1 h.1 (fun _ => 0), va_up h.2.2.2 h.1 (fun _ => none)) x = mj_E cA B h x := by
  rw [mj_E_k, mj_E_k]
  dsimp only
  rw [va_up_ne _ _ (Nat.ne_of_lt hx), va_up_ne _ _ (Nat.ne_of_lt hx), va_up_ne _ _ (Nat.ne_of_lt hx)]
theorem ms_new (C : mj_Cx D cA B p R s m args meth c b o rt nL mc ms d) : mr_new b o rt mc ms (mj_X p l e R s m args below meth c Q D cA B nL mc ms) := by
  obtain ⟨hx, hb, hml, hown, hts, hK, hB, ⟨-, -, hmc, hms⟩, -⟩ := C
  intro pc lv st h uc us i ci hd e1 e2 e3 kk u1 u2 H locs ls hS hL
  have f0 := pg_use (pg_kN o) e1
  simp only [Bool.and_eq_true, decide_eq_true_eq] at f0
  obtain ⟨g1, g2, g3, g4, g5⟩ := mj_clok ci f0.2
  have hKn := hK.1 ci _ g1
  refine W.newcK hx hb hown (hts _ (pg_tb_of (pg_is_mem f0.1) rfl)) (hts _ g3.1) (hts _ g3.2) rfl hd (by omega) (by omega) hKn.2.1 rfl fun H1 kC hkC e4 z1 o1 => ?_
  have hz := hS.1.1
  have K := kk e2 e3 H1 locs ls (hS.grow (h2 := (h.1 + 1, va_up h.2.1 h.1 (0, ci), va_up h.2.2.1 h.1 (fun _ => 0), va_up h.2.2.2 h.1 (fun _ => none))) rfl z1 o1 ?_ (fun x hx => mj_E_grow hx)) hL
  · rw [hz]
    exact K
  · rw [mj_E0 (h := (h.1 + 1, va_up h.2.1 h.1 (0, ci), va_up h.2.2.1 h.1 (fun _ => 0), va_up h.2.2.2 h.1 (fun _ => none))) (va_up_self _ _ _)]
    rw [hz] at e4
    refine ⟨_, g1, (u_born (pg_ty ci) hts g2 hKn hkC e4 (fun k hk => (g4 k hk).1)).to (fun j hj => ?_)⟩
    show _ = (mj_fs B _ ci h.1).getD j .null
    rw [List.getD_eq_getElem?_getD, mj_fs_get hj]
    dsimp only
    rw [va_up_self, va_up_self]
    have h2 := mj_tyok f0.2 hj
    unfold pg_fr
    generalize pg_ty ci j = t at h2
    cases t <;> first | (simp [pg_okT] at h2; done) | rfl
theorem ms_newi (C : mj_Cx D cA B p R s m args meth c b o rt nL mc ms d) : mr_newi b o rt mc ms (mj_X p l e R s m args below meth c Q D cA B nL mc ms) := by
  obtain ⟨hx, hb, hml, hown, hts, hK, hB, ⟨-, -, hmc, hms⟩, -⟩ := C
  intro pc lv st h uc us x n hd e0 e1 e5 e2 e3 kk u1 u2 H locs ls hS hL
  refine va_newaK hx hb (hts _ (pg_tb_of (pg_is_mem pg_w7) rfl)) rfl hd rfl e0 e1 (by show n * 4 ≤ _; omega) (by omega) (by omega) rfl fun H1 cA2 e4 z1 o1 hAr hNm => ?_
  have hc2 : cA2 = cA 1 := Option.some.inj (hNm.symm.trans (hK.2 0 _ rfl).2)
  subst hc2
  have hz := hS.1.1
  have K := kk e2 e3 H1 locs ls (hS.grow (h2 := (h.1 + 1, va_up h.2.1 h.1 (1, n), va_up h.2.2.1 h.1 (fun _ => 0), va_up h.2.2.2 h.1 (fun _ => none))) rfl z1 o1 ?_ (fun x hx => mj_E_grow hx)) hL
  · rw [hz]
    exact K
  · rw [mj_E1 (h := (h.1 + 1, va_up h.2.1 h.1 (1, n), va_up h.2.2.1 h.1 (fun _ => 0), va_up h.2.2.2 h.1 (fun _ => none))) (va_up_self _ _ _)]
    rw [hz] at e4
    dsimp only
    rw [va_up_self]
    exact e4
theorem ms_newz (C : mj_Cx D cA B p R s m args meth c b o rt nL mc ms d) : mr_newz b o rt mc ms (mj_X p l e R s m args below meth c Q D cA B nL mc ms) := by
  obtain ⟨hx, hb, hml, hown, hts, hK, hB, ⟨-, -, hmc, hms⟩, -⟩ := C
  intro pc lv st h uc us x n hd e0 e1 e5 e2 e3 kk u1 u2 H locs ls hS hL
  refine va_newaK hx hb (hts _ (pg_tb_of (pg_is_mem pg_w8) rfl)) rfl hd rfl e0 e1 (by show n * 1 ≤ _; omega) (by omega) (by omega) rfl fun H1 cA2 e4 z1 o1 hAr hNm => ?_
  have hc2 : cA2 = cA 2 := Option.some.inj (hNm.symm.trans (hK.2 1 _ rfl).2)
  subst hc2
  have hz := hS.1.1
  have K := kk e2 e3 H1 locs ls (hS.grow (h2 := (h.1 + 1, va_up h.2.1 h.1 (2, n), va_up h.2.2.1 h.1 (fun _ => 0), va_up h.2.2.2 h.1 (fun _ => none))) rfl z1 o1 ?_ (fun x hx => mj_E_grow hx)) hL
  · rw [hz]
    exact K
  · rw [mj_E2 (h := (h.1 + 1, va_up h.2.1 h.1 (2, n), va_up h.2.2.1 h.1 (fun _ => 0), va_up h.2.2.2 h.1 (fun _ => none))) (va_up_self _ _ _)]
    rw [hz] at e4
    dsimp only
    rw [va_up_self]
    exact e4
end mj_sim3
