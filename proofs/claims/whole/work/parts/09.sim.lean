theorem mj_over_moved {u U : State} (hvm : u.vm.Alike U.vm) (h : va_Nw (.arrayOver (.array .int)) u) : va_Nw (.arrayOver (.array .int)) U := by
  obtain ⟨comp, c, k, h1, h2, h3, h4, h5⟩ := arrayOverA_spec h
  obtain ⟨k', hk', he⟩ := hvm.2.2 _ _ h3
  have hi : (U.vm.classes.findIdx? fun (x : Class) => match x.kind with | .array component _ => component == comp | _ => false) = some c := by
    rw [hvm.findIdx?_eq _ (fun _ => rfl)]
    exact h2
  have hkind : k'.kind = .array comp (.array .int) := by rw [he]; exact h4
  have f1 : U.vm.findClass (FieldType.array .int).toString = some comp := by rw [hvm.findClass]; exact h1
  have f2 : U.vm.findClass ("[" ++ (FieldType.array .int).toString) = some c := by rw [hvm.findClass]; exact h5
  unfold va_Nw Cond.before Cond.holds
  simp only [Cond.value]
  rw [f1, Option.bind_some]
  refine (congrArg (fun o : Option Nat => (o.bind (fun c => (U.vm.classes[c]?).map fun (k : Class) => match k.kind with | .array _ ty => decide (ty = FieldType.array .int) && decide (U.vm.findClass ("[" ++ (FieldType.array .int).toString) = some c) | _ => false) == some true)) hi).trans ?_
  simp [hk', hkind, f2]
theorem mj_Ex.warm {s U : State} (hW : s.WarmedH U.vm) (h : mj_Ex s) : mj_Ex U := ⟨fun own i y host hm => va_Nw.warmM hW (h.1 own i y host hm), mj_over_moved hW.alike h.2⟩
theorem mj_Ex.same {s U : State} (hvm : s.vm = U.vm) (h : mj_Ex s) : mj_Ex U := ⟨fun own i y host hm => va_Nw.same rfl hvm (h.1 own i y host hm), mj_over_moved (by rw [hvm]; exact Vm.Alike.refl U.vm) h.2⟩
def pg_ws (y : Nat) : List Cond := Cond.code (pg_name y) (pg_code y) (pg_maxL y) (pg_ret y) :: pg_tb
def pg_rm (d y : Nat) : Room := { frames := d, cells := pg_mc y, slots := pg_ms y, locals := 40 * d }
def mj_Pc (D : va_G) (cA : Nat → ClassId) (B : Nat) (as : List mj_V) (h : mj_H) : Array Value → State → Prop := va_Pc (as.map (mj_v B)) (fun U => mj_S0 D cA B h U.heap ∧ va_K D pg_cl (mj_ty cA) U ∧ mj_Ex U)
def mj_Qc (D : va_G) (cA : Nat → ClassId) (B : Nat) (post : Option mj_V → mj_H → Prop) : Array Value → State → Outcome → State → Prop := fun _ st oc t => ∃ (r : Option mj_V) (h2 : mj_H), oc = .returned (r.map (mj_v B)) ∧ post r h2 ∧ mj_S0 D cA B h2 t.heap ∧ ∀ q, q < B → t.heap[q]? = st.heap[q]?
def mj_Met (l : Launch) (D : va_G) (cA : Nat → ClassId) (B d y : Nat) (as : List mj_V) (h : mj_H) (post : Option mj_V → mj_H → Prop) : Prop := Met l (pg_name y) (pg_ws y) (pg_rm d y) (mj_Pc D cA B as h) (mj_Qc D cA B post) (pg_mc y) (pg_ms y) (fun q => B ≤ q)
theorem mj_blind {D : va_G} {cA : Nat → ClassId} {B : Nat} {as : List mj_V} {h : mj_H} : FrameBlind (mj_Pc D cA B as h) := fun a U g mk q => by
  obtain ⟨q0, q1, q2, q3⟩ := q
  exact ⟨q0, q1, va_K.moved (u := U) (U := U.calling g mk a) (Vm.Alike.refl U.vm) q2, mj_Ex.same (s := U) (U := U.calling g mk a) rfl q3⟩
theorem mj_codeIn {z : Nat} (h : z < 142) : Cond.code (pg_name z) (pg_code z) (pg_maxL z) (pg_ret z) ∈ pg_tb := pg_tb_of (List.mem_of_getElem? (pg_kC z h)) rfl
theorem mj_good {z : Nat} (h : z < 142) : GoodIn pg_tb (pg_ws z) := fun w hw => by
  rcases List.mem_cons.mp hw with rfl | hw
  · exact ⟨mj_codeIn h, pg_tb_good (mj_codeIn h)⟩
  · exact ⟨hw, pg_tb_good hw⟩
theorem mj_zok {z : Nat} (h : z < 142) : Cond.initialized (pg_name z).cls ∈ pg_tb ∧ (pg_name z).cls = pg_cn (pg_own z) ∧ (pg_kd z = 0 → Cond.static (pg_name z) ∈ pg_tb) ∧ (pg_kd z ≠ 0 → Cond.instanceMethod (pg_name z) ∈ pg_tb) ∧ (pg_kd z ≠ 0 → pg_kd z ≠ 2 → Cond.selects (pg_cn (pg_own z)) (pg_name z) (pg_name z) ∈ pg_tb) := by
  have h1 := pg_kZ h
  unfold pg_kZb at h1
  rw [Bool.and_eq_true, Bool.and_eq_true] at h1
  obtain ⟨h2, h3, h4⟩ := h1
  refine ⟨pg_tb_of (pg_is_mem h2) rfl, of_decide_eq_true h3, fun k => ?_, fun k => ?_, fun k k2 => ?_⟩
  · rw [if_pos k] at h4
    exact pg_tb_of (pg_is_mem h4) rfl
  · rw [if_neg k, Bool.and_eq_true] at h4
    exact pg_tb_of (pg_is_mem h4.1) rfl
  · rw [if_neg k, Bool.and_eq_true, Bool.or_eq_true] at h4
    rcases h4.2 with g | g
    · exact absurd (of_decide_eq_true g) k2
    · exact pg_tb_of (pg_is_mem g) rfl
theorem mj_dok {z : Nat} (h : z < 142) : (parseMethodDescriptor (pg_name z).desc).map (fun d => d.parameters.length) = some (if pg_kd z = 0 then pg_na z else pg_na z - 1) ∧ (0 < pg_na z ∨ pg_kd z = 0) ∧ pg_na z ≤ pg_maxL z ∧ pg_maxL z ≤ 21 := by
  have h1 := pg_kD h
  unfold pg_kDb at h1
  simp only [Bool.and_eq_true, decide_eq_true_eq] at h1
  exact h1
theorem mj_pok {z : Nat} (h : z < 142) : plainFor (pg_name z) = true ∧ (pg_kd z = 2 → pg_rt z = 9 ∧ (pg_name z).name = "<init>" ∧ pg_na z = 1) ∧ (pg_rt z = 9 → (pg_name z).name = "<init>") := by
  have h1 := pg_kP h
  unfold pg_kPb at h1
  simp only [Bool.and_eq_true, decide_eq_true_eq] at h1
  exact h1
theorem mj_notMH : ∀ o, pg_cn o ≠ "java/lang/invoke/MethodHandle" ∧ pg_cn o ≠ "java/lang/invoke/VarHandle" := by
  intro o
  by_cases h : o < 13
  · have : ∀ z, z < 13 → pg_cn z ≠ "java/lang/invoke/MethodHandle" ∧ pg_cn z ≠ "java/lang/invoke/VarHandle" := by decide +kernel
    exact this o h
  · have e : pg_cn o = "" := by
      unfold pg_cn
      rw [List.getD_eq_getElem?_getD, List.getElem?_eq_none (by show 13 ≤ o; omega)]
      rfl
    rw [e]
    decide +kernel
section mj_sim5
variable {p : Program} {l : Launch} {e : Env} {R : Room} {s : State} {m : MethodId} {args : Array Value} {below : List Frame} {meth : Method} {c : Code} {Q : State → Prop} {D : va_G} {cA : Nat → ClassId} {B nL mc ms d : Nat} {b : ByteArray} {o rt : Nat}
theorem mj_goW {H : Heap} {locs : List Loc} {cells slots mz sz pc : Nat} {ls : Array Slot} {st0 rest : List Value} {post : Option mj_V → mj_H → Prop} {a : Array Value} {h : mj_H} (hr : va_Run p l e R s m args below meth c H locs cells slots mz sz (F0 m pc ls st0) rest (mj_Qc D cA B post a) (fun q => B ≤ q)) (hS : mj_S D cA B s.heap h H locs)
    (kk : ∀ (r : Option mj_V) (h2 : mj_H) (H1 : Heap) (locs1 : List Loc), post r h2 → mj_S D cA B s.heap h2 H1 locs1 → W p l e R s m args below meth c H1 locs1 (cells + mz) (slots + sz) Q (F0 m (pc + 3) ls ((r.map (mj_v B)).toList ++ rest))) : W p l e R s m args below meth c H locs cells slots Q (F0 m pc ls st0) := by
  intro T hT X
  obtain ⟨v, st₀, t, T', L, h0, X', hL, e1, e2, ⟨r, h2, hv, hp, hS1, hq⟩, st⟩ := hr T hT X
  cases hv
  rw [h0] at hq
  obtain ⟨t2, a1, b1⟩ := kk r h2 T'.heap (locs ++ L) hp ⟨by rw [e1]; exact hS1, fun q h9 => by rw [e1, hq q h9]; exact hS.2.1 q h9, fun x hx => by
    rcases List.mem_append.mp hx with g | g
    · exact hS.2.2 x g
    · exact hL x g⟩ T' rfl X'
  exact ⟨t2, st t2 a1, b1⟩
theorem mj_X_ret {pc uc us : Nat} {lv : mj_L} {st : List mj_V} {r : Option mj_V} {h2 : mj_H} {H1 : Heap} {locs1 : List Loc} {ls : Array Slot} (h : mj_X p l e R s m args below meth c Q D cA B nL mc ms pc lv (r.toList ++ st) h2 uc us) (u1 : uc ≤ mc) (u2 : us ≤ ms) (hS : mj_S D cA B s.heap h2 H1 locs1) (hL : mj_LS B ls nL lv) : W p l e R s m args below meth c H1 locs1 uc us Q (F0 m pc ls ((r.map (mj_v B)).toList ++ st.map (mj_v B))) := by
  have := h u1 u2 H1 locs1 ls hS hL
  cases r <;> exact this
theorem mj_callB {own : String} {index z : Nat} (hts : ∀ w ∈ pg_tb, w.before args s = true) (hz : z < 142) (hR : d + 1 ≤ R.frames ∧ 40 * (d + 1) ≤ R.locals) (hl : (Cond.methodLink own index (pg_name z)).before args s = true) : CallB R s args own index (pg_name z) (pg_code z) (pg_maxL z) (pg_ret z) (pg_ws z) (pg_rm d z) (pg_mc z) (pg_ms z) (if pg_kd z = 0 then pg_na z else pg_na z - 1) := by
  have hd := mj_dok hz
  have ho := mj_zok hz
  refine callB_of _ hts (mj_good hz) rfl rfl rfl (hts _ ho.1) hl ⟨by rw [ho.2.1]; exact (mj_notMH _).1, by rw [ho.2.1]; exact (mj_notMH _).2, hd.1⟩ ⟨hR.1, ?_⟩
  show 8 + (pg_maxL z + 11) + 40 * d ≤ R.locals
  omega
theorem ms_callS (C : mj_Cx D cA B p R s m args meth c b o rt nL mc ms d) (ih : ∀ (z : Nat) (as : List mj_V) (h : mj_H) (post : Option mj_V → mj_H → Prop), z < 142 → as.length = pg_na z → mj_ct as = pg_na z → mj_lv d z as h post → mj_Met l D cA B d z as h post) : mr_callS (mj_lv d) b o mc ms (mj_X p l e R s m args below meth c Q D cA B nL mc ms) := by
  obtain ⟨hx, hb, hml, hown, hts, hK, hB, ⟨g1, g2, hmc, hms⟩, hE, -⟩ := C
  intro pc lv st h uc us i z as hd e1 e2 e3 e4 e5 e6 hcall u1 u2 H locs ls hS hL
  have f0 := pg_use (pg_kM o) e1
  simp only [Bool.and_eq_true, decide_eq_true_eq] at f0
  have hz : z < 142 := f0.1
  have f1 := f0.2
  rw [if_neg (by rw [e2]; decide)] at f1
  have hw : Cond.methodLink (pg_cn o) i (pg_name z) ∈ lw_tbl := pg_is_mem f1
  have hM := ih z as h _ hz e3.1 e3.2 hcall
  have cb := mj_callB (d := d) (R := R) (own := pg_cn o) (index := i) hts hz ⟨g1, g2⟩ (hts _ (pg_tb_of hw rfl))
  rw [if_pos e2] at cb
  have hW : 2 * (F0 m pc ls ((as.reverse ++ st).map (mj_v B))).monitorRoom + ((st.map (mj_v B)).map fun v => v.category).sum ≤ 8 := by
    rw [mj_cats]
    have := Nat.le_of_ble_eq_true e4
    show 2 * 0 + _ ≤ 8
    omega
  exact mj_goW (va_runS (As := as.map (mj_v B)) (rest := st.map (mj_v B)) (nL := nL) ⟨hx, hb, hml, hown, hts⟩ hM ⟨cb, hts _ ((mj_zok hz).2.2.1 e2)⟩ ⟨mj_blind, fun U hU hW => ⟨rfl, by rw [hU]; exact hS.1, va_K.moved hW.alike hK, hE.warm hW⟩⟩ rfl (by rw [List.length_map]; exact e3.1) hL.2.1 (by show (as.reverse ++ st).map (mj_v B) = _; rw [List.map_append, List.map_reverse]) hW hd ⟨by omega, by omega⟩) hS (fun r h2 H1 locs1 hp hS1 => mj_X_ret hp e5 e6 hS1 hL)
theorem ms_callV (C : mj_Cx D cA B p R s m args meth c b o rt nL mc ms d) (ih : ∀ (z : Nat) (as : List mj_V) (h : mj_H) (post : Option mj_V → mj_H → Prop), z < 142 → as.length = pg_na z → mj_ct as = pg_na z → mj_lv d z as h post → mj_Met l D cA B d z as h post) : mr_callV (mj_lv d) b o mc ms (mj_X p l e R s m args below meth c Q D cA B nL mc ms) := by
  obtain ⟨hx, hb, hml, hown, hts, hK, hB, ⟨g1, g2, hmc, hms⟩, hE, -⟩ := C
  intro pc lv st h uc us i z as hd e1 e2 e3 e4 e5 e6 hh hcall u1 u2 H locs ls hS hL
  have f0 := pg_use (pg_kM o) e1
  simp only [Bool.and_eq_true, decide_eq_true_eq] at f0
  have hz : z < 142 := f0.1
  have f1 := f0.2
  rw [if_neg (by rw [e2]; decide)] at f1
  have hw : Cond.methodLink (pg_cn o) i (pg_name z) ∈ lw_tbl := pg_is_mem f1
  have hM := ih z as h _ hz e3.1 e3.2 hcall
  have cb := mj_callB (d := d) (R := R) (own := pg_cn o) (index := i) hts hz ⟨g1, g2⟩ (hts _ (pg_tb_of hw rfl))
  rw [if_neg (by rw [e2]; decide)] at cb
  obtain ⟨a, ha, ha2⟩ := hh
  obtain ⟨w, as2⟩ : ∃ as2, as = .inr (.inl (some a)) :: as2 := by
    cases as with
    | nil => simp at ha
    | cons x y => simp at ha; exact ⟨y, by rw [ha]⟩
  subst as2
  have hci : pg_own z < 10 := by
    rcases Nat.lt_or_ge (pg_own z) 10 with q | q
    · exact q
    · exfalso
      have hS0 := hS.obj ha2
      obtain ⟨r, hr, -⟩ := hS0
      rw [List.getElem?_eq_none (by show 10 ≤ pg_own z; exact q)] at hr
      cases hr
  have hcn : pg_C (pg_own z) = pg_cn (pg_own z) := by
    have : ∀ z, z < 10 → pg_C z = pg_cn z := by decide +kernel
    exact this _ hci
  have hrec := va_recv hK (mj_one (hS.obj ha2)) (mj_clok _ hci).1 (q0 := 0) rfl
  rw [show (pg_C (pg_own z), pg_T (pg_own z), pg_nf (pg_own z)).1 = pg_cn (pg_own z) from hcn] at hrec
  have hW : 2 * (F0 m pc ls (((.inr (.inl (some a)) :: w).reverse ++ st).map (mj_v B))).monitorRoom + ((st.map (mj_v B)).map fun v => v.category).sum ≤ 8 := by
    rw [mj_cats]
    have := Nat.le_of_ble_eq_true e4
    show 2 * 0 + _ ≤ 8
    omega
  have hk : pg_kd z ≠ 0 := by rw [e2]; decide
  have hk2 : pg_kd z ≠ 2 := by rw [e2]; decide
  exact mj_goW (va_runV (C := pg_cn (pg_own z)) (b := B + a) (As := w.map (mj_v B)) (rest := st.map (mj_v B)) (nL := nL) ⟨hx, hb, hml, hown, hts⟩ hM ⟨cb, hts _ ((mj_zok hz).2.2.2.1 hk), hts _ ((mj_zok hz).2.2.2.2 hk hk2)⟩ ⟨mj_blind, hrec, fun U hU hW => ⟨rfl, by rw [hU]; exact hS.1, va_K.moved hW.alike hK, hE.warm hW⟩⟩ rfl (by rw [List.length_map]; have := e3.1; simp at this; omega) hL.2.1 (by show ((.inr (.inl (some a)) :: w).reverse ++ st).map (mj_v B) = _; rw [List.map_append, List.map_reverse, List.map_cons, List.reverse_cons, List.append_assoc]; rfl) hW hd ⟨by omega, by omega⟩) hS (fun r h2 H1 locs1 hp hS1 => mj_X_ret hp e5 e6 hS1 hL)
theorem ms_callI (C : mj_Cx D cA B p R s m args meth c b o rt nL mc ms d) (ho : o ≠ 10) (ih : ∀ (z : Nat) (as : List mj_V) (h : mj_H) (post : Option mj_V → mj_H → Prop), z < 142 → as.length = pg_na z → mj_ct as = pg_na z → mj_lv d z as h post → mj_Met l D cA B d z as h post) : mr_callI (mj_lv d) b o mc ms (mj_X p l e R s m args below meth c Q D cA B nL mc ms) := by
  obtain ⟨hx, hb, hml, hown, hts, hK, hB, ⟨g1, g2, hmc, hms⟩, hE, -⟩ := C
  intro pc lv st h uc us i z as hd e1 e2 e3 e4 e5 e6 hh hcall u1 u2 H locs ls hS hL
  have f0 := pg_use (pg_kM o) e1
  simp only [Bool.and_eq_true, decide_eq_true_eq] at f0
  have hz : z < 142 := f0.1
  have f1 := f0.2
  rw [if_pos e2, Bool.or_eq_true] at f1
  have hw : Cond.methodLinkNest (pg_cn o) i (pg_name z) "LayerDrawing" ∈ lw_tbl := by
    rcases f1 with q | q
    · exact absurd (of_decide_eq_true q) ho
    · exact pg_is_mem q
  have hM := ih z as h _ hz e3.1 e3.2 hcall
  obtain ⟨a, ha⟩ := hh
  obtain ⟨w, as2⟩ : ∃ as2, as = .inr (.inl (some a)) :: as2 := by
    cases as with
    | nil => simp at ha
    | cons x y => simp at ha; exact ⟨y, by rw [ha]⟩
  subst as2
  have hp := (mj_pok hz).2.1 e2
  have hd9 := mj_dok hz
  have ho9 := mj_zok hz
  have hret : pg_ret z = none := by unfold pg_ret; rw [hp.1]; rfl
  have cb : va_CN R s args (pg_cn o) i (pg_name z) "LayerDrawing" (pg_code z) (pg_maxL z) none (pg_ws z) (pg_rm d z) (pg_mc z) (pg_ms z) (pg_na z - 1) := by
    refine va_cnB (ret := none) (pg_na z - 1) hts (mj_good hz) (by unfold pg_ws; rw [hret]) rfl rfl (hE.1 _ _ _ _ hw) (hts _ ho9.1) ⟨by rw [ho9.2.1]; exact (mj_notMH _).1, by rw [ho9.2.1]; exact (mj_notMH _).2, by rw [hd9.1, if_neg (by rw [e2]; decide)]⟩ ⟨g1, ?_⟩
    show 8 + (pg_maxL z + 11) + 40 * d ≤ R.locals
    omega
  have hW : 2 * (F0 m pc ls (((.inr (.inl (some a)) :: w).reverse ++ st).map (mj_v B))).monitorRoom + ((st.map (mj_v B)).map fun v => v.category).sum ≤ 8 := by
    rw [mj_cats]
    have := Nat.le_of_ble_eq_true e4
    show 2 * 0 + _ ≤ 8
    omega
  have hk : pg_kd z ≠ 0 := by rw [e2]; decide
  exact mj_goW (va_runIN (b := B + a) (As := w.map (mj_v B)) (rest := st.map (mj_v B)) (nL := nL) ⟨hx, hb, hml, hown, hts⟩ hM ⟨cb, hp.2.1, hts _ (ho9.2.2.2.1 hk)⟩ ⟨mj_blind, fun U hU hW => ⟨rfl, by rw [hU]; exact hS.1, va_K.moved hW.alike hK, hE.warm hW⟩⟩ rfl (by rw [List.length_map]; have := e3.1; simp at this; omega) hL.2.1 (by show ((.inr (.inl (some a)) :: w).reverse ++ st).map (mj_v B) = _; rw [List.map_append, List.map_reverse, List.map_cons, List.reverse_cons, List.append_assoc]; rfl) hW hd ⟨by omega, by omega⟩) hS (fun r h2 H1 locs1 hp hS1 => mj_X_ret hp e5 e6 hS1 hL)
end mj_sim5
