theorem mj_ct_ge : ∀ as : List mj_V, as.length ≤ mj_ct as
  | [] => Nat.le_refl _
  | v :: as => by
    have h1 := mj_ct_ge as
    have h2 : 1 ≤ mj_ca v := by rcases v with i | (_ | r) | w <;> simp [mj_ca]
    show as.length + 1 ≤ mj_ca v + mj_ct as
    omega
theorem mj_ct_one : ∀ {as : List mj_V}, mj_ct as = as.length → ∀ v ∈ as, mj_ca v = 1
  | [], _, v, hv => by simp at hv
  | x :: as, h, v, hv => by
    have h1 := mj_ct_ge as
    have h2 : 1 ≤ mj_ca x := by rcases x with i | (_ | r) | w <;> simp [mj_ca]
    have h3 : mj_ca x + mj_ct as = as.length + 1 := h
    rcases List.mem_cons.mp hv with rfl | hv
    · omega
    · exact mj_ct_one (by omega) v hv
theorem mj_sl {B : Nat} : ∀ {as : List mj_V}, (∀ v ∈ as, mj_ca v = 1) → lg_sl (as.map (mj_v B)) = as.map (fun v => Slot.val (mj_v B v))
  | [], _ => rfl
  | x :: as, h => by
    have ih := mj_sl (B := B) (as := as) (fun v hv => h v (List.mem_cons_of_mem _ hv))
    have hc := mj_cat (B := B) (h x List.mem_cons_self)
    unfold lg_sl at ih ⊢
    rw [List.map_cons, List.flatMap_cons, ih, if_neg (by omega), List.map_cons]
    rfl
theorem mj_args {B : Nat} : ∀ {as : List mj_V} (i : Nat), (∀ v ∈ as, mj_ca v = 1) → ∀ (k : Nat) (v : mj_V), as[k]? = some v → (i + k, mj_v B v) ∈ lv_args i (as.map (mj_v B))
  | [], _, _, k, v, hk => by simp at hk
  | x :: as, i, h, k, v, hk => by
    have hc := mj_cat (B := B) (h x List.mem_cons_self)
    show _ ∈ (i, mj_v B x) :: lv_args (if (mj_v B x).category = 2 then i + 2 else i + 1) (as.map (mj_v B))
    rw [if_neg (by omega)]
    cases k with
    | zero =>
      simp at hk
      subst hk
      exact List.mem_cons_self
    | succ k =>
      have ih := mj_args (B := B) (as := as) (i + 1) (fun v hv => h v (List.mem_cons_of_mem _ hv)) k v (by simpa using hk)
      rw [show i + (k + 1) = i + 1 + k by omega]
      exact List.mem_cons_of_mem _ ih
theorem mj_entry_LS {B : Nat} {as : List mj_V} {n : Nat} (h : mj_ct as = as.length) (hn : as.length ≤ n) : mj_LS B ((lg_sl (as.map (mj_v B)) ++ List.replicate (n - (lg_sl (as.map (mj_v B))).length) Slot.unset).toArray) n (mj_entry n as) := by
  have h1 := mj_ct_one h
  have hl := lv_entry (as.map (mj_v B)) (n := n) (by rw [mj_sl h1, List.length_map]; exact hn)
  refine ⟨by simp [mj_entry]; omega, hl.1, hl.2.1, ?_⟩
  rintro ⟨j, w⟩ hq
  obtain ⟨v, e, rfl⟩ := mj_pr_mem.mp hq
  refine hl.2.2 _ ?_
  have hj : j < as.length := by
    rcases Nat.lt_or_ge j as.length with q | q
    · exact q
    · exfalso
      unfold mj_entry at e
      rw [List.getElem?_append_right (by simpa using q)] at e
      rw [List.getElem?_replicate] at e
      split at e <;> cases e
  have e2 : as[j]? = some v := by
    unfold mj_entry at e
    rw [List.getElem?_append_left (by simpa using hj), List.getElem?_map] at e
    cases h9 : as[j]? with
    | none => rw [h9] at e; cases e
    | some x => rw [h9] at e; cases e; rfl
  have := mj_args (B := B) (as := as) 0 h1 j v e2
  rwa [Nat.zero_add] at this
section mj_sim6
variable {p : Program} {l : Launch} {e : Env} {R : Room} {s : State} {m : MethodId} {args : Array Value} {below : List Frame} {meth : Method} {c : Code} {Q : State → Prop} {D : va_G} {cA : Nat → ClassId} {B nL mc ms d : Nat} {b : ByteArray} {o rt : Nat}
theorem ms_reti (C : mj_Cx D cA B p R s m args meth c b o rt nL mc ms d) (hr : meth.sig.returnType = if rt = 1 then some .int else if rt = 2 then some .boolean else none) (hlocks : meth.locks = false) {post : Option mj_V → mj_H → Prop} : mr_reti b rt post (mj_X p l e R s m args below meth c (MQ below (mj_Qc D cA B post) args s mc ms (fun q => B ≤ q)) D cA B nL mc ms) := by
  obtain ⟨hx, hb, -⟩ := C
  intro pc lv h uc us x hd e1 hp u1 u2 H locs ls hS hL
  refine W.widen u1 u2 ?_
  rcases e1 with rfl | ⟨rfl, e2⟩
  · exact W.iret hx hb hr (fun t ht hW => ⟨some (.inl x), h, rfl, hp, by rw [ht]; exact hS.1, fun q hq => by rw [ht]; exact hS.2.1 q hq⟩) hS.2.2 hd hlocks
  · exact W.zret hx hb hr e2 (fun t ht hW => ⟨some (.inl x), h, rfl, hp, by rw [ht]; exact hS.1, fun q hq => by rw [ht]; exact hS.2.1 q hq⟩) hS.2.2 hd hlocks
theorem ms_retv (C : mj_Cx D cA B p R s m args meth c b o rt nL mc ms d) (hr : meth.sig.returnType = if rt = 1 then some .int else if rt = 2 then some .boolean else none) (hlocks : meth.locks = false) {post : Option mj_V → mj_H → Prop} : mr_retv b rt post (mj_X p l e R s m args below meth c (MQ below (mj_Qc D cA B post) args s mc ms (fun q => B ≤ q)) D cA B nL mc ms) := by
  obtain ⟨hx, hb, -⟩ := C
  intro pc lv h uc us hd e1 hp u1 u2 H locs ls hS hL
  refine W.widen u1 u2 ?_
  rcases e1 with rfl | rfl
  · exact W.vret hx hb hr (fun t ht hW => ⟨none, h, rfl, hp, by rw [ht]; exact hS.1, fun q hq => by rw [ht]; exact hS.2.1 q hq⟩) hS.2.2 hd hlocks
  · exact W.vret hx hb hr (fun t ht hW => ⟨none, h, rfl, hp, by rw [ht]; exact hS.1, fun q hq => by rw [ht]; exact hS.2.1 q hq⟩) hS.2.2 hd hlocks
theorem mj_simR (C : mj_Cx D cA B p R s m args meth c b o rt nL mc ms d) : ∀ k, mj_rule k b o rt mc ms (mj_X p l e R s m args below meth c Q D cA B nL mc ms)
  | 0 => ms_iconst C
  | 1 => ms_bipush C
  | 2 => ms_sipush C
  | 3 => ms_iadd C
  | 4 => ms_isub C
  | 5 => ms_imul C
  | 6 => ms_iand C
  | 7 => ms_ior C
  | 8 => ms_ixor C
  | 9 => ms_ishl C
  | 10 => ms_ishr C
  | 11 => ms_iushr C
  | 12 => ms_idiv C
  | 13 => ms_irem C
  | 14 => ms_ineg C
  | 15 => ms_dup C
  | 16 => ms_pop C
  | 17 => ms_dup2 C
  | 18 => ms_dup_x1 C
  | 19 => ms_lconst C
  | 20 => ms_lmul C
  | 21 => ms_lcmp C
  | 22 => ms_i2l C
  | 23 => ms_icmp_eq C
  | 24 => ms_icmp_ne C
  | 25 => ms_icmp_lt C
  | 26 => ms_icmp_ge C
  | 27 => ms_icmp_gt C
  | 28 => ms_icmp_le C
  | 29 => ms_if_eq C
  | 30 => ms_if_ne C
  | 31 => ms_if_lt C
  | 32 => ms_if_ge C
  | 33 => ms_if_gt C
  | 34 => ms_if_le C
  | 35 => ms_goto C
  | 36 => ms_iload C
  | 37 => ms_iload_n C
  | 38 => ms_aload C
  | 39 => ms_aload_n C
  | 40 => ms_istore C
  | 41 => ms_istore_n C
  | 42 => ms_astore C
  | 43 => ms_astore_n C
  | 44 => ms_iinc C
  | 45 => ms_lload_n C
  | 46 => ms_lstore_n C
  | 47 => ms_ldc2 C
  | 48 => ms_ldc C
  | 49 => ms_getI C
  | 50 => ms_getR C
  | 51 => ms_putI C
  | 52 => ms_putF C
  | 53 => ms_iald C
  | 54 => ms_zald C
  | 55 => ms_iast C
  | 56 => ms_zast C
  | 57 => ms_aald C
  | 58 => ms_alen C
  | 59 => ms_new C
  | 60 => ms_newi C
  | 61 => ms_newz C
  | 62 => ms_newm C
  | 63 => ms_objI C
  | 64 => ms_max C
  | 65 => ms_min C
  | 66 => ms_copy C
  | _ + 67 => trivial
end mj_sim6
theorem mj_own10 : ∀ y, y < 142 → pg_own y ≠ 10 := by decide +kernel
/-- THE REAL MACHINE DOES WHAT THE SMALL ONE DOES: a run of the small machine is a contract -/
theorem mj_met (l : Launch) (D : va_G) (cA : Nat → ClassId) (B : Nat) : ∀ (d y : Nat) (as : List mj_V) (h : mj_H) (post : Option mj_V → mj_H → Prop), y < 142 → as.length = pg_na y → mj_ct as = pg_na y → mj_lv d y as h post → mj_Met l D cA B d y as h post
  | 0, _, _, _, _, _, _, _, hw => hw.elim
  | d + 1, y, as, h, post, hy, h1, h2, hw => by
    have ih := fun z as h post => mj_met l D cA B d z as h post
    unfold mj_Met
    refine va_MetF (cc := pg_code y) (maxL := pg_maxL y) (ret := pg_ret y) (mj_pok hy).1 rfl ?_
    intro p e s m args below meth c s₁ B9 hml hv
    obtain ⟨hargs, hS0, hK, hE⟩ := hv
    subst hargs
    have hts := atoms_spec (ws := pg_ws y) B9.pre
    have hown : s.vm.findClass (pg_name y).cls = some m.cls := findClass_of_methodNamed B9.named
    rw [(mj_zok hy).2.1] at hown
    have hin : pg_rt y = 9 → meth.name = "<init>" := fun q => ((name_of_methodNamed B9.named B9.method).1).trans ((mj_pok hy).2.2 q)
    have C : mj_Cx D cA B p (headSpec (pg_ws y) (pg_rm (d + 1) y)).room s m (as.map (mj_v B)).toArray meth c (pg_code y) (pg_own y) (pg_rt y) (pg_maxL y) (pg_mc y) (pg_ms y) d := ⟨B9.exec, B9.bytes, hml, hown, fun w h => hts w (List.mem_cons_of_mem _ h), hK, by rw [hS0.1]; exact Nat.le_add_right _ _, ⟨Nat.le_refl _, Nat.le_refl _, Nat.le_refl _, Nat.le_refl _⟩, hE, hin⟩
    have key := hw (mj_X p l e (headSpec (pg_ws y) (pg_rm (d + 1) y)).room s m (as.map (mj_v B)).toArray below meth c (MQ below (mj_Qc D cA B post) (as.map (mj_v B)).toArray s (pg_mc y) (pg_ms y) (fun q => B ≤ q)) D cA B (pg_maxL y) (pg_mc y) (pg_ms y)) ⟨mj_simR C, ⟨ms_callS C ih, ms_callV C ih, ms_callI C (mj_own10 y hy) ih⟩, ms_reti C B9.returns B9.notSynchronized, ms_retv C B9.returns B9.notSynchronized⟩
    have hd9 := mj_dok hy
    have fin := key (Nat.zero_le _) (Nat.zero_le _) s.heap [] _ ⟨hS0, fun _ _ => rfl, fun x hx => by cases hx⟩ (mj_entry_LS (n := pg_maxL y) (h2.trans h1.symm) (by omega))
    rw [lg_entry_eq]
    exact fin
