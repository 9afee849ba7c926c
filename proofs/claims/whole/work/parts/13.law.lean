set_option maxRecDepth 100000 in
set_option maxHeartbeats 4000000 in
theorem lw_loop {p : Program} {l : Launch} {e : Env} {s : State} {m : MethodId} {below : List Frame} {meth : Method} {c : Code} {D : va_G} {cA : Nat → ClassId} {b L : Nat} {xs : Nat → Int32} {uc us : Nat} (hL : L ≤ 1536) (C : lw_Cx D cA p s m meth c b L xs) {Inv : mj_H → Prop} (hA : lw_all Inv) (hu : uc ≤ 600000 ∧ us ≤ 7302250) : ∀ (n i : Nat), i ≤ L + 2 → L + 3 - i < n → ∀ h, Inv h → ∀ (H : Heap) (locs : List Loc), mj_S D cA s.heap.size s.heap h H locs → ∀ ls : Array Slot, lv_has ls 4 [(3, .int (nI i)), (0, .ref b), (1, .ref (s.heap.size + 0)), (2, .ref (s.heap.size + 93))] → W p l e room_1 s m #[Value.ref b] below meth c H locs uc us (lw_Z below #[Value.ref b] s) (F0 m 18 ls [])
  | 0, i, _, hn, _, _, _, _, _, _, _ => absurd hn (by omega)
  | n + 1, i, hi, hn, h, hI, H, locs, hS, ls, hl => by
    have hx := C.1.1
    have hb := C.1.2.1
    refine lv_iload_n hx hb dl_18 rfl (lv_at hl 0 rfl) ?_
    refine lv_aload_n hx hb dl_19 rfl (lv_at hl 1 rfl) ?_
    refine lw_len C hS dl_20 ?_
    refine lv_iconst (v := 3) hx hb dl_21 (by decide) ?_
    refine lv_isub hx hb dl_22 ?_
    refine lv_icmp_gt (tgt := 554) hx hb dl_23 (by decide) (fun c1 => ?_) (fun c1 => ?_)
    · refine lv_iconst (v := 1) hx hb dl_554 (by decide) ?_
      refine va_forget (fun q hq => hS.2.2 q hq) ?_
      refine W.widen hu.1 hu.2 ?_
      exact lw_ret hx hb C.1.2.2.1 C.1.2.2.2.2.2.2.2.2.1 dl_555
    · have hi3 : i + 3 ≤ L := lw_lt3 hL hi c1
      have kk : ∀ h2, Inv h2 → ∀ (H : Heap) (locs : List Loc), mj_S D cA s.heap.size s.heap h2 H locs → W p l e room_1 s m #[Value.ref b] below meth c H locs uc us (lw_Z below #[Value.ref b] s) (F0 m 548 ls []) := by
        intro h2 hI2 H locs hS
        refine lv_iinc (v := nI (i + 3)) (lv' := [(3, .int (nI (i + 3))), (0, .ref b), (1, .ref (s.heap.size + 0)), (2, .ref (s.heap.size + 93))]) hx hb dl_548 hl (k := 0) rfl (nI_add i 3) (by decide) rfl (fun ls hl => ?_)
        refine lv_goto (tgt := 18) hx hb dl_551 (by decide) ?_
        exact lw_loop hL C hA hu n (i + 3) (by omega) (by omega) h2 hI2 H locs hS ls hl
      refine lv_aload_n hx hb dl_26 rfl (lv_at hl 1 rfl) ?_
      refine lv_iload_n hx hb dl_27 rfl (lv_at hl 0 rfl) ?_
      refine lw_ld C hS (j := i) rfl (by omega) hL dl_28 ?_
      refine lv_bipush (v := 31) hx hb dl_29 (by decide) ?_
      refine lv_iand hx hb dl_31 ?_
      obtain ⟨j, hj, ej⟩ := pk_andE (xs i) (m := 31) 5 (by decide)
      rw [ej]
      have ht : (nI j).toInt = (j : Int) := nI_toInt (by omega)
      by_cases h0 : j = 0
      · subst h0
        refine lv_tableIn (off := 96) (tgt := 128) hx hb dl_32 (by rw [ht]; decide) (by rw [ht]; decide) (by rw [ht]; rfl) (by decide) ?_
        exact lw_case_node hL C hi3 (hA.2.1 (xs (i + 1))) hI hS hl hu kk
      by_cases h1 : j = 1
      · subst h1
        refine lv_tableIn (off := 119) (tgt := 151) hx hb dl_32 (by rw [ht]; decide) (by rw [ht]; decide) (by rw [ht]; rfl) (by decide) ?_
        exact lw_case_width hL C hi3 (hA.2.2.1 (xs (i + 1)) (xs (i + 2))) hI hS hl hu kk
      by_cases h2 : j = 2
      · subst h2
        refine lv_tableIn (off := 152) (tgt := 184) hx hb dl_32 (by rw [ht]; decide) (by rw [ht]; decide) (by rw [ht]; rfl) (by decide) ?_
        exact lw_case_arc hL C hi3 (hA.2.2.2.1 (xs (i + 1)) (xs (i + 2))) hI hS hl hu kk
      by_cases h3 : j = 3
      · subst h3
        refine lv_tableIn (off := 185) (tgt := 217) hx hb dl_32 (by rw [ht]; decide) (by rw [ht]; decide) (by rw [ht]; rfl) (by decide) ?_
        exact lw_case_drop hL C hi3 (hA.2.2.2.2.1 (xs (i + 1))) hI hS hl hu kk
      by_cases h4 : j = 4
      · subst h4
        refine lv_tableIn (off := 208) (tgt := 240) hx hb dl_32 (by rw [ht]; decide) (by rw [ht]; decide) (by rw [ht]; rfl) (by decide) ?_
        exact lw_case_clear hL C hi3 (hA.2.2.2.2.2.1 ()) hI hS hl hu kk
      by_cases h5 : j = 5
      · subst h5
        refine lv_tableIn (off := 221) (tgt := 253) hx hb dl_32 (by rw [ht]; decide) (by rw [ht]; decide) (by rw [ht]; rfl) (by decide) ?_
        exact lw_case_turns hL C hi3 (hA.2.2.2.2.2.2.1 ()) hI hS hl hu kk
      by_cases h6 : j = 6
      · subst h6
        refine lv_tableIn (off := 234) (tgt := 266) hx hb dl_32 (by rw [ht]; decide) (by rw [ht]; decide) (by rw [ht]; rfl) (by decide) ?_
        exact lw_case_turned hL C hi3 (hA.2.2.2.2.2.2.2.1 (xs (i + 1))) hI hS hl hu kk
      by_cases h7 : j = 7
      · subst h7
        refine lv_tableIn (off := 257) (tgt := 289) hx hb dl_32 (by rw [ht]; decide) (by rw [ht]; decide) (by rw [ht]; rfl) (by decide) ?_
        exact lw_case_layer hL C hi3 (hA.2.2.2.2.2.2.2.2.1 (xs (i + 1))) hI hS hl hu kk
      by_cases h8 : j = 8
      · subst h8
        refine lv_tableIn (off := 280) (tgt := 312) hx hb dl_32 (by rw [ht]; decide) (by rw [ht]; decide) (by rw [ht]; rfl) (by decide) ?_
        exact lw_case_layers hL C hi3 (hA.2.2.2.2.2.2.2.2.2.1 ()) hI hS hl hu kk
      by_cases h9 : j = 9
      · subst h9
        refine lv_tableIn (off := 293) (tgt := 325) hx hb dl_32 (by rw [ht]; decide) (by rw [ht]; decide) (by rw [ht]; rfl) (by decide) ?_
        exact lw_case_length hL C hi3 (hA.2.2.2.2.2.2.2.2.2.2.1 ()) hI hS hl hu kk
      by_cases h10 : j = 10
      · subst h10
        refine lv_tableIn (off := 306) (tgt := 338) hx hb dl_32 (by rw [ht]; decide) (by rw [ht]; decide) (by rw [ht]; rfl) (by decide) ?_
        exact lw_case_bends hL C hi3 (hA.2.2.2.2.2.2.2.2.2.2.2.1 ()) hI hS hl hu kk
      by_cases h11 : j = 11
      · subst h11
        refine lv_tableIn (off := 319) (tgt := 351) hx hb dl_32 (by rw [ht]; decide) (by rw [ht]; decide) (by rw [ht]; rfl) (by decide) ?_
        exact lw_case_run hL C hi3 (hA.2.2.2.2.2.2.2.2.2.2.2.2.1 (xs (i + 1))) hI hS hl hu kk
      by_cases h12 : j = 12
      · subst h12
        refine lv_tableIn (off := 342) (tgt := 374) hx hb dl_32 (by rw [ht]; decide) (by rw [ht]; decide) (by rw [ht]; rfl) (by decide) ?_
        exact lw_case_round hL C hi3 (hA.2.2.2.2.2.2.2.2.2.2.2.2.2.1 ()) hI hS hl hu kk
      by_cases h13 : j = 13
      · subst h13
        refine lv_tableIn (off := 355) (tgt := 387) hx hb dl_32 (by rw [ht]; decide) (by rw [ht]; decide) (by rw [ht]; rfl) (by decide) ?_
        exact lw_case_count hL C hi3 (hA.2.2.2.2.2.2.2.2.2.2.2.2.2.2.1 (xs (i + 1))) hI hS hl hu kk
      by_cases h14 : j = 14
      · subst h14
        refine lv_tableIn (off := 378) (tgt := 410) hx hb dl_32 (by rw [ht]; decide) (by rw [ht]; decide) (by rw [ht]; rfl) (by decide) ?_
        exact lw_case_item hL C hi3 (hA.2.2.2.2.2.2.2.2.2.2.2.2.2.2.2.1 (xs (i + 1)) (xs (i + 2))) hI hS hl hu kk
      by_cases h15 : j = 15
      · subst h15
        refine lv_tableIn (off := 411) (tgt := 443) hx hb dl_32 (by rw [ht]; decide) (by rw [ht]; decide) (by rw [ht]; rfl) (by decide) ?_
        exact lw_case_fewest hL C hi3 (hA.2.2.2.2.2.2.2.2.2.2.2.2.2.2.2.2.1 ()) hI hS hl hu kk
      by_cases h16 : j = 16
      · subst h16
        refine lv_tableIn (off := 424) (tgt := 456) hx hb dl_32 (by rw [ht]; decide) (by rw [ht]; decide) (by rw [ht]; rfl) (by decide) ?_
        exact lw_case_place hL C hi3 (hA.2.2.2.2.2.2.2.2.2.2.2.2.2.2.2.2.2.1 (xs (i + 1))) hI hS hl hu kk
      by_cases h17 : j = 17
      · subst h17
        refine lv_tableIn (off := 447) (tgt := 479) hx hb dl_32 (by rw [ht]; decide) (by rw [ht]; decide) (by rw [ht]; rfl) (by decide) ?_
        exact lw_case_route hL C hi3 (hA.2.2.2.2.2.2.2.2.2.2.2.2.2.2.2.2.2.2.1 (xs (i + 1)) (xs (i + 2))) hI hS hl hu kk
      by_cases h18 : j = 18
      · subst h18
        refine lv_tableIn (off := 480) (tgt := 512) hx hb dl_32 (by rw [ht]; decide) (by rw [ht]; decide) (by rw [ht]; rfl) (by decide) ?_
        exact lw_case_wide hL C hi3 (hA.2.2.2.2.2.2.2.2.2.2.2.2.2.2.2.2.2.2.2.1 ()) hI hS hl hu kk
      by_cases h19 : j = 19
      · subst h19
        refine lv_tableIn (off := 493) (tgt := 525) hx hb dl_32 (by rw [ht]; decide) (by rw [ht]; decide) (by rw [ht]; rfl) (by decide) ?_
        exact lw_case_tidy hL C hi3 (hA.2.2.2.2.2.2.2.2.2.2.2.2.2.2.2.2.2.2.2.2 (xs (i + 1))) hI hS hl hu kk
      refine lv_tableOut (tgt := 548) hx hb dl_32 (Or.inr (by rw [ht]; omega)) (by decide) ?_
      exact kk h hI H locs hS
set_option maxRecDepth 100000 in
set_option maxHeartbeats 4000000 in
theorem lw_open {Inv : mj_H → Prop} (hA : lw_all Inv) {p : Program} {e : Env} {s : State} {m : MethodId} {below : List Frame} {meth : Method} {c : Code} (l : Launch) {b L : Nat} {xs : Nat → Int32} (hL : L ≤ 1536) (C0 : lw_At p s m meth c b L xs) : W p l e room_1 s m #[Value.ref b] below meth c s.heap [] 0 0 (lw_Z below #[Value.ref b] s) (entryFrame m ([Value.ref b] : List Value).toArray 4) := by
  obtain ⟨hx, hb, hr, hml, hown, hts, hX, hbl, hlocks, hgv⟩ := id C0
  have hkn : ∀ ci, ci < 10 → ∃ (cC : ClassId) (iS : Nat → Nat), u_Kn s (pg_C ci) (pg_T ci) (pg_nf ci) cC iS := fun ci h => by
    obtain ⟨g1, g2, g3, g4, g5⟩ := mj_clok ci h
    exact u_known (ws := lw_tbl) hts (fun w hw => (List.mem_filter.mp (g2 w hw)).1) (hts _ (List.mem_filter.mp g3.1).1)
  have hkn2 : ∀ ci, ∃ (q : ClassId × (Nat → Nat)), ci < 10 → u_Kn s (pg_C ci) (pg_T ci) (pg_nf ci) q.1 q.2 := fun ci => by
    by_cases h : ci < 10
    · obtain ⟨cC, iS, hq⟩ := hkn ci h
      exact ⟨(cC, iS), fun _ => hq⟩
    · exact ⟨(0, fun _ => 0), fun g => absurd g h⟩
  obtain ⟨D, hD⟩ : ∃ D : va_G, ∀ ci, ci < 10 → u_Kn s (pg_C ci) (pg_T ci) (pg_nf ci) (D.1 ci) (D.2 ci) := ⟨(fun ci => (Classical.choose (hkn2 ci)).1, fun ci => (Classical.choose (hkn2 ci)).2), fun ci h => Classical.choose_spec (hkn2 ci) h⟩
  obtain ⟨c1, k1, p1, a1, a2, a3⟩ := Cond.arrayClass_spec (hts _ (pg_is_mem pg_w7))
  obtain ⟨c2, k2, p2, b1, b2, b3⟩ := Cond.arrayClass_spec (hts _ (pg_is_mem pg_w8))
  have hov := hts _ (pg_is_mem pg_w9)
  obtain ⟨comp, c3, k3, d1, d2, d3, d4, d5⟩ := arrayOverA_spec hov
  obtain ⟨cA, q1, q2, q3⟩ : ∃ cA : Nat → ClassId, cA 1 = c1 ∧ cA 2 = c2 ∧ cA 3 = c3 := ⟨fun k => if k = 1 then c1 else if k = 2 then c2 else c3, rfl, rfl, rfl⟩
  subst q1
  subst q2
  subst q3
  have hK : va_K D pg_cl (mj_ty cA) s := by
    refine ⟨fun ci q hq => ?_, fun k q hq => ?_⟩
    · have hci : ci < 10 := (List.getElem?_eq_some_iff.mp hq).1
      have e9 := (mj_clok ci hci).1.symm.trans hq
      cases e9
      exact hD ci hci
    · have hk : k < 3 := (List.getElem?_eq_some_iff.mp hq).1
      rcases (show k = 0 ∨ k = 1 ∨ k = 2 by omega) with rfl | rfl | rfl
      · cases hq
        exact ⟨fun N z => ⟨fun k h => (by cases h), k1, a2, p1, a3⟩, a1⟩
      · cases hq
        exact ⟨fun N z => ⟨fun k h => (by cases h), k2, b2, p2, b3⟩, b1⟩
      · cases hq
        exact ⟨fun N z => ⟨fun k h => (by cases h), k3, d3, comp, d4⟩, d5⟩
  have hE : mj_Ex s := ⟨fun own i y host hm => va_Nw.of rfl (hts _ hm), hov⟩
  have C : lw_Cx D cA p s m meth c b L xs := ⟨C0, hK, hE⟩
  have hS : mj_S D cA s.heap.size s.heap lw_h0 s.heap [] := ⟨⟨rfl, fun a ha => absurd ha (Nat.not_lt_zero a)⟩, fun _ _ => rfl, fun x hx => by cases hx⟩
  have hl := lv_entry ([.ref b]) (n := 4) (Nat.le_of_ble_eq_true rfl)
  rw [lg_entry_eq]
  generalize (lg_sl ([.ref b]) ++ List.replicate (4 - (lg_sl ([.ref b])).length) Slot.unset).toArray = ls at hl ⊢
  have hl : lv_has ls 4 [(0, .ref b)] := hl
  refine lw_new C hS dl_0 rfl ⟨by decide, by decide⟩ (fun H hS => ?_)
  refine lv_dup hx hb dl_3 rfl ?_
  refine lw_callI C hS hl.1 (z := m_Main_init) (a := 0) dl_4 (by decide) (pg_is_mem (p := 78) (by decide +kernel)) rfl (Nat.le_of_ble_eq_true rfl) ⟨by decide, by decide⟩ hA.1 (fun r h1 H locs hp hS => ?_)
  obtain ⟨rfl, hn1, hp⟩ := hp
  refine lv_astore_n (lv' := [(1, .ref (s.heap.size + 0)), (0, .ref b)]) hx hb dl_7 rfl hl (by decide) rfl (fun ls hl => ?_)
  refine lw_new C hS dl_8 rfl ⟨by decide, by decide⟩ (fun H hS => ?_)
  rw [hn1]
  refine lv_dup hx hb dl_11 rfl ?_
  refine lw_callI C hS hl.1 (z := m_Mod_init) (a := 93) dl_12 (by decide) (pg_is_mem (p := 761) (by decide +kernel)) rfl (Nat.le_of_ble_eq_true rfl) ⟨by decide, by decide⟩ hp (fun r h2 H locs hp hS => ?_)
  obtain ⟨rfl, hp⟩ := hp
  refine lv_astore_n (lv' := [(2, .ref (s.heap.size + 93)), (1, .ref (s.heap.size + 0)), (0, .ref b)]) hx hb dl_15 rfl hl (by decide) rfl (fun ls hl => ?_)
  refine lv_iconst (v := 0) hx hb dl_16 (by decide) ?_
  refine lv_istore_n (lv' := [(3, .int 0), (2, .ref (s.heap.size + 93)), (1, .ref (s.heap.size + 0)), (0, .ref b)]) hx hb dl_17 rfl hl (by decide) rfl (fun ls hl => ?_)
  exact lw_loop hL C hA ⟨by decide, by decide⟩ (L + 4) 0 (by omega) (by omega) h2 hp H locs hS ls (lv_sub hl [0, 3, 2, 1] rfl)
