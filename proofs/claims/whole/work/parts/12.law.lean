theorem lw_lt3 {L i : Nat} (hL : L ≤ 1536) (hi : i ≤ L + 2) (h : ¬ Int32.ofNat L - 3 < nI i) : i + 3 ≤ L := by
  have e : (nI L - nI 3).toInt = (L : Int) - 3 := pk_sub_toInt (by omega) (by omega)
  have e2 : (nI i).toInt = (i : Int) := nI_toInt (by omega)
  rw [Int32.lt_iff_toInt_lt] at h
  rw [show Int32.ofNat L - 3 = nI L - nI 3 from rfl, e, e2] at h
  omega
set_option maxRecDepth 100000 in
theorem lw_case_node {p : Program} {l : Launch} {e : Env} {s : State} {m : MethodId} {below : List Frame} {meth : Method} {c : Code} {Q : State → Prop} {D : va_G} {cA : Nat → ClassId} {b L : Nat} {xs : Nat → Int32} {h : mj_H} {H : Heap} {locs : List Loc} {uc us : Nat} {ls : Array Slot} (hL : L ≤ 1536) (C : lw_Cx D cA p s m meth c b L xs) {Inv : mj_H → Prop} {i : Nat} (hi : i + 3 ≤ L) (hop : lw_op Inv m_Main_node m_Mod_node [.inl (xs (i + 1))]) (hI : Inv h) (hS : mj_S D cA s.heap.size s.heap h H locs) (hl : lv_has ls 4 [(3, .int (nI i)), (0, .ref b), (1, .ref (s.heap.size + 0)), (2, .ref (s.heap.size + 93))]) (hu : uc ≤ 600000 ∧ us ≤ 7302250)
    (kk : ∀ h2, Inv h2 → ∀ (H : Heap) (locs : List Loc), mj_S D cA s.heap.size s.heap h2 H locs → W p l e room_1 s m #[Value.ref b] below meth c H locs uc us Q (F0 m 548 ls [])) : W p l e room_1 s m #[Value.ref b] below meth c H locs uc us Q (F0 m 128 ls []) := by
  have hx := C.1.1
  have hb := C.1.2.1
  obtain ⟨hc0, hcall⟩ := hop h hI
  refine lv_aload_n hx hb dl_128 rfl (lv_at hl 2 rfl) ?_
  refine lv_aload_n hx hb dl_129 rfl (lv_at hl 1 rfl) ?_
  refine lv_iload_n hx hb dl_130 rfl (lv_at hl 0 rfl) ?_
  refine lv_iconst (v := 1) hx hb dl_131 (by decide) ?_
  refine lv_iadd hx hb dl_132 ?_
  refine lw_ld C hS (j := i + 1) (nI_add i 1) (by omega) hL dl_133 ?_
  refine lw_callV (rest := []) C hS hl.1 (a := 0) [.inl (xs (i + 1))] dl_134 rfl rfl ⟨rfl, rfl⟩ (Nat.le_of_ble_eq_true rfl) ⟨rfl, rfl⟩ hc0 hu hcall (fun r h1 H locs hp hS => ?_)
  obtain ⟨y, rfl, hc93, hp⟩ := hp
  refine lv_aload_n hx hb dl_137 rfl (lv_at hl 3 rfl) ?_
  refine lv_aload_n hx hb dl_138 rfl (lv_at hl 1 rfl) ?_
  refine lv_iload_n hx hb dl_139 rfl (lv_at hl 0 rfl) ?_
  refine lv_iconst (v := 1) hx hb dl_140 (by decide) ?_
  refine lv_iadd hx hb dl_141 ?_
  refine lw_ld C hS (j := i + 1) (nI_add i 1) (by omega) hL dl_142 ?_
  refine lw_callV (rest := [.int y]) C hS hl.1 (a := 93) [.inl (xs (i + 1))] dl_143 rfl rfl ⟨rfl, rfl⟩ (Nat.le_of_ble_eq_true rfl) ⟨rfl, rfl⟩ hc93 hu hp (fun r h2 H locs hp hS => ?_)
  obtain ⟨rfl, hp⟩ := hp
  refine lv_icmp_eq (tgt := 548) hx hb dl_146 (by decide) (fun c9 => ?_) (fun c9 => absurd rfl c9)
  exact kk h2 hp H locs hS
set_option maxRecDepth 100000 in
theorem lw_case_width {p : Program} {l : Launch} {e : Env} {s : State} {m : MethodId} {below : List Frame} {meth : Method} {c : Code} {Q : State → Prop} {D : va_G} {cA : Nat → ClassId} {b L : Nat} {xs : Nat → Int32} {h : mj_H} {H : Heap} {locs : List Loc} {uc us : Nat} {ls : Array Slot} (hL : L ≤ 1536) (C : lw_Cx D cA p s m meth c b L xs) {Inv : mj_H → Prop} {i : Nat} (hi : i + 3 ≤ L) (hop : lw_op Inv m_Main_width m_Mod_width [.inl (xs (i + 1)), .inl (xs (i + 2))]) (hI : Inv h) (hS : mj_S D cA s.heap.size s.heap h H locs) (hl : lv_has ls 4 [(3, .int (nI i)), (0, .ref b), (1, .ref (s.heap.size + 0)), (2, .ref (s.heap.size + 93))]) (hu : uc ≤ 600000 ∧ us ≤ 7302250)
    (kk : ∀ h2, Inv h2 → ∀ (H : Heap) (locs : List Loc), mj_S D cA s.heap.size s.heap h2 H locs → W p l e room_1 s m #[Value.ref b] below meth c H locs uc us Q (F0 m 548 ls [])) : W p l e room_1 s m #[Value.ref b] below meth c H locs uc us Q (F0 m 151 ls []) := by
  have hx := C.1.1
  have hb := C.1.2.1
  obtain ⟨hc0, hcall⟩ := hop h hI
  refine lv_aload_n hx hb dl_151 rfl (lv_at hl 2 rfl) ?_
  refine lv_aload_n hx hb dl_152 rfl (lv_at hl 1 rfl) ?_
  refine lv_iload_n hx hb dl_153 rfl (lv_at hl 0 rfl) ?_
  refine lv_iconst (v := 1) hx hb dl_154 (by decide) ?_
  refine lv_iadd hx hb dl_155 ?_
  refine lw_ld C hS (j := i + 1) (nI_add i 1) (by omega) hL dl_156 ?_
  refine lv_aload_n hx hb dl_157 rfl (lv_at hl 1 rfl) ?_
  refine lv_iload_n hx hb dl_158 rfl (lv_at hl 0 rfl) ?_
  refine lv_iconst (v := 2) hx hb dl_159 (by decide) ?_
  refine lv_iadd hx hb dl_160 ?_
  refine lw_ld C hS (j := i + 2) (nI_add i 2) (by omega) hL dl_161 ?_
  refine lw_callV (rest := []) C hS hl.1 (a := 0) [.inl (xs (i + 1)), .inl (xs (i + 2))] dl_162 rfl rfl ⟨rfl, rfl⟩ (Nat.le_of_ble_eq_true rfl) ⟨rfl, rfl⟩ hc0 hu hcall (fun r h1 H locs hp hS => ?_)
  obtain ⟨y, rfl, hc93, hp⟩ := hp
  refine lv_aload_n hx hb dl_165 rfl (lv_at hl 3 rfl) ?_
  refine lv_aload_n hx hb dl_166 rfl (lv_at hl 1 rfl) ?_
  refine lv_iload_n hx hb dl_167 rfl (lv_at hl 0 rfl) ?_
  refine lv_iconst (v := 1) hx hb dl_168 (by decide) ?_
  refine lv_iadd hx hb dl_169 ?_
  refine lw_ld C hS (j := i + 1) (nI_add i 1) (by omega) hL dl_170 ?_
  refine lv_aload_n hx hb dl_171 rfl (lv_at hl 1 rfl) ?_
  refine lv_iload_n hx hb dl_172 rfl (lv_at hl 0 rfl) ?_
  refine lv_iconst (v := 2) hx hb dl_173 (by decide) ?_
  refine lv_iadd hx hb dl_174 ?_
  refine lw_ld C hS (j := i + 2) (nI_add i 2) (by omega) hL dl_175 ?_
  refine lw_callV (rest := [.int y]) C hS hl.1 (a := 93) [.inl (xs (i + 1)), .inl (xs (i + 2))] dl_176 rfl rfl ⟨rfl, rfl⟩ (Nat.le_of_ble_eq_true rfl) ⟨rfl, rfl⟩ hc93 hu hp (fun r h2 H locs hp hS => ?_)
  obtain ⟨rfl, hp⟩ := hp
  refine lv_icmp_eq (tgt := 548) hx hb dl_179 (by decide) (fun c9 => ?_) (fun c9 => absurd rfl c9)
  exact kk h2 hp H locs hS
set_option maxRecDepth 100000 in
theorem lw_case_arc {p : Program} {l : Launch} {e : Env} {s : State} {m : MethodId} {below : List Frame} {meth : Method} {c : Code} {Q : State → Prop} {D : va_G} {cA : Nat → ClassId} {b L : Nat} {xs : Nat → Int32} {h : mj_H} {H : Heap} {locs : List Loc} {uc us : Nat} {ls : Array Slot} (hL : L ≤ 1536) (C : lw_Cx D cA p s m meth c b L xs) {Inv : mj_H → Prop} {i : Nat} (hi : i + 3 ≤ L) (hop : lw_op Inv m_Main_arc m_Mod_arc [.inl (xs (i + 1)), .inl (xs (i + 2))]) (hI : Inv h) (hS : mj_S D cA s.heap.size s.heap h H locs) (hl : lv_has ls 4 [(3, .int (nI i)), (0, .ref b), (1, .ref (s.heap.size + 0)), (2, .ref (s.heap.size + 93))]) (hu : uc ≤ 600000 ∧ us ≤ 7302250)
    (kk : ∀ h2, Inv h2 → ∀ (H : Heap) (locs : List Loc), mj_S D cA s.heap.size s.heap h2 H locs → W p l e room_1 s m #[Value.ref b] below meth c H locs uc us Q (F0 m 548 ls [])) : W p l e room_1 s m #[Value.ref b] below meth c H locs uc us Q (F0 m 184 ls []) := by
  have hx := C.1.1
  have hb := C.1.2.1
  obtain ⟨hc0, hcall⟩ := hop h hI
  refine lv_aload_n hx hb dl_184 rfl (lv_at hl 2 rfl) ?_
  refine lv_aload_n hx hb dl_185 rfl (lv_at hl 1 rfl) ?_
  refine lv_iload_n hx hb dl_186 rfl (lv_at hl 0 rfl) ?_
  refine lv_iconst (v := 1) hx hb dl_187 (by decide) ?_
  refine lv_iadd hx hb dl_188 ?_
  refine lw_ld C hS (j := i + 1) (nI_add i 1) (by omega) hL dl_189 ?_
  refine lv_aload_n hx hb dl_190 rfl (lv_at hl 1 rfl) ?_
  refine lv_iload_n hx hb dl_191 rfl (lv_at hl 0 rfl) ?_
  refine lv_iconst (v := 2) hx hb dl_192 (by decide) ?_
  refine lv_iadd hx hb dl_193 ?_
  refine lw_ld C hS (j := i + 2) (nI_add i 2) (by omega) hL dl_194 ?_
  refine lw_callV (rest := []) C hS hl.1 (a := 0) [.inl (xs (i + 1)), .inl (xs (i + 2))] dl_195 rfl rfl ⟨rfl, rfl⟩ (Nat.le_of_ble_eq_true rfl) ⟨rfl, rfl⟩ hc0 hu hcall (fun r h1 H locs hp hS => ?_)
  obtain ⟨y, rfl, hc93, hp⟩ := hp
  refine lv_aload_n hx hb dl_198 rfl (lv_at hl 3 rfl) ?_
  refine lv_aload_n hx hb dl_199 rfl (lv_at hl 1 rfl) ?_
  refine lv_iload_n hx hb dl_200 rfl (lv_at hl 0 rfl) ?_
  refine lv_iconst (v := 1) hx hb dl_201 (by decide) ?_
  refine lv_iadd hx hb dl_202 ?_
  refine lw_ld C hS (j := i + 1) (nI_add i 1) (by omega) hL dl_203 ?_
  refine lv_aload_n hx hb dl_204 rfl (lv_at hl 1 rfl) ?_
  refine lv_iload_n hx hb dl_205 rfl (lv_at hl 0 rfl) ?_
  refine lv_iconst (v := 2) hx hb dl_206 (by decide) ?_
  refine lv_iadd hx hb dl_207 ?_
  refine lw_ld C hS (j := i + 2) (nI_add i 2) (by omega) hL dl_208 ?_
  refine lw_callV (rest := [.int y]) C hS hl.1 (a := 93) [.inl (xs (i + 1)), .inl (xs (i + 2))] dl_209 rfl rfl ⟨rfl, rfl⟩ (Nat.le_of_ble_eq_true rfl) ⟨rfl, rfl⟩ hc93 hu hp (fun r h2 H locs hp hS => ?_)
  obtain ⟨rfl, hp⟩ := hp
  refine lv_icmp_eq (tgt := 548) hx hb dl_212 (by decide) (fun c9 => ?_) (fun c9 => absurd rfl c9)
  exact kk h2 hp H locs hS
set_option maxRecDepth 100000 in
theorem lw_case_drop {p : Program} {l : Launch} {e : Env} {s : State} {m : MethodId} {below : List Frame} {meth : Method} {c : Code} {Q : State → Prop} {D : va_G} {cA : Nat → ClassId} {b L : Nat} {xs : Nat → Int32} {h : mj_H} {H : Heap} {locs : List Loc} {uc us : Nat} {ls : Array Slot} (hL : L ≤ 1536) (C : lw_Cx D cA p s m meth c b L xs) {Inv : mj_H → Prop} {i : Nat} (hi : i + 3 ≤ L) (hop : lw_op Inv m_Main_drop m_Mod_drop [.inl (xs (i + 1))]) (hI : Inv h) (hS : mj_S D cA s.heap.size s.heap h H locs) (hl : lv_has ls 4 [(3, .int (nI i)), (0, .ref b), (1, .ref (s.heap.size + 0)), (2, .ref (s.heap.size + 93))]) (hu : uc ≤ 600000 ∧ us ≤ 7302250)
    (kk : ∀ h2, Inv h2 → ∀ (H : Heap) (locs : List Loc), mj_S D cA s.heap.size s.heap h2 H locs → W p l e room_1 s m #[Value.ref b] below meth c H locs uc us Q (F0 m 548 ls [])) : W p l e room_1 s m #[Value.ref b] below meth c H locs uc us Q (F0 m 217 ls []) := by
  have hx := C.1.1
  have hb := C.1.2.1
  obtain ⟨hc0, hcall⟩ := hop h hI
  refine lv_aload_n hx hb dl_217 rfl (lv_at hl 2 rfl) ?_
  refine lv_aload_n hx hb dl_218 rfl (lv_at hl 1 rfl) ?_
  refine lv_iload_n hx hb dl_219 rfl (lv_at hl 0 rfl) ?_
  refine lv_iconst (v := 1) hx hb dl_220 (by decide) ?_
  refine lv_iadd hx hb dl_221 ?_
  refine lw_ld C hS (j := i + 1) (nI_add i 1) (by omega) hL dl_222 ?_
  refine lw_callV (rest := []) C hS hl.1 (a := 0) [.inl (xs (i + 1))] dl_223 rfl rfl ⟨rfl, rfl⟩ (Nat.le_of_ble_eq_true rfl) ⟨rfl, rfl⟩ hc0 hu hcall (fun r h1 H locs hp hS => ?_)
  obtain ⟨y, rfl, hc93, hp⟩ := hp
  refine lv_aload_n hx hb dl_226 rfl (lv_at hl 3 rfl) ?_
  refine lv_aload_n hx hb dl_227 rfl (lv_at hl 1 rfl) ?_
  refine lv_iload_n hx hb dl_228 rfl (lv_at hl 0 rfl) ?_
  refine lv_iconst (v := 1) hx hb dl_229 (by decide) ?_
  refine lv_iadd hx hb dl_230 ?_
  refine lw_ld C hS (j := i + 1) (nI_add i 1) (by omega) hL dl_231 ?_
  refine lw_callV (rest := [.int y]) C hS hl.1 (a := 93) [.inl (xs (i + 1))] dl_232 rfl rfl ⟨rfl, rfl⟩ (Nat.le_of_ble_eq_true rfl) ⟨rfl, rfl⟩ hc93 hu hp (fun r h2 H locs hp hS => ?_)
  obtain ⟨rfl, hp⟩ := hp
  refine lv_icmp_eq (tgt := 548) hx hb dl_235 (by decide) (fun c9 => ?_) (fun c9 => absurd rfl c9)
  exact kk h2 hp H locs hS
set_option maxRecDepth 100000 in
theorem lw_case_clear {p : Program} {l : Launch} {e : Env} {s : State} {m : MethodId} {below : List Frame} {meth : Method} {c : Code} {Q : State → Prop} {D : va_G} {cA : Nat → ClassId} {b L : Nat} {xs : Nat → Int32} {h : mj_H} {H : Heap} {locs : List Loc} {uc us : Nat} {ls : Array Slot} (hL : L ≤ 1536) (C : lw_Cx D cA p s m meth c b L xs) {Inv : mj_H → Prop} {i : Nat} (hi : i + 3 ≤ L) (hop : lw_op Inv m_Main_clear m_Mod_clear []) (hI : Inv h) (hS : mj_S D cA s.heap.size s.heap h H locs) (hl : lv_has ls 4 [(3, .int (nI i)), (0, .ref b), (1, .ref (s.heap.size + 0)), (2, .ref (s.heap.size + 93))]) (hu : uc ≤ 600000 ∧ us ≤ 7302250)
    (kk : ∀ h2, Inv h2 → ∀ (H : Heap) (locs : List Loc), mj_S D cA s.heap.size s.heap h2 H locs → W p l e room_1 s m #[Value.ref b] below meth c H locs uc us Q (F0 m 548 ls [])) : W p l e room_1 s m #[Value.ref b] below meth c H locs uc us Q (F0 m 240 ls []) := by
  have hx := C.1.1
  have hb := C.1.2.1
  obtain ⟨hc0, hcall⟩ := hop h hI
  refine lv_aload_n hx hb dl_240 rfl (lv_at hl 2 rfl) ?_
  refine lw_callV (rest := []) C hS hl.1 (a := 0) [] dl_241 rfl rfl ⟨rfl, rfl⟩ (Nat.le_of_ble_eq_true rfl) ⟨rfl, rfl⟩ hc0 hu hcall (fun r h1 H locs hp hS => ?_)
  obtain ⟨y, rfl, hc93, hp⟩ := hp
  refine lv_aload_n hx hb dl_244 rfl (lv_at hl 3 rfl) ?_
  refine lw_callV (rest := [.int y]) C hS hl.1 (a := 93) [] dl_245 rfl rfl ⟨rfl, rfl⟩ (Nat.le_of_ble_eq_true rfl) ⟨rfl, rfl⟩ hc93 hu hp (fun r h2 H locs hp hS => ?_)
  obtain ⟨rfl, hp⟩ := hp
  refine lv_icmp_eq (tgt := 548) hx hb dl_248 (by decide) (fun c9 => ?_) (fun c9 => absurd rfl c9)
  exact kk h2 hp H locs hS
set_option maxRecDepth 100000 in
theorem lw_case_turns {p : Program} {l : Launch} {e : Env} {s : State} {m : MethodId} {below : List Frame} {meth : Method} {c : Code} {Q : State → Prop} {D : va_G} {cA : Nat → ClassId} {b L : Nat} {xs : Nat → Int32} {h : mj_H} {H : Heap} {locs : List Loc} {uc us : Nat} {ls : Array Slot} (hL : L ≤ 1536) (C : lw_Cx D cA p s m meth c b L xs) {Inv : mj_H → Prop} {i : Nat} (hi : i + 3 ≤ L) (hop : lw_op Inv m_Main_turns m_Mod_turns []) (hI : Inv h) (hS : mj_S D cA s.heap.size s.heap h H locs) (hl : lv_has ls 4 [(3, .int (nI i)), (0, .ref b), (1, .ref (s.heap.size + 0)), (2, .ref (s.heap.size + 93))]) (hu : uc ≤ 600000 ∧ us ≤ 7302250)
    (kk : ∀ h2, Inv h2 → ∀ (H : Heap) (locs : List Loc), mj_S D cA s.heap.size s.heap h2 H locs → W p l e room_1 s m #[Value.ref b] below meth c H locs uc us Q (F0 m 548 ls [])) : W p l e room_1 s m #[Value.ref b] below meth c H locs uc us Q (F0 m 253 ls []) := by
  have hx := C.1.1
  have hb := C.1.2.1
  obtain ⟨hc0, hcall⟩ := hop h hI
  refine lv_aload_n hx hb dl_253 rfl (lv_at hl 2 rfl) ?_
  refine lw_callV (rest := []) C hS hl.1 (a := 0) [] dl_254 rfl rfl ⟨rfl, rfl⟩ (Nat.le_of_ble_eq_true rfl) ⟨rfl, rfl⟩ hc0 hu hcall (fun r h1 H locs hp hS => ?_)
  obtain ⟨y, rfl, hc93, hp⟩ := hp
  refine lv_aload_n hx hb dl_257 rfl (lv_at hl 3 rfl) ?_
  refine lw_callV (rest := [.int y]) C hS hl.1 (a := 93) [] dl_258 rfl rfl ⟨rfl, rfl⟩ (Nat.le_of_ble_eq_true rfl) ⟨rfl, rfl⟩ hc93 hu hp (fun r h2 H locs hp hS => ?_)
  obtain ⟨rfl, hp⟩ := hp
  refine lv_icmp_eq (tgt := 548) hx hb dl_261 (by decide) (fun c9 => ?_) (fun c9 => absurd rfl c9)
  exact kk h2 hp H locs hS
set_option maxRecDepth 100000 in
theorem lw_case_turned {p : Program} {l : Launch} {e : Env} {s : State} {m : MethodId} {below : List Frame} {meth : Method} {c : Code} {Q : State → Prop} {D : va_G} {cA : Nat → ClassId} {b L : Nat} {xs : Nat → Int32} {h : mj_H} {H : Heap} {locs : List Loc} {uc us : Nat} {ls : Array Slot} (hL : L ≤ 1536) (C : lw_Cx D cA p s m meth c b L xs) {Inv : mj_H → Prop} {i : Nat} (hi : i + 3 ≤ L) (hop : lw_op Inv m_Main_turned m_Mod_turned [.inl (xs (i + 1))]) (hI : Inv h) (hS : mj_S D cA s.heap.size s.heap h H locs) (hl : lv_has ls 4 [(3, .int (nI i)), (0, .ref b), (1, .ref (s.heap.size + 0)), (2, .ref (s.heap.size + 93))]) (hu : uc ≤ 600000 ∧ us ≤ 7302250)
    (kk : ∀ h2, Inv h2 → ∀ (H : Heap) (locs : List Loc), mj_S D cA s.heap.size s.heap h2 H locs → W p l e room_1 s m #[Value.ref b] below meth c H locs uc us Q (F0 m 548 ls [])) : W p l e room_1 s m #[Value.ref b] below meth c H locs uc us Q (F0 m 266 ls []) := by
  have hx := C.1.1
  have hb := C.1.2.1
  obtain ⟨hc0, hcall⟩ := hop h hI
  refine lv_aload_n hx hb dl_266 rfl (lv_at hl 2 rfl) ?_
  refine lv_aload_n hx hb dl_267 rfl (lv_at hl 1 rfl) ?_
  refine lv_iload_n hx hb dl_268 rfl (lv_at hl 0 rfl) ?_
  refine lv_iconst (v := 1) hx hb dl_269 (by decide) ?_
  refine lv_iadd hx hb dl_270 ?_
  refine lw_ld C hS (j := i + 1) (nI_add i 1) (by omega) hL dl_271 ?_
  refine lw_callV (rest := []) C hS hl.1 (a := 0) [.inl (xs (i + 1))] dl_272 rfl rfl ⟨rfl, rfl⟩ (Nat.le_of_ble_eq_true rfl) ⟨rfl, rfl⟩ hc0 hu hcall (fun r h1 H locs hp hS => ?_)
  obtain ⟨y, rfl, hc93, hp⟩ := hp
  refine lv_aload_n hx hb dl_275 rfl (lv_at hl 3 rfl) ?_
  refine lv_aload_n hx hb dl_276 rfl (lv_at hl 1 rfl) ?_
  refine lv_iload_n hx hb dl_277 rfl (lv_at hl 0 rfl) ?_
  refine lv_iconst (v := 1) hx hb dl_278 (by decide) ?_
  refine lv_iadd hx hb dl_279 ?_
  refine lw_ld C hS (j := i + 1) (nI_add i 1) (by omega) hL dl_280 ?_
  refine lw_callV (rest := [.int y]) C hS hl.1 (a := 93) [.inl (xs (i + 1))] dl_281 rfl rfl ⟨rfl, rfl⟩ (Nat.le_of_ble_eq_true rfl) ⟨rfl, rfl⟩ hc93 hu hp (fun r h2 H locs hp hS => ?_)
  obtain ⟨rfl, hp⟩ := hp
  refine lv_icmp_eq (tgt := 548) hx hb dl_284 (by decide) (fun c9 => ?_) (fun c9 => absurd rfl c9)
  exact kk h2 hp H locs hS
set_option maxRecDepth 100000 in
theorem lw_case_layer {p : Program} {l : Launch} {e : Env} {s : State} {m : MethodId} {below : List Frame} {meth : Method} {c : Code} {Q : State → Prop} {D : va_G} {cA : Nat → ClassId} {b L : Nat} {xs : Nat → Int32} {h : mj_H} {H : Heap} {locs : List Loc} {uc us : Nat} {ls : Array Slot} (hL : L ≤ 1536) (C : lw_Cx D cA p s m meth c b L xs) {Inv : mj_H → Prop} {i : Nat} (hi : i + 3 ≤ L) (hop : lw_op Inv m_Main_layer m_Mod_layer [.inl (xs (i + 1))]) (hI : Inv h) (hS : mj_S D cA s.heap.size s.heap h H locs) (hl : lv_has ls 4 [(3, .int (nI i)), (0, .ref b), (1, .ref (s.heap.size + 0)), (2, .ref (s.heap.size + 93))]) (hu : uc ≤ 600000 ∧ us ≤ 7302250)
    (kk : ∀ h2, Inv h2 → ∀ (H : Heap) (locs : List Loc), mj_S D cA s.heap.size s.heap h2 H locs → W p l e room_1 s m #[Value.ref b] below meth c H locs uc us Q (F0 m 548 ls [])) : W p l e room_1 s m #[Value.ref b] below meth c H locs uc us Q (F0 m 289 ls []) := by
  have hx := C.1.1
  have hb := C.1.2.1
  obtain ⟨hc0, hcall⟩ := hop h hI
  refine lv_aload_n hx hb dl_289 rfl (lv_at hl 2 rfl) ?_
  refine lv_aload_n hx hb dl_290 rfl (lv_at hl 1 rfl) ?_
  refine lv_iload_n hx hb dl_291 rfl (lv_at hl 0 rfl) ?_
  refine lv_iconst (v := 1) hx hb dl_292 (by decide) ?_
  refine lv_iadd hx hb dl_293 ?_
  refine lw_ld C hS (j := i + 1) (nI_add i 1) (by omega) hL dl_294 ?_
  refine lw_callV (rest := []) C hS hl.1 (a := 0) [.inl (xs (i + 1))] dl_295 rfl rfl ⟨rfl, rfl⟩ (Nat.le_of_ble_eq_true rfl) ⟨rfl, rfl⟩ hc0 hu hcall (fun r h1 H locs hp hS => ?_)
  obtain ⟨y, rfl, hc93, hp⟩ := hp
  refine lv_aload_n hx hb dl_298 rfl (lv_at hl 3 rfl) ?_
  refine lv_aload_n hx hb dl_299 rfl (lv_at hl 1 rfl) ?_
  refine lv_iload_n hx hb dl_300 rfl (lv_at hl 0 rfl) ?_
  refine lv_iconst (v := 1) hx hb dl_301 (by decide) ?_
  refine lv_iadd hx hb dl_302 ?_
  refine lw_ld C hS (j := i + 1) (nI_add i 1) (by omega) hL dl_303 ?_
  refine lw_callV (rest := [.int y]) C hS hl.1 (a := 93) [.inl (xs (i + 1))] dl_304 rfl rfl ⟨rfl, rfl⟩ (Nat.le_of_ble_eq_true rfl) ⟨rfl, rfl⟩ hc93 hu hp (fun r h2 H locs hp hS => ?_)
  obtain ⟨rfl, hp⟩ := hp
  refine lv_icmp_eq (tgt := 548) hx hb dl_307 (by decide) (fun c9 => ?_) (fun c9 => absurd rfl c9)
  exact kk h2 hp H locs hS
set_option maxRecDepth 100000 in
theorem lw_case_layers {p : Program} {l : Launch} {e : Env} {s : State} {m : MethodId} {below : List Frame} {meth : Method} {c : Code} {Q : State → Prop} {D : va_G} {cA : Nat → ClassId} {b L : Nat} {xs : Nat → Int32} {h : mj_H} {H : Heap} {locs : List Loc} {uc us : Nat} {ls : Array Slot} (hL : L ≤ 1536) (C : lw_Cx D cA p s m meth c b L xs) {Inv : mj_H → Prop} {i : Nat} (hi : i + 3 ≤ L) (hop : lw_op Inv m_Main_layers m_Mod_layers []) (hI : Inv h) (hS : mj_S D cA s.heap.size s.heap h H locs) (hl : lv_has ls 4 [(3, .int (nI i)), (0, .ref b), (1, .ref (s.heap.size + 0)), (2, .ref (s.heap.size + 93))]) (hu : uc ≤ 600000 ∧ us ≤ 7302250)
    (kk : ∀ h2, Inv h2 → ∀ (H : Heap) (locs : List Loc), mj_S D cA s.heap.size s.heap h2 H locs → W p l e room_1 s m #[Value.ref b] below meth c H locs uc us Q (F0 m 548 ls [])) : W p l e room_1 s m #[Value.ref b] below meth c H locs uc us Q (F0 m 312 ls []) := by
  have hx := C.1.1
  have hb := C.1.2.1
  obtain ⟨hc0, hcall⟩ := hop h hI
  refine lv_aload_n hx hb dl_312 rfl (lv_at hl 2 rfl) ?_
  refine lw_callV (rest := []) C hS hl.1 (a := 0) [] dl_313 rfl rfl ⟨rfl, rfl⟩ (Nat.le_of_ble_eq_true rfl) ⟨rfl, rfl⟩ hc0 hu hcall (fun r h1 H locs hp hS => ?_)
  obtain ⟨y, rfl, hc93, hp⟩ := hp
  refine lv_aload_n hx hb dl_316 rfl (lv_at hl 3 rfl) ?_
  refine lw_callV (rest := [.int y]) C hS hl.1 (a := 93) [] dl_317 rfl rfl ⟨rfl, rfl⟩ (Nat.le_of_ble_eq_true rfl) ⟨rfl, rfl⟩ hc93 hu hp (fun r h2 H locs hp hS => ?_)
  obtain ⟨rfl, hp⟩ := hp
  refine lv_icmp_eq (tgt := 548) hx hb dl_320 (by decide) (fun c9 => ?_) (fun c9 => absurd rfl c9)
  exact kk h2 hp H locs hS
set_option maxRecDepth 100000 in
theorem lw_case_length {p : Program} {l : Launch} {e : Env} {s : State} {m : MethodId} {below : List Frame} {meth : Method} {c : Code} {Q : State → Prop} {D : va_G} {cA : Nat → ClassId} {b L : Nat} {xs : Nat → Int32} {h : mj_H} {H : Heap} {locs : List Loc} {uc us : Nat} {ls : Array Slot} (hL : L ≤ 1536) (C : lw_Cx D cA p s m meth c b L xs) {Inv : mj_H → Prop} {i : Nat} (hi : i + 3 ≤ L) (hop : lw_op Inv m_Main_length m_Mod_length []) (hI : Inv h) (hS : mj_S D cA s.heap.size s.heap h H locs) (hl : lv_has ls 4 [(3, .int (nI i)), (0, .ref b), (1, .ref (s.heap.size + 0)), (2, .ref (s.heap.size + 93))]) (hu : uc ≤ 600000 ∧ us ≤ 7302250)
    (kk : ∀ h2, Inv h2 → ∀ (H : Heap) (locs : List Loc), mj_S D cA s.heap.size s.heap h2 H locs → W p l e room_1 s m #[Value.ref b] below meth c H locs uc us Q (F0 m 548 ls [])) : W p l e room_1 s m #[Value.ref b] below meth c H locs uc us Q (F0 m 325 ls []) := by
  have hx := C.1.1
  have hb := C.1.2.1
  obtain ⟨hc0, hcall⟩ := hop h hI
  refine lv_aload_n hx hb dl_325 rfl (lv_at hl 2 rfl) ?_
  refine lw_callV (rest := []) C hS hl.1 (a := 0) [] dl_326 rfl rfl ⟨rfl, rfl⟩ (Nat.le_of_ble_eq_true rfl) ⟨rfl, rfl⟩ hc0 hu hcall (fun r h1 H locs hp hS => ?_)
  obtain ⟨y, rfl, hc93, hp⟩ := hp
  refine lv_aload_n hx hb dl_329 rfl (lv_at hl 3 rfl) ?_
  refine lw_callV (rest := [.int y]) C hS hl.1 (a := 93) [] dl_330 rfl rfl ⟨rfl, rfl⟩ (Nat.le_of_ble_eq_true rfl) ⟨rfl, rfl⟩ hc93 hu hp (fun r h2 H locs hp hS => ?_)
  obtain ⟨rfl, hp⟩ := hp
  refine lv_icmp_eq (tgt := 548) hx hb dl_333 (by decide) (fun c9 => ?_) (fun c9 => absurd rfl c9)
  exact kk h2 hp H locs hS
set_option maxRecDepth 100000 in
theorem lw_case_bends {p : Program} {l : Launch} {e : Env} {s : State} {m : MethodId} {below : List Frame} {meth : Method} {c : Code} {Q : State → Prop} {D : va_G} {cA : Nat → ClassId} {b L : Nat} {xs : Nat → Int32} {h : mj_H} {H : Heap} {locs : List Loc} {uc us : Nat} {ls : Array Slot} (hL : L ≤ 1536) (C : lw_Cx D cA p s m meth c b L xs) {Inv : mj_H → Prop} {i : Nat} (hi : i + 3 ≤ L) (hop : lw_op Inv m_Main_bends m_Mod_bends []) (hI : Inv h) (hS : mj_S D cA s.heap.size s.heap h H locs) (hl : lv_has ls 4 [(3, .int (nI i)), (0, .ref b), (1, .ref (s.heap.size + 0)), (2, .ref (s.heap.size + 93))]) (hu : uc ≤ 600000 ∧ us ≤ 7302250)
    (kk : ∀ h2, Inv h2 → ∀ (H : Heap) (locs : List Loc), mj_S D cA s.heap.size s.heap h2 H locs → W p l e room_1 s m #[Value.ref b] below meth c H locs uc us Q (F0 m 548 ls [])) : W p l e room_1 s m #[Value.ref b] below meth c H locs uc us Q (F0 m 338 ls []) := by
  have hx := C.1.1
  have hb := C.1.2.1
  obtain ⟨hc0, hcall⟩ := hop h hI
  refine lv_aload_n hx hb dl_338 rfl (lv_at hl 2 rfl) ?_
  refine lw_callV (rest := []) C hS hl.1 (a := 0) [] dl_339 rfl rfl ⟨rfl, rfl⟩ (Nat.le_of_ble_eq_true rfl) ⟨rfl, rfl⟩ hc0 hu hcall (fun r h1 H locs hp hS => ?_)
  obtain ⟨y, rfl, hc93, hp⟩ := hp
  refine lv_aload_n hx hb dl_342 rfl (lv_at hl 3 rfl) ?_
  refine lw_callV (rest := [.int y]) C hS hl.1 (a := 93) [] dl_343 rfl rfl ⟨rfl, rfl⟩ (Nat.le_of_ble_eq_true rfl) ⟨rfl, rfl⟩ hc93 hu hp (fun r h2 H locs hp hS => ?_)
  obtain ⟨rfl, hp⟩ := hp
  refine lv_icmp_eq (tgt := 548) hx hb dl_346 (by decide) (fun c9 => ?_) (fun c9 => absurd rfl c9)
  exact kk h2 hp H locs hS
set_option maxRecDepth 100000 in
theorem lw_case_run {p : Program} {l : Launch} {e : Env} {s : State} {m : MethodId} {below : List Frame} {meth : Method} {c : Code} {Q : State → Prop} {D : va_G} {cA : Nat → ClassId} {b L : Nat} {xs : Nat → Int32} {h : mj_H} {H : Heap} {locs : List Loc} {uc us : Nat} {ls : Array Slot} (hL : L ≤ 1536) (C : lw_Cx D cA p s m meth c b L xs) {Inv : mj_H → Prop} {i : Nat} (hi : i + 3 ≤ L) (hop : lw_op Inv m_Main_run m_Mod_run [.inl (xs (i + 1))]) (hI : Inv h) (hS : mj_S D cA s.heap.size s.heap h H locs) (hl : lv_has ls 4 [(3, .int (nI i)), (0, .ref b), (1, .ref (s.heap.size + 0)), (2, .ref (s.heap.size + 93))]) (hu : uc ≤ 600000 ∧ us ≤ 7302250)
    (kk : ∀ h2, Inv h2 → ∀ (H : Heap) (locs : List Loc), mj_S D cA s.heap.size s.heap h2 H locs → W p l e room_1 s m #[Value.ref b] below meth c H locs uc us Q (F0 m 548 ls [])) : W p l e room_1 s m #[Value.ref b] below meth c H locs uc us Q (F0 m 351 ls []) := by
  have hx := C.1.1
  have hb := C.1.2.1
  obtain ⟨hc0, hcall⟩ := hop h hI
  refine lv_aload_n hx hb dl_351 rfl (lv_at hl 2 rfl) ?_
  refine lv_aload_n hx hb dl_352 rfl (lv_at hl 1 rfl) ?_
  refine lv_iload_n hx hb dl_353 rfl (lv_at hl 0 rfl) ?_
  refine lv_iconst (v := 1) hx hb dl_354 (by decide) ?_
  refine lv_iadd hx hb dl_355 ?_
  refine lw_ld C hS (j := i + 1) (nI_add i 1) (by omega) hL dl_356 ?_
  refine lw_callV (rest := []) C hS hl.1 (a := 0) [.inl (xs (i + 1))] dl_357 rfl rfl ⟨rfl, rfl⟩ (Nat.le_of_ble_eq_true rfl) ⟨rfl, rfl⟩ hc0 hu hcall (fun r h1 H locs hp hS => ?_)
  obtain ⟨y, rfl, hc93, hp⟩ := hp
  refine lv_aload_n hx hb dl_360 rfl (lv_at hl 3 rfl) ?_
  refine lv_aload_n hx hb dl_361 rfl (lv_at hl 1 rfl) ?_
  refine lv_iload_n hx hb dl_362 rfl (lv_at hl 0 rfl) ?_
  refine lv_iconst (v := 1) hx hb dl_363 (by decide) ?_
  refine lv_iadd hx hb dl_364 ?_
  refine lw_ld C hS (j := i + 1) (nI_add i 1) (by omega) hL dl_365 ?_
  refine lw_callV (rest := [.int y]) C hS hl.1 (a := 93) [.inl (xs (i + 1))] dl_366 rfl rfl ⟨rfl, rfl⟩ (Nat.le_of_ble_eq_true rfl) ⟨rfl, rfl⟩ hc93 hu hp (fun r h2 H locs hp hS => ?_)
  obtain ⟨rfl, hp⟩ := hp
  refine lv_icmp_eq (tgt := 548) hx hb dl_369 (by decide) (fun c9 => ?_) (fun c9 => absurd rfl c9)
  exact kk h2 hp H locs hS
set_option maxRecDepth 100000 in
theorem lw_case_round {p : Program} {l : Launch} {e : Env} {s : State} {m : MethodId} {below : List Frame} {meth : Method} {c : Code} {Q : State → Prop} {D : va_G} {cA : Nat → ClassId} {b L : Nat} {xs : Nat → Int32} {h : mj_H} {H : Heap} {locs : List Loc} {uc us : Nat} {ls : Array Slot} (hL : L ≤ 1536) (C : lw_Cx D cA p s m meth c b L xs) {Inv : mj_H → Prop} {i : Nat} (hi : i + 3 ≤ L) (hop : lw_op Inv m_Main_round m_Mod_round []) (hI : Inv h) (hS : mj_S D cA s.heap.size s.heap h H locs) (hl : lv_has ls 4 [(3, .int (nI i)), (0, .ref b), (1, .ref (s.heap.size + 0)), (2, .ref (s.heap.size + 93))]) (hu : uc ≤ 600000 ∧ us ≤ 7302250)
    (kk : ∀ h2, Inv h2 → ∀ (H : Heap) (locs : List Loc), mj_S D cA s.heap.size s.heap h2 H locs → W p l e room_1 s m #[Value.ref b] below meth c H locs uc us Q (F0 m 548 ls [])) : W p l e room_1 s m #[Value.ref b] below meth c H locs uc us Q (F0 m 374 ls []) := by
  have hx := C.1.1
  have hb := C.1.2.1
  obtain ⟨hc0, hcall⟩ := hop h hI
  refine lv_aload_n hx hb dl_374 rfl (lv_at hl 2 rfl) ?_
  refine lw_callV (rest := []) C hS hl.1 (a := 0) [] dl_375 rfl rfl ⟨rfl, rfl⟩ (Nat.le_of_ble_eq_true rfl) ⟨rfl, rfl⟩ hc0 hu hcall (fun r h1 H locs hp hS => ?_)
  obtain ⟨y, rfl, hc93, hp⟩ := hp
  refine lv_aload_n hx hb dl_378 rfl (lv_at hl 3 rfl) ?_
  refine lw_callV (rest := [.int y]) C hS hl.1 (a := 93) [] dl_379 rfl rfl ⟨rfl, rfl⟩ (Nat.le_of_ble_eq_true rfl) ⟨rfl, rfl⟩ hc93 hu hp (fun r h2 H locs hp hS => ?_)
  obtain ⟨rfl, hp⟩ := hp
  refine lv_icmp_eq (tgt := 548) hx hb dl_382 (by decide) (fun c9 => ?_) (fun c9 => absurd rfl c9)
  exact kk h2 hp H locs hS
set_option maxRecDepth 100000 in
theorem lw_case_count {p : Program} {l : Launch} {e : Env} {s : State} {m : MethodId} {below : List Frame} {meth : Method} {c : Code} {Q : State → Prop} {D : va_G} {cA : Nat → ClassId} {b L : Nat} {xs : Nat → Int32} {h : mj_H} {H : Heap} {locs : List Loc} {uc us : Nat} {ls : Array Slot} (hL : L ≤ 1536) (C : lw_Cx D cA p s m meth c b L xs) {Inv : mj_H → Prop} {i : Nat} (hi : i + 3 ≤ L) (hop : lw_op Inv m_Main_count m_Mod_count [.inl (xs (i + 1))]) (hI : Inv h) (hS : mj_S D cA s.heap.size s.heap h H locs) (hl : lv_has ls 4 [(3, .int (nI i)), (0, .ref b), (1, .ref (s.heap.size + 0)), (2, .ref (s.heap.size + 93))]) (hu : uc ≤ 600000 ∧ us ≤ 7302250)
    (kk : ∀ h2, Inv h2 → ∀ (H : Heap) (locs : List Loc), mj_S D cA s.heap.size s.heap h2 H locs → W p l e room_1 s m #[Value.ref b] below meth c H locs uc us Q (F0 m 548 ls [])) : W p l e room_1 s m #[Value.ref b] below meth c H locs uc us Q (F0 m 387 ls []) := by
  have hx := C.1.1
  have hb := C.1.2.1
  obtain ⟨hc0, hcall⟩ := hop h hI
  refine lv_aload_n hx hb dl_387 rfl (lv_at hl 2 rfl) ?_
  refine lv_aload_n hx hb dl_388 rfl (lv_at hl 1 rfl) ?_
  refine lv_iload_n hx hb dl_389 rfl (lv_at hl 0 rfl) ?_
  refine lv_iconst (v := 1) hx hb dl_390 (by decide) ?_
  refine lv_iadd hx hb dl_391 ?_
  refine lw_ld C hS (j := i + 1) (nI_add i 1) (by omega) hL dl_392 ?_
  refine lw_callV (rest := []) C hS hl.1 (a := 0) [.inl (xs (i + 1))] dl_393 rfl rfl ⟨rfl, rfl⟩ (Nat.le_of_ble_eq_true rfl) ⟨rfl, rfl⟩ hc0 hu hcall (fun r h1 H locs hp hS => ?_)
  obtain ⟨y, rfl, hc93, hp⟩ := hp
  refine lv_aload_n hx hb dl_396 rfl (lv_at hl 3 rfl) ?_
  refine lv_aload_n hx hb dl_397 rfl (lv_at hl 1 rfl) ?_
  refine lv_iload_n hx hb dl_398 rfl (lv_at hl 0 rfl) ?_
  refine lv_iconst (v := 1) hx hb dl_399 (by decide) ?_
  refine lv_iadd hx hb dl_400 ?_
  refine lw_ld C hS (j := i + 1) (nI_add i 1) (by omega) hL dl_401 ?_
  refine lw_callV (rest := [.int y]) C hS hl.1 (a := 93) [.inl (xs (i + 1))] dl_402 rfl rfl ⟨rfl, rfl⟩ (Nat.le_of_ble_eq_true rfl) ⟨rfl, rfl⟩ hc93 hu hp (fun r h2 H locs hp hS => ?_)
  obtain ⟨rfl, hp⟩ := hp
  refine lv_icmp_eq (tgt := 548) hx hb dl_405 (by decide) (fun c9 => ?_) (fun c9 => absurd rfl c9)
  exact kk h2 hp H locs hS
set_option maxRecDepth 100000 in
theorem lw_case_item {p : Program} {l : Launch} {e : Env} {s : State} {m : MethodId} {below : List Frame} {meth : Method} {c : Code} {Q : State → Prop} {D : va_G} {cA : Nat → ClassId} {b L : Nat} {xs : Nat → Int32} {h : mj_H} {H : Heap} {locs : List Loc} {uc us : Nat} {ls : Array Slot} (hL : L ≤ 1536) (C : lw_Cx D cA p s m meth c b L xs) {Inv : mj_H → Prop} {i : Nat} (hi : i + 3 ≤ L) (hop : lw_op Inv m_Main_item m_Mod_item [.inl (xs (i + 1)), .inl (xs (i + 2))]) (hI : Inv h) (hS : mj_S D cA s.heap.size s.heap h H locs) (hl : lv_has ls 4 [(3, .int (nI i)), (0, .ref b), (1, .ref (s.heap.size + 0)), (2, .ref (s.heap.size + 93))]) (hu : uc ≤ 600000 ∧ us ≤ 7302250)
    (kk : ∀ h2, Inv h2 → ∀ (H : Heap) (locs : List Loc), mj_S D cA s.heap.size s.heap h2 H locs → W p l e room_1 s m #[Value.ref b] below meth c H locs uc us Q (F0 m 548 ls [])) : W p l e room_1 s m #[Value.ref b] below meth c H locs uc us Q (F0 m 410 ls []) := by
  have hx := C.1.1
  have hb := C.1.2.1
  obtain ⟨hc0, hcall⟩ := hop h hI
  refine lv_aload_n hx hb dl_410 rfl (lv_at hl 2 rfl) ?_
  refine lv_aload_n hx hb dl_411 rfl (lv_at hl 1 rfl) ?_
  refine lv_iload_n hx hb dl_412 rfl (lv_at hl 0 rfl) ?_
  refine lv_iconst (v := 1) hx hb dl_413 (by decide) ?_
  refine lv_iadd hx hb dl_414 ?_
  refine lw_ld C hS (j := i + 1) (nI_add i 1) (by omega) hL dl_415 ?_
  refine lv_aload_n hx hb dl_416 rfl (lv_at hl 1 rfl) ?_
  refine lv_iload_n hx hb dl_417 rfl (lv_at hl 0 rfl) ?_
  refine lv_iconst (v := 2) hx hb dl_418 (by decide) ?_
  refine lv_iadd hx hb dl_419 ?_
  refine lw_ld C hS (j := i + 2) (nI_add i 2) (by omega) hL dl_420 ?_
  refine lw_callV (rest := []) C hS hl.1 (a := 0) [.inl (xs (i + 1)), .inl (xs (i + 2))] dl_421 rfl rfl ⟨rfl, rfl⟩ (Nat.le_of_ble_eq_true rfl) ⟨rfl, rfl⟩ hc0 hu hcall (fun r h1 H locs hp hS => ?_)
  obtain ⟨y, rfl, hc93, hp⟩ := hp
  refine lv_aload_n hx hb dl_424 rfl (lv_at hl 3 rfl) ?_
  refine lv_aload_n hx hb dl_425 rfl (lv_at hl 1 rfl) ?_
  refine lv_iload_n hx hb dl_426 rfl (lv_at hl 0 rfl) ?_
  refine lv_iconst (v := 1) hx hb dl_427 (by decide) ?_
  refine lv_iadd hx hb dl_428 ?_
  refine lw_ld C hS (j := i + 1) (nI_add i 1) (by omega) hL dl_429 ?_
  refine lv_aload_n hx hb dl_430 rfl (lv_at hl 1 rfl) ?_
  refine lv_iload_n hx hb dl_431 rfl (lv_at hl 0 rfl) ?_
  refine lv_iconst (v := 2) hx hb dl_432 (by decide) ?_
  refine lv_iadd hx hb dl_433 ?_
  refine lw_ld C hS (j := i + 2) (nI_add i 2) (by omega) hL dl_434 ?_
  refine lw_callV (rest := [.int y]) C hS hl.1 (a := 93) [.inl (xs (i + 1)), .inl (xs (i + 2))] dl_435 rfl rfl ⟨rfl, rfl⟩ (Nat.le_of_ble_eq_true rfl) ⟨rfl, rfl⟩ hc93 hu hp (fun r h2 H locs hp hS => ?_)
  obtain ⟨rfl, hp⟩ := hp
  refine lv_icmp_eq (tgt := 548) hx hb dl_438 (by decide) (fun c9 => ?_) (fun c9 => absurd rfl c9)
  exact kk h2 hp H locs hS
set_option maxRecDepth 100000 in
theorem lw_case_fewest {p : Program} {l : Launch} {e : Env} {s : State} {m : MethodId} {below : List Frame} {meth : Method} {c : Code} {Q : State → Prop} {D : va_G} {cA : Nat → ClassId} {b L : Nat} {xs : Nat → Int32} {h : mj_H} {H : Heap} {locs : List Loc} {uc us : Nat} {ls : Array Slot} (hL : L ≤ 1536) (C : lw_Cx D cA p s m meth c b L xs) {Inv : mj_H → Prop} {i : Nat} (hi : i + 3 ≤ L) (hop : lw_op Inv m_Main_fewest m_Mod_fewest []) (hI : Inv h) (hS : mj_S D cA s.heap.size s.heap h H locs) (hl : lv_has ls 4 [(3, .int (nI i)), (0, .ref b), (1, .ref (s.heap.size + 0)), (2, .ref (s.heap.size + 93))]) (hu : uc ≤ 600000 ∧ us ≤ 7302250)
    (kk : ∀ h2, Inv h2 → ∀ (H : Heap) (locs : List Loc), mj_S D cA s.heap.size s.heap h2 H locs → W p l e room_1 s m #[Value.ref b] below meth c H locs uc us Q (F0 m 548 ls [])) : W p l e room_1 s m #[Value.ref b] below meth c H locs uc us Q (F0 m 443 ls []) := by
  have hx := C.1.1
  have hb := C.1.2.1
  obtain ⟨hc0, hcall⟩ := hop h hI
  refine lv_aload_n hx hb dl_443 rfl (lv_at hl 2 rfl) ?_
  refine lw_callV (rest := []) C hS hl.1 (a := 0) [] dl_444 rfl rfl ⟨rfl, rfl⟩ (Nat.le_of_ble_eq_true rfl) ⟨rfl, rfl⟩ hc0 hu hcall (fun r h1 H locs hp hS => ?_)
  obtain ⟨y, rfl, hc93, hp⟩ := hp
  refine lv_aload_n hx hb dl_447 rfl (lv_at hl 3 rfl) ?_
  refine lw_callV (rest := [.int y]) C hS hl.1 (a := 93) [] dl_448 rfl rfl ⟨rfl, rfl⟩ (Nat.le_of_ble_eq_true rfl) ⟨rfl, rfl⟩ hc93 hu hp (fun r h2 H locs hp hS => ?_)
  obtain ⟨rfl, hp⟩ := hp
  refine lv_icmp_eq (tgt := 548) hx hb dl_451 (by decide) (fun c9 => ?_) (fun c9 => absurd rfl c9)
  exact kk h2 hp H locs hS
set_option maxRecDepth 100000 in
theorem lw_case_place {p : Program} {l : Launch} {e : Env} {s : State} {m : MethodId} {below : List Frame} {meth : Method} {c : Code} {Q : State → Prop} {D : va_G} {cA : Nat → ClassId} {b L : Nat} {xs : Nat → Int32} {h : mj_H} {H : Heap} {locs : List Loc} {uc us : Nat} {ls : Array Slot} (hL : L ≤ 1536) (C : lw_Cx D cA p s m meth c b L xs) {Inv : mj_H → Prop} {i : Nat} (hi : i + 3 ≤ L) (hop : lw_op Inv m_Main_place m_Mod_place [.inl (xs (i + 1))]) (hI : Inv h) (hS : mj_S D cA s.heap.size s.heap h H locs) (hl : lv_has ls 4 [(3, .int (nI i)), (0, .ref b), (1, .ref (s.heap.size + 0)), (2, .ref (s.heap.size + 93))]) (hu : uc ≤ 600000 ∧ us ≤ 7302250)
    (kk : ∀ h2, Inv h2 → ∀ (H : Heap) (locs : List Loc), mj_S D cA s.heap.size s.heap h2 H locs → W p l e room_1 s m #[Value.ref b] below meth c H locs uc us Q (F0 m 548 ls [])) : W p l e room_1 s m #[Value.ref b] below meth c H locs uc us Q (F0 m 456 ls []) := by
  have hx := C.1.1
  have hb := C.1.2.1
  obtain ⟨hc0, hcall⟩ := hop h hI
  refine lv_aload_n hx hb dl_456 rfl (lv_at hl 2 rfl) ?_
  refine lv_aload_n hx hb dl_457 rfl (lv_at hl 1 rfl) ?_
  refine lv_iload_n hx hb dl_458 rfl (lv_at hl 0 rfl) ?_
  refine lv_iconst (v := 1) hx hb dl_459 (by decide) ?_
  refine lv_iadd hx hb dl_460 ?_
  refine lw_ld C hS (j := i + 1) (nI_add i 1) (by omega) hL dl_461 ?_
  refine lw_callV (rest := []) C hS hl.1 (a := 0) [.inl (xs (i + 1))] dl_462 rfl rfl ⟨rfl, rfl⟩ (Nat.le_of_ble_eq_true rfl) ⟨rfl, rfl⟩ hc0 hu hcall (fun r h1 H locs hp hS => ?_)
  obtain ⟨y, rfl, hc93, hp⟩ := hp
  refine lv_aload_n hx hb dl_465 rfl (lv_at hl 3 rfl) ?_
  refine lv_aload_n hx hb dl_466 rfl (lv_at hl 1 rfl) ?_
  refine lv_iload_n hx hb dl_467 rfl (lv_at hl 0 rfl) ?_
  refine lv_iconst (v := 1) hx hb dl_468 (by decide) ?_
  refine lv_iadd hx hb dl_469 ?_
  refine lw_ld C hS (j := i + 1) (nI_add i 1) (by omega) hL dl_470 ?_
  refine lw_callV (rest := [.int y]) C hS hl.1 (a := 93) [.inl (xs (i + 1))] dl_471 rfl rfl ⟨rfl, rfl⟩ (Nat.le_of_ble_eq_true rfl) ⟨rfl, rfl⟩ hc93 hu hp (fun r h2 H locs hp hS => ?_)
  obtain ⟨rfl, hp⟩ := hp
  refine lv_icmp_eq (tgt := 548) hx hb dl_474 (by decide) (fun c9 => ?_) (fun c9 => absurd rfl c9)
  exact kk h2 hp H locs hS
set_option maxRecDepth 100000 in
theorem lw_case_route {p : Program} {l : Launch} {e : Env} {s : State} {m : MethodId} {below : List Frame} {meth : Method} {c : Code} {Q : State → Prop} {D : va_G} {cA : Nat → ClassId} {b L : Nat} {xs : Nat → Int32} {h : mj_H} {H : Heap} {locs : List Loc} {uc us : Nat} {ls : Array Slot} (hL : L ≤ 1536) (C : lw_Cx D cA p s m meth c b L xs) {Inv : mj_H → Prop} {i : Nat} (hi : i + 3 ≤ L) (hop : lw_op Inv m_Main_route m_Mod_route [.inl (xs (i + 1)), .inl (xs (i + 2))]) (hI : Inv h) (hS : mj_S D cA s.heap.size s.heap h H locs) (hl : lv_has ls 4 [(3, .int (nI i)), (0, .ref b), (1, .ref (s.heap.size + 0)), (2, .ref (s.heap.size + 93))]) (hu : uc ≤ 600000 ∧ us ≤ 7302250)
    (kk : ∀ h2, Inv h2 → ∀ (H : Heap) (locs : List Loc), mj_S D cA s.heap.size s.heap h2 H locs → W p l e room_1 s m #[Value.ref b] below meth c H locs uc us Q (F0 m 548 ls [])) : W p l e room_1 s m #[Value.ref b] below meth c H locs uc us Q (F0 m 479 ls []) := by
  have hx := C.1.1
  have hb := C.1.2.1
  obtain ⟨hc0, hcall⟩ := hop h hI
  refine lv_aload_n hx hb dl_479 rfl (lv_at hl 2 rfl) ?_
  refine lv_aload_n hx hb dl_480 rfl (lv_at hl 1 rfl) ?_
  refine lv_iload_n hx hb dl_481 rfl (lv_at hl 0 rfl) ?_
  refine lv_iconst (v := 1) hx hb dl_482 (by decide) ?_
  refine lv_iadd hx hb dl_483 ?_
  refine lw_ld C hS (j := i + 1) (nI_add i 1) (by omega) hL dl_484 ?_
  refine lv_aload_n hx hb dl_485 rfl (lv_at hl 1 rfl) ?_
  refine lv_iload_n hx hb dl_486 rfl (lv_at hl 0 rfl) ?_
  refine lv_iconst (v := 2) hx hb dl_487 (by decide) ?_
  refine lv_iadd hx hb dl_488 ?_
  refine lw_ld C hS (j := i + 2) (nI_add i 2) (by omega) hL dl_489 ?_
  refine lw_callV (rest := []) C hS hl.1 (a := 0) [.inl (xs (i + 1)), .inl (xs (i + 2))] dl_490 rfl rfl ⟨rfl, rfl⟩ (Nat.le_of_ble_eq_true rfl) ⟨rfl, rfl⟩ hc0 hu hcall (fun r h1 H locs hp hS => ?_)
  obtain ⟨y, rfl, hc93, hp⟩ := hp
  refine lv_aload_n hx hb dl_493 rfl (lv_at hl 3 rfl) ?_
  refine lv_aload_n hx hb dl_494 rfl (lv_at hl 1 rfl) ?_
  refine lv_iload_n hx hb dl_495 rfl (lv_at hl 0 rfl) ?_
  refine lv_iconst (v := 1) hx hb dl_496 (by decide) ?_
  refine lv_iadd hx hb dl_497 ?_
  refine lw_ld C hS (j := i + 1) (nI_add i 1) (by omega) hL dl_498 ?_
  refine lv_aload_n hx hb dl_499 rfl (lv_at hl 1 rfl) ?_
  refine lv_iload_n hx hb dl_500 rfl (lv_at hl 0 rfl) ?_
  refine lv_iconst (v := 2) hx hb dl_501 (by decide) ?_
  refine lv_iadd hx hb dl_502 ?_
  refine lw_ld C hS (j := i + 2) (nI_add i 2) (by omega) hL dl_503 ?_
  refine lw_callV (rest := [.int y]) C hS hl.1 (a := 93) [.inl (xs (i + 1)), .inl (xs (i + 2))] dl_504 rfl rfl ⟨rfl, rfl⟩ (Nat.le_of_ble_eq_true rfl) ⟨rfl, rfl⟩ hc93 hu hp (fun r h2 H locs hp hS => ?_)
  obtain ⟨rfl, hp⟩ := hp
  refine lv_icmp_eq (tgt := 548) hx hb dl_507 (by decide) (fun c9 => ?_) (fun c9 => absurd rfl c9)
  exact kk h2 hp H locs hS
set_option maxRecDepth 100000 in
theorem lw_case_wide {p : Program} {l : Launch} {e : Env} {s : State} {m : MethodId} {below : List Frame} {meth : Method} {c : Code} {Q : State → Prop} {D : va_G} {cA : Nat → ClassId} {b L : Nat} {xs : Nat → Int32} {h : mj_H} {H : Heap} {locs : List Loc} {uc us : Nat} {ls : Array Slot} (hL : L ≤ 1536) (C : lw_Cx D cA p s m meth c b L xs) {Inv : mj_H → Prop} {i : Nat} (hi : i + 3 ≤ L) (hop : lw_op Inv m_Main_wide m_Mod_wide []) (hI : Inv h) (hS : mj_S D cA s.heap.size s.heap h H locs) (hl : lv_has ls 4 [(3, .int (nI i)), (0, .ref b), (1, .ref (s.heap.size + 0)), (2, .ref (s.heap.size + 93))]) (hu : uc ≤ 600000 ∧ us ≤ 7302250)
    (kk : ∀ h2, Inv h2 → ∀ (H : Heap) (locs : List Loc), mj_S D cA s.heap.size s.heap h2 H locs → W p l e room_1 s m #[Value.ref b] below meth c H locs uc us Q (F0 m 548 ls [])) : W p l e room_1 s m #[Value.ref b] below meth c H locs uc us Q (F0 m 512 ls []) := by
  have hx := C.1.1
  have hb := C.1.2.1
  obtain ⟨hc0, hcall⟩ := hop h hI
  refine lv_aload_n hx hb dl_512 rfl (lv_at hl 2 rfl) ?_
  refine lw_callV (rest := []) C hS hl.1 (a := 0) [] dl_513 rfl rfl ⟨rfl, rfl⟩ (Nat.le_of_ble_eq_true rfl) ⟨rfl, rfl⟩ hc0 hu hcall (fun r h1 H locs hp hS => ?_)
  obtain ⟨y, rfl, hc93, hp⟩ := hp
  refine lv_aload_n hx hb dl_516 rfl (lv_at hl 3 rfl) ?_
  refine lw_callV (rest := [.int y]) C hS hl.1 (a := 93) [] dl_517 rfl rfl ⟨rfl, rfl⟩ (Nat.le_of_ble_eq_true rfl) ⟨rfl, rfl⟩ hc93 hu hp (fun r h2 H locs hp hS => ?_)
  obtain ⟨rfl, hp⟩ := hp
  refine lv_icmp_eq (tgt := 548) hx hb dl_520 (by decide) (fun c9 => ?_) (fun c9 => absurd rfl c9)
  exact kk h2 hp H locs hS
set_option maxRecDepth 100000 in
theorem lw_case_tidy {p : Program} {l : Launch} {e : Env} {s : State} {m : MethodId} {below : List Frame} {meth : Method} {c : Code} {Q : State → Prop} {D : va_G} {cA : Nat → ClassId} {b L : Nat} {xs : Nat → Int32} {h : mj_H} {H : Heap} {locs : List Loc} {uc us : Nat} {ls : Array Slot} (hL : L ≤ 1536) (C : lw_Cx D cA p s m meth c b L xs) {Inv : mj_H → Prop} {i : Nat} (hi : i + 3 ≤ L) (hop : lw_op Inv m_Main_tidy m_Mod_tidy [.inl (xs (i + 1))]) (hI : Inv h) (hS : mj_S D cA s.heap.size s.heap h H locs) (hl : lv_has ls 4 [(3, .int (nI i)), (0, .ref b), (1, .ref (s.heap.size + 0)), (2, .ref (s.heap.size + 93))]) (hu : uc ≤ 600000 ∧ us ≤ 7302250)
    (kk : ∀ h2, Inv h2 → ∀ (H : Heap) (locs : List Loc), mj_S D cA s.heap.size s.heap h2 H locs → W p l e room_1 s m #[Value.ref b] below meth c H locs uc us Q (F0 m 548 ls [])) : W p l e room_1 s m #[Value.ref b] below meth c H locs uc us Q (F0 m 525 ls []) := by
  have hx := C.1.1
  have hb := C.1.2.1
  obtain ⟨hc0, hcall⟩ := hop h hI
  refine lv_aload_n hx hb dl_525 rfl (lv_at hl 2 rfl) ?_
  refine lv_aload_n hx hb dl_526 rfl (lv_at hl 1 rfl) ?_
  refine lv_iload_n hx hb dl_527 rfl (lv_at hl 0 rfl) ?_
  refine lv_iconst (v := 1) hx hb dl_528 (by decide) ?_
  refine lv_iadd hx hb dl_529 ?_
  refine lw_ld C hS (j := i + 1) (nI_add i 1) (by omega) hL dl_530 ?_
  refine lw_callV (rest := []) C hS hl.1 (a := 0) [.inl (xs (i + 1))] dl_531 rfl rfl ⟨rfl, rfl⟩ (Nat.le_of_ble_eq_true rfl) ⟨rfl, rfl⟩ hc0 hu hcall (fun r h1 H locs hp hS => ?_)
  obtain ⟨y, rfl, hc93, hp⟩ := hp
  refine lv_aload_n hx hb dl_534 rfl (lv_at hl 3 rfl) ?_
  refine lv_aload_n hx hb dl_535 rfl (lv_at hl 1 rfl) ?_
  refine lv_iload_n hx hb dl_536 rfl (lv_at hl 0 rfl) ?_
  refine lv_iconst (v := 1) hx hb dl_537 (by decide) ?_
  refine lv_iadd hx hb dl_538 ?_
  refine lw_ld C hS (j := i + 1) (nI_add i 1) (by omega) hL dl_539 ?_
  refine lw_callV (rest := [.int y]) C hS hl.1 (a := 93) [.inl (xs (i + 1))] dl_540 rfl rfl ⟨rfl, rfl⟩ (Nat.le_of_ble_eq_true rfl) ⟨rfl, rfl⟩ hc93 hu hp (fun r h2 H locs hp hS => ?_)
  obtain ⟨rfl, hp⟩ := hp
  refine lv_icmp_eq (tgt := 548) hx hb dl_543 (by decide) (fun c9 => ?_) (fun c9 => absurd rfl c9)
  exact kk h2 hp H locs hS
