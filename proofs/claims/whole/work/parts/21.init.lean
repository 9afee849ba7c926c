def ly_k : List (Nat × Nat) := [(0, 8), (0, 0), (1, 12), (1, 24), (1, 24), (2, 24), (0, 7), (1, 4096), (1, 144), (1, 12), (0, 1), (1, 24), (1, 24), (1, 24), (1, 12), (1, 12), (0, 4), (1, 24), (1, 72), (1, 12), (3, 12), (1, 24), (1, 24), (1, 24), (1, 24), (1, 24), (1, 24), (1, 24), (1, 24), (1, 24), (1, 24), (1, 24), (1, 24), (3, 12), (1, 24), (1, 24), (1, 24), (1, 24), (1, 24), (1, 24), (1, 24), (1, 24), (1, 24), (1, 24), (1, 24), (1, 24), (0, 2), (1, 12), (3, 12), (1, 36), (1, 36), (1, 36), (1, 36), (1, 36), (1, 36), (1, 36), (1, 36), (1, 36), (1, 36), (1, 36), (1, 36), (3, 12), (1, 36), (1, 36), (1, 36), (1, 36), (1, 36), (1, 36), (1, 36), (1, 36), (1, 36), (1, 36), (1, 36), (1, 36), (1, 72), (1, 72), (1, 72), (0, 3), (1, 720), (1, 720), (1, 6), (1, 6), (1, 6), (1, 36), (0, 5), (1, 72), (1, 72), (1, 72), (0, 6), (1, 12), (1, 12), (1, 12), (1, 12), (0, 9), (1, 12), (1, 24), (1, 24), (2, 24), (2, 24), (1, 12), (1, 24), (1, 24), (1, 24), (1, 4096), (1, 144), (1, 49152), (1, 80), (2, 80), (1, 24), (1, 100), (1, 100), (1, 960), (1, 12), (1, 80), (1, 960), (1, 80), (1, 80), (1, 80), (1, 12), (1, 12), (1, 12), (1, 12), (1, 12)]
def ly_kd (c : Nat) : Nat × Nat := ly_k.getD c (0, 0)
def ly_r : List (List (Option Nat)) := [[some 1, some 6, some 10, some 16, some 46, some 77, some 84, some 88], [some 2, some 3, some 4, some 5], [], [], [], [], [some 7, some 8, some 9], [], [], [], [some 11, some 12, some 13, some 14, some 15], [], [], [], [], [], [some 17, some 18, some 19, some 20, some 33], [], [], [], [some 21, some 22, some 23, some 24, some 25, some 26, some 27, some 28, some 29, some 30, some 31, some 32], [], [], [], [], [], [], [], [], [], [], [], [], [some 34, some 35, some 36, some 37, some 38, some 39, some 40, some 41, some 42, some 43, some 44, some 45], [], [], [], [], [], [], [], [], [], [], [], [], [some 47, some 48, some 61, some 74, some 75, some 76], [], [some 49, some 50, some 51, some 52, some 53, some 54, some 55, some 56, some 57, some 58, some 59, some 60], [], [], [], [], [], [], [], [], [], [], [], [], [some 62, some 63, some 64, some 65, some 66, some 67, some 68, some 69, some 70, some 71, some 72, some 73], [], [], [], [], [], [], [], [], [], [], [], [], [], [], [], [some 78, some 79, some 80, some 81, some 82, some 83], [], [], [], [], [], [], [some 85, some 86, some 87], [], [], [], [some 89, some 90, some 91, some 92], [], [], [], [], [none, none, none, some 94, some 95, some 96, some 97, none, none, some 98, some 99, some 100, some 101, some 102, some 103, some 104, some 105, some 106, some 107, some 108, some 109, some 110, none, some 111, some 112, some 113, some 114, none, none, some 115, some 116, some 117, some 118, some 119, some 120, some 121, some 122], [], [], [], [], [], [], [], [], [], [], [], [], [], [], [], [], [], [], [], [], [], [], [], [], [], [], [], [], []]
def ly_rf (c k : Nat) : Option Nat := (ly_r.getD c []).getD k none
/-- the ints of objects at the start -/
def ly_i (c k : Nat) : Int32 := if c = 93 ∧ k = 7 then 1 else if c = 16 ∧ k = 5 then 12 else 0
set_option maxRecDepth 100000 in
set_option maxHeartbeats 8000000 in
theorem lw_ini_of {Inv : mj_H → Prop} : (∀ (K : Nat → Nat × Nat) (σ : Nat → Nat → Int32) (ρ : Nat → Nat → Option Nat), (∀ c, c < 123 → K c = ly_kd c) → (∀ c, c < 123 → ∀ k, k < 40 → ρ c k = ly_rf c k) → (∀ c, c < 123 → (ly_kd c).1 ≠ 0 → ∀ k, σ c k = 0) → (∀ c, c < 123 → (ly_kd c).1 = 0 → ∀ k, k < 40 → σ c k = ly_i c k) → Inv (123, K, σ, ρ)) → lw_ini Inv := by
  intro hI
  show mj_W (mj_lv 5) prog_1_method_1_code 8 9 92 8064 _ 0 [some (.inr (.inl (some 0)))] [] _ 0 0
  refine mq_aload_n d0_0 rfl rfl ?_
  refine mq_objI d0_1 rfl rfl ?_
  refine mq_aload_n d0_4 rfl rfl ?_
  refine mq_new d0_5 rfl (by decide) (by decide) ?_
  refine mq_dup d0_8 rfl ?_
  refine mj_callI (z := 73) [.inr (.inl (some 1))] d0_9 rfl rfl ⟨rfl, rfl⟩ rfl (by decide) (by decide) ⟨_, rfl⟩ ?_
  show mj_W (mj_lv 4) prog_2_method_1_code 0 9 4 84 _ 0 [some (.inr (.inl (some 1)))] [] _ 0 0
  refine mq_aload_n d73_0 rfl rfl ?_
  refine mq_objI d73_1 rfl rfl ?_
  refine mq_aload_n d73_4 rfl rfl ?_
  refine mq_bipush (v := 12) d73_5 (by decide) ?_
  refine mq_newi (n := 12) d73_7 (by decide) (by decide) (by decide) (by decide) (by decide) ?_
  refine mq_putF rfl d73_9 rfl rfl rfl rfl ⟨by decide, rfl⟩ ?_
  refine mq_aload_n d73_12 rfl rfl ?_
  refine mq_bipush (v := 24) d73_13 (by decide) ?_
  refine mq_newi (n := 24) d73_15 (by decide) (by decide) (by decide) (by decide) (by decide) ?_
  refine mq_putF rfl d73_17 rfl rfl rfl rfl ⟨by decide, rfl⟩ ?_
  refine mq_aload_n d73_20 rfl rfl ?_
  refine mq_bipush (v := 24) d73_21 (by decide) ?_
  refine mq_newi (n := 24) d73_23 (by decide) (by decide) (by decide) (by decide) (by decide) ?_
  refine mq_putF rfl d73_25 rfl rfl rfl rfl ⟨by decide, rfl⟩ ?_
  refine mq_aload_n d73_28 rfl rfl ?_
  refine mq_bipush (v := 24) d73_29 (by decide) ?_
  refine mq_newz (n := 24) d73_31 (by decide) (by decide) (by decide) (by decide) (by decide) ?_
  refine mq_putF rfl d73_33 rfl rfl rfl rfl ⟨by decide, rfl⟩ ?_
  refine mq_aload_n d73_36 rfl rfl ?_
  refine mq_iconst (v := 0) d73_37 (by decide) ?_
  refine mq_putI d73_38 rfl rfl rfl ⟨rfl, rfl⟩ ⟨by decide, rfl⟩ ?_
  refine mq_aload_n d73_41 rfl rfl ?_
  refine mq_iconst (v := 0) d73_42 (by decide) ?_
  refine mq_putI d73_43 rfl rfl rfl ⟨rfl, rfl⟩ ⟨by decide, rfl⟩ ?_
  refine mq_aload_n d73_46 rfl rfl ?_
  refine mq_iconst (v := 0) d73_47 (by decide) ?_
  refine mq_putI d73_48 rfl rfl rfl ⟨rfl, rfl⟩ ⟨by decide, rfl⟩ ?_
  refine mj_retv d73_51 (Or.inr rfl) ?_
  refine mq_putF rfl d0_12 rfl rfl rfl rfl ⟨by decide, rfl⟩ ?_
  refine mq_aload_n d0_15 rfl rfl ?_
  refine mq_new d0_16 rfl (by decide) (by decide) ?_
  refine mq_dup d0_19 rfl ?_
  refine mj_callI (z := 131) [.inr (.inl (some 6))] d0_20 rfl rfl ⟨rfl, rfl⟩ rfl (by decide) (by decide) ⟨_, rfl⟩ ?_
  show mj_W (mj_lv 4) prog_9_method_1_code 7 9 3 4252 _ 0 [some (.inr (.inl (some 6)))] [] _ 0 0
  refine mq_aload_n d131_0 rfl rfl ?_
  refine mq_objI d131_1 rfl rfl ?_
  refine mq_aload_n d131_4 rfl rfl ?_
  refine mq_sipush (v := 4096) d131_5 (by decide) ?_
  refine mq_newi (n := 4096) d131_8 (by decide) (by decide) (by decide) (by decide) (by decide) ?_
  refine mq_putF rfl d131_10 rfl rfl rfl rfl ⟨by decide, rfl⟩ ?_
  refine mq_aload_n d131_13 rfl rfl ?_
  refine mq_sipush (v := 144) d131_14 (by decide) ?_
  refine mq_newi (n := 144) d131_17 (by decide) (by decide) (by decide) (by decide) (by decide) ?_
  refine mq_putF rfl d131_19 rfl rfl rfl rfl ⟨by decide, rfl⟩ ?_
  refine mq_aload_n d131_22 rfl rfl ?_
  refine mq_bipush (v := 12) d131_23 (by decide) ?_
  refine mq_newi (n := 12) d131_25 (by decide) (by decide) (by decide) (by decide) (by decide) ?_
  refine mq_putF rfl d131_27 rfl rfl rfl rfl ⟨by decide, rfl⟩ ?_
  refine mq_aload_n d131_30 rfl rfl ?_
  refine mq_iconst (v := 0) d131_31 (by decide) ?_
  refine mq_putI d131_32 rfl rfl rfl ⟨rfl, rfl⟩ ⟨by decide, rfl⟩ ?_
  refine mq_aload_n d131_35 rfl rfl ?_
  refine mq_iconst (v := 0) d131_36 (by decide) ?_
  refine mq_putI d131_37 rfl rfl rfl ⟨rfl, rfl⟩ ⟨by decide, rfl⟩ ?_
  refine mj_retv d131_40 (Or.inr rfl) ?_
  refine mq_putF rfl d0_23 rfl rfl rfl rfl ⟨by decide, rfl⟩ ?_
  refine mq_aload_n d0_26 rfl rfl ?_
  refine mq_new d0_27 rfl (by decide) (by decide) ?_
  refine mq_dup d0_30 rfl ?_
  refine mj_callI (z := 80) [.inr (.inl (some 10))] d0_31 rfl rfl ⟨rfl, rfl⟩ rfl (by decide) (by decide) ⟨_, rfl⟩ ?_
  show mj_W (mj_lv 4) prog_3_method_1_code 1 9 5 96 _ 0 [some (.inr (.inl (some 10)))] [] _ 0 0
  refine mq_aload_n d80_0 rfl rfl ?_
  refine mq_objI d80_1 rfl rfl ?_
  refine mq_aload_n d80_4 rfl rfl ?_
  refine mq_bipush (v := 24) d80_5 (by decide) ?_
  refine mq_newi (n := 24) d80_7 (by decide) (by decide) (by decide) (by decide) (by decide) ?_
  refine mq_putF rfl d80_9 rfl rfl rfl rfl ⟨by decide, rfl⟩ ?_
  refine mq_aload_n d80_12 rfl rfl ?_
  refine mq_bipush (v := 24) d80_13 (by decide) ?_
  refine mq_newi (n := 24) d80_15 (by decide) (by decide) (by decide) (by decide) (by decide) ?_
  refine mq_putF rfl d80_17 rfl rfl rfl rfl ⟨by decide, rfl⟩ ?_
  refine mq_aload_n d80_20 rfl rfl ?_
  refine mq_bipush (v := 24) d80_21 (by decide) ?_
  refine mq_newi (n := 24) d80_23 (by decide) (by decide) (by decide) (by decide) (by decide) ?_
  refine mq_putF rfl d80_25 rfl rfl rfl rfl ⟨by decide, rfl⟩ ?_
  refine mq_aload_n d80_28 rfl rfl ?_
  refine mq_bipush (v := 12) d80_29 (by decide) ?_
  refine mq_newi (n := 12) d80_31 (by decide) (by decide) (by decide) (by decide) (by decide) ?_
  refine mq_putF rfl d80_33 rfl rfl rfl rfl ⟨by decide, rfl⟩ ?_
  refine mq_aload_n d80_36 rfl rfl ?_
  refine mq_bipush (v := 12) d80_37 (by decide) ?_
  refine mq_newi (n := 12) d80_39 (by decide) (by decide) (by decide) (by decide) (by decide) ?_
  refine mq_putF rfl d80_41 rfl rfl rfl rfl ⟨by decide, rfl⟩ ?_
  refine mq_aload_n d80_44 rfl rfl ?_
  refine mq_iconst (v := 0) d80_45 (by decide) ?_
  refine mq_putI d80_46 rfl rfl rfl ⟨rfl, rfl⟩ ⟨by decide, rfl⟩ ?_
  refine mq_aload_n d80_49 rfl rfl ?_
  refine mq_iconst (v := 0) d80_50 (by decide) ?_
  refine mq_putI d80_51 rfl rfl rfl ⟨rfl, rfl⟩ ⟨by decide, rfl⟩ ?_
  refine mq_aload_n d80_54 rfl rfl ?_
  refine mq_iconst (v := 0) d80_55 (by decide) ?_
  refine mq_putI d80_56 rfl rfl rfl ⟨rfl, rfl⟩ ⟨by decide, rfl⟩ ?_
  refine mj_retv d80_59 (Or.inr rfl) ?_
  refine mq_putF rfl d0_34 rfl rfl rfl rfl ⟨by decide, rfl⟩ ?_
  refine mq_aload_n d0_37 rfl rfl ?_
  refine mq_new d0_38 rfl (by decide) (by decide) ?_
  refine mq_dup d0_41 rfl ?_
  refine mj_callI (z := 113) [.inr (.inl (some 16))] d0_42 rfl rfl ⟨rfl, rfl⟩ rfl (by decide) (by decide) ⟨_, rfl⟩ ?_
  show mj_W (mj_lv 4) prog_6_method_1_code 4 9 29 708 _ 0 [some (.inr (.inl (some 16)))] [] _ 0 0
  refine mq_aload_n d113_0 rfl rfl ?_
  refine mq_objI d113_1 rfl rfl ?_
  refine mq_aload_n d113_4 rfl rfl ?_
  refine mq_bipush (v := 24) d113_5 (by decide) ?_
  refine mq_newi (n := 24) d113_7 (by decide) (by decide) (by decide) (by decide) (by decide) ?_
  refine mq_putF rfl d113_9 rfl rfl rfl rfl ⟨by decide, rfl⟩ ?_
  refine mq_aload_n d113_12 rfl rfl ?_
  refine mq_bipush (v := 72) d113_13 (by decide) ?_
  refine mq_newi (n := 72) d113_15 (by decide) (by decide) (by decide) (by decide) (by decide) ?_
  refine mq_putF rfl d113_17 rfl rfl rfl rfl ⟨by decide, rfl⟩ ?_
  refine mq_aload_n d113_20 rfl rfl ?_
  refine mq_bipush (v := 12) d113_21 (by decide) ?_
  refine mq_newi (n := 12) d113_23 (by decide) (by decide) (by decide) (by decide) (by decide) ?_
  refine mq_putF rfl d113_25 rfl rfl rfl rfl ⟨by decide, rfl⟩ ?_
  refine mq_aload_n d113_28 rfl rfl ?_
  refine mq_bipush (v := 12) d113_29 (by decide) ?_
  refine mq_bipush (v := 24) d113_31 (by decide) ?_
  refine mq_newm (n := 12) (k := 24) d113_33 rfl (by decide) (by decide) (by decide) (by decide) (by decide) (by decide) (by decide) (by decide) ?_
  refine mq_putF rfl d113_37 rfl rfl rfl rfl ⟨by decide, rfl⟩ ?_
  refine mq_aload_n d113_40 rfl rfl ?_
  refine mq_bipush (v := 12) d113_41 (by decide) ?_
  refine mq_bipush (v := 24) d113_43 (by decide) ?_
  refine mq_newm (n := 12) (k := 24) d113_45 rfl (by decide) (by decide) (by decide) (by decide) (by decide) (by decide) (by decide) (by decide) ?_
  refine mq_putF rfl d113_49 rfl rfl rfl rfl ⟨by decide, rfl⟩ ?_
  refine mq_aload_n d113_52 rfl rfl ?_
  refine mq_bipush (v := 12) d113_53 (by decide) ?_
  refine mq_putI d113_55 rfl rfl rfl ⟨rfl, rfl⟩ ⟨by decide, rfl⟩ ?_
  refine mj_retv d113_58 (Or.inr rfl) ?_
  refine mq_putF rfl d0_45 rfl rfl rfl rfl ⟨by decide, rfl⟩ ?_
  refine mq_aload_n d0_48 rfl rfl ?_
  refine mq_new d0_49 rfl (by decide) (by decide) ?_
  refine mq_dup d0_52 rfl ?_
  refine mj_callI (z := 89) [.inr (.inl (some 46))] d0_53 rfl rfl ⟨rfl, rfl⟩ rfl (by decide) (by decide) ⟨_, rfl⟩ ?_
  show mj_W (mj_lv 4) prog_4_method_1_code 2 9 30 1116 _ 0 [some (.inr (.inl (some 46)))] [] _ 0 0
  refine mq_aload_n d89_0 rfl rfl ?_
  refine mq_objI d89_1 rfl rfl ?_
  refine mq_aload_n d89_4 rfl rfl ?_
  refine mq_bipush (v := 12) d89_5 (by decide) ?_
  refine mq_newi (n := 12) d89_7 (by decide) (by decide) (by decide) (by decide) (by decide) ?_
  refine mq_putF rfl d89_9 rfl rfl rfl rfl ⟨by decide, rfl⟩ ?_
  refine mq_aload_n d89_12 rfl rfl ?_
  refine mq_bipush (v := 12) d89_13 (by decide) ?_
  refine mq_bipush (v := 36) d89_15 (by decide) ?_
  refine mq_newm (n := 12) (k := 36) d89_17 rfl (by decide) (by decide) (by decide) (by decide) (by decide) (by decide) (by decide) (by decide) ?_
  refine mq_putF rfl d89_21 rfl rfl rfl rfl ⟨by decide, rfl⟩ ?_
  refine mq_aload_n d89_24 rfl rfl ?_
  refine mq_bipush (v := 12) d89_25 (by decide) ?_
  refine mq_bipush (v := 36) d89_27 (by decide) ?_
  refine mq_newm (n := 12) (k := 36) d89_29 rfl (by decide) (by decide) (by decide) (by decide) (by decide) (by decide) (by decide) (by decide) ?_
  refine mq_putF rfl d89_33 rfl rfl rfl rfl ⟨by decide, rfl⟩ ?_
  refine mq_aload_n d89_36 rfl rfl ?_
  refine mq_bipush (v := 72) d89_37 (by decide) ?_
  refine mq_newi (n := 72) d89_39 (by decide) (by decide) (by decide) (by decide) (by decide) ?_
  refine mq_putF rfl d89_41 rfl rfl rfl rfl ⟨by decide, rfl⟩ ?_
  refine mq_aload_n d89_44 rfl rfl ?_
  refine mq_bipush (v := 72) d89_45 (by decide) ?_
  refine mq_newi (n := 72) d89_47 (by decide) (by decide) (by decide) (by decide) (by decide) ?_
  refine mq_putF rfl d89_49 rfl rfl rfl rfl ⟨by decide, rfl⟩ ?_
  refine mq_aload_n d89_52 rfl rfl ?_
  refine mq_bipush (v := 72) d89_53 (by decide) ?_
  refine mq_newi (n := 72) d89_55 (by decide) (by decide) (by decide) (by decide) (by decide) ?_
  refine mq_putF rfl d89_57 rfl rfl rfl rfl ⟨by decide, rfl⟩ ?_
  refine mq_aload_n d89_60 rfl rfl ?_
  refine mq_iconst (v := 0) d89_61 (by decide) ?_
  refine mq_putI d89_62 rfl rfl rfl ⟨rfl, rfl⟩ ⟨by decide, rfl⟩ ?_
  refine mq_aload_n d89_65 rfl rfl ?_
  refine mq_iconst (v := 0) d89_66 (by decide) ?_
  refine mq_putI d89_67 rfl rfl rfl ⟨rfl, rfl⟩ ⟨by decide, rfl⟩ ?_
  refine mq_aload_n d89_70 rfl rfl ?_
  refine mq_iconst (v := 0) d89_71 (by decide) ?_
  refine mq_putI d89_72 rfl rfl rfl ⟨rfl, rfl⟩ ⟨by decide, rfl⟩ ?_
  refine mj_retv d89_75 (Or.inr rfl) ?_
  refine mq_putF rfl d0_56 rfl rfl rfl rfl ⟨by decide, rfl⟩ ?_
  refine mq_aload_n d0_59 rfl rfl ?_
  refine mq_new d0_60 rfl (by decide) (by decide) ?_
  refine mq_dup d0_63 rfl ?_
  refine mj_callI (z := 102) [.inr (.inl (some 77))] d0_64 rfl rfl ⟨rfl, rfl⟩ rfl (by decide) (by decide) ⟨_, rfl⟩ ?_
  show mj_W (mj_lv 4) prog_5_method_1_code 3 9 6 1494 _ 0 [some (.inr (.inl (some 77)))] [] _ 0 0
  refine mq_aload_n d102_0 rfl rfl ?_
  refine mq_objI d102_1 rfl rfl ?_
  refine mq_aload_n d102_4 rfl rfl ?_
  refine mq_sipush (v := 720) d102_5 (by decide) ?_
  refine mq_newi (n := 720) d102_8 (by decide) (by decide) (by decide) (by decide) (by decide) ?_
  refine mq_putF rfl d102_10 rfl rfl rfl rfl ⟨by decide, rfl⟩ ?_
  refine mq_aload_n d102_13 rfl rfl ?_
  refine mq_sipush (v := 720) d102_14 (by decide) ?_
  refine mq_newi (n := 720) d102_17 (by decide) (by decide) (by decide) (by decide) (by decide) ?_
  refine mq_putF rfl d102_19 rfl rfl rfl rfl ⟨by decide, rfl⟩ ?_
  refine mq_aload_n d102_22 rfl rfl ?_
  refine mq_bipush (v := 6) d102_23 (by decide) ?_
  refine mq_newi (n := 6) d102_25 (by decide) (by decide) (by decide) (by decide) (by decide) ?_
  refine mq_putF rfl d102_27 rfl rfl rfl rfl ⟨by decide, rfl⟩ ?_
  refine mq_aload_n d102_30 rfl rfl ?_
  refine mq_bipush (v := 6) d102_31 (by decide) ?_
  refine mq_newi (n := 6) d102_33 (by decide) (by decide) (by decide) (by decide) (by decide) ?_
  refine mq_putF rfl d102_35 rfl rfl rfl rfl ⟨by decide, rfl⟩ ?_
  refine mq_aload_n d102_38 rfl rfl ?_
  refine mq_bipush (v := 6) d102_39 (by decide) ?_
  refine mq_newi (n := 6) d102_41 (by decide) (by decide) (by decide) (by decide) (by decide) ?_
  refine mq_putF rfl d102_43 rfl rfl rfl rfl ⟨by decide, rfl⟩ ?_
  refine mq_aload_n d102_46 rfl rfl ?_
  refine mq_bipush (v := 36) d102_47 (by decide) ?_
  refine mq_newi (n := 36) d102_49 (by decide) (by decide) (by decide) (by decide) (by decide) ?_
  refine mq_putF rfl d102_51 rfl rfl rfl rfl ⟨by decide, rfl⟩ ?_
  refine mq_aload_n d102_54 rfl rfl ?_
  refine mq_iconst (v := 0) d102_55 (by decide) ?_
  refine mq_putI d102_56 rfl rfl rfl ⟨rfl, rfl⟩ ⟨by decide, rfl⟩ ?_
  refine mj_retv d102_59 (Or.inr rfl) ?_
  refine mq_putF rfl d0_67 rfl rfl rfl rfl ⟨by decide, rfl⟩ ?_
  refine mq_aload_n d0_70 rfl rfl ?_
  refine mq_new d0_71 rfl (by decide) (by decide) ?_
  refine mq_dup d0_74 rfl ?_
  refine mj_callI (z := 118) [.inr (.inl (some 84))] d0_75 rfl rfl ⟨rfl, rfl⟩ rfl (by decide) (by decide) ⟨_, rfl⟩ ?_
  show mj_W (mj_lv 4) prog_7_method_1_code 5 9 3 216 _ 0 [some (.inr (.inl (some 84)))] [] _ 0 0
  refine mq_aload_n d118_0 rfl rfl ?_
  refine mq_objI d118_1 rfl rfl ?_
  refine mq_aload_n d118_4 rfl rfl ?_
  refine mq_bipush (v := 72) d118_5 (by decide) ?_
  refine mq_newi (n := 72) d118_7 (by decide) (by decide) (by decide) (by decide) (by decide) ?_
  refine mq_putF rfl d118_9 rfl rfl rfl rfl ⟨by decide, rfl⟩ ?_
  refine mq_aload_n d118_12 rfl rfl ?_
  refine mq_bipush (v := 72) d118_13 (by decide) ?_
  refine mq_newi (n := 72) d118_15 (by decide) (by decide) (by decide) (by decide) (by decide) ?_
  refine mq_putF rfl d118_17 rfl rfl rfl rfl ⟨by decide, rfl⟩ ?_
  refine mq_aload_n d118_20 rfl rfl ?_
  refine mq_bipush (v := 72) d118_21 (by decide) ?_
  refine mq_newi (n := 72) d118_23 (by decide) (by decide) (by decide) (by decide) (by decide) ?_
  refine mq_putF rfl d118_25 rfl rfl rfl rfl ⟨by decide, rfl⟩ ?_
  refine mq_aload_n d118_28 rfl rfl ?_
  refine mq_iconst (v := 0) d118_29 (by decide) ?_
  refine mq_putI d118_30 rfl rfl rfl ⟨rfl, rfl⟩ ⟨by decide, rfl⟩ ?_
  refine mj_retv d118_33 (Or.inr rfl) ?_
  refine mq_putF rfl d0_78 rfl rfl rfl rfl ⟨by decide, rfl⟩ ?_
  refine mq_aload_n d0_81 rfl rfl ?_
  refine mq_new d0_82 rfl (by decide) (by decide) ?_
  refine mq_dup d0_85 rfl ?_
  refine mj_callI (z := 122) [.inr (.inl (some 88))] d0_86 rfl rfl ⟨rfl, rfl⟩ rfl (by decide) (by decide) ⟨_, rfl⟩ ?_
  show mj_W (mj_lv 4) prog_8_method_1_code 6 9 4 48 _ 0 [some (.inr (.inl (some 88)))] [] _ 0 0
  refine mq_aload_n d122_0 rfl rfl ?_
  refine mq_objI d122_1 rfl rfl ?_
  refine mq_aload_n d122_4 rfl rfl ?_
  refine mq_bipush (v := 12) d122_5 (by decide) ?_
  refine mq_newi (n := 12) d122_7 (by decide) (by decide) (by decide) (by decide) (by decide) ?_
  refine mq_putF rfl d122_9 rfl rfl rfl rfl ⟨by decide, rfl⟩ ?_
  refine mq_aload_n d122_12 rfl rfl ?_
  refine mq_bipush (v := 12) d122_13 (by decide) ?_
  refine mq_newi (n := 12) d122_15 (by decide) (by decide) (by decide) (by decide) (by decide) ?_
  refine mq_putF rfl d122_17 rfl rfl rfl rfl ⟨by decide, rfl⟩ ?_
  refine mq_aload_n d122_20 rfl rfl ?_
  refine mq_bipush (v := 12) d122_21 (by decide) ?_
  refine mq_newi (n := 12) d122_23 (by decide) (by decide) (by decide) (by decide) (by decide) ?_
  refine mq_putF rfl d122_25 rfl rfl rfl rfl ⟨by decide, rfl⟩ ?_
  refine mq_aload_n d122_28 rfl rfl ?_
  refine mq_bipush (v := 12) d122_29 (by decide) ?_
  refine mq_newi (n := 12) d122_31 (by decide) (by decide) (by decide) (by decide) (by decide) ?_
  refine mq_putF rfl d122_33 rfl rfl rfl rfl ⟨by decide, rfl⟩ ?_
  refine mj_retv d122_36 (Or.inr rfl) ?_
  refine mq_putF rfl d0_89 rfl rfl rfl rfl ⟨by decide, rfl⟩ ?_
  refine mq_aload_n d0_92 rfl rfl ?_
  refine mq_iconst (v := 0) d0_93 (by decide) ?_
  refine mq_putI d0_94 rfl rfl rfl ⟨rfl, rfl⟩ ⟨by decide, rfl⟩ ?_
  refine mq_aload_n d0_97 rfl rfl ?_
  refine mq_iconst (v := 0) d0_98 (by decide) ?_
  refine mq_putI d0_99 rfl rfl rfl ⟨rfl, rfl⟩ ⟨by decide, rfl⟩ ?_
  refine mq_aload_n d0_102 rfl rfl ?_
  refine mq_iconst (v := 0) d0_103 (by decide) ?_
  refine mq_putI d0_104 rfl rfl rfl ⟨rfl, rfl⟩ ⟨by decide, rfl⟩ ?_
  refine mq_aload_n d0_107 rfl rfl ?_
  refine mq_iconst (v := 0) d0_108 (by decide) ?_
  refine mq_putI d0_109 rfl rfl rfl ⟨rfl, rfl⟩ ⟨by decide, rfl⟩ ?_
  refine mj_retv d0_112 (Or.inr rfl) ?_
  refine ⟨rfl, rfl, ?_⟩
  show mj_W (mj_lv 5) prog_11_method_1_code 9 9 29 56280 _ 0 [some (.inr (.inl (some 93)))] [] _ 0 0
  refine mq_aload_n d25_0 rfl rfl ?_
  refine mq_objI d25_1 rfl rfl ?_
  refine mq_aload_n d25_4 rfl rfl ?_
  refine mq_bipush (v := 12) d25_5 (by decide) ?_
  refine mq_newi (n := 12) d25_7 (by decide) (by decide) (by decide) (by decide) (by decide) ?_
  refine mq_putF rfl d25_9 rfl rfl rfl rfl ⟨by decide, rfl⟩ ?_
  refine mq_aload_n d25_12 rfl rfl ?_
  refine mq_bipush (v := 24) d25_13 (by decide) ?_
  refine mq_newi (n := 24) d25_15 (by decide) (by decide) (by decide) (by decide) (by decide) ?_
  refine mq_putF rfl d25_17 rfl rfl rfl rfl ⟨by decide, rfl⟩ ?_
  refine mq_aload_n d25_20 rfl rfl ?_
  refine mq_bipush (v := 24) d25_21 (by decide) ?_
  refine mq_newi (n := 24) d25_23 (by decide) (by decide) (by decide) (by decide) (by decide) ?_
  refine mq_putF rfl d25_25 rfl rfl rfl rfl ⟨by decide, rfl⟩ ?_
  refine mq_aload_n d25_28 rfl rfl ?_
  refine mq_bipush (v := 24) d25_29 (by decide) ?_
  refine mq_newz (n := 24) d25_31 (by decide) (by decide) (by decide) (by decide) (by decide) ?_
  refine mq_putF rfl d25_33 rfl rfl rfl rfl ⟨by decide, rfl⟩ ?_
  refine mq_aload_n d25_36 rfl rfl ?_
  refine mq_iconst (v := 1) d25_37 (by decide) ?_
  refine mq_putI d25_38 rfl rfl rfl ⟨rfl, rfl⟩ ⟨by decide, rfl⟩ ?_
  refine mq_aload_n d25_41 rfl rfl ?_
  refine mq_bipush (v := 24) d25_42 (by decide) ?_
  refine mq_newz (n := 24) d25_44 (by decide) (by decide) (by decide) (by decide) (by decide) ?_
  refine mq_putF rfl d25_46 rfl rfl rfl rfl ⟨by decide, rfl⟩ ?_
  refine mq_aload_n d25_49 rfl rfl ?_
  refine mq_bipush (v := 12) d25_50 (by decide) ?_
  refine mq_newi (n := 12) d25_52 (by decide) (by decide) (by decide) (by decide) (by decide) ?_
  refine mq_putF rfl d25_54 rfl rfl rfl rfl ⟨by decide, rfl⟩ ?_
  refine mq_aload_n d25_57 rfl rfl ?_
  refine mq_bipush (v := 24) d25_58 (by decide) ?_
  refine mq_newi (n := 24) d25_60 (by decide) (by decide) (by decide) (by decide) (by decide) ?_
  refine mq_putF rfl d25_62 rfl rfl rfl rfl ⟨by decide, rfl⟩ ?_
  refine mq_aload_n d25_65 rfl rfl ?_
  refine mq_bipush (v := 24) d25_66 (by decide) ?_
  refine mq_newi (n := 24) d25_68 (by decide) (by decide) (by decide) (by decide) (by decide) ?_
  refine mq_putF rfl d25_70 rfl rfl rfl rfl ⟨by decide, rfl⟩ ?_
  refine mq_aload_n d25_73 rfl rfl ?_
  refine mq_bipush (v := 24) d25_74 (by decide) ?_
  refine mq_newi (n := 24) d25_76 (by decide) (by decide) (by decide) (by decide) (by decide) ?_
  refine mq_putF rfl d25_78 rfl rfl rfl rfl ⟨by decide, rfl⟩ ?_
  refine mq_aload_n d25_81 rfl rfl ?_
  refine mq_sipush (v := 4096) d25_82 (by decide) ?_
  refine mq_newi (n := 4096) d25_85 (by decide) (by decide) (by decide) (by decide) (by decide) ?_
  refine mq_putF rfl d25_87 rfl rfl rfl rfl ⟨by decide, rfl⟩ ?_
  refine mq_aload_n d25_90 rfl rfl ?_
  refine mq_sipush (v := 144) d25_91 (by decide) ?_
  refine mq_newi (n := 144) d25_94 (by decide) (by decide) (by decide) (by decide) (by decide) ?_
  refine mq_putF rfl d25_96 rfl rfl rfl rfl ⟨by decide, rfl⟩ ?_
  refine mq_aload_n d25_99 rfl rfl ?_
  refine mq_ldc (v := 49152) d25_100 rfl ?_
  refine mq_newi (n := 49152) d25_102 (by decide) (by decide) (by decide) (by decide) (by decide) ?_
  refine mq_putF rfl d25_104 rfl rfl rfl rfl ⟨by decide, rfl⟩ ?_
  refine mq_aload_n d25_107 rfl rfl ?_
  refine mq_bipush (v := 80) d25_108 (by decide) ?_
  refine mq_newi (n := 80) d25_110 (by decide) (by decide) (by decide) (by decide) (by decide) ?_
  refine mq_putF rfl d25_112 rfl rfl rfl rfl ⟨by decide, rfl⟩ ?_
  refine mq_aload_n d25_115 rfl rfl ?_
  refine mq_bipush (v := 80) d25_116 (by decide) ?_
  refine mq_newz (n := 80) d25_118 (by decide) (by decide) (by decide) (by decide) (by decide) ?_
  refine mq_putF rfl d25_120 rfl rfl rfl rfl ⟨by decide, rfl⟩ ?_
  refine mq_aload_n d25_123 rfl rfl ?_
  refine mq_bipush (v := 24) d25_124 (by decide) ?_
  refine mq_newi (n := 24) d25_126 (by decide) (by decide) (by decide) (by decide) (by decide) ?_
  refine mq_putF rfl d25_128 rfl rfl rfl rfl ⟨by decide, rfl⟩ ?_
  refine mq_aload_n d25_131 rfl rfl ?_
  refine mq_bipush (v := 100) d25_132 (by decide) ?_
  refine mq_newi (n := 100) d25_134 (by decide) (by decide) (by decide) (by decide) (by decide) ?_
  refine mq_putF rfl d25_136 rfl rfl rfl rfl ⟨by decide, rfl⟩ ?_
  refine mq_aload_n d25_139 rfl rfl ?_
  refine mq_bipush (v := 100) d25_140 (by decide) ?_
  refine mq_newi (n := 100) d25_142 (by decide) (by decide) (by decide) (by decide) (by decide) ?_
  refine mq_putF rfl d25_144 rfl rfl rfl rfl ⟨by decide, rfl⟩ ?_
  refine mq_aload_n d25_147 rfl rfl ?_
  refine mq_sipush (v := 960) d25_148 (by decide) ?_
  refine mq_newi (n := 960) d25_151 (by decide) (by decide) (by decide) (by decide) (by decide) ?_
  refine mq_putF rfl d25_153 rfl rfl rfl rfl ⟨by decide, rfl⟩ ?_
  refine mq_aload_n d25_156 rfl rfl ?_
  refine mq_bipush (v := 12) d25_157 (by decide) ?_
  refine mq_newi (n := 12) d25_159 (by decide) (by decide) (by decide) (by decide) (by decide) ?_
  refine mq_putF rfl d25_161 rfl rfl rfl rfl ⟨by decide, rfl⟩ ?_
  refine mq_aload_n d25_164 rfl rfl ?_
  refine mq_bipush (v := 80) d25_165 (by decide) ?_
  refine mq_newi (n := 80) d25_167 (by decide) (by decide) (by decide) (by decide) (by decide) ?_
  refine mq_putF rfl d25_169 rfl rfl rfl rfl ⟨by decide, rfl⟩ ?_
  refine mq_aload_n d25_172 rfl rfl ?_
  refine mq_sipush (v := 960) d25_173 (by decide) ?_
  refine mq_newi (n := 960) d25_176 (by decide) (by decide) (by decide) (by decide) (by decide) ?_
  refine mq_putF rfl d25_178 rfl rfl rfl rfl ⟨by decide, rfl⟩ ?_
  refine mq_aload_n d25_181 rfl rfl ?_
  refine mq_bipush (v := 80) d25_182 (by decide) ?_
  refine mq_newi (n := 80) d25_184 (by decide) (by decide) (by decide) (by decide) (by decide) ?_
  refine mq_putF rfl d25_186 rfl rfl rfl rfl ⟨by decide, rfl⟩ ?_
  refine mq_aload_n d25_189 rfl rfl ?_
  refine mq_bipush (v := 80) d25_190 (by decide) ?_
  refine mq_newi (n := 80) d25_192 (by decide) (by decide) (by decide) (by decide) (by decide) ?_
  refine mq_putF rfl d25_194 rfl rfl rfl rfl ⟨by decide, rfl⟩ ?_
  refine mq_aload_n d25_197 rfl rfl ?_
  refine mq_bipush (v := 80) d25_198 (by decide) ?_
  refine mq_newi (n := 80) d25_200 (by decide) (by decide) (by decide) (by decide) (by decide) ?_
  refine mq_putF rfl d25_202 rfl rfl rfl rfl ⟨by decide, rfl⟩ ?_
  refine mq_aload_n d25_205 rfl rfl ?_
  refine mq_bipush (v := 12) d25_206 (by decide) ?_
  refine mq_newi (n := 12) d25_208 (by decide) (by decide) (by decide) (by decide) (by decide) ?_
  refine mq_putF rfl d25_210 rfl rfl rfl rfl ⟨by decide, rfl⟩ ?_
  refine mq_aload_n d25_213 rfl rfl ?_
  refine mq_bipush (v := 12) d25_214 (by decide) ?_
  refine mq_newi (n := 12) d25_216 (by decide) (by decide) (by decide) (by decide) (by decide) ?_
  refine mq_putF rfl d25_218 rfl rfl rfl rfl ⟨by decide, rfl⟩ ?_
  refine mq_aload_n d25_221 rfl rfl ?_
  refine mq_bipush (v := 12) d25_222 (by decide) ?_
  refine mq_newi (n := 12) d25_224 (by decide) (by decide) (by decide) (by decide) (by decide) ?_
  refine mq_putF rfl d25_226 rfl rfl rfl rfl ⟨by decide, rfl⟩ ?_
  refine mq_aload_n d25_229 rfl rfl ?_
  refine mq_bipush (v := 12) d25_230 (by decide) ?_
  refine mq_newi (n := 12) d25_232 (by decide) (by decide) (by decide) (by decide) (by decide) ?_
  refine mq_putF rfl d25_234 rfl rfl rfl rfl ⟨by decide, rfl⟩ ?_
  refine mq_aload_n d25_237 rfl rfl ?_
  refine mq_bipush (v := 12) d25_238 (by decide) ?_
  refine mq_newi (n := 12) d25_240 (by decide) (by decide) (by decide) (by decide) (by decide) ?_
  refine mq_putF rfl d25_242 rfl rfl rfl rfl ⟨by decide, rfl⟩ ?_
  refine mj_retv d25_245 (Or.inr rfl) ?_
  refine ⟨rfl, ?_⟩
  refine hI _ _ _ ?_ ?_ ?_ ?_
  · decide +kernel
  · decide +kernel
  · intro c hc hk k
    match c, hc, hk with
    | 0, _, hk => exact absurd rfl hk
    | 1, _, hk => exact absurd rfl hk
    | 2, _, _ => rfl
    | 3, _, _ => rfl
    | 4, _, _ => rfl
    | 5, _, _ => rfl
    | 6, _, hk => exact absurd rfl hk
    | 7, _, _ => rfl
    | 8, _, _ => rfl
    | 9, _, _ => rfl
    | 10, _, hk => exact absurd rfl hk
    | 11, _, _ => rfl
    | 12, _, _ => rfl
    | 13, _, _ => rfl
    | 14, _, _ => rfl
    | 15, _, _ => rfl
    | 16, _, hk => exact absurd rfl hk
    | 17, _, _ => rfl
    | 18, _, _ => rfl
    | 19, _, _ => rfl
    | 20, _, _ => rfl
    | 21, _, _ => rfl
    | 22, _, _ => rfl
    | 23, _, _ => rfl
    | 24, _, _ => rfl
    | 25, _, _ => rfl
    | 26, _, _ => rfl
    | 27, _, _ => rfl
    | 28, _, _ => rfl
    | 29, _, _ => rfl
    | 30, _, _ => rfl
    | 31, _, _ => rfl
    | 32, _, _ => rfl
    | 33, _, _ => rfl
    | 34, _, _ => rfl
    | 35, _, _ => rfl
    | 36, _, _ => rfl
    | 37, _, _ => rfl
    | 38, _, _ => rfl
    | 39, _, _ => rfl
    | 40, _, _ => rfl
    | 41, _, _ => rfl
    | 42, _, _ => rfl
    | 43, _, _ => rfl
    | 44, _, _ => rfl
    | 45, _, _ => rfl
    | 46, _, hk => exact absurd rfl hk
    | 47, _, _ => rfl
    | 48, _, _ => rfl
    | 49, _, _ => rfl
    | 50, _, _ => rfl
    | 51, _, _ => rfl
    | 52, _, _ => rfl
    | 53, _, _ => rfl
    | 54, _, _ => rfl
    | 55, _, _ => rfl
    | 56, _, _ => rfl
    | 57, _, _ => rfl
    | 58, _, _ => rfl
    | 59, _, _ => rfl
    | 60, _, _ => rfl
    | 61, _, _ => rfl
    | 62, _, _ => rfl
    | 63, _, _ => rfl
    | 64, _, _ => rfl
    | 65, _, _ => rfl
    | 66, _, _ => rfl
    | 67, _, _ => rfl
    | 68, _, _ => rfl
    | 69, _, _ => rfl
    | 70, _, _ => rfl
    | 71, _, _ => rfl
    | 72, _, _ => rfl
    | 73, _, _ => rfl
    | 74, _, _ => rfl
    | 75, _, _ => rfl
    | 76, _, _ => rfl
    | 77, _, hk => exact absurd rfl hk
    | 78, _, _ => rfl
    | 79, _, _ => rfl
    | 80, _, _ => rfl
    | 81, _, _ => rfl
    | 82, _, _ => rfl
    | 83, _, _ => rfl
    | 84, _, hk => exact absurd rfl hk
    | 85, _, _ => rfl
    | 86, _, _ => rfl
    | 87, _, _ => rfl
    | 88, _, hk => exact absurd rfl hk
    | 89, _, _ => rfl
    | 90, _, _ => rfl
    | 91, _, _ => rfl
    | 92, _, _ => rfl
    | 93, _, hk => exact absurd rfl hk
    | 94, _, _ => rfl
    | 95, _, _ => rfl
    | 96, _, _ => rfl
    | 97, _, _ => rfl
    | 98, _, _ => rfl
    | 99, _, _ => rfl
    | 100, _, _ => rfl
    | 101, _, _ => rfl
    | 102, _, _ => rfl
    | 103, _, _ => rfl
    | 104, _, _ => rfl
    | 105, _, _ => rfl
    | 106, _, _ => rfl
    | 107, _, _ => rfl
    | 108, _, _ => rfl
    | 109, _, _ => rfl
    | 110, _, _ => rfl
    | 111, _, _ => rfl
    | 112, _, _ => rfl
    | 113, _, _ => rfl
    | 114, _, _ => rfl
    | 115, _, _ => rfl
    | 116, _, _ => rfl
    | 117, _, _ => rfl
    | 118, _, _ => rfl
    | 119, _, _ => rfl
    | 120, _, _ => rfl
    | 121, _, _ => rfl
    | 122, _, _ => rfl
    | _ + 123, hc, _ => exact absurd hc (by omega)
  · decide +kernel
