def pg_xp : List (Nat × Nat × List Nat) := [(85, 64, [126, 128, 130, 132, 134, 136, 138]), (167, 66, [190, 192, 194, 196, 198, 200, 202, 204]), (245, 68, [270, 272, 274, 276, 278, 280, 282, 284, 286]), (290, 69, [303, 305, 307, 309, 311, 313, 315]), (208, 67, [231, 233, 235, 237, 239, 241]), (319, 70, [330, 332, 334, 336]), (340, 71, [350, 352, 354, 356]), (144, 65, [155, 157, 159, 161, 163]), (77, 63, [371, 373, 375, 377, 379, 381, 383, 385, 387, 389, 391, 393]), (760, 72, [803, 805, 807, 809, 811, 813, 815, 817, 819, 821, 823, 825, 827, 829, 831, 833, 835, 837, 839, 841, 843, 845, 847, 849, 851, 853, 855, 857, 859, 861, 863, 865, 867, 869, 871, 873, 875])]
set_option maxRecDepth 100000 in
theorem pg_kX_0 : (pg_is (pg_xp.getD 0 (0, 0, [])).1 (Cond.instantiable (pg_C 0) (pg_nf 0)) && (pg_is (pg_xp.getD 0 (0, 0, [])).2.1 (Cond.initialized (pg_C 0)) && ((List.range (pg_nf 0)).all fun k => pg_is ((pg_xp.getD 0 (0, 0, [])).2.2.getD k 0) (u_lay (pg_C 0) (pg_T 0) k)))) = true := by decide +kernel
set_option maxRecDepth 100000 in
theorem pg_kT_0 : ((List.range (pg_nf 0)).all fun k => decide (parseFieldDescriptor (pg_T 0 k).2.2.1 = some (pg_ty 0 k)) && (decide ((pg_T 0 k).1 = pg_C 0) && (decide ((pg_T 0 k).2.2.2 = pg_fin 0 k) && ((List.range (pg_nf 0)).all fun j => decide (j = k) || decide ((pg_T 0 j).2.1 ≠ (pg_T 0 k).2.1))))) = true := by decide +kernel
set_option maxRecDepth 100000 in
theorem pg_kX_1 : (pg_is (pg_xp.getD 1 (0, 0, [])).1 (Cond.instantiable (pg_C 1) (pg_nf 1)) && (pg_is (pg_xp.getD 1 (0, 0, [])).2.1 (Cond.initialized (pg_C 1)) && ((List.range (pg_nf 1)).all fun k => pg_is ((pg_xp.getD 1 (0, 0, [])).2.2.getD k 0) (u_lay (pg_C 1) (pg_T 1) k)))) = true := by decide +kernel
set_option maxRecDepth 100000 in
theorem pg_kT_1 : ((List.range (pg_nf 1)).all fun k => decide (parseFieldDescriptor (pg_T 1 k).2.2.1 = some (pg_ty 1 k)) && (decide ((pg_T 1 k).1 = pg_C 1) && (decide ((pg_T 1 k).2.2.2 = pg_fin 1 k) && ((List.range (pg_nf 1)).all fun j => decide (j = k) || decide ((pg_T 1 j).2.1 ≠ (pg_T 1 k).2.1))))) = true := by decide +kernel
set_option maxRecDepth 100000 in
theorem pg_kX_2 : (pg_is (pg_xp.getD 2 (0, 0, [])).1 (Cond.instantiable (pg_C 2) (pg_nf 2)) && (pg_is (pg_xp.getD 2 (0, 0, [])).2.1 (Cond.initialized (pg_C 2)) && ((List.range (pg_nf 2)).all fun k => pg_is ((pg_xp.getD 2 (0, 0, [])).2.2.getD k 0) (u_lay (pg_C 2) (pg_T 2) k)))) = true := by decide +kernel
set_option maxRecDepth 100000 in
theorem pg_kT_2 : ((List.range (pg_nf 2)).all fun k => decide (parseFieldDescriptor (pg_T 2 k).2.2.1 = some (pg_ty 2 k)) && (decide ((pg_T 2 k).1 = pg_C 2) && (decide ((pg_T 2 k).2.2.2 = pg_fin 2 k) && ((List.range (pg_nf 2)).all fun j => decide (j = k) || decide ((pg_T 2 j).2.1 ≠ (pg_T 2 k).2.1))))) = true := by decide +kernel
set_option maxRecDepth 100000 in
theorem pg_kX_3 : (pg_is (pg_xp.getD 3 (0, 0, [])).1 (Cond.instantiable (pg_C 3) (pg_nf 3)) && (pg_is (pg_xp.getD 3 (0, 0, [])).2.1 (Cond.initialized (pg_C 3)) && ((List.range (pg_nf 3)).all fun k => pg_is ((pg_xp.getD 3 (0, 0, [])).2.2.getD k 0) (u_lay (pg_C 3) (pg_T 3) k)))) = true := by decide +kernel
set_option maxRecDepth 100000 in
theorem pg_kT_3 : ((List.range (pg_nf 3)).all fun k => decide (parseFieldDescriptor (pg_T 3 k).2.2.1 = some (pg_ty 3 k)) && (decide ((pg_T 3 k).1 = pg_C 3) && (decide ((pg_T 3 k).2.2.2 = pg_fin 3 k) && ((List.range (pg_nf 3)).all fun j => decide (j = k) || decide ((pg_T 3 j).2.1 ≠ (pg_T 3 k).2.1))))) = true := by decide +kernel
set_option maxRecDepth 100000 in
theorem pg_kX_4 : (pg_is (pg_xp.getD 4 (0, 0, [])).1 (Cond.instantiable (pg_C 4) (pg_nf 4)) && (pg_is (pg_xp.getD 4 (0, 0, [])).2.1 (Cond.initialized (pg_C 4)) && ((List.range (pg_nf 4)).all fun k => pg_is ((pg_xp.getD 4 (0, 0, [])).2.2.getD k 0) (u_lay (pg_C 4) (pg_T 4) k)))) = true := by decide +kernel
set_option maxRecDepth 100000 in
theorem pg_kT_4 : ((List.range (pg_nf 4)).all fun k => decide (parseFieldDescriptor (pg_T 4 k).2.2.1 = some (pg_ty 4 k)) && (decide ((pg_T 4 k).1 = pg_C 4) && (decide ((pg_T 4 k).2.2.2 = pg_fin 4 k) && ((List.range (pg_nf 4)).all fun j => decide (j = k) || decide ((pg_T 4 j).2.1 ≠ (pg_T 4 k).2.1))))) = true := by decide +kernel
set_option maxRecDepth 100000 in
theorem pg_kX_5 : (pg_is (pg_xp.getD 5 (0, 0, [])).1 (Cond.instantiable (pg_C 5) (pg_nf 5)) && (pg_is (pg_xp.getD 5 (0, 0, [])).2.1 (Cond.initialized (pg_C 5)) && ((List.range (pg_nf 5)).all fun k => pg_is ((pg_xp.getD 5 (0, 0, [])).2.2.getD k 0) (u_lay (pg_C 5) (pg_T 5) k)))) = true := by decide +kernel
set_option maxRecDepth 100000 in
theorem pg_kT_5 : ((List.range (pg_nf 5)).all fun k => decide (parseFieldDescriptor (pg_T 5 k).2.2.1 = some (pg_ty 5 k)) && (decide ((pg_T 5 k).1 = pg_C 5) && (decide ((pg_T 5 k).2.2.2 = pg_fin 5 k) && ((List.range (pg_nf 5)).all fun j => decide (j = k) || decide ((pg_T 5 j).2.1 ≠ (pg_T 5 k).2.1))))) = true := by decide +kernel
set_option maxRecDepth 100000 in
theorem pg_kX_6 : (pg_is (pg_xp.getD 6 (0, 0, [])).1 (Cond.instantiable (pg_C 6) (pg_nf 6)) && (pg_is (pg_xp.getD 6 (0, 0, [])).2.1 (Cond.initialized (pg_C 6)) && ((List.range (pg_nf 6)).all fun k => pg_is ((pg_xp.getD 6 (0, 0, [])).2.2.getD k 0) (u_lay (pg_C 6) (pg_T 6) k)))) = true := by decide +kernel
set_option maxRecDepth 100000 in
theorem pg_kT_6 : ((List.range (pg_nf 6)).all fun k => decide (parseFieldDescriptor (pg_T 6 k).2.2.1 = some (pg_ty 6 k)) && (decide ((pg_T 6 k).1 = pg_C 6) && (decide ((pg_T 6 k).2.2.2 = pg_fin 6 k) && ((List.range (pg_nf 6)).all fun j => decide (j = k) || decide ((pg_T 6 j).2.1 ≠ (pg_T 6 k).2.1))))) = true := by decide +kernel
set_option maxRecDepth 100000 in
theorem pg_kX_7 : (pg_is (pg_xp.getD 7 (0, 0, [])).1 (Cond.instantiable (pg_C 7) (pg_nf 7)) && (pg_is (pg_xp.getD 7 (0, 0, [])).2.1 (Cond.initialized (pg_C 7)) && ((List.range (pg_nf 7)).all fun k => pg_is ((pg_xp.getD 7 (0, 0, [])).2.2.getD k 0) (u_lay (pg_C 7) (pg_T 7) k)))) = true := by decide +kernel
set_option maxRecDepth 100000 in
theorem pg_kT_7 : ((List.range (pg_nf 7)).all fun k => decide (parseFieldDescriptor (pg_T 7 k).2.2.1 = some (pg_ty 7 k)) && (decide ((pg_T 7 k).1 = pg_C 7) && (decide ((pg_T 7 k).2.2.2 = pg_fin 7 k) && ((List.range (pg_nf 7)).all fun j => decide (j = k) || decide ((pg_T 7 j).2.1 ≠ (pg_T 7 k).2.1))))) = true := by decide +kernel
set_option maxRecDepth 100000 in
theorem pg_kX_8 : (pg_is (pg_xp.getD 8 (0, 0, [])).1 (Cond.instantiable (pg_C 8) (pg_nf 8)) && (pg_is (pg_xp.getD 8 (0, 0, [])).2.1 (Cond.initialized (pg_C 8)) && ((List.range (pg_nf 8)).all fun k => pg_is ((pg_xp.getD 8 (0, 0, [])).2.2.getD k 0) (u_lay (pg_C 8) (pg_T 8) k)))) = true := by decide +kernel
set_option maxRecDepth 100000 in
theorem pg_kT_8 : ((List.range (pg_nf 8)).all fun k => decide (parseFieldDescriptor (pg_T 8 k).2.2.1 = some (pg_ty 8 k)) && (decide ((pg_T 8 k).1 = pg_C 8) && (decide ((pg_T 8 k).2.2.2 = pg_fin 8 k) && ((List.range (pg_nf 8)).all fun j => decide (j = k) || decide ((pg_T 8 j).2.1 ≠ (pg_T 8 k).2.1))))) = true := by decide +kernel
set_option maxRecDepth 100000 in
theorem pg_kX_9 : (pg_is (pg_xp.getD 9 (0, 0, [])).1 (Cond.instantiable (pg_C 9) (pg_nf 9)) && (pg_is (pg_xp.getD 9 (0, 0, [])).2.1 (Cond.initialized (pg_C 9)) && ((List.range (pg_nf 9)).all fun k => pg_is ((pg_xp.getD 9 (0, 0, [])).2.2.getD k 0) (u_lay (pg_C 9) (pg_T 9) k)))) = true := by decide +kernel
set_option maxRecDepth 100000 in
theorem pg_kT_9 : ((List.range (pg_nf 9)).all fun k => decide (parseFieldDescriptor (pg_T 9 k).2.2.1 = some (pg_ty 9 k)) && (decide ((pg_T 9 k).1 = pg_C 9) && (decide ((pg_T 9 k).2.2.2 = pg_fin 9 k) && ((List.range (pg_nf 9)).all fun j => decide (j = k) || decide ((pg_T 9 j).2.1 ≠ (pg_T 9 k).2.1))))) = true := by decide +kernel
set_option maxRecDepth 100000 in
theorem pg_w0 : pg_is 82 (Cond.instanceMethod Lib.objectInit) = true := by decide +kernel
set_option maxRecDepth 100000 in
theorem pg_w1 : pg_is 511 (Cond.static Lib.Math.max.name) = true := by decide +kernel
set_option maxRecDepth 100000 in
theorem pg_w2 : pg_is 491 (Cond.static Lib.Math.min.name) = true := by decide +kernel
set_option maxRecDepth 100000 in
theorem pg_w3 : pg_is 566 (Cond.static arraycopyName) = true := by decide +kernel
set_option maxRecDepth 100000 in
theorem pg_w4 : pg_is 567 (Cond.native arraycopyName) = true := by decide +kernel
set_option maxRecDepth 100000 in
theorem pg_w5 : pg_is 74 (Cond.initialized "java/lang/Math") = true := by decide +kernel
set_option maxRecDepth 100000 in
theorem pg_w6 : pg_is 75 (Cond.initialized "java/lang/System") = true := by decide +kernel
set_option maxRecDepth 100000 in
theorem pg_w7 : pg_is 141 (Cond.arrayClass .int) = true := by decide +kernel
set_option maxRecDepth 100000 in
theorem pg_w8 : pg_is 142 (Cond.arrayClass .boolean) = true := by decide +kernel
set_option maxRecDepth 100000 in
theorem pg_w9 : pg_is 214 (Cond.arrayOver (.array .int)) = true := by decide +kernel
set_option maxRecDepth 100000 in
theorem pg_w10 : pg_is 1026 (Cond.constantLong (pg_cn 9) 197 5000) = true := by decide +kernel
set_option maxRecDepth 100000 in
theorem pg_u0 : pg_is 83 (Cond.code Lib.objectInit ⟨#[0xb1]⟩ 1 none) = true := by decide +kernel
set_option maxRecDepth 100000 in
theorem pg_u1 : pg_is 512 (Cond.code Lib.Math.max.name Lib.Math.max.code 2 (some .int)) = true := by decide +kernel
set_option maxRecDepth 100000 in
theorem pg_u2 : pg_is 492 (Cond.code Lib.Math.min.name Lib.Math.min.code 2 (some .int)) = true := by decide +kernel
