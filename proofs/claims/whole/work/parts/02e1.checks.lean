def pg_tb : List Cond := lw_tbl.filter goodWord
theorem pg_tb_of {w : Cond} (h : w ∈ lw_tbl) (g : goodWord w = true) : w ∈ pg_tb := List.mem_filter.mpr ⟨h, g⟩
theorem pg_tb_good {w : Cond} (h : w ∈ pg_tb) : (w.onTables && w.keeps) = true ∨ ∃ ty, w = .arrayClass ty := good_of_word (List.mem_filter.mp h).2
theorem pg_lmem {α : Type} {i : Nat} {a : α} : ∀ {l : List (Nat × α)}, l.lookup i = some a → (i, a) ∈ l
  | [], h => by simp at h
  | (j, x) :: l, h => by
    rw [List.lookup_cons] at h
    by_cases e : (i == j) = true
    · rw [e] at h
      simp at h e
      subst h
      subst e
      exact List.mem_cons_self
    · simp [e] at h
      exact List.mem_cons_of_mem _ (pg_lmem h)
theorem pg_use {α : Type} {l : List (Nat × α)} {P : Nat × α → Bool} (hc : l.all P = true) {i : Nat} {a : α} (h : l.lookup i = some a) : P (i, a) = true := List.all_eq_true.mp hc _ (pg_lmem h)
def pg_is (p : Nat) (w : Cond) : Bool := decide (lw_tbl[p]? = some w)
theorem pg_is_mem {p : Nat} {w : Cond} (h : pg_is p w = true) : w ∈ lw_tbl := List.mem_of_getElem? (of_decide_eq_true h)
def pg_T (ci : Nat) : u_T := (pg_cl.getD ci ("", fun _ => ("", "", "", false), 0)).2.1
def pg_C (ci : Nat) : String := (pg_cl.getD ci ("", fun _ => ("", "", "", false), 0)).1
def pg_fldp : List (List (Nat × Nat)) := [[(9, 90), (15, 94), (18, 98), (21, 102), (25, 108), (29, 115), (32, 122)], [(9, 172), (15, 175), (18, 177), (21, 178), (24, 182), (27, 183), (31, 186), (34, 188), (37, 117), (48, 100), (51, 96), (64, 111), (75, 104), (104, 125)], [(9, 251), (17, 255), (20, 258), (23, 259), (26, 261), (29, 262), (32, 263), (36, 266), (39, 268), (62, 184), (71, 113), (76, 179), (83, 120), (86, 106), (94, 174), (109, 220), (112, 228), (115, 224)], [(9, 295), (15, 296), (18, 297), (21, 298), (24, 299), (27, 300), (30, 301), (44, 265), (53, 253), (91, 225), (97, 229), (100, 221), (103, 260)], [(9, 215), (15, 216), (18, 218), (23, 222), (26, 226), (29, 230), (33, 173), (42, 176), (51, 92), (56, 112), (65, 119), (68, 105), (76, 180)], [(9, 324), (15, 326), (18, 327), (21, 328), (31, 264), (40, 252), (43, 256), (47, 217), (61, 219), (64, 223), (67, 227)], [(9, 345), (15, 347), (18, 348), (21, 349), (30, 116), (36, 103), (40, 99), (43, 95), (46, 123), (49, 110), (78, 93)], [(9, 149), (15, 150), (18, 151), (21, 152), (25, 153), (44, 114), (49, 121), (52, 97), (55, 101), (58, 107)], [(12, 359), (19, 360), (26, 361), (33, 362), (40, 363), (47, 364), (54, 365), (61, 366), (65, 367), (69, 368), (72, 369), (75, 370), (82, 109), (99, 91), (103, 118), (117, 124), (126, 154), (132, 181), (135, 185), (138, 187), (141, 189), (156, 267), (159, 269), (165, 254), (168, 257), (174, 302), (180, 325), (190, 329), (201, 346)], [(7, 769), (13, 770), (16, 771), (19, 772), (23, 773), (27, 775), (30, 776), (33, 777), (36, 778), (39, 779), (42, 780), (45, 781), (49, 782), (52, 783), (55, 784), (58, 785), (61, 786), (64, 787), (67, 789), (70, 790), (73, 791), (76, 792), (79, 795), (82, 796), (85, 797), (88, 798), (91, 799), (94, 800), (97, 801), (100, 802), (103, 774), (106, 766), (110, 767), (120, 768), (161, 788), (168, 793), (171, 794)], [], [], []]
set_option maxRecDepth 100000 in
theorem pg_kF_0 : ((pg_flds.getD 0 []).all fun e => pg_is (((pg_fldp.getD 0 []).lookup e.1).getD 0) (Cond.fieldLink (pg_cn 0) e.1 (pg_C e.2.1) (pg_T e.2.1 e.2.2).2.1 (pg_T e.2.1 e.2.2).2.2.1) && (decide (e.2.1 < 10) && decide (e.2.2 < pg_nf e.2.1))) = true := by decide +kernel
set_option maxRecDepth 100000 in
theorem pg_kF_1 : ((pg_flds.getD 1 []).all fun e => pg_is (((pg_fldp.getD 1 []).lookup e.1).getD 0) (Cond.fieldLink (pg_cn 1) e.1 (pg_C e.2.1) (pg_T e.2.1 e.2.2).2.1 (pg_T e.2.1 e.2.2).2.2.1) && (decide (e.2.1 < 10) && decide (e.2.2 < pg_nf e.2.1))) = true := by decide +kernel
set_option maxRecDepth 100000 in
theorem pg_kF_2 : ((pg_flds.getD 2 []).all fun e => pg_is (((pg_fldp.getD 2 []).lookup e.1).getD 0) (Cond.fieldLink (pg_cn 2) e.1 (pg_C e.2.1) (pg_T e.2.1 e.2.2).2.1 (pg_T e.2.1 e.2.2).2.2.1) && (decide (e.2.1 < 10) && decide (e.2.2 < pg_nf e.2.1))) = true := by decide +kernel
set_option maxRecDepth 100000 in
theorem pg_kF_3 : ((pg_flds.getD 3 []).all fun e => pg_is (((pg_fldp.getD 3 []).lookup e.1).getD 0) (Cond.fieldLink (pg_cn 3) e.1 (pg_C e.2.1) (pg_T e.2.1 e.2.2).2.1 (pg_T e.2.1 e.2.2).2.2.1) && (decide (e.2.1 < 10) && decide (e.2.2 < pg_nf e.2.1))) = true := by decide +kernel
set_option maxRecDepth 100000 in
theorem pg_kF_4 : ((pg_flds.getD 4 []).all fun e => pg_is (((pg_fldp.getD 4 []).lookup e.1).getD 0) (Cond.fieldLink (pg_cn 4) e.1 (pg_C e.2.1) (pg_T e.2.1 e.2.2).2.1 (pg_T e.2.1 e.2.2).2.2.1) && (decide (e.2.1 < 10) && decide (e.2.2 < pg_nf e.2.1))) = true := by decide +kernel
set_option maxRecDepth 100000 in
theorem pg_kF_5 : ((pg_flds.getD 5 []).all fun e => pg_is (((pg_fldp.getD 5 []).lookup e.1).getD 0) (Cond.fieldLink (pg_cn 5) e.1 (pg_C e.2.1) (pg_T e.2.1 e.2.2).2.1 (pg_T e.2.1 e.2.2).2.2.1) && (decide (e.2.1 < 10) && decide (e.2.2 < pg_nf e.2.1))) = true := by decide +kernel
set_option maxRecDepth 100000 in
theorem pg_kF_6 : ((pg_flds.getD 6 []).all fun e => pg_is (((pg_fldp.getD 6 []).lookup e.1).getD 0) (Cond.fieldLink (pg_cn 6) e.1 (pg_C e.2.1) (pg_T e.2.1 e.2.2).2.1 (pg_T e.2.1 e.2.2).2.2.1) && (decide (e.2.1 < 10) && decide (e.2.2 < pg_nf e.2.1))) = true := by decide +kernel
set_option maxRecDepth 100000 in
theorem pg_kF_7 : ((pg_flds.getD 7 []).all fun e => pg_is (((pg_fldp.getD 7 []).lookup e.1).getD 0) (Cond.fieldLink (pg_cn 7) e.1 (pg_C e.2.1) (pg_T e.2.1 e.2.2).2.1 (pg_T e.2.1 e.2.2).2.2.1) && (decide (e.2.1 < 10) && decide (e.2.2 < pg_nf e.2.1))) = true := by decide +kernel
set_option maxRecDepth 100000 in
theorem pg_kF_8 : ((pg_flds.getD 8 []).all fun e => pg_is (((pg_fldp.getD 8 []).lookup e.1).getD 0) (Cond.fieldLink (pg_cn 8) e.1 (pg_C e.2.1) (pg_T e.2.1 e.2.2).2.1 (pg_T e.2.1 e.2.2).2.2.1) && (decide (e.2.1 < 10) && decide (e.2.2 < pg_nf e.2.1))) = true := by decide +kernel
set_option maxRecDepth 100000 in
theorem pg_kF_9 : ((pg_flds.getD 9 []).all fun e => pg_is (((pg_fldp.getD 9 []).lookup e.1).getD 0) (Cond.fieldLink (pg_cn 9) e.1 (pg_C e.2.1) (pg_T e.2.1 e.2.2).2.1 (pg_T e.2.1 e.2.2).2.2.1) && (decide (e.2.1 < 10) && decide (e.2.2 < pg_nf e.2.1))) = true := by decide +kernel
set_option maxRecDepth 100000 in
theorem pg_kF_10 : ((pg_flds.getD 10 []).all fun e => pg_is (((pg_fldp.getD 10 []).lookup e.1).getD 0) (Cond.fieldLink (pg_cn 10) e.1 (pg_C e.2.1) (pg_T e.2.1 e.2.2).2.1 (pg_T e.2.1 e.2.2).2.2.1) && (decide (e.2.1 < 10) && decide (e.2.2 < pg_nf e.2.1))) = true := by decide +kernel
set_option maxRecDepth 100000 in
theorem pg_kF_11 : ((pg_flds.getD 11 []).all fun e => pg_is (((pg_fldp.getD 11 []).lookup e.1).getD 0) (Cond.fieldLink (pg_cn 11) e.1 (pg_C e.2.1) (pg_T e.2.1 e.2.2).2.1 (pg_T e.2.1 e.2.2).2.2.1) && (decide (e.2.1 < 10) && decide (e.2.2 < pg_nf e.2.1))) = true := by decide +kernel
set_option maxRecDepth 100000 in
theorem pg_kF_12 : ((pg_flds.getD 12 []).all fun e => pg_is (((pg_fldp.getD 12 []).lookup e.1).getD 0) (Cond.fieldLink (pg_cn 12) e.1 (pg_C e.2.1) (pg_T e.2.1 e.2.2).2.1 (pg_T e.2.1 e.2.2).2.2.1) && (decide (e.2.1 < 10) && decide (e.2.2 < pg_nf e.2.1))) = true := by decide +kernel
theorem pg_kF : ∀ o, ((pg_flds.getD o []).all fun e => pg_is (((pg_fldp.getD o []).lookup e.1).getD 0) (Cond.fieldLink (pg_cn o) e.1 (pg_C e.2.1) (pg_T e.2.1 e.2.2).2.1 (pg_T e.2.1 e.2.2).2.2.1) && (decide (e.2.1 < 10) && decide (e.2.2 < pg_nf e.2.1))) = true
  | 0 => pg_kF_0
  | 1 => pg_kF_1
  | 2 => pg_kF_2
  | 3 => pg_kF_3
  | 4 => pg_kF_4
  | 5 => pg_kF_5
  | 6 => pg_kF_6
  | 7 => pg_kF_7
  | 8 => pg_kF_8
  | 9 => pg_kF_9
  | 10 => pg_kF_10
  | 11 => pg_kF_11
  | 12 => pg_kF_12
  | _ + 13 => rfl
def pg_mthp : List (List (Nat × Nat)) := [[(3, 89)], [(3, 171), (42, 497), (54, 501), (60, 502), (67, 513), (71, 527), (79, 506), (83, 510), (89, 517), (95, 522), (98, 523), (101, 531)], [(3, 249), (42, 581), (46, 592), (50, 600), (54, 605), (58, 621), (65, 585), (79, 586), (90, 590), (97, 591), (103, 604), (118, 609), (122, 613), (125, 617), (129, 596)], [(3, 294), (34, 663), (38, 666), (49, 667), (56, 671), (60, 694), (63, 686), (72, 675), (76, 678), (79, 682), (82, 687), (85, 693), (106, 690)], [(3, 212), (38, 568), (45, 564), (59, 565), (72, 569), (79, 573)], [(3, 323), (25, 629), (36, 630), (52, 634), (56, 638)], [(3, 344), (24, 724), (52, 729), (56, 733), (60, 737), (64, 748), (68, 752), (72, 756), (81, 741), (84, 747), (90, 746)], [(3, 148), (28, 474), (32, 463), (36, 466), (40, 477), (62, 470), (68, 481), (74, 486), (78, 490)], [(3, 81), (11, 86), (18, 145), (25, 168), (32, 209), (39, 246), (46, 291), (53, 320), (60, 341), (78, 400), (86, 403), (89, 411), (93, 419), (96, 407), (106, 427), (110, 435), (113, 439), (120, 447), (123, 455), (129, 539), (144, 560), (148, 577), (152, 625), (162, 647), (172, 659), (177, 702), (183, 710), (186, 711), (193, 720), (197, 725), (202, 459), (204, 493)], [(1, 764), (113, 882), (116, 890), (123, 902), (127, 922), (131, 931), (135, 935), (139, 939), (142, 918), (145, 927), (148, 914), (151, 955), (154, 963), (158, 971), (164, 995), (174, 979), (177, 983), (180, 987), (183, 991), (187, 999), (190, 1003), (194, 1007), (199, 1027), (202, 1031), (205, 1051), (209, 1055), (212, 1059), (215, 1063)], [(9, 78), (12, 761), (13, 396), (17, 878), (18, 415), (22, 886), (23, 423), (26, 894), (27, 431), (30, 898), (31, 443), (35, 906), (36, 451), (39, 910), (40, 535), (43, 943), (44, 540), (47, 947), (48, 544), (51, 951), (52, 548), (55, 959), (56, 552), (59, 967), (60, 556), (63, 975), (64, 639), (67, 1010), (68, 643), (71, 1014), (72, 651), (75, 1018), (76, 655), (79, 1022), (80, 698), (83, 1035), (84, 706), (87, 1039), (88, 712), (91, 1043), (92, 716), (95, 1047)], [], []]
set_option maxRecDepth 100000 in
theorem pg_kM_0 : ((pg_mths.getD 0 []).all fun e => decide (e.2 < 142) && (if pg_kd e.2 = 2 then decide (0 = 10) || pg_is (((pg_mthp.getD 0 []).lookup e.1).getD 0) (Cond.methodLinkNest (pg_cn 0) e.1 (pg_name e.2) "LayerDrawing") else pg_is (((pg_mthp.getD 0 []).lookup e.1).getD 0) (Cond.methodLink (pg_cn 0) e.1 (pg_name e.2)))) = true := by decide +kernel
set_option maxRecDepth 100000 in
theorem pg_kM_1 : ((pg_mths.getD 1 []).all fun e => decide (e.2 < 142) && (if pg_kd e.2 = 2 then decide (1 = 10) || pg_is (((pg_mthp.getD 1 []).lookup e.1).getD 0) (Cond.methodLinkNest (pg_cn 1) e.1 (pg_name e.2) "LayerDrawing") else pg_is (((pg_mthp.getD 1 []).lookup e.1).getD 0) (Cond.methodLink (pg_cn 1) e.1 (pg_name e.2)))) = true := by decide +kernel
set_option maxRecDepth 100000 in
theorem pg_kM_2 : ((pg_mths.getD 2 []).all fun e => decide (e.2 < 142) && (if pg_kd e.2 = 2 then decide (2 = 10) || pg_is (((pg_mthp.getD 2 []).lookup e.1).getD 0) (Cond.methodLinkNest (pg_cn 2) e.1 (pg_name e.2) "LayerDrawing") else pg_is (((pg_mthp.getD 2 []).lookup e.1).getD 0) (Cond.methodLink (pg_cn 2) e.1 (pg_name e.2)))) = true := by decide +kernel
set_option maxRecDepth 100000 in
theorem pg_kM_3 : ((pg_mths.getD 3 []).all fun e => decide (e.2 < 142) && (if pg_kd e.2 = 2 then decide (3 = 10) || pg_is (((pg_mthp.getD 3 []).lookup e.1).getD 0) (Cond.methodLinkNest (pg_cn 3) e.1 (pg_name e.2) "LayerDrawing") else pg_is (((pg_mthp.getD 3 []).lookup e.1).getD 0) (Cond.methodLink (pg_cn 3) e.1 (pg_name e.2)))) = true := by decide +kernel
set_option maxRecDepth 100000 in
theorem pg_kM_4 : ((pg_mths.getD 4 []).all fun e => decide (e.2 < 142) && (if pg_kd e.2 = 2 then decide (4 = 10) || pg_is (((pg_mthp.getD 4 []).lookup e.1).getD 0) (Cond.methodLinkNest (pg_cn 4) e.1 (pg_name e.2) "LayerDrawing") else pg_is (((pg_mthp.getD 4 []).lookup e.1).getD 0) (Cond.methodLink (pg_cn 4) e.1 (pg_name e.2)))) = true := by decide +kernel
set_option maxRecDepth 100000 in
theorem pg_kM_5 : ((pg_mths.getD 5 []).all fun e => decide (e.2 < 142) && (if pg_kd e.2 = 2 then decide (5 = 10) || pg_is (((pg_mthp.getD 5 []).lookup e.1).getD 0) (Cond.methodLinkNest (pg_cn 5) e.1 (pg_name e.2) "LayerDrawing") else pg_is (((pg_mthp.getD 5 []).lookup e.1).getD 0) (Cond.methodLink (pg_cn 5) e.1 (pg_name e.2)))) = true := by decide +kernel
set_option maxRecDepth 100000 in
theorem pg_kM_6 : ((pg_mths.getD 6 []).all fun e => decide (e.2 < 142) && (if pg_kd e.2 = 2 then decide (6 = 10) || pg_is (((pg_mthp.getD 6 []).lookup e.1).getD 0) (Cond.methodLinkNest (pg_cn 6) e.1 (pg_name e.2) "LayerDrawing") else pg_is (((pg_mthp.getD 6 []).lookup e.1).getD 0) (Cond.methodLink (pg_cn 6) e.1 (pg_name e.2)))) = true := by decide +kernel
set_option maxRecDepth 100000 in
theorem pg_kM_7 : ((pg_mths.getD 7 []).all fun e => decide (e.2 < 142) && (if pg_kd e.2 = 2 then decide (7 = 10) || pg_is (((pg_mthp.getD 7 []).lookup e.1).getD 0) (Cond.methodLinkNest (pg_cn 7) e.1 (pg_name e.2) "LayerDrawing") else pg_is (((pg_mthp.getD 7 []).lookup e.1).getD 0) (Cond.methodLink (pg_cn 7) e.1 (pg_name e.2)))) = true := by decide +kernel
set_option maxRecDepth 100000 in
theorem pg_kM_8 : ((pg_mths.getD 8 []).all fun e => decide (e.2 < 142) && (if pg_kd e.2 = 2 then decide (8 = 10) || pg_is (((pg_mthp.getD 8 []).lookup e.1).getD 0) (Cond.methodLinkNest (pg_cn 8) e.1 (pg_name e.2) "LayerDrawing") else pg_is (((pg_mthp.getD 8 []).lookup e.1).getD 0) (Cond.methodLink (pg_cn 8) e.1 (pg_name e.2)))) = true := by decide +kernel
set_option maxRecDepth 100000 in
theorem pg_kM_9 : ((pg_mths.getD 9 []).all fun e => decide (e.2 < 142) && (if pg_kd e.2 = 2 then decide (9 = 10) || pg_is (((pg_mthp.getD 9 []).lookup e.1).getD 0) (Cond.methodLinkNest (pg_cn 9) e.1 (pg_name e.2) "LayerDrawing") else pg_is (((pg_mthp.getD 9 []).lookup e.1).getD 0) (Cond.methodLink (pg_cn 9) e.1 (pg_name e.2)))) = true := by decide +kernel
set_option maxRecDepth 100000 in
theorem pg_kM_10 : ((pg_mths.getD 10 []).all fun e => decide (e.2 < 142) && (if pg_kd e.2 = 2 then decide (10 = 10) || pg_is (((pg_mthp.getD 10 []).lookup e.1).getD 0) (Cond.methodLinkNest (pg_cn 10) e.1 (pg_name e.2) "LayerDrawing") else pg_is (((pg_mthp.getD 10 []).lookup e.1).getD 0) (Cond.methodLink (pg_cn 10) e.1 (pg_name e.2)))) = true := by decide +kernel
set_option maxRecDepth 100000 in
theorem pg_kM_11 : ((pg_mths.getD 11 []).all fun e => decide (e.2 < 142) && (if pg_kd e.2 = 2 then decide (11 = 10) || pg_is (((pg_mthp.getD 11 []).lookup e.1).getD 0) (Cond.methodLinkNest (pg_cn 11) e.1 (pg_name e.2) "LayerDrawing") else pg_is (((pg_mthp.getD 11 []).lookup e.1).getD 0) (Cond.methodLink (pg_cn 11) e.1 (pg_name e.2)))) = true := by decide +kernel
set_option maxRecDepth 100000 in
theorem pg_kM_12 : ((pg_mths.getD 12 []).all fun e => decide (e.2 < 142) && (if pg_kd e.2 = 2 then decide (12 = 10) || pg_is (((pg_mthp.getD 12 []).lookup e.1).getD 0) (Cond.methodLinkNest (pg_cn 12) e.1 (pg_name e.2) "LayerDrawing") else pg_is (((pg_mthp.getD 12 []).lookup e.1).getD 0) (Cond.methodLink (pg_cn 12) e.1 (pg_name e.2)))) = true := by decide +kernel
theorem pg_kM : ∀ o, ((pg_mths.getD o []).all fun e => decide (e.2 < 142) && (if pg_kd e.2 = 2 then decide (o = 10) || pg_is (((pg_mthp.getD o []).lookup e.1).getD 0) (Cond.methodLinkNest (pg_cn o) e.1 (pg_name e.2) "LayerDrawing") else pg_is (((pg_mthp.getD o []).lookup e.1).getD 0) (Cond.methodLink (pg_cn o) e.1 (pg_name e.2)))) = true
  | 0 => pg_kM_0
  | 1 => pg_kM_1
  | 2 => pg_kM_2
  | 3 => pg_kM_3
  | 4 => pg_kM_4
  | 5 => pg_kM_5
  | 6 => pg_kM_6
  | 7 => pg_kM_7
  | 8 => pg_kM_8
  | 9 => pg_kM_9
  | 10 => pg_kM_10
  | 11 => pg_kM_11
  | 12 => pg_kM_12
  | _ + 13 => rfl
def pg_newp : List (List (Nat × Nat)) := [[], [], [], [], [], [], [], [], [(9, 84), (16, 143), (23, 166), (30, 207), (37, 244), (44, 289), (51, 318), (58, 339)], [], [(7, 76), (10, 759)], [], []]
set_option maxRecDepth 100000 in
theorem pg_kN_0 : ((pg_news.getD 0 []).all fun e => pg_is (((pg_newp.getD 0 []).lookup e.1).getD 0) (Cond.classLink (pg_cn 0) e.1 (pg_C e.2)) && decide (e.2 < 10)) = true := by decide +kernel
set_option maxRecDepth 100000 in
theorem pg_kN_1 : ((pg_news.getD 1 []).all fun e => pg_is (((pg_newp.getD 1 []).lookup e.1).getD 0) (Cond.classLink (pg_cn 1) e.1 (pg_C e.2)) && decide (e.2 < 10)) = true := by decide +kernel
set_option maxRecDepth 100000 in
theorem pg_kN_2 : ((pg_news.getD 2 []).all fun e => pg_is (((pg_newp.getD 2 []).lookup e.1).getD 0) (Cond.classLink (pg_cn 2) e.1 (pg_C e.2)) && decide (e.2 < 10)) = true := by decide +kernel
set_option maxRecDepth 100000 in
theorem pg_kN_3 : ((pg_news.getD 3 []).all fun e => pg_is (((pg_newp.getD 3 []).lookup e.1).getD 0) (Cond.classLink (pg_cn 3) e.1 (pg_C e.2)) && decide (e.2 < 10)) = true := by decide +kernel
set_option maxRecDepth 100000 in
theorem pg_kN_4 : ((pg_news.getD 4 []).all fun e => pg_is (((pg_newp.getD 4 []).lookup e.1).getD 0) (Cond.classLink (pg_cn 4) e.1 (pg_C e.2)) && decide (e.2 < 10)) = true := by decide +kernel
set_option maxRecDepth 100000 in
theorem pg_kN_5 : ((pg_news.getD 5 []).all fun e => pg_is (((pg_newp.getD 5 []).lookup e.1).getD 0) (Cond.classLink (pg_cn 5) e.1 (pg_C e.2)) && decide (e.2 < 10)) = true := by decide +kernel
set_option maxRecDepth 100000 in
theorem pg_kN_6 : ((pg_news.getD 6 []).all fun e => pg_is (((pg_newp.getD 6 []).lookup e.1).getD 0) (Cond.classLink (pg_cn 6) e.1 (pg_C e.2)) && decide (e.2 < 10)) = true := by decide +kernel
set_option maxRecDepth 100000 in
theorem pg_kN_7 : ((pg_news.getD 7 []).all fun e => pg_is (((pg_newp.getD 7 []).lookup e.1).getD 0) (Cond.classLink (pg_cn 7) e.1 (pg_C e.2)) && decide (e.2 < 10)) = true := by decide +kernel
set_option maxRecDepth 100000 in
theorem pg_kN_8 : ((pg_news.getD 8 []).all fun e => pg_is (((pg_newp.getD 8 []).lookup e.1).getD 0) (Cond.classLink (pg_cn 8) e.1 (pg_C e.2)) && decide (e.2 < 10)) = true := by decide +kernel
set_option maxRecDepth 100000 in
theorem pg_kN_9 : ((pg_news.getD 9 []).all fun e => pg_is (((pg_newp.getD 9 []).lookup e.1).getD 0) (Cond.classLink (pg_cn 9) e.1 (pg_C e.2)) && decide (e.2 < 10)) = true := by decide +kernel
set_option maxRecDepth 100000 in
theorem pg_kN_10 : ((pg_news.getD 10 []).all fun e => pg_is (((pg_newp.getD 10 []).lookup e.1).getD 0) (Cond.classLink (pg_cn 10) e.1 (pg_C e.2)) && decide (e.2 < 10)) = true := by decide +kernel
set_option maxRecDepth 100000 in
theorem pg_kN_11 : ((pg_news.getD 11 []).all fun e => pg_is (((pg_newp.getD 11 []).lookup e.1).getD 0) (Cond.classLink (pg_cn 11) e.1 (pg_C e.2)) && decide (e.2 < 10)) = true := by decide +kernel
set_option maxRecDepth 100000 in
theorem pg_kN_12 : ((pg_news.getD 12 []).all fun e => pg_is (((pg_newp.getD 12 []).lookup e.1).getD 0) (Cond.classLink (pg_cn 12) e.1 (pg_C e.2)) && decide (e.2 < 10)) = true := by decide +kernel
theorem pg_kN : ∀ o, ((pg_news.getD o []).all fun e => pg_is (((pg_newp.getD o []).lookup e.1).getD 0) (Cond.classLink (pg_cn o) e.1 (pg_C e.2)) && decide (e.2 < 10)) = true
  | 0 => pg_kN_0
  | 1 => pg_kN_1
  | 2 => pg_kN_2
  | 3 => pg_kN_3
  | 4 => pg_kN_4
  | 5 => pg_kN_5
  | 6 => pg_kN_6
  | 7 => pg_kN_7
  | 8 => pg_kN_8
  | 9 => pg_kN_9
  | 10 => pg_kN_10
  | 11 => pg_kN_11
  | 12 => pg_kN_12
  | _ + 13 => rfl
def pg_grp : List (List (Nat × Nat)) := [[], [], [(15, 250)], [], [(21, 213)], [], [], [], [], [], [], [], []]
set_option maxRecDepth 100000 in
theorem pg_kG_0 : ((pg_grs.getD 0 []).all fun e => pg_is (((pg_grp.getD 0 []).lookup e.1).getD 0) (Cond.classLink (pg_cn 0) e.1 "[[I")) = true := by decide +kernel
set_option maxRecDepth 100000 in
theorem pg_kG_1 : ((pg_grs.getD 1 []).all fun e => pg_is (((pg_grp.getD 1 []).lookup e.1).getD 0) (Cond.classLink (pg_cn 1) e.1 "[[I")) = true := by decide +kernel
set_option maxRecDepth 100000 in
theorem pg_kG_2 : ((pg_grs.getD 2 []).all fun e => pg_is (((pg_grp.getD 2 []).lookup e.1).getD 0) (Cond.classLink (pg_cn 2) e.1 "[[I")) = true := by decide +kernel
set_option maxRecDepth 100000 in
theorem pg_kG_3 : ((pg_grs.getD 3 []).all fun e => pg_is (((pg_grp.getD 3 []).lookup e.1).getD 0) (Cond.classLink (pg_cn 3) e.1 "[[I")) = true := by decide +kernel
set_option maxRecDepth 100000 in
theorem pg_kG_4 : ((pg_grs.getD 4 []).all fun e => pg_is (((pg_grp.getD 4 []).lookup e.1).getD 0) (Cond.classLink (pg_cn 4) e.1 "[[I")) = true := by decide +kernel
set_option maxRecDepth 100000 in
theorem pg_kG_5 : ((pg_grs.getD 5 []).all fun e => pg_is (((pg_grp.getD 5 []).lookup e.1).getD 0) (Cond.classLink (pg_cn 5) e.1 "[[I")) = true := by decide +kernel
set_option maxRecDepth 100000 in
theorem pg_kG_6 : ((pg_grs.getD 6 []).all fun e => pg_is (((pg_grp.getD 6 []).lookup e.1).getD 0) (Cond.classLink (pg_cn 6) e.1 "[[I")) = true := by decide +kernel
set_option maxRecDepth 100000 in
theorem pg_kG_7 : ((pg_grs.getD 7 []).all fun e => pg_is (((pg_grp.getD 7 []).lookup e.1).getD 0) (Cond.classLink (pg_cn 7) e.1 "[[I")) = true := by decide +kernel
set_option maxRecDepth 100000 in
theorem pg_kG_8 : ((pg_grs.getD 8 []).all fun e => pg_is (((pg_grp.getD 8 []).lookup e.1).getD 0) (Cond.classLink (pg_cn 8) e.1 "[[I")) = true := by decide +kernel
set_option maxRecDepth 100000 in
theorem pg_kG_9 : ((pg_grs.getD 9 []).all fun e => pg_is (((pg_grp.getD 9 []).lookup e.1).getD 0) (Cond.classLink (pg_cn 9) e.1 "[[I")) = true := by decide +kernel
set_option maxRecDepth 100000 in
theorem pg_kG_10 : ((pg_grs.getD 10 []).all fun e => pg_is (((pg_grp.getD 10 []).lookup e.1).getD 0) (Cond.classLink (pg_cn 10) e.1 "[[I")) = true := by decide +kernel
set_option maxRecDepth 100000 in
theorem pg_kG_11 : ((pg_grs.getD 11 []).all fun e => pg_is (((pg_grp.getD 11 []).lookup e.1).getD 0) (Cond.classLink (pg_cn 11) e.1 "[[I")) = true := by decide +kernel
set_option maxRecDepth 100000 in
theorem pg_kG_12 : ((pg_grs.getD 12 []).all fun e => pg_is (((pg_grp.getD 12 []).lookup e.1).getD 0) (Cond.classLink (pg_cn 12) e.1 "[[I")) = true := by decide +kernel
theorem pg_kG : ∀ o, ((pg_grs.getD o []).all fun e => pg_is (((pg_grp.getD o []).lookup e.1).getD 0) (Cond.classLink (pg_cn o) e.1 "[[I")) = true
  | 0 => pg_kG_0
  | 1 => pg_kG_1
  | 2 => pg_kG_2
  | 3 => pg_kG_3
  | 4 => pg_kG_4
  | 5 => pg_kG_5
  | 6 => pg_kG_6
  | 7 => pg_kG_7
  | 8 => pg_kG_8
  | 9 => pg_kG_9
  | 10 => pg_kG_10
  | 11 => pg_kG_11
  | 12 => pg_kG_12
  | _ + 13 => rfl
def pg_ldcp : List (List (Nat × Nat)) := [[], [(94, 521)], [], [(71, 674)], [], [], [(89, 745)], [(43, 473), (73, 485)], [], [(48, 765), (126, 926)], [], [], []]
set_option maxRecDepth 100000 in
theorem pg_kL_0 : ((pg_ldcs.getD 0 []).all fun e => pg_is (((pg_ldcp.getD 0 []).lookup e.1).getD 0) (Cond.constant (pg_cn 0) e.1 e.2)) = true := by decide +kernel
set_option maxRecDepth 100000 in
theorem pg_kL_1 : ((pg_ldcs.getD 1 []).all fun e => pg_is (((pg_ldcp.getD 1 []).lookup e.1).getD 0) (Cond.constant (pg_cn 1) e.1 e.2)) = true := by decide +kernel
set_option maxRecDepth 100000 in
theorem pg_kL_2 : ((pg_ldcs.getD 2 []).all fun e => pg_is (((pg_ldcp.getD 2 []).lookup e.1).getD 0) (Cond.constant (pg_cn 2) e.1 e.2)) = true := by decide +kernel
set_option maxRecDepth 100000 in
theorem pg_kL_3 : ((pg_ldcs.getD 3 []).all fun e => pg_is (((pg_ldcp.getD 3 []).lookup e.1).getD 0) (Cond.constant (pg_cn 3) e.1 e.2)) = true := by decide +kernel
set_option maxRecDepth 100000 in
theorem pg_kL_4 : ((pg_ldcs.getD 4 []).all fun e => pg_is (((pg_ldcp.getD 4 []).lookup e.1).getD 0) (Cond.constant (pg_cn 4) e.1 e.2)) = true := by decide +kernel
set_option maxRecDepth 100000 in
theorem pg_kL_5 : ((pg_ldcs.getD 5 []).all fun e => pg_is (((pg_ldcp.getD 5 []).lookup e.1).getD 0) (Cond.constant (pg_cn 5) e.1 e.2)) = true := by decide +kernel
set_option maxRecDepth 100000 in
theorem pg_kL_6 : ((pg_ldcs.getD 6 []).all fun e => pg_is (((pg_ldcp.getD 6 []).lookup e.1).getD 0) (Cond.constant (pg_cn 6) e.1 e.2)) = true := by decide +kernel
set_option maxRecDepth 100000 in
theorem pg_kL_7 : ((pg_ldcs.getD 7 []).all fun e => pg_is (((pg_ldcp.getD 7 []).lookup e.1).getD 0) (Cond.constant (pg_cn 7) e.1 e.2)) = true := by decide +kernel
set_option maxRecDepth 100000 in
theorem pg_kL_8 : ((pg_ldcs.getD 8 []).all fun e => pg_is (((pg_ldcp.getD 8 []).lookup e.1).getD 0) (Cond.constant (pg_cn 8) e.1 e.2)) = true := by decide +kernel
set_option maxRecDepth 100000 in
theorem pg_kL_9 : ((pg_ldcs.getD 9 []).all fun e => pg_is (((pg_ldcp.getD 9 []).lookup e.1).getD 0) (Cond.constant (pg_cn 9) e.1 e.2)) = true := by decide +kernel
set_option maxRecDepth 100000 in
theorem pg_kL_10 : ((pg_ldcs.getD 10 []).all fun e => pg_is (((pg_ldcp.getD 10 []).lookup e.1).getD 0) (Cond.constant (pg_cn 10) e.1 e.2)) = true := by decide +kernel
set_option maxRecDepth 100000 in
theorem pg_kL_11 : ((pg_ldcs.getD 11 []).all fun e => pg_is (((pg_ldcp.getD 11 []).lookup e.1).getD 0) (Cond.constant (pg_cn 11) e.1 e.2)) = true := by decide +kernel
set_option maxRecDepth 100000 in
theorem pg_kL_12 : ((pg_ldcs.getD 12 []).all fun e => pg_is (((pg_ldcp.getD 12 []).lookup e.1).getD 0) (Cond.constant (pg_cn 12) e.1 e.2)) = true := by decide +kernel
theorem pg_kL : ∀ o, ((pg_ldcs.getD o []).all fun e => pg_is (((pg_ldcp.getD o []).lookup e.1).getD 0) (Cond.constant (pg_cn o) e.1 e.2)) = true
  | 0 => pg_kL_0
  | 1 => pg_kL_1
  | 2 => pg_kL_2
  | 3 => pg_kL_3
  | 4 => pg_kL_4
  | 5 => pg_kL_5
  | 6 => pg_kL_6
  | 7 => pg_kL_7
  | 8 => pg_kL_8
  | 9 => pg_kL_9
  | 10 => pg_kL_10
  | 11 => pg_kL_11
  | 12 => pg_kL_12
  | _ + 13 => rfl
def pg_spn (k : Nat) : MethodName := if k = 1 then Lib.objectInit else if k = 2 then Lib.Math.max.name else if k = 3 then Lib.Math.min.name else arraycopyName
def pg_spp : List (List (Nat × Nat)) := [[(3, 89)], [(3, 171), (42, 497), (54, 501), (60, 502), (67, 513), (71, 527), (79, 506), (83, 510), (89, 517), (95, 522), (98, 523), (101, 531)], [(3, 249), (42, 581), (46, 592), (50, 600), (54, 605), (58, 621), (65, 585), (79, 586), (90, 590), (97, 591), (103, 604), (118, 609), (122, 613), (125, 617), (129, 596)], [(3, 294), (34, 663), (38, 666), (49, 667), (56, 671), (60, 694), (63, 686), (72, 675), (76, 678), (79, 682), (82, 687), (85, 693), (106, 690)], [(3, 212), (38, 568), (45, 564), (59, 565), (72, 569), (79, 573)], [(3, 323), (25, 629), (36, 630), (52, 634), (56, 638)], [(3, 344), (24, 724), (52, 729), (56, 733), (60, 737), (64, 748), (68, 752), (72, 756), (81, 741), (84, 747), (90, 746)], [(3, 148), (28, 474), (32, 463), (36, 466), (40, 477), (62, 470), (68, 481), (74, 486), (78, 490)], [(3, 81), (11, 86), (18, 145), (25, 168), (32, 209), (39, 246), (46, 291), (53, 320), (60, 341), (78, 400), (86, 403), (89, 411), (93, 419), (96, 407), (106, 427), (110, 435), (113, 439), (120, 447), (123, 455), (129, 539), (144, 560), (148, 577), (152, 625), (162, 647), (172, 659), (177, 702), (183, 710), (186, 711), (193, 720), (197, 725), (202, 459), (204, 493)], [(1, 764), (113, 882), (116, 890), (123, 902), (127, 922), (131, 931), (135, 935), (139, 939), (142, 918), (145, 927), (148, 914), (151, 955), (154, 963), (158, 971), (164, 995), (174, 979), (177, 983), (180, 987), (183, 991), (187, 999), (190, 1003), (194, 1007), (199, 1027), (202, 1031), (205, 1051), (209, 1055), (212, 1059), (215, 1063)], [(9, 78), (12, 761), (13, 396), (17, 878), (18, 415), (22, 886), (23, 423), (26, 894), (27, 431), (30, 898), (31, 443), (35, 906), (36, 451), (39, 910), (40, 535), (43, 943), (44, 540), (47, 947), (48, 544), (51, 951), (52, 548), (55, 959), (56, 552), (59, 967), (60, 556), (63, 975), (64, 639), (67, 1010), (68, 643), (71, 1014), (72, 651), (75, 1018), (76, 655), (79, 1022), (80, 698), (83, 1035), (84, 706), (87, 1039), (88, 712), (91, 1043), (92, 716), (95, 1047)], [], []]
set_option maxRecDepth 100000 in
theorem pg_kS_0 : ((pg_sps.getD 0 []).all fun e => pg_is (((pg_spp.getD 0 []).lookup e.1).getD 0) (Cond.methodLink (pg_cn 0) e.1 (pg_spn e.2))) = true := by decide +kernel
set_option maxRecDepth 100000 in
theorem pg_kS_1 : ((pg_sps.getD 1 []).all fun e => pg_is (((pg_spp.getD 1 []).lookup e.1).getD 0) (Cond.methodLink (pg_cn 1) e.1 (pg_spn e.2))) = true := by decide +kernel
set_option maxRecDepth 100000 in
theorem pg_kS_2 : ((pg_sps.getD 2 []).all fun e => pg_is (((pg_spp.getD 2 []).lookup e.1).getD 0) (Cond.methodLink (pg_cn 2) e.1 (pg_spn e.2))) = true := by decide +kernel
set_option maxRecDepth 100000 in
theorem pg_kS_3 : ((pg_sps.getD 3 []).all fun e => pg_is (((pg_spp.getD 3 []).lookup e.1).getD 0) (Cond.methodLink (pg_cn 3) e.1 (pg_spn e.2))) = true := by decide +kernel
set_option maxRecDepth 100000 in
theorem pg_kS_4 : ((pg_sps.getD 4 []).all fun e => pg_is (((pg_spp.getD 4 []).lookup e.1).getD 0) (Cond.methodLink (pg_cn 4) e.1 (pg_spn e.2))) = true := by decide +kernel
set_option maxRecDepth 100000 in
theorem pg_kS_5 : ((pg_sps.getD 5 []).all fun e => pg_is (((pg_spp.getD 5 []).lookup e.1).getD 0) (Cond.methodLink (pg_cn 5) e.1 (pg_spn e.2))) = true := by decide +kernel
set_option maxRecDepth 100000 in
theorem pg_kS_6 : ((pg_sps.getD 6 []).all fun e => pg_is (((pg_spp.getD 6 []).lookup e.1).getD 0) (Cond.methodLink (pg_cn 6) e.1 (pg_spn e.2))) = true := by decide +kernel
set_option maxRecDepth 100000 in
theorem pg_kS_7 : ((pg_sps.getD 7 []).all fun e => pg_is (((pg_spp.getD 7 []).lookup e.1).getD 0) (Cond.methodLink (pg_cn 7) e.1 (pg_spn e.2))) = true := by decide +kernel
set_option maxRecDepth 100000 in
theorem pg_kS_8 : ((pg_sps.getD 8 []).all fun e => pg_is (((pg_spp.getD 8 []).lookup e.1).getD 0) (Cond.methodLink (pg_cn 8) e.1 (pg_spn e.2))) = true := by decide +kernel
set_option maxRecDepth 100000 in
theorem pg_kS_9 : ((pg_sps.getD 9 []).all fun e => pg_is (((pg_spp.getD 9 []).lookup e.1).getD 0) (Cond.methodLink (pg_cn 9) e.1 (pg_spn e.2))) = true := by decide +kernel
set_option maxRecDepth 100000 in
theorem pg_kS_10 : ((pg_sps.getD 10 []).all fun e => pg_is (((pg_spp.getD 10 []).lookup e.1).getD 0) (Cond.methodLink (pg_cn 10) e.1 (pg_spn e.2))) = true := by decide +kernel
set_option maxRecDepth 100000 in
theorem pg_kS_11 : ((pg_sps.getD 11 []).all fun e => pg_is (((pg_spp.getD 11 []).lookup e.1).getD 0) (Cond.methodLink (pg_cn 11) e.1 (pg_spn e.2))) = true := by decide +kernel
set_option maxRecDepth 100000 in
theorem pg_kS_12 : ((pg_sps.getD 12 []).all fun e => pg_is (((pg_spp.getD 12 []).lookup e.1).getD 0) (Cond.methodLink (pg_cn 12) e.1 (pg_spn e.2))) = true := by decide +kernel
theorem pg_kS : ∀ o, ((pg_sps.getD o []).all fun e => pg_is (((pg_spp.getD o []).lookup e.1).getD 0) (Cond.methodLink (pg_cn o) e.1 (pg_spn e.2))) = true
  | 0 => pg_kS_0
  | 1 => pg_kS_1
  | 2 => pg_kS_2
  | 3 => pg_kS_3
  | 4 => pg_kS_4
  | 5 => pg_kS_5
  | 6 => pg_kS_6
  | 7 => pg_kS_7
  | 8 => pg_kS_8
  | 9 => pg_kS_9
  | 10 => pg_kS_10
  | 11 => pg_kS_11
  | 12 => pg_kS_12
  | _ + 13 => rfl
