def lst_0 : List (Nat × Instr × Nat) := [(0, .aload_n 0, 1), (1, .invokespecial 1, 3), (4, .aload_n 0, 1), (5, .sipush 1600, 3), (8, .newarray .int, 2), (10, .putfield 9, 3), (13, .aload_n 0, 1), (14, .new 13, 3), (17, .dup, 1), (18, .invokespecial 15, 3), (21, .putfield 16, 3), (24, .aload_n 0, 1), (25, .new 20, 3), (28, .dup, 1), (29, .invokespecial 22, 3), (32, .putfield 23, 3), (35, .aload_n 0, 1), (36, .new 20, 3), (39, .dup, 1), (40, .invokespecial 22, 3), (43, .putfield 27, 3), (46, .aload_n 0, 1), (47, .new 30, 3), (50, .dup, 1), (51, .invokespecial 32, 3), (54, .putfield 33, 3), (57, .aload_n 0, 1), (58, .new 37, 3), (61, .dup, 1), (62, .invokespecial 39, 3), (65, .putfield 40, 3), (68, .aload_n 0, 1), (69, .new 44, 3), (72, .dup, 1), (73, .invokespecial 46, 3), (76, .putfield 47, 3), (79, .aload_n 0, 1), (80, .iconst 3, 1), (81, .anewarray 30, 3), (84, .putfield 51, 3), (87, .aload_n 0, 1), (88, .iconst 5, 1), (89, .newarray .int, 2), (91, .putfield 55, 3), (94, .aload_n 0, 1), (95, .iconst 5, 1), (96, .newarray .int, 2), (98, .putfield 58, 3), (101, .aload_n 0, 1), (102, .bipush 36, 2), (104, .newarray .int, 2), (106, .putfield 61, 3), (109, .aload_n 0, 1), (110, .bipush 36, 2), (112, .newarray .int, 2), (114, .putfield 64, 3), (117, .aload_n 0, 1), (118, .new 67, 3), (121, .dup, 1), (122, .invokespecial 69, 3), (125, .putfield 70, 3), (128, .iconst 0, 1), (129, .istore_n 1, 1), (130, .iload_n 1, 1), (131, .iconst 3, 1), (132, .if_icmp .ge 22, 3), (135, .aload_n 0, 1), (136, .getfield 51, 3), (139, .iload_n 1, 1), (140, .new 30, 3), (143, .dup, 1), (144, .invokespecial 32, 3), (147, .aastore, 1), (148, .iinc 1 1, 3), (151, .goto (-21), 3), (154, .return_, 1)]
def I_0 : ra_I := (lst_0, fl_8, kt_8, kl_8, nl_8, ql_8, ml_8, ol_8, al_8, mml_8)
theorem dc_0 : ∀ q ∈ lst_0, decode mt_0.2.1 q.1 = .ok (q.2.1, q.2.2) := by decide +kernel
theorem oI_0 : ra_okI pT mt_0.1.cls "BathWater$Scene" vwCl pNW pMT mt_0.2.1 I_0 := ⟨dc_0, lnk_8⟩
set_option maxRecDepth 100000 in
theorem oM_0 : pMT[0]? = some mt_0 := rfl
def lst_1 : List (Nat × Instr × Nat) := [(0, .aload_n 0, 1), (1, .invokespecial 3, 3), (4, .aload_n 0, 1), (5, .new 9, 3), (8, .dup, 1), (9, .invokespecial 11, 3), (12, .putfield 12, 3), (15, .aload_n 0, 1), (16, .iconst 5, 1), (17, .newarray .long, 2), (19, .putfield 18, 3), (22, .aload_n 0, 1), (23, .new 22, 3), (26, .dup, 1), (27, .invokespecial 24, 3), (30, .putfield 25, 3), (33, .aload_n 0, 1), (34, .iconst (-1), 1), (35, .putfield 29, 3), (38, .return_, 1)]
def I_1 : ra_I := (lst_1, fl_5, kt_5, kl_5, nl_5, ql_5, ml_5, ol_5, al_5, mml_5)
theorem dc_1 : ∀ q ∈ lst_1, decode mt_1.2.1 q.1 = .ok (q.2.1, q.2.2) := by decide +kernel
theorem oI_1 : ra_okI pT mt_1.1.cls "BathWater$Scene" vwCl pNW pMT mt_1.2.1 I_1 := ⟨dc_1, lnk_5⟩
set_option maxRecDepth 100000 in
theorem oM_1 : pMT[1]? = some mt_1 := rfl
def lst_2 : List (Nat × Instr × Nat) := [(0, .aload_n 0, 1), (1, .invokespecial 3, 3), (4, .aload_n 0, 1), (5, .sipush 1601, 3), (8, .newarray .int, 2), (10, .putfield 9, 3), (13, .aload_n 0, 1), (14, .sipush 1601, 3), (17, .newarray .int, 2), (19, .putfield 15, 3), (22, .aload_n 0, 1), (23, .sipush 1601, 3), (26, .newarray .long, 2), (28, .putfield 18, 3), (31, .return_, 1)]
def I_2 : ra_I := (lst_2, fl_7, kt_7, kl_7, nl_7, ql_7, ml_7, ol_7, al_7, mml_7)
theorem dc_2 : ∀ q ∈ lst_2, decode mt_2.2.1 q.1 = .ok (q.2.1, q.2.2) := by decide +kernel
theorem oI_2 : ra_okI pT mt_2.1.cls "BathWater$Scene" vwCl pNW pMT mt_2.2.1 I_2 := ⟨dc_2, lnk_7⟩
set_option maxRecDepth 100000 in
theorem oM_2 : pMT[2]? = some mt_2 := rfl
def lst_3 : List (Nat × Instr × Nat) := [(0, .aload_n 0, 1), (1, .invokespecial 3, 3), (4, .aload_n 0, 1), (5, .new 9, 3), (8, .dup, 1), (9, .invokespecial 11, 3), (12, .putfield 12, 3), (15, .aload_n 0, 1), (16, .iconst 5, 1), (17, .newarray .int, 2), (19, .putfield 18, 3), (22, .aload_n 0, 1), (23, .new 22, 3), (26, .dup, 1), (27, .invokespecial 24, 3), (30, .putfield 25, 3), (33, .aload_n 0, 1), (34, .invokevirtual 29, 3), (37, .return_, 1)]
def I_3 : ra_I := (lst_3, fl_4, kt_4, kl_4, nl_4, ql_4, ml_4, ol_4, al_4, mml_4)
theorem dc_3 : ∀ q ∈ lst_3, decode mt_3.2.1 q.1 = .ok (q.2.1, q.2.2) := by decide +kernel
theorem oI_3 : ra_okI pT mt_3.1.cls "BathWater$Scene" vwCl pNW pMT mt_3.2.1 I_3 := ⟨dc_3, lnk_4⟩
set_option maxRecDepth 100000 in
theorem oM_3 : pMT[3]? = some mt_3 := rfl
def lst_4 : List (Nat × Instr × Nat) := [(0, .aload_n 0, 1), (1, .invokespecial 3, 3), (4, .aload_n 0, 1), (5, .bipush 12, 2), (7, .newarray .int, 2), (9, .putfield 9, 3), (12, .aload_n 0, 1), (13, .iconst 5, 1), (14, .newarray .int, 2), (16, .putfield 15, 3), (19, .aload_n 0, 1), (20, .iconst 5, 1), (21, .newarray .int, 2), (23, .putfield 18, 3), (26, .aload_n 0, 1), (27, .iconst 5, 1), (28, .newarray .int, 2), (30, .putfield 21, 3), (33, .aload_n 0, 1), (34, .invokevirtual 24, 3), (37, .return_, 1)]
def I_4 : ra_I := (lst_4, fl_6, kt_6, kl_6, nl_6, ql_6, ml_6, ol_6, al_6, mml_6)
theorem dc_4 : ∀ q ∈ lst_4, decode mt_4.2.1 q.1 = .ok (q.2.1, q.2.2) := by decide +kernel
theorem oI_4 : ra_okI pT mt_4.1.cls "BathWater$Scene" vwCl pNW pMT mt_4.2.1 I_4 := ⟨dc_4, lnk_6⟩
set_option maxRecDepth 100000 in
theorem oM_4 : pMT[4]? = some mt_4 := rfl
def lst_5 : List (Nat × Instr × Nat) := [(0, .aload_n 0, 1), (1, .getfield 9, 3), (4, .iconst 0, 1), (5, .invokestatic 27, 3), (8, .aload_n 0, 1), (9, .getfield 15, 3), (12, .iconst (-1), 1), (13, .invokestatic 27, 3), (16, .aload_n 0, 1), (17, .getfield 18, 3), (20, .iconst 0, 1), (21, .invokestatic 27, 3), (24, .aload_n 0, 1), (25, .getfield 21, 3), (28, .iconst 0, 1), (29, .invokestatic 27, 3), (32, .aload_n 0, 1), (33, .iconst 0, 1), (34, .putfield 33, 3), (37, .aload_n 0, 1), (38, .iconst 0, 1), (39, .putfield 37, 3), (42, .return_, 1)]
def I_5 : ra_I := (lst_5, fl_6, kt_6, kl_6, nl_6, ql_6, ml_6, ol_6, al_6, mml_6)
theorem dc_5 : ∀ q ∈ lst_5, decode mt_5.2.1 q.1 = .ok (q.2.1, q.2.2) := by decide +kernel
theorem oI_5 : ra_okI pT mt_5.1.cls "BathWater$Scene" vwCl pNW pMT mt_5.2.1 I_5 := ⟨dc_5, lnk_6⟩
set_option maxRecDepth 100000 in
theorem oM_5 : pMT[5]? = some mt_5 := rfl
def lst_6 : List (Nat × Instr × Nat) := [(0, .iconst 0, 1), (1, .istore_n 2, 1), (2, .aload_n 0, 1), (3, .arraylength, 1), (4, .istore_n 3, 1), (5, .iload_n 2, 1), (6, .iload_n 3, 1), (7, .if_icmp .ge 13, 3), (10, .aload_n 0, 1), (11, .iload_n 2, 1), (12, .iload_n 1, 1), (13, .iastore, 1), (14, .iinc 2 1, 3), (17, .goto (-12), 3), (20, .return_, 1)]
def I_6 : ra_I := (lst_6, fl_11, kt_11, kl_11, nl_11, ql_11, ml_11, ol_11, al_11, mml_11)
theorem dc_6 : ∀ q ∈ lst_6, decode mt_6.2.1 q.1 = .ok (q.2.1, q.2.2) := by decide +kernel
theorem oI_6 : ra_okI pT mt_6.1.cls "BathWater$Scene" vwCl pNW pMT mt_6.2.1 I_6 := ⟨dc_6, lnk_11⟩
set_option maxRecDepth 100000 in
theorem oM_6 : pMT[6]? = some mt_6 := rfl
def lst_7 : List (Nat × Instr × Nat) := [(0, .aload_n 0, 1), (1, .invokespecial 3, 3), (4, .aload_n 0, 1), (5, .sipush 320, 3), (8, .newarray .int, 2), (10, .putfield 9, 3), (13, .aload_n 0, 1), (14, .sipush 320, 3), (17, .newarray .int, 2), (19, .putfield 15, 3), (22, .aload_n 0, 1), (23, .bipush 30, 2), (25, .newarray .int, 2), (27, .putfield 18, 3), (30, .return_, 1)]
def I_7 : ra_I := (lst_7, fl_3, kt_3, kl_3, nl_3, ql_3, ml_3, ol_3, al_3, mml_3)
theorem dc_7 : ∀ q ∈ lst_7, decode mt_7.2.1 q.1 = .ok (q.2.1, q.2.2) := by decide +kernel
theorem oI_7 : ra_okI pT mt_7.1.cls "BathWater$Scene" vwCl pNW pMT mt_7.2.1 I_7 := ⟨dc_7, lnk_3⟩
set_option maxRecDepth 100000 in
theorem oM_7 : pMT[7]? = some mt_7 := rfl
def lst_8 : List (Nat × Instr × Nat) := [(0, .aload_n 0, 1), (1, .getfield 12, 3), (4, .invokevirtual 32, 3), (7, .aload_n 0, 1), (8, .getfield 25, 3), (11, .invokevirtual 33, 3), (14, .aload_n 0, 1), (15, .bipush 6, 2), (17, .putfield 34, 3), (20, .aload_n 0, 1), (21, .bipush 9, 2), (23, .putfield 38, 3), (26, .aload_n 0, 1), (27, .iconst 0, 1), (28, .putfield 41, 3), (31, .aload_n 0, 1), (32, .iconst 0, 1), (33, .putfield 44, 3), (36, .aload_n 0, 1), (37, .iconst 0, 1), (38, .putfield 47, 3), (41, .return_, 1)]
def I_8 : ra_I := (lst_8, fl_4, kt_4, kl_4, nl_4, ql_4, ml_4, ol_4, al_4, mml_4)
theorem dc_8 : ∀ q ∈ lst_8, decode mt_8.2.1 q.1 = .ok (q.2.1, q.2.2) := by decide +kernel
theorem oI_8 : ra_okI pT mt_8.1.cls "BathWater$Scene" vwCl pNW pMT mt_8.2.1 I_8 := ⟨dc_8, lnk_4⟩
set_option maxRecDepth 100000 in
theorem oM_8 : pMT[8]? = some mt_8 := rfl
def lst_9 : List (Nat × Instr × Nat) := [(0, .aload_n 0, 1), (1, .iconst 0, 1), (2, .putfield 21, 3), (5, .aload_n 0, 1), (6, .iconst 0, 1), (7, .putfield 25, 3), (10, .aload_n 0, 1), (11, .iconst 0, 1), (12, .putfield 28, 3), (15, .return_, 1)]
def I_9 : ra_I := (lst_9, fl_3, kt_3, kl_3, nl_3, ql_3, ml_3, ol_3, al_3, mml_3)
theorem dc_9 : ∀ q ∈ lst_9, decode mt_9.2.1 q.1 = .ok (q.2.1, q.2.2) := by decide +kernel
theorem oI_9 : ra_okI pT mt_9.1.cls "BathWater$Scene" vwCl pNW pMT mt_9.2.1 I_9 := ⟨dc_9, lnk_3⟩
set_option maxRecDepth 100000 in
theorem oM_9 : pMT[9]? = some mt_9 := rfl
def lst_10 : List (Nat × Instr × Nat) := [(0, .aload_n 0, 1), (1, .invokespecial 3, 3), (4, .aload_n 0, 1), (5, .bipush 41, 2), (7, .anewarray 11, 3), (10, .putfield 13, 3), (13, .iconst 0, 1), (14, .istore_n 1, 1), (15, .iload_n 1, 1), (16, .bipush 41, 2), (18, .if_icmp .ge 22, 3), (21, .aload_n 0, 1), (22, .getfield 13, 3), (25, .iload_n 1, 1), (26, .new 11, 3), (29, .dup, 1), (30, .invokespecial 17, 3), (33, .aastore, 1), (34, .iinc 1 1, 3), (37, .goto (-22), 3), (40, .return_, 1)]
def I_10 : ra_I := (lst_10, fl_0, kt_0, kl_0, nl_0, ql_0, ml_0, ol_0, al_0, mml_0)
theorem dc_10 : ∀ q ∈ lst_10, decode mt_10.2.1 q.1 = .ok (q.2.1, q.2.2) := by decide +kernel
theorem oI_10 : ra_okI pT mt_10.1.cls "BathWater$Scene" vwCl pNW pMT mt_10.2.1 I_10 := ⟨dc_10, lnk_0⟩
set_option maxRecDepth 100000 in
theorem oM_10 : pMT[10]? = some mt_10 := rfl
def lst_11 : List (Nat × Instr × Nat) := [(0, .aload_n 0, 1), (1, .invokespecial 3, 3), (4, .aload_n 0, 1), (5, .new 9, 3), (8, .dup, 1), (9, .invokespecial 11, 3), (12, .putfield 12, 3), (15, .aload_n 0, 1), (16, .new 18, 3), (19, .dup, 1), (20, .invokespecial 20, 3), (23, .putfield 21, 3), (26, .aload_n 0, 1), (27, .iconst 5, 1), (28, .newarray .int, 2), (30, .putfield 25, 3), (33, .aload_n 0, 1), (34, .bipush 12, 2), (36, .newarray .int, 2), (38, .putfield 29, 3), (41, .aload_n 0, 1), (42, .bipush 12, 2), (44, .newarray .int, 2), (46, .putfield 32, 3), (49, .aload_n 0, 1), (50, .bipush 12, 2), (52, .newarray .int, 2), (54, .putfield 35, 3), (57, .aload_n 0, 1), (58, .bipush 16, 2), (60, .newarray .int, 2), (62, .putfield 38, 3), (65, .return_, 1)]
def I_11 : ra_I := (lst_11, fl_1, kt_1, kl_1, nl_1, ql_1, ml_1, ol_1, al_1, mml_1)
theorem dc_11 : ∀ q ∈ lst_11, decode mt_11.2.1 q.1 = .ok (q.2.1, q.2.2) := by decide +kernel
theorem oI_11 : ra_okI pT mt_11.1.cls "BathWater$Scene" vwCl pNW pMT mt_11.2.1 I_11 := ⟨dc_11, lnk_1⟩
set_option maxRecDepth 100000 in
theorem oM_11 : pMT[11]? = some mt_11 := rfl
def lst_12 : List (Nat × Instr × Nat) := [(0, .aload_n 0, 1), (1, .invokespecial 3, 3), (4, .aload_n 0, 1), (5, .bipush 30, 2), (7, .newarray .int, 2), (9, .putfield 9, 3), (12, .aload_n 0, 1), (13, .bipush 30, 2), (15, .newarray .int, 2), (17, .putfield 15, 3), (20, .aload_n 0, 1), (21, .bipush 30, 2), (23, .newarray .int, 2), (25, .putfield 18, 3), (28, .aload_n 0, 1), (29, .bipush 30, 2), (31, .newarray .boolean, 2), (33, .putfield 21, 3), (36, .aload_n 0, 1), (37, .bipush 30, 2), (39, .newarray .int, 2), (41, .putfield 25, 3), (44, .aload_n 0, 1), (45, .bipush 30, 2), (47, .newarray .int, 2), (49, .putfield 28, 3), (52, .aload_n 0, 1), (53, .sipush 1200, 3), (56, .newarray .int, 2), (58, .putfield 31, 3), (61, .aload_n 0, 1), (62, .sipush 1189, 3), (65, .newarray .int, 2), (67, .putfield 34, 3), (70, .return_, 1)]
def I_12 : ra_I := (lst_12, fl_2, kt_2, kl_2, nl_2, ql_2, ml_2, ol_2, al_2, mml_2)
theorem dc_12 : ∀ q ∈ lst_12, decode mt_12.2.1 q.1 = .ok (q.2.1, q.2.2) := by decide +kernel
theorem oI_12 : ra_okI pT mt_12.1.cls "BathWater$Scene" vwCl pNW pMT mt_12.2.1 I_12 := ⟨dc_12, lnk_2⟩
set_option maxRecDepth 100000 in
theorem oM_12 : pMT[12]? = some mt_12 := rfl
def lst_13 : List (Nat × Instr × Nat) := [(0, .aload_n 0, 1), (1, .getfield 74, 3), (4, .bipush 20, 2), (6, .iadd, 1), (7, .sipush 1600, 3), (10, .if_icmp .le 5, 3), (13, .iconst (-1), 1), (14, .ireturn, 1), (15, .aload_n 0, 1), (16, .iload_n 1, 1), (17, .invokevirtual 78, 3), (20, .aload_n 0, 1), (21, .iload_n 2, 1), (22, .invokevirtual 78, 3), (25, .aload_n 0, 1), (26, .iload_n 3, 1), (27, .invokevirtual 78, 3), (30, .aload_n 0, 1), (31, .iload 4, 2), (33, .invokevirtual 78, 3), (36, .aload_n 0, 1), (37, .iload 5, 2), (39, .invokevirtual 78, 3), (42, .aload_n 0, 1), (43, .getfield 74, 3), (46, .ireturn, 1)]
def I_13 : ra_I := (lst_13, fl_8, kt_8, kl_8, nl_8, ql_8, ml_8, ol_8, al_8, mml_8)
theorem dc_13 : ∀ q ∈ lst_13, decode mt_13.2.1 q.1 = .ok (q.2.1, q.2.2) := by decide +kernel
theorem oI_13 : ra_okI pT mt_13.1.cls "BathWater$Scene" vwCl pNW pMT mt_13.2.1 I_13 := ⟨dc_13, lnk_8⟩
set_option maxRecDepth 100000 in
theorem oM_13 : pMT[13]? = some mt_13 := rfl
def lst_14 : List (Nat × Instr × Nat) := [(0, .bipush 24, 2), (2, .istore_n 2, 1), (3, .iload_n 2, 1), (4, .ifCond .lt 45, 3), (7, .aload_n 0, 1), (8, .getfield 74, 3), (11, .sipush 1600, 3), (14, .if_icmp .ge 35, 3), (17, .aload_n 0, 1), (18, .getfield 9, 3), (21, .aload_n 0, 1), (22, .getfield 74, 3), (25, .iload_n 1, 1), (26, .iload_n 2, 1), (27, .iushr, 1), (28, .sipush 255, 3), (31, .iand, 1), (32, .iastore, 1), (33, .aload_n 0, 1), (34, .dup, 1), (35, .getfield 74, 3), (38, .iconst 1, 1), (39, .iadd, 1), (40, .putfield 74, 3), (43, .iinc 2 (-8), 3), (46, .goto (-43), 3), (49, .return_, 1)]
def I_14 : ra_I := (lst_14, fl_8, kt_8, kl_8, nl_8, ql_8, ml_8, ol_8, al_8, mml_8)
theorem dc_14 : ∀ q ∈ lst_14, decode mt_14.2.1 q.1 = .ok (q.2.1, q.2.2) := by decide +kernel
theorem oI_14 : ra_okI pT mt_14.1.cls "BathWater$Scene" vwCl pNW pMT mt_14.2.1 I_14 := ⟨dc_14, lnk_8⟩
set_option maxRecDepth 100000 in
theorem oM_14 : pMT[14]? = some mt_14 := rfl
def lst_15 : List (Nat × Instr × Nat) := [(0, .iload_n 1, 1), (1, .ifCond .lt 11, 3), (4, .iload_n 1, 1), (5, .aload_n 0, 1), (6, .getfield 74, 3), (9, .if_icmp .le 5, 3), (12, .iconst (-1), 1), (13, .ireturn, 1), (14, .aload_n 0, 1), (15, .iload_n 1, 1), (16, .putfield 74, 3), (19, .iload_n 1, 1), (20, .ireturn, 1)]
def I_15 : ra_I := (lst_15, fl_8, kt_8, kl_8, nl_8, ql_8, ml_8, ol_8, al_8, mml_8)
theorem dc_15 : ∀ q ∈ lst_15, decode mt_15.2.1 q.1 = .ok (q.2.1, q.2.2) := by decide +kernel
theorem oI_15 : ra_okI pT mt_15.1.cls "BathWater$Scene" vwCl pNW pMT mt_15.2.1 I_15 := ⟨dc_15, lnk_8⟩
set_option maxRecDepth 100000 in
theorem oM_15 : pMT[15]? = some mt_15 := rfl
def lst_16 : List (Nat × Instr × Nat) := [(0, .aload_n 0, 1), (1, .getfield 16, 3), (4, .aload_n 0, 1), (5, .getfield 9, 3), (8, .aload_n 0, 1), (9, .getfield 74, 3), (12, .aload_n 0, 1), (13, .getfield 27, 3), (16, .invokevirtual 82, 3), (19, .ifCond .ne 5, 3), (22, .iconst (-1), 1), (23, .ireturn, 1), (24, .aload_n 0, 1), (25, .getfield 23, 3), (28, .astore_n 1, 1), (29, .aload_n 0, 1), (30, .aload_n 0, 1), (31, .getfield 27, 3), (34, .putfield 23, 3), (37, .aload_n 0, 1), (38, .aload_n 1, 1), (39, .putfield 27, 3), (42, .aload_n 0, 1), (43, .iconst 0, 1), (44, .putfield 74, 3), (47, .aload_n 0, 1), (48, .invokevirtual 86, 3), (51, .aload_n 0, 1), (52, .getfield 23, 3), (55, .getfield 89, 3), (58, .ireturn, 1)]
def I_16 : ra_I := (lst_16, fl_8, kt_8, kl_8, nl_8, ql_8, ml_8, ol_8, al_8, mml_8)
theorem dc_16 : ∀ q ∈ lst_16, decode mt_16.2.1 q.1 = .ok (q.2.1, q.2.2) := by decide +kernel
theorem oI_16 : ra_okI pT mt_16.1.cls "BathWater$Scene" vwCl pNW pMT mt_16.2.1 I_16 := ⟨dc_16, lnk_8⟩
set_option maxRecDepth 100000 in
theorem oM_16 : pMT[16]? = some mt_16 := rfl
def lst_17 : List (Nat × Instr × Nat) := [(0, .aload_n 0, 1), (1, .getfield 12, 3), (4, .aload_n 1, 1), (5, .iload_n 2, 1), (6, .aload_n 1, 1), (7, .arraylength, 1), (8, .invokestatic 33, 3), (11, .invokevirtual 39, 3), (14, .aload_n 0, 1), (15, .aload_n 3, 1), (16, .putfield 25, 3), (19, .aload_n 0, 1), (20, .getfield 25, 3), (23, .invokevirtual 43, 3), (26, .aload_n 0, 1), (27, .iconst 0, 1), (28, .putfield 46, 3), (31, .aload_n 0, 1), (32, .iconst 0, 1), (33, .putfield 49, 3), (36, .aload_n 0, 1), (37, .iconst 0, 1), (38, .putfield 52, 3), (41, .aload_n 0, 1), (42, .iconst (-1), 1), (43, .putfield 29, 3), (46, .aload_n 0, 1), (47, .iconst (-1), 1), (48, .putfield 55, 3), (51, .aload_n 0, 1), (52, .invokevirtual 58, 3), (55, .iconst 0, 1), (56, .istore 4, 2), (58, .iload 4, 2), (60, .sipush 1600, 3), (63, .if_icmp .gt 29, 3), (66, .aload_n 0, 1), (67, .getfield 61, 3), (70, .bipush 29, 2), (72, .if_icmp .eq 20, 3), (75, .aload_n 0, 1), (76, .getfield 52, 3), (79, .ifCond .ne 13, 3), (82, .aload_n 0, 1), (83, .invokevirtual 64, 3), (86, .iinc 4 1, 3), (89, .goto (-31), 3), (92, .aload_n 0, 1), (93, .getfield 52, 3), (96, .ifCond .ne 7, 3), (99, .iconst 1, 1), (100, .goto 4, 3), (103, .iconst 0, 1), (104, .ireturn, 1)]
def I_17 : ra_I := (lst_17, fl_5, kt_5, kl_5, nl_5, ql_5, ml_5, ol_5, al_5, mml_5)
theorem dc_17 : ∀ q ∈ lst_17, decode mt_17.2.1 q.1 = .ok (q.2.1, q.2.2) := by decide +kernel
theorem oI_17 : ra_okI pT mt_17.1.cls "BathWater$Scene" vwCl pNW pMT mt_17.2.1 I_17 := ⟨dc_17, lnk_5⟩
set_option maxRecDepth 100000 in
theorem oM_17 : pMT[17]? = some mt_17 := rfl
def lst_19 : List (Nat × Instr × Nat) := [(0, .aload_n 0, 1), (1, .iconst 0, 1), (2, .putfield 22, 3), (5, .iconst 0, 1), (6, .istore_n 3, 1), (7, .iconst 0, 1), (8, .istore 4, 2), (10, .iload 4, 2), (12, .sipush 1600, 3), (15, .if_icmp .ge 111, 3), (18, .iload_n 3, 1), (19, .iload_n 2, 1), (20, .if_icmp .ge 106, 3), (23, .aload_n 1, 1), (24, .iload_n 3, 1), (25, .iaload, 1), (26, .bipush 32, 2), (28, .if_icmp .eq 11, 3), (31, .aload_n 1, 1), (32, .iload_n 3, 1), (33, .iaload, 1), (34, .bipush 10, 2), (36, .if_icmp .ne 9, 3), (39, .iinc 3 1, 3), (42, .goto 78, 3), (45, .aload_n 1, 1), (46, .iload_n 3, 1), (47, .iaload, 1), (48, .invokestatic 26, 3), (51, .ifCond .eq 14, 3), (54, .aload_n 0, 1), (55, .aload_n 1, 1), (56, .iload_n 3, 1), (57, .iload_n 2, 1), (58, .invokevirtual 30, 3), (61, .istore_n 3, 1), (62, .goto 58, 3), (65, .aload_n 1, 1), (66, .iload_n 3, 1), (67, .iaload, 1), (68, .invokestatic 34, 3), (71, .ifCond .eq 14, 3), (74, .aload_n 0, 1), (75, .aload_n 1, 1), (76, .iload_n 3, 1), (77, .iload_n 2, 1), (78, .invokevirtual 37, 3), (81, .istore_n 3, 1), (82, .goto 38, 3), (85, .ldc 40, 2), (87, .aload_n 1, 1), (88, .iload_n 3, 1), (89, .iaload, 1), (90, .i2c, 1), (91, .invokevirtual 42, 3), (94, .istore 5, 2), (96, .aload_n 0, 1), (97, .iload 5, 2), (99, .ifCond .ge 8, 3), (102, .bipush 30, 2), (104, .goto 8, 3), (107, .bipush 16, 2), (109, .iload 5, 2), (111, .iadd, 1), (112, .iload_n 3, 1), (113, .lconst 0, 1), (114, .invokevirtual 48, 3), (117, .iinc 3 1, 3), (120, .iinc 4 1, 3), (123, .goto (-113), 3), (126, .aload_n 0, 1), (127, .bipush 29, 2), (129, .iload_n 2, 1), (130, .lconst 0, 1), (131, .invokevirtual 48, 3), (134, .return_, 1)]
def I_19 : ra_I := (lst_19, fl_7, kt_7, kl_7, nl_7, ql_7, ml_7, ol_7, al_7, mml_7)
theorem dc_19 : ∀ q ∈ lst_19, decode mt_19.2.1 q.1 = .ok (q.2.1, q.2.2) := by decide +kernel
theorem oI_19 : ra_okI pT mt_19.1.cls "BathWater$Scene" vwCl pNW pMT mt_19.2.1 I_19 := ⟨dc_19, lnk_7⟩
set_option maxRecDepth 100000 in
theorem oM_19 : pMT[19]? = some mt_19 := rfl
def lst_33 : List (Nat × Instr × Nat) := [(0, .aload_n 0, 1), (1, .getfield 22, 3), (4, .sipush 1600, 3), (7, .if_icmp .gt 43, 3), (10, .aload_n 0, 1), (11, .getfield 9, 3), (14, .aload_n 0, 1), (15, .getfield 22, 3), (18, .iload_n 1, 1), (19, .iastore, 1), (20, .aload_n 0, 1), (21, .getfield 15, 3), (24, .aload_n 0, 1), (25, .getfield 22, 3), (28, .iload_n 2, 1), (29, .iastore, 1), (30, .aload_n 0, 1), (31, .getfield 18, 3), (34, .aload_n 0, 1), (35, .getfield 22, 3), (38, .lload_n 3, 1), (39, .lastore, 1), (40, .aload_n 0, 1), (41, .dup, 1), (42, .getfield 22, 3), (45, .iconst 1, 1), (46, .iadd, 1), (47, .putfield 22, 3), (50, .return_, 1)]
def I_33 : ra_I := (lst_33, fl_7, kt_7, kl_7, nl_7, ql_7, ml_7, ol_7, al_7, mml_7)
theorem dc_33 : ∀ q ∈ lst_33, decode mt_33.2.1 q.1 = .ok (q.2.1, q.2.2) := by decide +kernel
theorem oI_33 : ra_okI pT mt_33.1.cls "BathWater$Scene" vwCl pNW pMT mt_33.2.1 I_33 := ⟨dc_33, lnk_7⟩
set_option maxRecDepth 100000 in
theorem oM_33 : pMT[33]? = some mt_33 := rfl
def lst_54 : List (Nat × Instr × Nat) := [(0, .aload_n 0, 1), (1, .getfield 52, 3), (4, .ifCond .ne 62, 3), (7, .aload_n 0, 1), (8, .getfield 55, 3), (11, .iconst 1, 1), (12, .iadd, 1), (13, .aload_n 0, 1), (14, .getfield 12, 3), (17, .getfield 67, 3), (20, .if_icmp .ge 46, 3), (23, .aload_n 0, 1), (24, .dup, 1), (25, .getfield 55, 3), (28, .iconst 1, 1), (29, .iadd, 1), (30, .putfield 55, 3), (33, .aload_n 0, 1), (34, .aload_n 0, 1), (35, .getfield 12, 3), (38, .getfield 70, 3), (41, .aload_n 0, 1), (42, .getfield 55, 3), (45, .iaload, 1), (46, .putfield 61, 3), (49, .aload_n 0, 1), (50, .aload_n 0, 1), (51, .getfield 12, 3), (54, .getfield 74, 3), (57, .aload_n 0, 1), (58, .getfield 55, 3), (61, .laload, 1), (62, .l2i, 1), (63, .putfield 77, 3), (66, .return_, 1)]
def I_54 : ra_I := (lst_54, fl_5, kt_5, kl_5, nl_5, ql_5, ml_5, ol_5, al_5, mml_5)
theorem dc_54 : ∀ q ∈ lst_54, decode mt_54.2.1 q.1 = .ok (q.2.1, q.2.2) := by decide +kernel
theorem oI_54 : ra_okI pT mt_54.1.cls "BathWater$Scene" vwCl pNW pMT mt_54.2.1 I_54 := ⟨dc_54, lnk_5⟩
set_option maxRecDepth 100000 in
theorem oM_54 : pMT[54]? = some mt_54 := rfl
def lst_72 : List (Nat × Instr × Nat) := [(0, .aload_n 0, 1), (1, .getfield 33, 3), (4, .aload_n 0, 1), (5, .getfield 23, 3), (8, .getfield 92, 3), (11, .invokevirtual 95, 3), (14, .aload_n 0, 1), (15, .getfield 40, 3), (18, .aload_n 0, 1), (19, .getfield 33, 3), (22, .invokevirtual 99, 3), (25, .aload_n 0, 1), (26, .getfield 70, 3), (29, .iconst 0, 1), (30, .putfield 102, 3), (33, .aload_n 0, 1), (34, .iconst 0, 1), (35, .putfield 105, 3), (38, .aload_n 0, 1), (39, .iconst 0, 1), (40, .putfield 108, 3), (43, .return_, 1)]
def I_72 : ra_I := (lst_72, fl_8, kt_8, kl_8, nl_8, ql_8, ml_8, ol_8, al_8, mml_8)
theorem dc_72 : ∀ q ∈ lst_72, decode mt_72.2.1 q.1 = .ok (q.2.1, q.2.2) := by decide +kernel
theorem oI_72 : ra_okI pT mt_72.1.cls "BathWater$Scene" vwCl pNW pMT mt_72.2.1 I_72 := ⟨dc_72, lnk_8⟩
set_option maxRecDepth 100000 in
theorem oM_72 : pMT[72]? = some mt_72 := rfl
def lst_73 : List (Nat × Instr × Nat) := [(0, .aload_n 1, 1), (1, .getfield 9, 3), (4, .iconst 0, 1), (5, .aload_n 0, 1), (6, .getfield 9, 3), (9, .iconst 0, 1), (10, .bipush 12, 2), (12, .invokestatic 40, 3), (15, .aload_n 1, 1), (16, .getfield 15, 3), (19, .iconst 0, 1), (20, .aload_n 0, 1), (21, .getfield 15, 3), (24, .iconst 0, 1), (25, .iconst 5, 1), (26, .invokestatic 40, 3), (29, .aload_n 1, 1), (30, .getfield 18, 3), (33, .iconst 0, 1), (34, .aload_n 0, 1), (35, .getfield 18, 3), (38, .iconst 0, 1), (39, .iconst 5, 1), (40, .invokestatic 40, 3), (43, .aload_n 1, 1), (44, .getfield 21, 3), (47, .iconst 0, 1), (48, .aload_n 0, 1), (49, .getfield 21, 3), (52, .iconst 0, 1), (53, .iconst 5, 1), (54, .invokestatic 40, 3), (57, .aload_n 0, 1), (58, .aload_n 1, 1), (59, .getfield 33, 3), (62, .putfield 33, 3), (65, .aload_n 0, 1), (66, .aload_n 1, 1), (67, .getfield 37, 3), (70, .putfield 37, 3), (73, .return_, 1)]
def I_73 : ra_I := (lst_73, fl_6, kt_6, kl_6, nl_6, ql_6, ml_6, ol_6, al_6, mml_6)
theorem dc_73 : ∀ q ∈ lst_73, decode mt_73.2.1 q.1 = .ok (q.2.1, q.2.2) := by decide +kernel
theorem oI_73 : ra_okI pT mt_73.1.cls "BathWater$Scene" vwCl pNW pMT mt_73.2.1 I_73 := ⟨dc_73, lnk_6⟩
set_option maxRecDepth 100000 in
theorem oM_73 : pMT[73]? = some mt_73 := rfl
def lst_74 : List (Nat × Instr × Nat) := [(0, .aload_n 0, 1), (1, .iconst 0, 1), (2, .putfield 18, 3), (5, .aload_n 0, 1), (6, .iconst 0, 1), (7, .putfield 22, 3), (10, .aload_n 0, 1), (11, .iconst 0, 1), (12, .putfield 25, 3), (15, .aload_n 0, 1), (16, .iconst 0, 1), (17, .invokevirtual 28, 3), (20, .aload_n 1, 1), (21, .invokevirtual 32, 3), (24, .return_, 1)]
def I_74 : ra_I := (lst_74, fl_0, kt_0, kl_0, nl_0, ql_0, ml_0, ol_0, al_0, mml_0)
theorem dc_74 : ∀ q ∈ lst_74, decode mt_74.2.1 q.1 = .ok (q.2.1, q.2.2) := by decide +kernel
theorem oI_74 : ra_okI pT mt_74.1.cls "BathWater$Scene" vwCl pNW pMT mt_74.2.1 I_74 := ⟨dc_74, lnk_0⟩
set_option maxRecDepth 100000 in
theorem oM_74 : pMT[74]? = some mt_74 := rfl
def lst_75 : List (Nat × Instr × Nat) := [(0, .aload_n 0, 1), (1, .getfield 13, 3), (4, .aload_n 0, 1), (5, .getfield 18, 3), (8, .iload_n 1, 1), (9, .iadd, 1), (10, .bipush 41, 2), (12, .irem, 1), (13, .aaload, 1), (14, .areturn, 1)]
def I_75 : ra_I := (lst_75, fl_0, kt_0, kl_0, nl_0, ql_0, ml_0, ol_0, al_0, mml_0)
theorem dc_75 : ∀ q ∈ lst_75, decode mt_75.2.1 q.1 = .ok (q.2.1, q.2.2) := by decide +kernel
theorem oI_75 : ra_okI pT mt_75.1.cls "BathWater$Scene" vwCl pNW pMT mt_75.2.1 I_75 := ⟨dc_75, lnk_0⟩
set_option maxRecDepth 100000 in
theorem oM_75 : pMT[75]? = some mt_75 := rfl
def lst_76 : List (Nat × Instr × Nat) := [(0, .iload_n 1, 1), (1, .ifCond .ne 11, 3), (4, .aload_n 0, 1), (5, .getfield 16, 3), (8, .getfield 111, 3), (11, .ireturn, 1), (12, .iload_n 1, 1), (13, .iconst 1, 1), (14, .if_icmp .ne 13, 3), (17, .aload_n 0, 1), (18, .getfield 16, 3), (21, .getfield 114, 3), (24, .goto 4, 3), (27, .iconst (-1), 1), (28, .ireturn, 1)]
def I_76 : ra_I := (lst_76, fl_8, kt_8, kl_8, nl_8, ql_8, ml_8, ol_8, al_8, mml_8)
theorem dc_76 : ∀ q ∈ lst_76, decode mt_76.2.1 q.1 = .ok (q.2.1, q.2.2) := by decide +kernel
theorem oI_76 : ra_okI pT mt_76.1.cls "BathWater$Scene" vwCl pNW pMT mt_76.2.1 I_76 := ⟨dc_76, lnk_8⟩
set_option maxRecDepth 100000 in
theorem oM_76 : pMT[76]? = some mt_76 := rfl
def lst_77 : List (Nat × Instr × Nat) := [(0, .aload_n 0, 1), (1, .iload_n 1, 1), (2, .invokevirtual 144, 3), (5, .ifCond .ne 6, 3), (8, .bipush (-2), 2), (10, .ireturn, 1), (11, .iload_n 2, 1), (12, .tableswitch 51 0 2 #[28, 38, 45], 28), (40, .aload_n 0, 1), (41, .getfield 33, 3), (44, .getfield 147, 3), (47, .iload_n 1, 1), (48, .iaload, 1), (49, .ireturn, 1), (50, .aload_n 0, 1), (51, .invokevirtual 150, 3), (54, .iload_n 1, 1), (55, .iaload, 1), (56, .ireturn, 1), (57, .aload_n 0, 1), (58, .iload_n 1, 1), (59, .invokevirtual 154, 3), (62, .ireturn, 1), (63, .bipush (-2), 2), (65, .ireturn, 1)]
def I_77 : ra_I := (lst_77, fl_8, kt_8, kl_8, nl_8, ql_8, ml_8, ol_8, al_8, mml_8)
theorem dc_77 : ∀ q ∈ lst_77, decode mt_77.2.1 q.1 = .ok (q.2.1, q.2.2) := by decide +kernel
theorem oI_77 : ra_okI pT mt_77.1.cls "BathWater$Scene" vwCl pNW pMT mt_77.2.1 I_77 := ⟨dc_77, lnk_8⟩
set_option maxRecDepth 100000 in
theorem oM_77 : pMT[77]? = some mt_77 := rfl
def lst_78 : List (Nat × Instr × Nat) := [(0, .iload_n 1, 1), (1, .ifCond .lt 18, 3), (4, .iload_n 1, 1), (5, .aload_n 0, 1), (6, .getfield 23, 3), (9, .getfield 117, 3), (12, .if_icmp .ge 7, 3), (15, .iconst 1, 1), (16, .goto 4, 3), (19, .iconst 0, 1), (20, .ireturn, 1)]
def I_78 : ra_I := (lst_78, fl_8, kt_8, kl_8, nl_8, ql_8, ml_8, ol_8, al_8, mml_8)
theorem dc_78 : ∀ q ∈ lst_78, decode mt_78.2.1 q.1 = .ok (q.2.1, q.2.2) := by decide +kernel
theorem oI_78 : ra_okI pT mt_78.1.cls "BathWater$Scene" vwCl pNW pMT mt_78.2.1 I_78 := ⟨dc_78, lnk_8⟩
set_option maxRecDepth 100000 in
theorem oM_78 : pMT[78]? = some mt_78 := rfl
def lst_79 : List (Nat × Instr × Nat) := [(0, .aload_n 0, 1), (1, .invokevirtual 134, 3), (4, .aload_n 0, 1), (5, .getfield 47, 3), (8, .iconst 1, 1), (9, .invokevirtual 137, 3), (12, .aload_n 0, 1), (13, .getfield 47, 3), (16, .getfield 141, 3), (19, .areturn, 1)]
def I_79 : ra_I := (lst_79, fl_8, kt_8, kl_8, nl_8, ql_8, ml_8, ol_8, al_8, mml_8)
theorem dc_79 : ∀ q ∈ lst_79, decode mt_79.2.1 q.1 = .ok (q.2.1, q.2.2) := by decide +kernel
theorem oI_79 : ra_okI pT mt_79.1.cls "BathWater$Scene" vwCl pNW pMT mt_79.2.1 I_79 := ⟨dc_79, lnk_8⟩
set_option maxRecDepth 100000 in
theorem oM_79 : pMT[79]? = some mt_79 := rfl
def lst_80 : List (Nat × Instr × Nat) := [(0, .aload_n 0, 1), (1, .getfield 47, 3), (4, .aload_n 0, 1), (5, .getfield 23, 3), (8, .aload_n 0, 1), (9, .getfield 33, 3), (12, .invokevirtual 130, 3), (15, .return_, 1)]
def I_80 : ra_I := (lst_80, fl_8, kt_8, kl_8, nl_8, ql_8, ml_8, ol_8, al_8, mml_8)
theorem dc_80 : ∀ q ∈ lst_80, decode mt_80.2.1 q.1 = .ok (q.2.1, q.2.2) := by decide +kernel
theorem oI_80 : ra_okI pT mt_80.1.cls "BathWater$Scene" vwCl pNW pMT mt_80.2.1 I_80 := ⟨dc_80, lnk_8⟩
set_option maxRecDepth 100000 in
theorem oM_80 : pMT[80]? = some mt_80 := rfl
def lst_81 : List (Nat × Instr × Nat) := [(0, .aload_n 0, 1), (1, .aload_n 1, 1), (2, .putfield 12, 3), (5, .aload_n 0, 1), (6, .getfield 21, 3), (9, .aload_n 2, 1), (10, .invokevirtual 41, 3), (13, .aload_n 0, 1), (14, .getfield 25, 3), (17, .iconst 0, 1), (18, .invokestatic 45, 3), (21, .aload_n 0, 1), (22, .iconst 0, 1), (23, .putfield 51, 3), (26, .aload_n 0, 1), (27, .iconst 0, 1), (28, .putfield 55, 3), (31, .return_, 1)]
def I_81 : ra_I := (lst_81, fl_1, kt_1, kl_1, nl_1, ql_1, ml_1, ol_1, al_1, mml_1)
theorem dc_81 : ∀ q ∈ lst_81, decode mt_81.2.1 q.1 = .ok (q.2.1, q.2.2) := by decide +kernel
theorem oI_81 : ra_okI pT mt_81.1.cls "BathWater$Scene" vwCl pNW pMT mt_81.2.1 I_81 := ⟨dc_81, lnk_1⟩
set_option maxRecDepth 100000 in
theorem oM_81 : pMT[81]? = some mt_81 := rfl
def lst_82 : List (Nat × Instr × Nat) := [(0, .aload_n 0, 1), (1, .getfield 29, 3), (4, .iconst (-1), 1), (5, .invokestatic 45, 3), (8, .aload_n 0, 1), (9, .getfield 32, 3), (12, .iconst 0, 1), (13, .invokestatic 45, 3), (16, .iconst 0, 1), (17, .istore_n 2, 1), (18, .iload_n 2, 1), (19, .aload_n 0, 1), (20, .getfield 12, 3), (23, .getfield 98, 3), (26, .if_icmp .ge 130, 3), (29, .aload_n 0, 1), (30, .getfield 21, 3), (33, .getfield 74, 3), (36, .iload_n 2, 1), (37, .iaload, 1), (38, .istore_n 3, 1), (39, .iload_n 3, 1), (40, .ifCond .lt 9, 3), (43, .aload_n 0, 1), (44, .iload_n 2, 1), (45, .iload_n 3, 1), (46, .invokevirtual 78, 3), (49, .iconst 0, 1), (50, .istore 4, 2), (52, .iload 4, 2), (54, .aload_n 0, 1), (55, .getfield 12, 3), (58, .getfield 105, 3), (61, .if_icmp .ge 89, 3), (64, .iload_n 3, 1), (65, .ifCond .lt 85, 3), (68, .iload_n 1, 1), (69, .ifCond .ne 16, 3), (72, .aload_n 0, 1), (73, .getfield 21, 3), (76, .getfield 62, 3), (79, .iload 4, 2), (81, .iaload, 1), (82, .ifCond .le 62, 3), (85, .aload_n 0, 1), (86, .getfield 38, 3), (89, .bipush 13, 2), (91, .iload_n 3, 1), (92, .iload 4, 2), (94, .isub, 1), (95, .invokestatic 82, 3), (98, .iastore, 1), (99, .aload_n 0, 1), (100, .getfield 12, 3), (103, .getfield 88, 3), (106, .aload_n 0, 1), (107, .getfield 38, 3), (110, .invokevirtual 92, 3), (113, .istore 5, 2), (115, .iload 5, 2), (117, .aload_n 0, 1), (118, .getfield 32, 3), (121, .iload 4, 2), (123, .iaload, 1), (124, .if_icmp .le 20, 3), (127, .aload_n 0, 1), (128, .getfield 32, 3), (131, .iload 4, 2), (133, .iload 5, 2), (135, .iastore, 1), (136, .aload_n 0, 1), (137, .getfield 29, 3), (140, .iload 4, 2), (142, .iload_n 2, 1), (143, .iastore, 1), (144, .iinc 4 1, 3), (147, .goto (-95), 3), (150, .iinc 2 1, 3), (153, .goto (-135), 3), (156, .return_, 1)]
def I_82 : ra_I := (lst_82, fl_1, kt_1, kl_1, nl_1, ql_1, ml_1, ol_1, al_1, mml_1)
theorem dc_82 : ∀ q ∈ lst_82, decode mt_82.2.1 q.1 = .ok (q.2.1, q.2.2) := by decide +kernel
theorem oI_82 : ra_okI pT mt_82.1.cls "BathWater$Scene" vwCl pNW pMT mt_82.2.1 I_82 := ⟨dc_82, lnk_1⟩
set_option maxRecDepth 100000 in
theorem oM_82 : pMT[82]? = some mt_82 := rfl
def lst_88 : List (Nat × Instr × Nat) := [(0, .iconst 0, 1), (1, .istore_n 2, 1), (2, .iconst 0, 1), (3, .istore_n 3, 1), (4, .iload_n 3, 1), (5, .aload_n 0, 1), (6, .getfield 23, 3), (9, .getfield 89, 3), (12, .if_icmp .ge 28, 3), (15, .aload_n 0, 1), (16, .getfield 33, 3), (19, .getfield 124, 3), (22, .iload_n 3, 1), (23, .iaload, 1), (24, .iload_n 1, 1), (25, .if_icmp .ne 9, 3), (28, .iload_n 2, 1), (29, .iconst 1, 1), (30, .iload_n 3, 1), (31, .ishl, 1), (32, .ior, 1), (33, .istore_n 2, 1), (34, .iinc 3 1, 3), (37, .goto (-33), 3), (40, .iload_n 2, 1), (41, .ireturn, 1)]
def I_88 : ra_I := (lst_88, fl_8, kt_8, kl_8, nl_8, ql_8, ml_8, ol_8, al_8, mml_8)
theorem dc_88 : ∀ q ∈ lst_88, decode mt_88.2.1 q.1 = .ok (q.2.1, q.2.2) := by decide +kernel
theorem oI_88 : ra_okI pT mt_88.1.cls "BathWater$Scene" vwCl pNW pMT mt_88.2.1 I_88 := ⟨dc_88, lnk_8⟩
set_option maxRecDepth 100000 in
theorem oM_88 : pMT[88]? = some mt_88 := rfl
def lst_89 : List (Nat × Instr × Nat) := [(0, .aload_n 0, 1), (1, .iload_n 1, 1), (2, .invokevirtual 120, 3), (5, .ifCond .ne 6, 3), (8, .bipush (-2), 2), (10, .ireturn, 1), (11, .iload_n 2, 1), (12, .tableswitch 86 0 4 #[36, 46, 56, 66, 76], 36), (48, .aload_n 0, 1), (49, .getfield 33, 3), (52, .getfield 124, 3), (55, .iload_n 1, 1), (56, .iaload, 1), (57, .ireturn, 1), (58, .aload_n 0, 1), (59, .getfield 33, 3), (62, .getfield 158, 3), (65, .iload_n 1, 1), (66, .iaload, 1), (67, .ireturn, 1), (68, .aload_n 0, 1), (69, .getfield 23, 3), (72, .getfield 161, 3), (75, .iload_n 1, 1), (76, .iaload, 1), (77, .ireturn, 1), (78, .aload_n 0, 1), (79, .getfield 33, 3), (82, .getfield 164, 3), (85, .iload_n 1, 1), (86, .iaload, 1), (87, .ireturn, 1), (88, .aload_n 0, 1), (89, .iload_n 1, 1), (90, .aload_n 0, 1), (91, .invokevirtual 150, 3), (94, .invokevirtual 167, 3), (97, .ireturn, 1), (98, .bipush (-2), 2), (100, .ireturn, 1)]
def I_89 : ra_I := (lst_89, fl_8, kt_8, kl_8, nl_8, ql_8, ml_8, ol_8, al_8, mml_8)
theorem dc_89 : ∀ q ∈ lst_89, decode mt_89.2.1 q.1 = .ok (q.2.1, q.2.2) := by decide +kernel
theorem oI_89 : ra_okI pT mt_89.1.cls "BathWater$Scene" vwCl pNW pMT mt_89.2.1 I_89 := ⟨dc_89, lnk_8⟩
set_option maxRecDepth 100000 in
theorem oM_89 : pMT[89]? = some mt_89 := rfl
def lst_90 : List (Nat × Instr × Nat) := [(0, .iload_n 1, 1), (1, .ifCond .lt 18, 3), (4, .iload_n 1, 1), (5, .aload_n 0, 1), (6, .getfield 23, 3), (9, .getfield 89, 3), (12, .if_icmp .ge 7, 3), (15, .iconst 1, 1), (16, .goto 4, 3), (19, .iconst 0, 1), (20, .ireturn, 1)]
def I_90 : ra_I := (lst_90, fl_8, kt_8, kl_8, nl_8, ql_8, ml_8, ol_8, al_8, mml_8)
theorem dc_90 : ∀ q ∈ lst_90, decode mt_90.2.1 q.1 = .ok (q.2.1, q.2.2) := by decide +kernel
theorem oI_90 : ra_okI pT mt_90.1.cls "BathWater$Scene" vwCl pNW pMT mt_90.2.1 I_90 := ⟨dc_90, lnk_8⟩
set_option maxRecDepth 100000 in
theorem oM_90 : pMT[90]? = some mt_90 := rfl
def lst_92 : List (Nat × Instr × Nat) := [(0, .aload_n 0, 1), (1, .iload_n 1, 1), (2, .invokevirtual 171, 3), (5, .ifCond .eq 11, 3), (8, .aload_n 0, 1), (9, .iload_n 2, 1), (10, .invokevirtual 144, 3), (13, .ifCond .ne 6, 3), (16, .ldc 174, 2), (18, .ireturn, 1), (19, .aload_n 0, 1), (20, .invokevirtual 134, 3), (23, .aload_n 0, 1), (24, .getfield 47, 3), (27, .iload_n 1, 1), (28, .iload_n 2, 1), (29, .invokevirtual 175, 3), (32, .ireturn, 1)]
def I_92 : ra_I := (lst_92, fl_8, kt_8, kl_8, nl_8, ql_8, ml_8, ol_8, al_8, mml_8)
theorem dc_92 : ∀ q ∈ lst_92, decode mt_92.2.1 q.1 = .ok (q.2.1, q.2.2) := by decide +kernel
theorem oI_92 : ra_okI pT mt_92.1.cls "BathWater$Scene" vwCl pNW pMT mt_92.2.1 I_92 := ⟨dc_92, lnk_8⟩
set_option maxRecDepth 100000 in
theorem oM_92 : pMT[92]? = some mt_92 := rfl
def lst_93 : List (Nat × Instr × Nat) := [(0, .aload_n 0, 1), (1, .iload_n 1, 1), (2, .invokevirtual 120, 3), (5, .ifCond .eq 19, 3), (8, .aload_n 0, 1), (9, .getfield 33, 3), (12, .getfield 124, 3), (15, .iload_n 1, 1), (16, .iaload, 1), (17, .ifCond .lt 7, 3), (20, .iconst 1, 1), (21, .goto 4, 3), (24, .iconst 0, 1), (25, .ireturn, 1)]
def I_93 : ra_I := (lst_93, fl_8, kt_8, kl_8, nl_8, ql_8, ml_8, ol_8, al_8, mml_8)
theorem dc_93 : ∀ q ∈ lst_93, decode mt_93.2.1 q.1 = .ok (q.2.1, q.2.2) := by decide +kernel
theorem oI_93 : ra_okI pT mt_93.1.cls "BathWater$Scene" vwCl pNW pMT mt_93.2.1 I_93 := ⟨dc_93, lnk_8⟩
set_option maxRecDepth 100000 in
theorem oM_93 : pMT[93]? = some mt_93 := rfl
def lst_95 : List (Nat × Instr × Nat) := [(0, .aload_n 0, 1), (1, .getfield 33, 3), (4, .getfield 179, 3), (7, .sipush 999, 3), (10, .if_icmp .lt 5, 3), (13, .iconst (-1), 1), (14, .ireturn, 1), (15, .aload_n 0, 1), (16, .invokevirtual 134, 3), (19, .aload_n 0, 1), (20, .getfield 47, 3), (23, .invokevirtual 182, 3), (26, .aload_n 0, 1), (27, .getfield 33, 3), (30, .aload_n 0, 1), (31, .getfield 47, 3), (34, .getfield 185, 3), (37, .invokevirtual 95, 3), (40, .aload_n 0, 1), (41, .getfield 40, 3), (44, .aload_n 0, 1), (45, .getfield 33, 3), (48, .invokevirtual 188, 3), (51, .aload_n 0, 1), (52, .getfield 47, 3), (55, .getfield 191, 3), (58, .ireturn, 1)]
def I_95 : ra_I := (lst_95, fl_8, kt_8, kl_8, nl_8, ql_8, ml_8, ol_8, al_8, mml_8)
theorem dc_95 : ∀ q ∈ lst_95, decode mt_95.2.1 q.1 = .ok (q.2.1, q.2.2) := by decide +kernel
theorem oI_95 : ra_okI pT mt_95.1.cls "BathWater$Scene" vwCl pNW pMT mt_95.2.1 I_95 := ⟨dc_95, lnk_8⟩
set_option maxRecDepth 100000 in
theorem oM_95 : pMT[95]? = some mt_95 := rfl
def lst_96 : List (Nat × Instr × Nat) := [(0, .aload_n 0, 1), (1, .getfield 21, 3), (4, .aload_n 0, 1), (5, .getfield 21, 3), (8, .getfield 137, 3), (11, .sipush 137, 3), (14, .imul, 1), (15, .bipush 71, 2), (17, .iadd, 1), (18, .sipush 1000, 3), (21, .irem, 1), (22, .putfield 137, 3), (25, .aload_n 0, 1), (26, .aload_n 0, 1), (27, .getfield 21, 3), (30, .getfield 137, 3), (33, .bipush 100, 2), (35, .irem, 1), (36, .aload_n 0, 1), (37, .getfield 12, 3), (40, .getfield 140, 3), (43, .if_icmp .ge 7, 3), (46, .iconst 1, 1), (47, .goto 4, 3), (50, .iconst 0, 1), (51, .invokevirtual 128, 3), (54, .return_, 1)]
def I_96 : ra_I := (lst_96, fl_1, kt_1, kl_1, nl_1, ql_1, ml_1, ol_1, al_1, mml_1)
theorem dc_96 : ∀ q ∈ lst_96, decode mt_96.2.1 q.1 = .ok (q.2.1, q.2.2) := by decide +kernel
theorem oI_96 : ra_okI pT mt_96.1.cls "BathWater$Scene" vwCl pNW pMT mt_96.2.1 I_96 := ⟨dc_96, lnk_1⟩
set_option maxRecDepth 100000 in
theorem oM_96 : pMT[96]? = some mt_96 := rfl
def lst_97 : List (Nat × Instr × Nat) := [(0, .aload_n 0, 1), (1, .iconst 0, 1), (2, .invokevirtual 108, 3), (5, .aload_n 0, 1), (6, .iload_n 1, 1), (7, .ifCond .eq 15, 3), (10, .iconst 2, 1), (11, .aload_n 0, 1), (12, .getfield 12, 3), (15, .getfield 112, 3), (18, .imul, 1), (19, .goto 10, 3), (22, .aload_n 0, 1), (23, .getfield 12, 3), (26, .getfield 112, 3), (29, .invokevirtual 115, 3), (32, .aload_n 0, 1), (33, .invokevirtual 119, 3), (36, .aload_n 0, 1), (37, .getfield 21, 3), (40, .dup, 1), (41, .getfield 71, 3), (44, .iconst 1, 1), (45, .iadd, 1), (46, .putfield 71, 3), (49, .return_, 1)]
def I_97 : ra_I := (lst_97, fl_1, kt_1, kl_1, nl_1, ql_1, ml_1, ol_1, al_1, mml_1)
theorem dc_97 : ∀ q ∈ lst_97, decode mt_97.2.1 q.1 = .ok (q.2.1, q.2.2) := by decide +kernel
theorem oI_97 : ra_okI pT mt_97.1.cls "BathWater$Scene" vwCl pNW pMT mt_97.2.1 I_97 := ⟨dc_97, lnk_1⟩
set_option maxRecDepth 100000 in
theorem oM_97 : pMT[97]? = some mt_97 := rfl
