def lst_0 : List (Nat × Instr × Nat) := [(0, .aload_n 0, 1), (1, .invokespecial 1, 3), (4, .aload_n 0, 1), (5, .sipush 1600, 3), (8, .newarray .int, 2), (10, .putfield 9, 3), (13, .aload_n 0, 1), (14, .new 13, 3), (17, .dup, 1), (18, .invokespecial 15, 3), (21, .putfield 16, 3), (24, .aload_n 0, 1), (25, .new 20, 3), (28, .dup, 1), (29, .invokespecial 22, 3), (32, .putfield 23, 3), (35, .aload_n 0, 1), (36, .new 20, 3), (39, .dup, 1), (40, .invokespecial 22, 3), (43, .putfield 27, 3), (46, .aload_n 0, 1), (47, .new 30, 3), (50, .dup, 1), (51, .invokespecial 32, 3), (54, .putfield 33, 3), (57, .aload_n 0, 1), (58, .new 37, 3), (61, .dup, 1), (62, .invokespecial 39, 3), (65, .putfield 40, 3), (68, .aload_n 0, 1), (69, .new 44, 3), (72, .dup, 1), (73, .invokespecial 46, 3), (76, .putfield 47, 3), (79, .aload_n 0, 1), (80, .iconst 3, 1), (81, .anewarray 30, 3), (84, .putfield 51, 3), (87, .aload_n 0, 1), (88, .iconst 5, 1), (89, .newarray .int, 2), (91, .putfield 55, 3), (94, .aload_n 0, 1), (95, .iconst 5, 1), (96, .newarray .int, 2), (98, .putfield 58, 3), (101, .aload_n 0, 1), (102, .bipush 36, 2), (104, .newarray .int, 2), (106, .putfield 61, 3), (109, .aload_n 0, 1), (110, .bipush 36, 2), (112, .newarray .int, 2), (114, .putfield 64, 3), (117, .aload_n 0, 1), (118, .new 67, 3), (121, .dup, 1), (122, .invokespecial 69, 3), (125, .putfield 70, 3), (128, .iconst 0, 1), (129, .istore_n 1, 1), (130, .iload_n 1, 1), (131, .iconst 3, 1), (132, .if_icmp .ge 22, 3), (135, .aload_n 0, 1), (136, .getfield 51, 3), (139, .iload_n 1, 1), (140, .new 30, 3), (143, .dup, 1), (144, .invokespecial 32, 3), (147, .aastore, 1), (148, .iinc 1 1, 3), (151, .goto (-21), 3), (154, .return_, 1)]
def I_0 : ra_I := (lst_0, fl_8, kt_8, kl_8, nl_8, ql_8, ml_8, ol_8, al_8, mml_8)
theorem dc_0 : ∀ q ∈ lst_0, decode mt_0.2.1 q.1 = .ok (q.2.1, q.2.2) := by decide +kernel
theorem oI_0 : ra_okI pT mt_0.1.cls "BathWater$Scene" vwCl pNW pMT mt_0.2.1 I_0 := ⟨dc_0, lnk_8⟩
set_option maxRecDepth 100000 in
theorem oM_0 : pMT[0]? = some mt_0 := rfl
def lst_1 : List (Nat × Instr × Nat) := [(0, .aload_n 0, 1), (1, .invokespecial 3, 3), (4, .aload_n 0, 1), (5, .new 9, 3), (8, .dup, 1), (9, .invokespecial 11, 3), (12, .putfield 12, 3), (15, .aload_n 0, 1), (16, .iconst 5, 1), (17, .newarray .long, 2), (19, .putfield 18, 3), (22, .aload_n 0, 1), (23, .new 22, 3), (26, .dup, 1), (27, .invokespecial 24, 3), (30, .putfield 25, 3), (33, .aload_n 0, 1), (34, .iconst (-1), 1), (35, .putfield 29, 3), (38, .return_, 1)]
def I_1 : ra_I := (lst_1, fl_5, kt_5, kl_5, nl_5, ql_5, ml_5, ol_5, al_5, mml_5)
theorem dc_1 : ∀ q ∈ lst_1, decode mt_1.2.1 q.1 = .ok (q.2.1, q.2.2) := by decide +kernel
theorem oI_1 : ra_okI pT mt_1.1.cls "BathWater$Scene" vwCl pNW pMT mt_1.2.1 I_1 := ⟨dc_1, lnk_5⟩
set_option maxRecDepth 100000 in
theorem oM_1 : pMT[1]? = some mt_1 := rfl
def lst_2 : List (Nat × Instr × Nat) := [(0, .aload_n 0, 1), (1, .invokespecial 3, 3), (4, .aload_n 0, 1), (5, .sipush 1601, 3), (8, .newarray .int, 2), (10, .putfield 9, 3), (13, .aload_n 0, 1), (14, .sipush 1601, 3), (17, .newarray .int, 2), (19, .putfield 15, 3), (22, .aload_n 0, 1), (23, .sipush 1601, 3), (26, .newarray .long, 2), (28, .putfield 18, 3), (31, .return_, 1)]
def I_2 : ra_I := (lst_2, fl_7, kt_7, kl_7, nl_7, ql_7, ml_7, ol_7, al_7, mml_7)
theorem dc_2 : ∀ q ∈ lst_2, decode mt_2.2.1 q.1 = .ok (q.2.1, q.2.2) := by decide +kernel
theorem oI_2 : ra_okI pT mt_2.1.cls "BathWater$Scene" vwCl pNW pMT mt_2.2.1 I_2 := ⟨dc_2, lnk_7⟩
set_option maxRecDepth 100000 in
theorem oM_2 : pMT[2]? = some mt_2 := rfl
def lst_3 : List (Nat × Instr × Nat) := [(0, .aload_n 0, 1), (1, .invokespecial 3, 3), (4, .aload_n 0, 1), (5, .new 9, 3), (8, .dup, 1), (9, .invokespecial 11, 3), (12, .putfield 12, 3), (15, .aload_n 0, 1), (16, .iconst 5, 1), (17, .newarray .int, 2), (19, .putfield 18, 3), (22, .aload_n 0, 1), (23, .new 22, 3), (26, .dup, 1), (27, .invokespecial 24, 3), (30, .putfield 25, 3), (33, .aload_n 0, 1), (34, .invokevirtual 29, 3), (37, .return_, 1)]
def I_3 : ra_I := (lst_3, fl_4, kt_4, kl_4, nl_4, ql_4, ml_4, ol_4, al_4, mml_4)
theorem dc_3 : ∀ q ∈ lst_3, decode mt_3.2.1 q.1 = .ok (q.2.1, q.2.2) := by decide +kernel
theorem oI_3 : ra_okI pT mt_3.1.cls "BathWater$Scene" vwCl pNW pMT mt_3.2.1 I_3 := ⟨dc_3, lnk_4⟩
set_option maxRecDepth 100000 in
theorem oM_3 : pMT[3]? = some mt_3 := rfl
def lst_4 : List (Nat × Instr × Nat) := [(0, .aload_n 0, 1), (1, .invokespecial 3, 3), (4, .aload_n 0, 1), (5, .bipush 12, 2), (7, .newarray .int, 2), (9, .putfield 9, 3), (12, .aload_n 0, 1), (13, .iconst 5, 1), (14, .newarray .int, 2), (16, .putfield 15, 3), (19, .aload_n 0, 1), (20, .iconst 5, 1), (21, .newarray .int, 2), (23, .putfield 18, 3), (26, .aload_n 0, 1), (27, .iconst 5, 1), (28, .newarray .int, 2), (30, .putfield 21, 3), (33, .aload_n 0, 1), (34, .invokevirtual 24, 3), (37, .return_, 1)]
def I_4 : ra_I := (lst_4, fl_6, kt_6, kl_6, nl_6, ql_6, ml_6, ol_6, al_6, mml_6)
theorem dc_4 : ∀ q ∈ lst_4, decode mt_4.2.1 q.1 = .ok (q.2.1, q.2.2) := by decide +kernel
theorem oI_4 : ra_okI pT mt_4.1.cls "BathWater$Scene" vwCl pNW pMT mt_4.2.1 I_4 := ⟨dc_4, lnk_6⟩
set_option maxRecDepth 100000 in
theorem oM_4 : pMT[4]? = some mt_4 := rfl
def lst_5 : List (Nat × Instr × Nat) := [(0, .aload_n 0, 1), (1, .getfield 9, 3), (4, .iconst 0, 1), (5, .invokestatic 27, 3), (8, .aload_n 0, 1), (9, .getfield 15, 3), (12, .iconst (-1), 1), (13, .invokestatic 27, 3), (16, .aload_n 0, 1), (17, .getfield 18, 3), (20, .iconst 0, 1), (21, .invokestatic 27, 3), (24, .aload_n 0, 1), (25, .getfield 21, 3), (28, .iconst 0, 1), (29, .invokestatic 27, 3), (32, .aload_n 0, 1), (33, .iconst 0, 1), (34, .putfield 33, 3), (37, .aload_n 0, 1), (38, .iconst 0, 1), (39, .putfield 37, 3), (42, .return_, 1)]
def I_5 : ra_I := (lst_5, fl_6, kt_6, kl_6, nl_6, ql_6, ml_6, ol_6, al_6, mml_6)
theorem dc_5 : ∀ q ∈ lst_5, decode mt_5.2.1 q.1 = .ok (q.2.1, q.2.2) := by decide +kernel
theorem oI_5 : ra_okI pT mt_5.1.cls "BathWater$Scene" vwCl pNW pMT mt_5.2.1 I_5 := ⟨dc_5, lnk_6⟩
set_option maxRecDepth 100000 in
theorem oM_5 : pMT[5]? = some mt_5 := rfl
def lst_6 : List (Nat × Instr × Nat) := [(0, .iconst 0, 1), (1, .istore_n 2, 1), (2, .aload_n 0, 1), (3, .arraylength, 1), (4, .istore_n 3, 1), (5, .iload_n 2, 1), (6, .iload_n 3, 1), (7, .if_icmp .ge 13, 3), (10, .aload_n 0, 1), (11, .iload_n 2, 1), (12, .iload_n 1, 1), (13, .iastore, 1), (14, .iinc 2 1, 3), (17, .goto (-12), 3), (20, .return_, 1)]
def I_6 : ra_I := (lst_6, fl_11, kt_11, kl_11, nl_11, ql_11, ml_11, ol_11, al_11, mml_11)
theorem dc_6 : ∀ q ∈ lst_6, decode mt_6.2.1 q.1 = .ok (q.2.1, q.2.2) := by decide +kernel
theorem oI_6 : ra_okI pT mt_6.1.cls "BathWater$Scene" vwCl pNW pMT mt_6.2.1 I_6 := ⟨dc_6, lnk_11⟩
set_option maxRecDepth 100000 in
theorem oM_6 : pMT[6]? = some mt_6 := rfl
def lst_7 : List (Nat × Instr × Nat) := [(0, .aload_n 0, 1), (1, .invokespecial 3, 3), (4, .aload_n 0, 1), (5, .sipush 320, 3), (8, .newarray .int, 2), (10, .putfield 9, 3), (13, .aload_n 0, 1), (14, .sipush 320, 3), (17, .newarray .int, 2), (19, .putfield 15, 3), (22, .aload_n 0, 1), (23, .bipush 30, 2), (25, .newarray .int, 2), (27, .putfield 18, 3), (30, .return_, 1)]
def I_7 : ra_I := (lst_7, fl_3, kt_3, kl_3, nl_3, ql_3, ml_3, ol_3, al_3, mml_3)
theorem dc_7 : ∀ q ∈ lst_7, decode mt_7.2.1 q.1 = .ok (q.2.1, q.2.2) := by decide +kernel
theorem oI_7 : ra_okI pT mt_7.1.cls "BathWater$Scene" vwCl pNW pMT mt_7.2.1 I_7 := ⟨dc_7, lnk_3⟩
set_option maxRecDepth 100000 in
theorem oM_7 : pMT[7]? = some mt_7 := rfl
def lst_8 : List (Nat × Instr × Nat) := [(0, .aload_n 0, 1), (1, .getfield 12, 3), (4, .invokevirtual 32, 3), (7, .aload_n 0, 1), (8, .getfield 25, 3), (11, .invokevirtual 33, 3), (14, .aload_n 0, 1), (15, .bipush 6, 2), (17, .putfield 34, 3), (20, .aload_n 0, 1), (21, .bipush 9, 2), (23, .putfield 38, 3), (26, .aload_n 0, 1), (27, .iconst 0, 1), (28, .putfield 41, 3), (31, .aload_n 0, 1), (32, .iconst 0, 1), (33, .putfield 44, 3), (36, .aload_n 0, 1), (37, .iconst 0, 1), (38, .putfield 47, 3), (41, .return_, 1)]
def I_8 : ra_I := (lst_8, fl_4, kt_4, kl_4, nl_4, ql_4, ml_4, ol_4, al_4, mml_4)
theorem dc_8 : ∀ q ∈ lst_8, decode mt_8.2.1 q.1 = .ok (q.2.1, q.2.2) := by decide +kernel
theorem oI_8 : ra_okI pT mt_8.1.cls "BathWater$Scene" vwCl pNW pMT mt_8.2.1 I_8 := ⟨dc_8, lnk_4⟩
set_option maxRecDepth 100000 in
theorem oM_8 : pMT[8]? = some mt_8 := rfl
def lst_9 : List (Nat × Instr × Nat) := [(0, .aload_n 0, 1), (1, .iconst 0, 1), (2, .putfield 21, 3), (5, .aload_n 0, 1), (6, .iconst 0, 1), (7, .putfield 25, 3), (10, .aload_n 0, 1), (11, .iconst 0, 1), (12, .putfield 28, 3), (15, .return_, 1)]
def I_9 : ra_I := (lst_9, fl_3, kt_3, kl_3, nl_3, ql_3, ml_3, ol_3, al_3, mml_3)
theorem dc_9 : ∀ q ∈ lst_9, decode mt_9.2.1 q.1 = .ok (q.2.1, q.2.2) := by decide +kernel
theorem oI_9 : ra_okI pT mt_9.1.cls "BathWater$Scene" vwCl pNW pMT mt_9.2.1 I_9 := ⟨dc_9, lnk_3⟩
set_option maxRecDepth 100000 in
theorem oM_9 : pMT[9]? = some mt_9 := rfl
def lst_10 : List (Nat × Instr × Nat) := [(0, .aload_n 0, 1), (1, .invokespecial 3, 3), (4, .aload_n 0, 1), (5, .bipush 41, 2), (7, .anewarray 11, 3), (10, .putfield 13, 3), (13, .iconst 0, 1), (14, .istore_n 1, 1), (15, .iload_n 1, 1), (16, .bipush 41, 2), (18, .if_icmp .ge 22, 3), (21, .aload_n 0, 1), (22, .getfield 13, 3), (25, .iload_n 1, 1), (26, .new 11, 3), (29, .dup, 1), (30, .invokespecial 17, 3), (33, .aastore, 1), (34, .iinc 1 1, 3), (37, .goto (-22), 3), (40, .return_, 1)]
def I_10 : ra_I := (lst_10, fl_0, kt_0, kl_0, nl_0, ql_0, ml_0, ol_0, al_0, mml_0)
theorem dc_10 : ∀ q ∈ lst_10, decode mt_10.2.1 q.1 = .ok (q.2.1, q.2.2) := by decide +kernel
theorem oI_10 : ra_okI pT mt_10.1.cls "BathWater$Scene" vwCl pNW pMT mt_10.2.1 I_10 := ⟨dc_10, lnk_0⟩
set_option maxRecDepth 100000 in
theorem oM_10 : pMT[10]? = some mt_10 := rfl
def lst_11 : List (Nat × Instr × Nat) := [(0, .aload_n 0, 1), (1, .invokespecial 3, 3), (4, .aload_n 0, 1), (5, .new 9, 3), (8, .dup, 1), (9, .invokespecial 11, 3), (12, .putfield 12, 3), (15, .aload_n 0, 1), (16, .new 18, 3), (19, .dup, 1), (20, .invokespecial 20, 3), (23, .putfield 21, 3), (26, .aload_n 0, 1), (27, .iconst 5, 1), (28, .newarray .int, 2), (30, .putfield 25, 3), (33, .aload_n 0, 1), (34, .bipush 12, 2), (36, .newarray .int, 2), (38, .putfield 29, 3), (41, .aload_n 0, 1), (42, .bipush 12, 2), (44, .newarray .int, 2), (46, .putfield 32, 3), (49, .aload_n 0, 1), (50, .bipush 12, 2), (52, .newarray .int, 2), (54, .putfield 35, 3), (57, .aload_n 0, 1), (58, .bipush 16, 2), (60, .newarray .int, 2), (62, .putfield 38, 3), (65, .return_, 1)]
def I_11 : ra_I := (lst_11, fl_1, kt_1, kl_1, nl_1, ql_1, ml_1, ol_1, al_1, mml_1)
theorem dc_11 : ∀ q ∈ lst_11, decode mt_11.2.1 q.1 = .ok (q.2.1, q.2.2) := by decide +kernel
theorem oI_11 : ra_okI pT mt_11.1.cls "BathWater$Scene" vwCl pNW pMT mt_11.2.1 I_11 := ⟨dc_11, lnk_1⟩
set_option maxRecDepth 100000 in
theorem oM_11 : pMT[11]? = some mt_11 := rfl
def lst_12 : List (Nat × Instr × Nat) := [(0, .aload_n 0, 1), (1, .invokespecial 3, 3), (4, .aload_n 0, 1), (5, .bipush 30, 2), (7, .newarray .int, 2), (9, .putfield 9, 3), (12, .aload_n 0, 1), (13, .bipush 30, 2), (15, .newarray .int, 2), (17, .putfield 15, 3), (20, .aload_n 0, 1), (21, .bipush 30, 2), (23, .newarray .int, 2), (25, .putfield 18, 3), (28, .aload_n 0, 1), (29, .bipush 30, 2), (31, .newarray .boolean, 2), (33, .putfield 21, 3), (36, .aload_n 0, 1), (37, .bipush 30, 2), (39, .newarray .int, 2), (41, .putfield 25, 3), (44, .aload_n 0, 1), (45, .bipush 30, 2), (47, .newarray .int, 2), (49, .putfield 28, 3), (52, .aload_n 0, 1), (53, .sipush 1200, 3), (56, .newarray .int, 2), (58, .putfield 31, 3), (61, .aload_n 0, 1), (62, .sipush 1189, 3), (65, .newarray .int, 2), (67, .putfield 34, 3), (70, .return_, 1)]
def I_12 : ra_I := (lst_12, fl_2, kt_2, kl_2, nl_2, ql_2, ml_2, ol_2, al_2, mml_2)
theorem dc_12 : ∀ q ∈ lst_12, decode mt_12.2.1 q.1 = .ok (q.2.1, q.2.2) := by decide +kernel
theorem oI_12 : ra_okI pT mt_12.1.cls "BathWater$Scene" vwCl pNW pMT mt_12.2.1 I_12 := ⟨dc_12, lnk_2⟩
set_option maxRecDepth 100000 in
theorem oM_12 : pMT[12]? = some mt_12 := rfl
def lst_13 : List (Nat × Instr × Nat) := [(0, .aload_n 0, 1), (1, .getfield 74, 3), (4, .bipush 20, 2), (6, .iadd, 1), (7, .sipush 1600, 3), (10, .if_icmp .le 5, 3), (13, .iconst (-1), 1), (14, .ireturn, 1), (15, .aload_n 0, 1), (16, .iload_n 1, 1), (17, .invokevirtual 78, 3), (20, .aload_n 0, 1), (21, .iload_n 2, 1), (22, .invokevirtual 78, 3), (25, .aload_n 0, 1), (26, .iload_n 3, 1), (27, .invokevirtual 78, 3), (30, .aload_n 0, 1), (31, .iload 4, 2), (33, .invokevirtual 78, 3), (36, .aload_n 0, 1), (37, .iload 5, 2), (39, .invokevirtual 78, 3), (42, .aload_n 0, 1), (43, .getfield 74, 3), (46, .ireturn, 1)]
def I_13 : ra_I := (lst_13, fl_8, kt_8, kl_8, nl_8, ql_8, ml_8, ol_8, al_8, mml_8)
theorem dc_13 : ∀ q ∈ lst_13, decode mt_13.2.1 q.1 = .ok (q.2.1, q.2.2) := by decide +kernel
theorem oI_13 : ra_okI pT mt_13.1.cls "BathWater$Scene" vwCl pNW pMT mt_13.2.1 I_13 := ⟨dc_13, lnk_8⟩
set_option maxRecDepth 100000 in
theorem oM_13 : pMT[13]? = some mt_13 := rfl
def lst_14 : List (Nat × Instr × Nat) := [(0, .bipush 24, 2), (2, .istore_n 2, 1), (3, .iload_n 2, 1), (4, .ifCond .lt 45, 3), (7, .aload_n 0, 1), (8, .getfield 74, 3), (11, .sipush 1600, 3), (14, .if_icmp .ge 35, 3), (17, .aload_n 0, 1), (18, .getfield 9, 3), (21, .aload_n 0, 1), (22, .getfield 74, 3), (25, .iload_n 1, 1), (26, .iload_n 2, 1), (27, .iushr, 1), (28, .sipush 255, 3), (31, .iand, 1), (32, .iastore, 1), (33, .aload_n 0, 1), (34, .dup, 1), (35, .getfield 74, 3), (38, .iconst 1, 1), (39, .iadd, 1), (40, .putfield 74, 3), (43, .iinc 2 (-8), 3), (46, .goto (-43), 3), (49, .return_, 1)]
def I_14 : ra_I := (lst_14, fl_8, kt_8, kl_8, nl_8, ql_8, ml_8, ol_8, al_8, mml_8)
theorem dc_14 : ∀ q ∈ lst_14, decode mt_14.2.1 q.1 = .ok (q.2.1, q.2.2) := by decide +kernel
theorem oI_14 : ra_okI pT mt_14.1.cls "BathWater$Scene" vwCl pNW pMT mt_14.2.1 I_14 := ⟨dc_14, lnk_8⟩
set_option maxRecDepth 100000 in
theorem oM_14 : pMT[14]? = some mt_14 := rfl
def lst_15 : List (Nat × Instr × Nat) := [(0, .iload_n 1, 1), (1, .ifCond .lt 11, 3), (4, .iload_n 1, 1), (5, .aload_n 0, 1), (6, .getfield 74, 3), (9, .if_icmp .le 5, 3), (12, .iconst (-1), 1), (13, .ireturn, 1), (14, .aload_n 0, 1), (15, .iload_n 1, 1), (16, .putfield 74, 3), (19, .iload_n 1, 1), (20, .ireturn, 1)]
def I_15 : ra_I := (lst_15, fl_8, kt_8, kl_8, nl_8, ql_8, ml_8, ol_8, al_8, mml_8)
theorem dc_15 : ∀ q ∈ lst_15, decode mt_15.2.1 q.1 = .ok (q.2.1, q.2.2) := by decide +kernel
theorem oI_15 : ra_okI pT mt_15.1.cls "BathWater$Scene" vwCl pNW pMT mt_15.2.1 I_15 := ⟨dc_15, lnk_8⟩
set_option maxRecDepth 100000 in
theorem oM_15 : pMT[15]? = some mt_15 := rfl
def lst_16 : List (Nat × Instr × Nat) := [(0, .aload_n 0, 1), (1, .getfield 16, 3), (4, .aload_n 0, 1), (5, .getfield 9, 3), (8, .aload_n 0, 1), (9, .getfield 74, 3), (12, .aload_n 0, 1), (13, .getfield 27, 3), (16, .invokevirtual 82, 3), (19, .ifCond .ne 5, 3), (22, .iconst (-1), 1), (23, .ireturn, 1), (24, .aload_n 0, 1), (25, .getfield 23, 3), (28, .astore_n 1, 1), (29, .aload_n 0, 1), (30, .aload_n 0, 1), (31, .getfield 27, 3), (34, .putfield 23, 3), (37, .aload_n 0, 1), (38, .aload_n 1, 1), (39, .putfield 27, 3), (42, .aload_n 0, 1), (43, .iconst 0, 1), (44, .putfield 74, 3), (47, .aload_n 0, 1), (48, .invokevirtual 86, 3), (51, .aload_n 0, 1), (52, .getfield 23, 3), (55, .getfield 89, 3), (58, .ireturn, 1)]
def I_16 : ra_I := (lst_16, fl_8, kt_8, kl_8, nl_8, ql_8, ml_8, ol_8, al_8, mml_8)
theorem dc_16 : ∀ q ∈ lst_16, decode mt_16.2.1 q.1 = .ok (q.2.1, q.2.2) := by decide +kernel
theorem oI_16 : ra_okI pT mt_16.1.cls "BathWater$Scene" vwCl pNW pMT mt_16.2.1 I_16 := ⟨dc_16, lnk_8⟩
set_option maxRecDepth 100000 in
theorem oM_16 : pMT[16]? = some mt_16 := rfl
def lst_17 : List (Nat × Instr × Nat) := [(0, .aload_n 0, 1), (1, .getfield 12, 3), (4, .aload_n 1, 1), (5, .iload_n 2, 1), (6, .aload_n 1, 1), (7, .arraylength, 1), (8, .invokestatic 33, 3), (11, .invokevirtual 39, 3), (14, .aload_n 0, 1), (15, .aload_n 3, 1), (16, .putfield 25, 3), (19, .aload_n 0, 1), (20, .getfield 25, 3), (23, .invokevirtual 43, 3), (26, .aload_n 0, 1), (27, .iconst 0, 1), (28, .putfield 46, 3), (31, .aload_n 0, 1), (32, .iconst 0, 1), (33, .putfield 49, 3), (36, .aload_n 0, 1), (37, .iconst 0, 1), (38, .putfield 52, 3), (41, .aload_n 0, 1), (42, .iconst (-1), 1), (43, .putfield 29, 3), (46, .aload_n 0, 1), (47, .iconst (-1), 1), (48, .putfield 55, 3), (51, .aload_n 0, 1), (52, .invokevirtual 58, 3), (55, .iconst 0, 1), (56, .istore 4, 2), (58, .iload 4, 2), (60, .sipush 1600, 3), (63, .if_icmp .gt 29, 3), (66, .aload_n 0, 1), (67, .getfield 61, 3), (70, .bipush 29, 2), (72, .if_icmp .eq 20, 3), (75, .aload_n 0, 1), (76, .getfield 52, 3), (79, .ifCond .ne 13, 3), (82, .aload_n 0, 1), (83, .invokevirtual 64, 3), (86, .iinc 4 1, 3), (89, .goto (-31), 3), (92, .aload_n 0, 1), (93, .getfield 52, 3), (96, .ifCond .ne 7, 3), (99, .iconst 1, 1), (100, .goto 4, 3), (103, .iconst 0, 1), (104, .ireturn, 1)]
def I_17 : ra_I := (lst_17, fl_5, kt_5, kl_5, nl_5, ql_5, ml_5, ol_5, al_5, mml_5)
theorem dc_17 : ∀ q ∈ lst_17, decode mt_17.2.1 q.1 = .ok (q.2.1, q.2.2) := by decide +kernel
theorem oI_17 : ra_okI pT mt_17.1.cls "BathWater$Scene" vwCl pNW pMT mt_17.2.1 I_17 := ⟨dc_17, lnk_5⟩
set_option maxRecDepth 100000 in
theorem oM_17 : pMT[17]? = some mt_17 := rfl
def lst_19 : List (Nat × Instr × Nat) := [(0, .aload_n 0, 1), (1, .iconst 0, 1), (2, .putfield 22, 3), (5, .iconst 0, 1), (6, .istore_n 3, 1), (7, .iconst 0, 1), (8, .istore 4, 2), (10, .iload 4, 2), (12, .sipush 1600, 3), (15, .if_icmp .ge 111, 3), (18, .iload_n 3, 1), (19, .iload_n 2, 1), (20, .if_icmp .ge 106, 3), (23, .aload_n 1, 1), (24, .iload_n 3, 1), (25, .iaload, 1), (26, .bipush 32, 2), (28, .if_icmp .eq 11, 3), (31, .aload_n 1, 1), (32, .iload_n 3, 1), (33, .iaload, 1), (34, .bipush 10, 2), (36, .if_icmp .ne 9, 3), (39, .iinc 3 1, 3), (42, .goto 78, 3), (45, .aload_n 1, 1), (46, .iload_n 3, 1), (47, .iaload, 1), (48, .invokestatic 26, 3), (51, .ifCond .eq 14, 3), (54, .aload_n 0, 1), (55, .aload_n 1, 1), (56, .iload_n 3, 1), (57, .iload_n 2, 1), (58, .invokevirtual 30, 3), (61, .istore_n 3, 1), (62, .goto 58, 3), (65, .aload_n 1, 1), (66, .iload_n 3, 1), (67, .iaload, 1), (68, .invokestatic 34, 3), (71, .ifCond .eq 14, 3), (74, .aload_n 0, 1), (75, .aload_n 1, 1), (76, .iload_n 3, 1), (77, .iload_n 2, 1), (78, .invokevirtual 37, 3), (81, .istore_n 3, 1), (82, .goto 38, 3), (85, .ldc 40, 2), (87, .aload_n 1, 1), (88, .iload_n 3, 1), (89, .iaload, 1), (90, .i2c, 1), (91, .invokevirtual 42, 3), (94, .istore 5, 2), (96, .aload_n 0, 1), (97, .iload 5, 2), (99, .ifCond .ge 8, 3), (102, .bipush 30, 2), (104, .goto 8, 3), (107, .bipush 16, 2), (109, .iload 5, 2), (111, .iadd, 1), (112, .iload_n 3, 1), (113, .lconst 0, 1), (114, .invokevirtual 48, 3), (117, .iinc 3 1, 3), (120, .iinc 4 1, 3), (123, .goto (-113), 3), (126, .aload_n 0, 1), (127, .bipush 29, 2), (129, .iload_n 2, 1), (130, .lconst 0, 1), (131, .invokevirtual 48, 3), (134, .return_, 1)]
def I_19 : ra_I := (lst_19, fl_7, kt_7, kl_7, nl_7, ql_7, ml_7, ol_7, al_7, mml_7)
theorem dc_19 : ∀ q ∈ lst_19, decode mt_19.2.1 q.1 = .ok (q.2.1, q.2.2) := by decide +kernel
theorem oI_19 : ra_okI pT mt_19.1.cls "BathWater$Scene" vwCl pNW pMT mt_19.2.1 I_19 := ⟨dc_19, lnk_7⟩
set_option maxRecDepth 100000 in
theorem oM_19 : pMT[19]? = some mt_19 := rfl
def lst_20 : List (Nat × Instr × Nat) := [(0, .iload_n 0, 1), (1, .bipush 97, 2), (3, .if_icmp .lt 13, 3), (6, .iload_n 0, 1), (7, .bipush 122, 2), (9, .if_icmp .gt 7, 3), (12, .iconst 1, 1), (13, .goto 4, 3), (16, .iconst 0, 1), (17, .ireturn, 1)]
def I_20 : ra_I := (lst_20, fl_7, kt_7, kl_7, nl_7, ql_7, ml_7, ol_7, al_7, mml_7)
theorem dc_20 : ∀ q ∈ lst_20, decode mt_20.2.1 q.1 = .ok (q.2.1, q.2.2) := by decide +kernel
theorem oI_20 : ra_okI pT mt_20.1.cls "BathWater$Scene" vwCl pNW pMT mt_20.2.1 I_20 := ⟨dc_20, lnk_7⟩
set_option maxRecDepth 100000 in
theorem oM_20 : pMT[20]? = some mt_20 := rfl
def lst_21 : List (Nat × Instr × Nat) := [(0, .lconst 0, 1), (1, .lstore 4, 2), (3, .iload_n 2, 1), (4, .istore 6, 2), (6, .iload 6, 2), (8, .iload_n 3, 1), (9, .if_icmp .ge 38, 3), (12, .aload_n 1, 1), (13, .iload 6, 2), (15, .iaload, 1), (16, .invokestatic 26, 3), (19, .ifCond .eq 28, 3), (22, .lload 4, 2), (24, .ldc2_w 52, 3), (27, .lmul, 1), (28, .aload_n 1, 1), (29, .iload 6, 2), (31, .iaload, 1), (32, .bipush 97, 2), (34, .isub, 1), (35, .iconst 1, 1), (36, .iadd, 1), (37, .i2l, 1), (38, .ladd, 1), (39, .lstore 4, 2), (41, .iinc 6 1, 3), (44, .goto (-38), 3), (47, .aload_n 0, 1), (48, .iload 6, 2), (50, .iload_n 2, 1), (51, .isub, 1), (52, .bipush 8, 2), (54, .if_icmp .le 8, 3), (57, .bipush 30, 2), (59, .goto 8, 3), (62, .lload 4, 2), (64, .invokestatic 54, 3), (67, .iload_n 2, 1), (68, .lload 4, 2), (70, .invokevirtual 48, 3), (73, .iload 6, 2), (75, .ireturn, 1)]
def I_21 : ra_I := (lst_21, fl_7, kt_7, kl_7, nl_7, ql_7, ml_7, ol_7, al_7, mml_7)
theorem dc_21 : ∀ q ∈ lst_21, decode mt_21.2.1 q.1 = .ok (q.2.1, q.2.2) := by decide +kernel
theorem oI_21 : ra_okI pT mt_21.1.cls "BathWater$Scene" vwCl pNW pMT mt_21.2.1 I_21 := ⟨dc_21, lnk_7⟩
set_option maxRecDepth 100000 in
theorem oM_21 : pMT[21]? = some mt_21 := rfl
def lst_22 : List (Nat × Instr × Nat) := [(0, .iconst 0, 1), (1, .istore_n 2, 1), (2, .iload_n 2, 1), (3, .bipush 16, 2), (5, .if_icmp .ge 20, 3), (8, .iload_n 2, 1), (9, .invokestatic 58, 3), (12, .lload_n 0, 1), (13, .lcmp, 1), (14, .ifCond .ne 5, 3), (17, .iload_n 2, 1), (18, .ireturn, 1), (19, .iinc 2 1, 3), (22, .goto (-20), 3), (25, .bipush 28, 2), (27, .ireturn, 1)]
def I_22 : ra_I := (lst_22, fl_7, kt_7, kl_7, nl_7, ql_7, ml_7, ol_7, al_7, mml_7)
theorem dc_22 : ∀ q ∈ lst_22, decode mt_22.2.1 q.1 = .ok (q.2.1, q.2.2) := by decide +kernel
theorem oI_22 : ra_okI pT mt_22.1.cls "BathWater$Scene" vwCl pNW pMT mt_22.2.1 I_22 := ⟨dc_22, lnk_7⟩
set_option maxRecDepth 100000 in
theorem oM_22 : pMT[22]? = some mt_22 := rfl
def lst_23 : List (Nat × Instr × Nat) := [(0, .lconst 0, 1), (1, .lstore_n 1, 1), (2, .iload_n 0, 1), (3, .bipush 8, 2), (5, .imul, 1), (6, .istore_n 3, 1), (7, .iload_n 3, 1), (8, .iload_n 0, 1), (9, .iconst 1, 1), (10, .iadd, 1), (11, .bipush 8, 2), (13, .imul, 1), (14, .if_icmp .ge 39, 3), (17, .ldc 62, 2), (19, .iload_n 3, 1), (20, .invokevirtual 64, 3), (23, .bipush 32, 2), (25, .if_icmp .eq 28, 3), (28, .lload_n 1, 1), (29, .ldc2_w 52, 3), (32, .lmul, 1), (33, .ldc 62, 2), (35, .iload_n 3, 1), (36, .invokevirtual 64, 3), (39, .bipush 97, 2), (41, .isub, 1), (42, .iconst 1, 1), (43, .iadd, 1), (44, .i2l, 1), (45, .ladd, 1), (46, .lstore_n 1, 1), (47, .iinc 3 1, 3), (50, .goto (-43), 3), (53, .lload_n 1, 1), (54, .lreturn, 1)]
def I_23 : ra_I := (lst_23, fl_7, kt_7, kl_7, nl_7, ql_7, ml_7, ol_7, al_7, mml_7)
theorem dc_23 : ∀ q ∈ lst_23, decode mt_23.2.1 q.1 = .ok (q.2.1, q.2.2) := by decide +kernel
theorem oI_23 : ra_okI pT mt_23.1.cls "BathWater$Scene" vwCl pNW pMT mt_23.2.1 I_23 := ⟨dc_23, lnk_7⟩
set_option maxRecDepth 100000 in
theorem oM_23 : pMT[23]? = some mt_23 := rfl
def lst_24 : List (Nat × Instr × Nat) := [(0, .aload_n 0, 1), (1, .invokevirtual 492, 3), (4, .ifCond .eq 12, 3), (7, .aload_n 0, 1), (8, .getfield 9, 3), (11, .iload_n 1, 1), (12, .invokestatic 495, 3), (15, .ireturn, 1), (16, .aload_n 0, 1), (17, .getfield 9, 3), (20, .iload_n 1, 1), (21, .invokestatic 498, 3), (24, .ireturn, 1)]
def I_24 : ra_I := (lst_24, fl_14, kt_14, kl_14, nl_14, ql_14, ml_14, ol_14, al_14, mml_14)
theorem dc_24 : ∀ q ∈ lst_24, decode mt_24.2.1 q.1 = .ok (q.2.1, q.2.2) := by decide +kernel
theorem oI_24 : ra_okI pT mt_24.1.cls "BathWater$Scene" vwCl pNW pMT mt_24.2.1 I_24 := ⟨dc_24, lnk_14⟩
set_option maxRecDepth 100000 in
theorem oM_24 : pMT[24]? = some mt_24 := rfl
def lst_25 : List (Nat × Instr × Nat) := [(0, .getstatic 38, 3), (3, .ifCond .eq 14, 3), (6, .aload_n 0, 1), (7, .getfield 15, 3), (10, .ifCond .ne 7, 3), (13, .iconst 1, 1), (14, .goto 4, 3), (17, .iconst 0, 1), (18, .ireturn, 1)]
def I_25 : ra_I := (lst_25, fl_14, kt_14, kl_14, nl_14, ql_14, ml_14, ol_14, al_14, mml_14)
theorem dc_25 : ∀ q ∈ lst_25, decode mt_25.2.1 q.1 = .ok (q.2.1, q.2.2) := by decide +kernel
theorem oI_25 : ra_okI pT mt_25.1.cls "BathWater$Scene" vwCl pNW pMT mt_25.2.1 I_25 := ⟨dc_25, lnk_14⟩
set_option maxRecDepth 100000 in
theorem oM_25 : pMT[25]? = some mt_25 := rfl
def lst_26 : List (Nat × Instr × Nat) := [(0, .iload_n 1, 1), (1, .aload_n 0, 1), (2, .arraylength, 1), (3, .invokestatic 9, 3), (6, .aload_n 0, 1), (7, .iload_n 1, 1), (8, .baload, 1), (9, .sipush 255, 3), (12, .iand, 1), (13, .i2c, 1), (14, .ireturn, 1)]
def I_26 : ra_I := (lst_26, fl_15, kt_15, kl_15, nl_15, ql_15, ml_15, ol_15, al_15, mml_15)
theorem dc_26 : ∀ q ∈ lst_26, decode mt_26.2.1 q.1 = .ok (q.2.1, q.2.2) := by decide +kernel
theorem oI_26 : ra_okI pT mt_26.1.cls "BathWater$Scene" vwCl pNW pMT mt_26.2.1 I_26 := ⟨dc_26, lnk_15⟩
set_option maxRecDepth 100000 in
theorem oM_26 : pMT[26]? = some mt_26 := rfl
def lst_27 : List (Nat × Instr × Nat) := [(0, .iload_n 0, 1), (1, .iload_n 1, 1), (2, .getstatic 1053, 3), (5, .invokestatic 1059, 3), (8, .pop, 1), (9, .return_, 1)]
def I_27 : ra_I := (lst_27, fl_14, kt_14, kl_14, nl_14, ql_14, ml_14, ol_14, al_14, mml_14)
theorem dc_27 : ∀ q ∈ lst_27, decode mt_27.2.1 q.1 = .ok (q.2.1, q.2.2) := by decide +kernel
theorem oI_27 : ra_okI pT mt_27.1.cls "BathWater$Scene" vwCl pNW pMT mt_27.2.1 I_27 := ⟨dc_27, lnk_14⟩
set_option maxRecDepth 100000 in
theorem oM_27 : pMT[27]? = some mt_27 := rfl
def lst_28 : List (Nat × Instr × Nat) := [(0, .iload_n 0, 1), (1, .ifCond .lt 8, 3), (4, .iload_n 0, 1), (5, .iload_n 1, 1), (6, .if_icmp .lt 10, 3), (9, .aload_n 2, 1), (10, .iload_n 0, 1), (11, .iload_n 1, 1), (12, .invokestatic 95, 3), (15, .athrow, 1), (16, .iload_n 0, 1), (17, .ireturn, 1)]
def I_28 : ra_I := (lst_28, fl_16, kt_16, kl_16, nl_16, ql_16, ml_16, ol_16, al_16, mml_16)
theorem dc_28 : ∀ q ∈ lst_28, decode mt_28.2.1 q.1 = .ok (q.2.1, q.2.2) := by decide +kernel
theorem oI_28 : ra_okI pT mt_28.1.cls "BathWater$Scene" vwCl pNW pMT mt_28.2.1 I_28 := ⟨dc_28, lnk_16⟩
set_option maxRecDepth 100000 in
theorem oM_28 : pMT[28]? = some mt_28 := rfl
def lst_33 : List (Nat × Instr × Nat) := [(0, .aload_n 0, 1), (1, .getfield 22, 3), (4, .sipush 1600, 3), (7, .if_icmp .gt 43, 3), (10, .aload_n 0, 1), (11, .getfield 9, 3), (14, .aload_n 0, 1), (15, .getfield 22, 3), (18, .iload_n 1, 1), (19, .iastore, 1), (20, .aload_n 0, 1), (21, .getfield 15, 3), (24, .aload_n 0, 1), (25, .getfield 22, 3), (28, .iload_n 2, 1), (29, .iastore, 1), (30, .aload_n 0, 1), (31, .getfield 18, 3), (34, .aload_n 0, 1), (35, .getfield 22, 3), (38, .lload_n 3, 1), (39, .lastore, 1), (40, .aload_n 0, 1), (41, .dup, 1), (42, .getfield 22, 3), (45, .iconst 1, 1), (46, .iadd, 1), (47, .putfield 22, 3), (50, .return_, 1)]
def I_33 : ra_I := (lst_33, fl_7, kt_7, kl_7, nl_7, ql_7, ml_7, ol_7, al_7, mml_7)
theorem dc_33 : ∀ q ∈ lst_33, decode mt_33.2.1 q.1 = .ok (q.2.1, q.2.2) := by decide +kernel
theorem oI_33 : ra_okI pT mt_33.1.cls "BathWater$Scene" vwCl pNW pMT mt_33.2.1 I_33 := ⟨dc_33, lnk_7⟩
set_option maxRecDepth 100000 in
theorem oM_33 : pMT[33]? = some mt_33 := rfl
def lst_34 : List (Nat × Instr × Nat) := [(0, .iload_n 0, 1), (1, .bipush 48, 2), (3, .if_icmp .lt 13, 3), (6, .iload_n 0, 1), (7, .bipush 57, 2), (9, .if_icmp .gt 7, 3), (12, .iconst 1, 1), (13, .goto 4, 3), (16, .iconst 0, 1), (17, .ireturn, 1)]
def I_34 : ra_I := (lst_34, fl_7, kt_7, kl_7, nl_7, ql_7, ml_7, ol_7, al_7, mml_7)
theorem dc_34 : ∀ q ∈ lst_34, decode mt_34.2.1 q.1 = .ok (q.2.1, q.2.2) := by decide +kernel
theorem oI_34 : ra_okI pT mt_34.1.cls "BathWater$Scene" vwCl pNW pMT mt_34.2.1 I_34 := ⟨dc_34, lnk_7⟩
set_option maxRecDepth 100000 in
theorem oM_34 : pMT[34]? = some mt_34 := rfl
def lst_35 : List (Nat × Instr × Nat) := [(0, .iconst 0, 1), (1, .istore 4, 2), (3, .iload_n 2, 1), (4, .istore 5, 2), (6, .iload 5, 2), (8, .iload_n 3, 1), (9, .if_icmp .ge 34, 3), (12, .aload_n 1, 1), (13, .iload 5, 2), (15, .iaload, 1), (16, .invokestatic 34, 3), (19, .ifCond .eq 24, 3), (22, .iload 4, 2), (24, .bipush 10, 2), (26, .imul, 1), (27, .aload_n 1, 1), (28, .iload 5, 2), (30, .iaload, 1), (31, .bipush 48, 2), (33, .isub, 1), (34, .iadd, 1), (35, .istore 4, 2), (37, .iinc 5 1, 3), (40, .goto (-34), 3), (43, .iload 5, 2), (45, .iload_n 3, 1), (46, .if_icmp .ge 17, 3), (49, .aload_n 1, 1), (50, .iload 5, 2), (52, .iaload, 1), (53, .invokestatic 26, 3), (56, .ifCond .eq 7, 3), (59, .iconst 1, 1), (60, .goto 4, 3), (63, .iconst 0, 1), (64, .istore 6, 2), (66, .aload_n 0, 1), (67, .iload 5, 2), (69, .iload_n 2, 1), (70, .isub, 1), (71, .iconst 4, 1), (72, .if_icmp .gt 8, 3), (75, .iload 6, 2), (77, .ifCond .eq 8, 3), (80, .bipush 30, 2), (82, .goto 5, 3), (85, .bipush 27, 2), (87, .iload_n 2, 1), (88, .iload 4, 2), (90, .i2l, 1), (91, .invokevirtual 48, 3), (94, .iload 5, 2), (96, .ireturn, 1)]
def I_35 : ra_I := (lst_35, fl_7, kt_7, kl_7, nl_7, ql_7, ml_7, ol_7, al_7, mml_7)
theorem dc_35 : ∀ q ∈ lst_35, decode mt_35.2.1 q.1 = .ok (q.2.1, q.2.2) := by decide +kernel
theorem oI_35 : ra_okI pT mt_35.1.cls "BathWater$Scene" vwCl pNW pMT mt_35.2.1 I_35 := ⟨dc_35, lnk_7⟩
set_option maxRecDepth 100000 in
theorem oM_35 : pMT[35]? = some mt_35 := rfl
def lst_36 : List (Nat × Instr × Nat) := [(0, .aload_n 0, 1), (1, .iload_n 1, 1), (2, .iconst 0, 1), (3, .invokevirtual 633, 3), (6, .ireturn, 1)]
def I_36 : ra_I := (lst_36, fl_14, kt_14, kl_14, nl_14, ql_14, ml_14, ol_14, al_14, mml_14)
theorem dc_36 : ∀ q ∈ lst_36, decode mt_36.2.1 q.1 = .ok (q.2.1, q.2.2) := by decide +kernel
theorem oI_36 : ra_okI pT mt_36.1.cls "BathWater$Scene" vwCl pNW pMT mt_36.2.1 I_36 := ⟨dc_36, lnk_14⟩
set_option maxRecDepth 100000 in
theorem oM_36 : pMT[36]? = some mt_36 := rfl
def lst_37 : List (Nat × Instr × Nat) := [(0, .aload_n 0, 1), (1, .invokevirtual 492, 3), (4, .ifCond .eq 19, 3), (7, .aload_n 0, 1), (8, .getfield 9, 3), (11, .iload_n 1, 1), (12, .iload_n 2, 1), (13, .aload_n 0, 1), (14, .invokevirtual 505, 3), (17, .invokestatic 637, 3), (20, .goto 16, 3), (23, .aload_n 0, 1), (24, .getfield 9, 3), (27, .iload_n 1, 1), (28, .iload_n 2, 1), (29, .aload_n 0, 1), (30, .invokevirtual 505, 3), (33, .invokestatic 640, 3), (36, .ireturn, 1)]
def I_37 : ra_I := (lst_37, fl_14, kt_14, kl_14, nl_14, ql_14, ml_14, ol_14, al_14, mml_14)
theorem dc_37 : ∀ q ∈ lst_37, decode mt_37.2.1 q.1 = .ok (q.2.1, q.2.2) := by decide +kernel
theorem oI_37 : ra_okI pT mt_37.1.cls "BathWater$Scene" vwCl pNW pMT mt_37.2.1 I_37 := ⟨dc_37, lnk_14⟩
set_option maxRecDepth 100000 in
theorem oM_37 : pMT[37]? = some mt_37 := rfl
def lst_38 : List (Nat × Instr × Nat) := [(0, .aload_n 0, 1), (1, .getfield 9, 3), (4, .arraylength, 1), (5, .aload_n 0, 1), (6, .invokevirtual 335, 3), (9, .ishr, 1), (10, .ireturn, 1)]
def I_38 : ra_I := (lst_38, fl_14, kt_14, kl_14, nl_14, ql_14, ml_14, ol_14, al_14, mml_14)
theorem dc_38 : ∀ q ∈ lst_38, decode mt_38.2.1 q.1 = .ok (q.2.1, q.2.2) := by decide +kernel
theorem oI_38 : ra_okI pT mt_38.1.cls "BathWater$Scene" vwCl pNW pMT mt_38.2.1 I_38 := ⟨dc_38, lnk_14⟩
set_option maxRecDepth 100000 in
theorem oM_38 : pMT[38]? = some mt_38 := rfl
def lst_39 : List (Nat × Instr × Nat) := [(0, .getstatic 38, 3), (3, .ifCond .eq 10, 3), (6, .aload_n 0, 1), (7, .getfield 15, 3), (10, .goto 4, 3), (13, .iconst 1, 1), (14, .ireturn, 1)]
def I_39 : ra_I := (lst_39, fl_14, kt_14, kl_14, nl_14, ql_14, ml_14, ol_14, al_14, mml_14)
theorem dc_39 : ∀ q ∈ lst_39, decode mt_39.2.1 q.1 = .ok (q.2.1, q.2.2) := by decide +kernel
theorem oI_39 : ra_okI pT mt_39.1.cls "BathWater$Scene" vwCl pNW pMT mt_39.2.1 I_39 := ⟨dc_39, lnk_14⟩
set_option maxRecDepth 100000 in
theorem oM_39 : pMT[39]? = some mt_39 := rfl
def lst_40 : List (Nat × Instr × Nat) := [(0, .iload_n 1, 1), (1, .invokestatic 88, 3), (4, .ifCond .ne 5, 3), (7, .iconst (-1), 1), (8, .ireturn, 1), (9, .iload_n 2, 1), (10, .iconst 0, 1), (11, .invokestatic 92, 3), (14, .istore_n 2, 1), (15, .iload_n 3, 1), (16, .aload_n 0, 1), (17, .arraylength, 1), (18, .invokestatic 38, 3), (21, .istore_n 3, 1), (22, .iload_n 2, 1), (23, .iload_n 3, 1), (24, .if_icmp .lt 5, 3), (27, .iconst (-1), 1), (28, .ireturn, 1), (29, .aload_n 0, 1), (30, .iload_n 1, 1), (31, .iload_n 2, 1), (32, .iload_n 3, 1), (33, .invokestatic 95, 3), (36, .ireturn, 1)]
def I_40 : ra_I := (lst_40, fl_15, kt_15, kl_15, nl_15, ql_15, ml_15, ol_15, al_15, mml_15)
theorem dc_40 : ∀ q ∈ lst_40, decode mt_40.2.1 q.1 = .ok (q.2.1, q.2.2) := by decide +kernel
theorem oI_40 : ra_okI pT mt_40.1.cls "BathWater$Scene" vwCl pNW pMT mt_40.2.1 I_40 := ⟨dc_40, lnk_15⟩
set_option maxRecDepth 100000 in
theorem oM_40 : pMT[40]? = some mt_40 := rfl
def lst_41 : List (Nat × Instr × Nat) := [(0, .iload_n 0, 1), (1, .ifCond .lt 14, 3), (4, .iload_n 0, 1), (5, .sipush 255, 3), (8, .if_icmp .gt 7, 3), (11, .iconst 1, 1), (12, .goto 4, 3), (15, .iconst 0, 1), (16, .ireturn, 1)]
def I_41 : ra_I := (lst_41, fl_15, kt_15, kl_15, nl_15, ql_15, ml_15, ol_15, al_15, mml_15)
theorem dc_41 : ∀ q ∈ lst_41, decode mt_41.2.1 q.1 = .ok (q.2.1, q.2.2) := by decide +kernel
theorem oI_41 : ra_okI pT mt_41.1.cls "BathWater$Scene" vwCl pNW pMT mt_41.2.1 I_41 := ⟨dc_41, lnk_15⟩
set_option maxRecDepth 100000 in
theorem oM_41 : pMT[41]? = some mt_41 := rfl
def lst_43 : List (Nat × Instr × Nat) := [(0, .iload_n 1, 1), (1, .i2b, 1), (2, .istore 4, 2), (4, .iload_n 2, 1), (5, .istore 5, 2), (7, .iload 5, 2), (9, .iload_n 3, 1), (10, .if_icmp .ge 21, 3), (13, .aload_n 0, 1), (14, .iload 5, 2), (16, .baload, 1), (17, .iload 4, 2), (19, .if_icmp .ne 6, 3), (22, .iload 5, 2), (24, .ireturn, 1), (25, .iinc 5 1, 3), (28, .goto (-21), 3), (31, .iconst (-1), 1), (32, .ireturn, 1)]
def I_43 : ra_I := (lst_43, fl_15, kt_15, kl_15, nl_15, ql_15, ml_15, ol_15, al_15, mml_15)
theorem dc_43 : ∀ q ∈ lst_43, decode mt_43.2.1 q.1 = .ok (q.2.1, q.2.2) := by decide +kernel
theorem oI_43 : ra_okI pT mt_43.1.cls "BathWater$Scene" vwCl pNW pMT mt_43.2.1 I_43 := ⟨dc_43, lnk_15⟩
set_option maxRecDepth 100000 in
theorem oM_43 : pMT[43]? = some mt_43 := rfl
def lst_54 : List (Nat × Instr × Nat) := [(0, .aload_n 0, 1), (1, .getfield 52, 3), (4, .ifCond .ne 62, 3), (7, .aload_n 0, 1), (8, .getfield 55, 3), (11, .iconst 1, 1), (12, .iadd, 1), (13, .aload_n 0, 1), (14, .getfield 12, 3), (17, .getfield 67, 3), (20, .if_icmp .ge 46, 3), (23, .aload_n 0, 1), (24, .dup, 1), (25, .getfield 55, 3), (28, .iconst 1, 1), (29, .iadd, 1), (30, .putfield 55, 3), (33, .aload_n 0, 1), (34, .aload_n 0, 1), (35, .getfield 12, 3), (38, .getfield 70, 3), (41, .aload_n 0, 1), (42, .getfield 55, 3), (45, .iaload, 1), (46, .putfield 61, 3), (49, .aload_n 0, 1), (50, .aload_n 0, 1), (51, .getfield 12, 3), (54, .getfield 74, 3), (57, .aload_n 0, 1), (58, .getfield 55, 3), (61, .laload, 1), (62, .l2i, 1), (63, .putfield 77, 3), (66, .return_, 1)]
def I_54 : ra_I := (lst_54, fl_5, kt_5, kl_5, nl_5, ql_5, ml_5, ol_5, al_5, mml_5)
theorem dc_54 : ∀ q ∈ lst_54, decode mt_54.2.1 q.1 = .ok (q.2.1, q.2.2) := by decide +kernel
theorem oI_54 : ra_okI pT mt_54.1.cls "BathWater$Scene" vwCl pNW pMT mt_54.2.1 I_54 := ⟨dc_54, lnk_5⟩
set_option maxRecDepth 100000 in
theorem oM_54 : pMT[54]? = some mt_54 := rfl
def lst_55 : List (Nat × Instr × Nat) := [(0, .aload_n 0, 1), (1, .getfield 61, 3), (4, .istore_n 1, 1), (5, .aload_n 0, 1), (6, .iload_n 1, 1), (7, .invokevirtual 90, 3), (10, .ifCond .ne 9, 3), (13, .aload_n 0, 1), (14, .iconst 2, 1), (15, .invokevirtual 83, 3), (18, .return_, 1), (19, .aload_n 0, 1), (20, .dup, 1), (21, .getfield 46, 3), (24, .iconst 1, 1), (25, .iload_n 1, 1), (26, .ishl, 1), (27, .ior, 1), (28, .putfield 46, 3), (31, .aload_n 0, 1), (32, .invokevirtual 58, 3), (35, .iload_n 1, 1), (36, .tableswitch 130 0 8 #[52, 130, 91, 130, 98, 130, 130, 105, 113], 52), (88, .aload_n 0, 1), (89, .getfield 25, 3), (92, .aload_n 0, 1), (93, .iconst 1, 1), (94, .bipush 12, 2), (96, .invokevirtual 87, 3), (99, .putfield 94, 3), (102, .aload_n 0, 1), (103, .getfield 25, 3), (106, .aload_n 0, 1), (107, .iconst 1, 1), (108, .iconst 1, 1), (109, .bipush 99, 2), (111, .aload_n 0, 1), (112, .getfield 25, 3), (115, .getfield 97, 3), (118, .invokevirtual 100, 3), (121, .putfield 97, 3), (124, .goto 60, 3), (127, .aload_n 0, 1), (128, .invokevirtual 104, 3), (131, .goto 53, 3), (134, .aload_n 0, 1), (135, .invokevirtual 107, 3), (138, .goto 46, 3), (141, .aload_n 0, 1), (142, .iconst 0, 1), (143, .invokevirtual 110, 3), (146, .goto 38, 3), (149, .aload_n 0, 1), (150, .getfield 25, 3), (153, .aload_n 0, 1), (154, .iconst 0, 1), (155, .bipush 100, 2), (157, .invokevirtual 87, 3), (160, .putfield 113, 3), (163, .goto 21, 3), (166, .aload_n 0, 1), (167, .getfield 25, 3), (170, .getfield 116, 3), (173, .aload_n 0, 1), (174, .iconst 0, 1), (175, .sipush 999, 3), (178, .invokevirtual 87, 3), (181, .putfield 120, 3), (184, .aload_n 0, 1), (185, .bipush 16, 2), (187, .invokevirtual 125, 3), (190, .return_, 1)]
def I_55 : ra_I := (lst_55, fl_5, kt_5, kl_5, nl_5, ql_5, ml_5, ol_5, al_5, mml_5)
theorem dc_55 : ∀ q ∈ lst_55, decode mt_55.2.1 q.1 = .ok (q.2.1, q.2.2) := by decide +kernel
theorem oI_55 : ra_okI pT mt_55.1.cls "BathWater$Scene" vwCl pNW pMT mt_55.2.1 I_55 := ⟨dc_55, lnk_5⟩
set_option maxRecDepth 100000 in
theorem oM_55 : pMT[55]? = some mt_55 := rfl
