def lst_6 : List (Nat × Instr × Nat) := [(0, .iconst 0, 1), (1, .istore_n 2, 1), (2, .aload_n 0, 1), (3, .arraylength, 1), (4, .istore_n 3, 1), (5, .iload_n 2, 1), (6, .iload_n 3, 1), (7, .if_icmp .ge 13, 3), (10, .aload_n 0, 1), (11, .iload_n 2, 1), (12, .iload_n 1, 1), (13, .iastore, 1), (14, .iinc 2 1, 3), (17, .goto (-12), 3), (20, .return_, 1)]
def I_6 : ra_I := (lst_6, fl_11, kt_11, kl_11, nl_11, ql_11, ml_11, ol_11, al_11, mml_11)
theorem dc_6 : ∀ q ∈ lst_6, decode mt_6.2.1 q.1 = .ok (q.2.1, q.2.2) := by decide +kernel
theorem oI_6 : ra_okI pT mt_6.1.cls "BathWater$Scene" vwCl pNW pMT mt_6.2.1 I_6 := ⟨dc_6, lnk_11⟩
set_option maxRecDepth 100000 in
theorem oM_6 : pMT[6]? = some mt_6 := rfl
def lst_73 : List (Nat × Instr × Nat) := [(0, .aload_n 1, 1), (1, .getfield 9, 3), (4, .iconst 0, 1), (5, .aload_n 0, 1), (6, .getfield 9, 3), (9, .iconst 0, 1), (10, .bipush 12, 2), (12, .invokestatic 40, 3), (15, .aload_n 1, 1), (16, .getfield 15, 3), (19, .iconst 0, 1), (20, .aload_n 0, 1), (21, .getfield 15, 3), (24, .iconst 0, 1), (25, .iconst 5, 1), (26, .invokestatic 40, 3), (29, .aload_n 1, 1), (30, .getfield 18, 3), (33, .iconst 0, 1), (34, .aload_n 0, 1), (35, .getfield 18, 3), (38, .iconst 0, 1), (39, .iconst 5, 1), (40, .invokestatic 40, 3), (43, .aload_n 1, 1), (44, .getfield 21, 3), (47, .iconst 0, 1), (48, .aload_n 0, 1), (49, .getfield 21, 3), (52, .iconst 0, 1), (53, .iconst 5, 1), (54, .invokestatic 40, 3), (57, .aload_n 0, 1), (58, .aload_n 1, 1), (59, .getfield 33, 3), (62, .putfield 33, 3), (65, .aload_n 0, 1), (66, .aload_n 1, 1), (67, .getfield 37, 3), (70, .putfield 37, 3), (73, .return_, 1)]
def I_73 : ra_I := (lst_73, fl_6, kt_6, kl_6, nl_6, ql_6, ml_6, ol_6, al_6, mml_6)
theorem dc_73 : ∀ q ∈ lst_73, decode mt_73.2.1 q.1 = .ok (q.2.1, q.2.2) := by decide +kernel
theorem oI_73 : ra_okI pT mt_73.1.cls "BathWater$Scene" vwCl pNW pMT mt_73.2.1 I_73 := ⟨dc_73, lnk_6⟩
set_option maxRecDepth 100000 in
theorem oM_73 : pMT[73]? = some mt_73 := rfl
def lst_77 : List (Nat × Instr × Nat) := [(0, .aload_n 0, 1), (1, .iload_n 1, 1), (2, .invokevirtual 144, 3), (5, .ifCond .ne 6, 3), (8, .bipush (-2), 2), (10, .ireturn, 1), (11, .iload_n 2, 1), (12, .tableswitch 51 0 2 #[28, 38, 45], 28), (40, .aload_n 0, 1), (41, .getfield 33, 3), (44, .getfield 147, 3), (47, .iload_n 1, 1), (48, .iaload, 1), (49, .ireturn, 1), (50, .aload_n 0, 1), (51, .invokevirtual 150, 3), (54, .iload_n 1, 1), (55, .iaload, 1), (56, .ireturn, 1), (57, .aload_n 0, 1), (58, .iload_n 1, 1), (59, .invokevirtual 154, 3), (62, .ireturn, 1), (63, .bipush (-2), 2), (65, .ireturn, 1)]
def I_77 : ra_I := (lst_77, fl_8, kt_8, kl_8, nl_8, ql_8, ml_8, ol_8, al_8, mml_8)
theorem dc_77 : ∀ q ∈ lst_77, decode mt_77.2.1 q.1 = .ok (q.2.1, q.2.2) := by decide +kernel
theorem oI_77 : ra_okI pT mt_77.1.cls "BathWater$Scene" vwCl pNW pMT mt_77.2.1 I_77 := ⟨dc_77, lnk_8⟩
set_option maxRecDepth 100000 in
theorem oM_77 : pMT[77]? = some mt_77 := rfl
def lst_78 : List (Nat × Instr × Nat) := [(0, .iload_n 1, 1), (1, .ifCond .lt 18, 3), (4, .iload_n 1, 1), (5, .aload_n 0, 1), (6, .getfield 23, 3), (9, .getfield 117, 3), (12, .if_icmp .ge 7, 3), (15, .iconst 1, 1), (16, .goto 4, 3), (19, .iconst 0, 1), (20, .ireturn, 1)]
def I_78 : ra_I := (lst_78, fl_8, kt_8, kl_8, nl_8, ql_8, ml_8, ol_8, al_8, mml_8)
theorem dc_78 : ∀ q ∈ lst_78, decode mt_78.2.1 q.1 = .ok (q.2.1, q.2.2) := by decide +kernel
theorem oI_78 : ra_okI pT mt_78.1.cls "BathWater$Scene" vwCl pNW pMT mt_78.2.1 I_78 := ⟨dc_78, lnk_8⟩
set_option maxRecDepth 100000 in
theorem oM_78 : pMT[78]? = some mt_78 := rfl
def lst_79 : List (Nat × Instr × Nat) := [(0, .aload_n 0, 1), (1, .invokevirtual 134, 3), (4, .aload_n 0, 1), (5, .getfield 47, 3), (8, .iconst 1, 1), (9, .invokevirtual 137, 3), (12, .aload_n 0, 1), (13, .getfield 47, 3), (16, .getfield 141, 3), (19, .areturn, 1)]
def I_79 : ra_I := (lst_79, fl_8, kt_8, kl_8, nl_8, ql_8, ml_8, ol_8, al_8, mml_8)
theorem dc_79 : ∀ q ∈ lst_79, decode mt_79.2.1 q.1 = .ok (q.2.1, q.2.2) := by decide +kernel
theorem oI_79 : ra_okI pT mt_79.1.cls "BathWater$Scene" vwCl pNW pMT mt_79.2.1 I_79 := ⟨dc_79, lnk_8⟩
set_option maxRecDepth 100000 in
theorem oM_79 : pMT[79]? = some mt_79 := rfl
def lst_80 : List (Nat × Instr × Nat) := [(0, .aload_n 0, 1), (1, .getfield 47, 3), (4, .aload_n 0, 1), (5, .getfield 23, 3), (8, .aload_n 0, 1), (9, .getfield 33, 3), (12, .invokevirtual 130, 3), (15, .return_, 1)]
def I_80 : ra_I := (lst_80, fl_8, kt_8, kl_8, nl_8, ql_8, ml_8, ol_8, al_8, mml_8)
theorem dc_80 : ∀ q ∈ lst_80, decode mt_80.2.1 q.1 = .ok (q.2.1, q.2.2) := by decide +kernel
theorem oI_80 : ra_okI pT mt_80.1.cls "BathWater$Scene" vwCl pNW pMT mt_80.2.1 I_80 := ⟨dc_80, lnk_8⟩
set_option maxRecDepth 100000 in
theorem oM_80 : pMT[80]? = some mt_80 := rfl
def lst_81 : List (Nat × Instr × Nat) := [(0, .aload_n 0, 1), (1, .aload_n 1, 1), (2, .putfield 12, 3), (5, .aload_n 0, 1), (6, .getfield 21, 3), (9, .aload_n 2, 1), (10, .invokevirtual 41, 3), (13, .aload_n 0, 1), (14, .getfield 25, 3), (17, .iconst 0, 1), (18, .invokestatic 45, 3), (21, .aload_n 0, 1), (22, .iconst 0, 1), (23, .putfield 51, 3), (26, .aload_n 0, 1), (27, .iconst 0, 1), (28, .putfield 55, 3), (31, .return_, 1)]
def I_81 : ra_I := (lst_81, fl_1, kt_1, kl_1, nl_1, ql_1, ml_1, ol_1, al_1, mml_1)
theorem dc_81 : ∀ q ∈ lst_81, decode mt_81.2.1 q.1 = .ok (q.2.1, q.2.2) := by decide +kernel
theorem oI_81 : ra_okI pT mt_81.1.cls "BathWater$Scene" vwCl pNW pMT mt_81.2.1 I_81 := ⟨dc_81, lnk_1⟩
set_option maxRecDepth 100000 in
theorem oM_81 : pMT[81]? = some mt_81 := rfl
def lst_82 : List (Nat × Instr × Nat) := [(0, .aload_n 0, 1), (1, .getfield 29, 3), (4, .iconst (-1), 1), (5, .invokestatic 45, 3), (8, .aload_n 0, 1), (9, .getfield 32, 3), (12, .iconst 0, 1), (13, .invokestatic 45, 3), (16, .iconst 0, 1), (17, .istore_n 2, 1), (18, .iload_n 2, 1), (19, .aload_n 0, 1), (20, .getfield 12, 3), (23, .getfield 98, 3), (26, .if_icmp .ge 130, 3), (29, .aload_n 0, 1), (30, .getfield 21, 3), (33, .getfield 74, 3), (36, .iload_n 2, 1), (37, .iaload, 1), (38, .istore_n 3, 1), (39, .iload_n 3, 1), (40, .ifCond .lt 9, 3), (43, .aload_n 0, 1), (44, .iload_n 2, 1), (45, .iload_n 3, 1), (46, .invokevirtual 78, 3), (49, .iconst 0, 1), (50, .istore 4, 2), (52, .iload 4, 2), (54, .aload_n 0, 1), (55, .getfield 12, 3), (58, .getfield 105, 3), (61, .if_icmp .ge 89, 3), (64, .iload_n 3, 1), (65, .ifCond .lt 85, 3), (68, .iload_n 1, 1), (69, .ifCond .ne 16, 3), (72, .aload_n 0, 1), (73, .getfield 21, 3), (76, .getfield 62, 3), (79, .iload 4, 2), (81, .iaload, 1), (82, .ifCond .le 62, 3), (85, .aload_n 0, 1), (86, .getfield 38, 3), (89, .bipush 13, 2), (91, .iload_n 3, 1), (92, .iload 4, 2), (94, .isub, 1), (95, .invokestatic 82, 3), (98, .iastore, 1), (99, .aload_n 0, 1), (100, .getfield 12, 3), (103, .getfield 88, 3), (106, .aload_n 0, 1), (107, .getfield 38, 3), (110, .invokevirtual 92, 3), (113, .istore 5, 2), (115, .iload 5, 2), (117, .aload_n 0, 1), (118, .getfield 32, 3), (121, .iload 4, 2), (123, .iaload, 1), (124, .if_icmp .le 20, 3), (127, .aload_n 0, 1), (128, .getfield 32, 3), (131, .iload 4, 2), (133, .iload 5, 2), (135, .iastore, 1), (136, .aload_n 0, 1), (137, .getfield 29, 3), (140, .iload 4, 2), (142, .iload_n 2, 1), (143, .iastore, 1), (144, .iinc 4 1, 3), (147, .goto (-95), 3), (150, .iinc 2 1, 3), (153, .goto (-135), 3), (156, .return_, 1)]
def I_82 : ra_I := (lst_82, fl_1, kt_1, kl_1, nl_1, ql_1, ml_1, ol_1, al_1, mml_1)
theorem dc_82 : ∀ q ∈ lst_82, decode mt_82.2.1 q.1 = .ok (q.2.1, q.2.2) := by decide +kernel
theorem oI_82 : ra_okI pT mt_82.1.cls "BathWater$Scene" vwCl pNW pMT mt_82.2.1 I_82 := ⟨dc_82, lnk_1⟩
set_option maxRecDepth 100000 in
theorem oM_82 : pMT[82]? = some mt_82 := rfl
def lst_83 : List (Nat × Instr × Nat) := [(0, .aload_n 0, 1), (1, .getfield 38, 3), (4, .iconst 5, 1), (5, .aload_n 0, 1), (6, .getfield 21, 3), (9, .getfield 59, 3), (12, .iload_n 1, 1), (13, .iaload, 1), (14, .iastore, 1), (15, .aload_n 0, 1), (16, .getfield 38, 3), (19, .iconst 2, 1), (20, .aload_n 0, 1), (21, .getfield 21, 3), (24, .getfield 62, 3), (27, .iload_n 2, 1), (28, .iaload, 1), (29, .iastore, 1), (30, .aload_n 0, 1), (31, .getfield 38, 3), (34, .bipush 14, 2), (36, .aload_n 0, 1), (37, .getfield 21, 3), (40, .getfield 65, 3), (43, .iload_n 1, 1), (44, .iaload, 1), (45, .iastore, 1), (46, .aload_n 0, 1), (47, .getfield 38, 3), (50, .bipush 6, 2), (52, .aload_n 0, 1), (53, .getfield 12, 3), (56, .getfield 68, 3), (59, .iload_n 1, 1), (60, .iaload, 1), (61, .iastore, 1), (62, .aload_n 0, 1), (63, .getfield 38, 3), (66, .bipush 15, 2), (68, .aload_n 0, 1), (69, .getfield 21, 3), (72, .getfield 71, 3), (75, .iastore, 1), (76, .return_, 1)]
def I_83 : ra_I := (lst_83, fl_1, kt_1, kl_1, nl_1, ql_1, ml_1, ol_1, al_1, mml_1)
theorem dc_83 : ∀ q ∈ lst_83, decode mt_83.2.1 q.1 = .ok (q.2.1, q.2.2) := by decide +kernel
theorem oI_83 : ra_okI pT mt_83.1.cls "BathWater$Scene" vwCl pNW pMT mt_83.2.1 I_83 := ⟨dc_83, lnk_1⟩
set_option maxRecDepth 100000 in
theorem oM_83 : pMT[83]? = some mt_83 := rfl
def lst_85 : List (Nat × Instr × Nat) := [(0, .aload_n 0, 1), (1, .getfield 25, 3), (4, .ifCond .ne 12, 3), (7, .aload_n 1, 1), (8, .iconst 5, 1), (9, .iaload, 1), (10, .aload_n 1, 1), (11, .bipush 13, 2), (13, .iaload, 1), (14, .isub, 1), (15, .ireturn, 1), (16, .iconst 0, 1), (17, .istore_n 2, 1), (18, .iconst 0, 1), (19, .istore_n 3, 1), (20, .iload_n 3, 1), (21, .aload_n 0, 1), (22, .getfield 21, 3), (25, .if_icmp .ge 136, 3), (28, .aload_n 0, 1), (29, .getfield 9, 3), (32, .iload_n 3, 1), (33, .iaload, 1), (34, .istore 4, 2), (36, .iload 4, 2), (38, .bipush 12, 2), (40, .if_icmp .ne 34, 3), (43, .iload_n 2, 1), (44, .ifCond .le 30, 3), (47, .aload_n 0, 1), (48, .getfield 18, 3), (51, .iload_n 2, 1), (52, .iconst 1, 1), (53, .isub, 1), (54, .aload_n 0, 1), (55, .getfield 18, 3), (58, .iload_n 2, 1), (59, .iconst 1, 1), (60, .isub, 1), (61, .iaload, 1), (62, .ifCond .ne 7, 3), (65, .iconst 1, 1), (66, .goto 4, 3), (69, .iconst 0, 1), (70, .iastore, 1), (71, .goto 84, 3), (74, .iload 4, 2), (76, .invokestatic 32, 3), (79, .ifCond .eq 41, 3), (82, .iload_n 2, 1), (83, .iconst 1, 1), (84, .if_icmp .le 36, 3), (87, .iinc 2 (-1), 3), (90, .aload_n 0, 1), (91, .getfield 18, 3), (94, .iload_n 2, 1), (95, .iconst 1, 1), (96, .isub, 1), (97, .iload 4, 2), (99, .aload_n 0, 1), (100, .getfield 18, 3), (103, .iload_n 2, 1), (104, .iconst 1, 1), (105, .isub, 1), (106, .iaload, 1), (107, .aload_n 0, 1), (108, .getfield 18, 3), (111, .iload_n 2, 1), (112, .iaload, 1), (113, .invokestatic 36, 3), (116, .iastore, 1), (117, .goto 38, 3), (120, .iload_n 2, 1), (121, .bipush 30, 2), (123, .if_icmp .ge 32, 3), (126, .aload_n 0, 1), (127, .getfield 18, 3), (130, .iload_n 2, 1), (131, .iload 4, 2), (133, .bipush 16, 2), (135, .if_icmp .ge 10, 3), (138, .aload_n 1, 1), (139, .iload 4, 2), (141, .iaload, 1), (142, .goto 9, 3), (145, .aload_n 0, 1), (146, .getfield 15, 3), (149, .iload_n 3, 1), (150, .iaload, 1), (151, .iastore, 1), (152, .iinc 2 1, 3), (155, .iinc 3 1, 3), (158, .goto (-138), 3), (161, .iload_n 2, 1), (162, .ifCond .le 14, 3), (165, .aload_n 0, 1), (166, .getfield 18, 3), (169, .iload_n 2, 1), (170, .iconst 1, 1), (171, .isub, 1), (172, .iaload, 1), (173, .goto 4, 3), (176, .iconst 0, 1), (177, .ireturn, 1)]
def I_85 : ra_I := (lst_85, fl_3, kt_3, kl_3, nl_3, ql_3, ml_3, ol_3, al_3, mml_3)
theorem dc_85 : ∀ q ∈ lst_85, decode mt_85.2.1 q.1 = .ok (q.2.1, q.2.2) := by decide +kernel
theorem oI_85 : ra_okI pT mt_85.1.cls "BathWater$Scene" vwCl pNW pMT mt_85.2.1 I_85 := ⟨dc_85, lnk_3⟩
set_option maxRecDepth 100000 in
theorem oM_85 : pMT[85]? = some mt_85 := rfl
def lst_86 : List (Nat × Instr × Nat) := [(0, .iload_n 0, 1), (1, .bipush 19, 2), (3, .if_icmp .lt 9, 3), (6, .iload_n 0, 1), (7, .bipush 26, 2), (9, .if_icmp .le 15, 3), (12, .iload_n 0, 1), (13, .bipush 10, 2), (15, .if_icmp .eq 9, 3), (18, .iload_n 0, 1), (19, .bipush 11, 2), (21, .if_icmp .ne 7, 3), (24, .iconst 1, 1), (25, .goto 4, 3), (28, .iconst 0, 1), (29, .ireturn, 1)]
def I_86 : ra_I := (lst_86, fl_3, kt_3, kl_3, nl_3, ql_3, ml_3, ol_3, al_3, mml_3)
theorem dc_86 : ∀ q ∈ lst_86, decode mt_86.2.1 q.1 = .ok (q.2.1, q.2.2) := by decide +kernel
theorem oI_86 : ra_okI pT mt_86.1.cls "BathWater$Scene" vwCl pNW pMT mt_86.2.1 I_86 := ⟨dc_86, lnk_3⟩
set_option maxRecDepth 100000 in
theorem oM_86 : pMT[86]? = some mt_86 := rfl
def lst_87 : List (Nat × Instr × Nat) := [(0, .iload_n 0, 1), (1, .tableswitch 164 10 25 #[79, 93, 164, 164, 164, 164, 164, 164, 164, 107, 118, 129, 140, 144, 148, 152], 79), (80, .iload_n 1, 1), (81, .ifCond .ne 7, 3), (84, .iload_n 2, 1), (85, .ifCond .eq 7, 3), (88, .iconst 1, 1), (89, .goto 4, 3), (92, .iconst 0, 1), (93, .ireturn, 1), (94, .iload_n 1, 1), (95, .ifCond .eq 11, 3), (98, .iload_n 2, 1), (99, .ifCond .eq 7, 3), (102, .iconst 1, 1), (103, .goto 4, 3), (106, .iconst 0, 1), (107, .ireturn, 1), (108, .iload_n 1, 1), (109, .iload_n 2, 1), (110, .if_icmp .ge 7, 3), (113, .iconst 1, 1), (114, .goto 4, 3), (117, .iconst 0, 1), (118, .ireturn, 1), (119, .iload_n 1, 1), (120, .iload_n 2, 1), (121, .if_icmp .le 7, 3), (124, .iconst 1, 1), (125, .goto 4, 3), (128, .iconst 0, 1), (129, .ireturn, 1), (130, .iload_n 1, 1), (131, .iload_n 2, 1), (132, .if_icmp .ne 7, 3), (135, .iconst 1, 1), (136, .goto 4, 3), (139, .iconst 0, 1), (140, .ireturn, 1), (141, .iload_n 1, 1), (142, .iload_n 2, 1), (143, .iadd, 1), (144, .ireturn, 1), (145, .iload_n 1, 1), (146, .iload_n 2, 1), (147, .isub, 1), (148, .ireturn, 1), (149, .iload_n 1, 1), (150, .iload_n 2, 1), (151, .imul, 1), (152, .ireturn, 1), (153, .iload_n 2, 1), (154, .ifCond .ne 7, 3), (157, .iconst 0, 1), (158, .goto 6, 3), (161, .iload_n 1, 1), (162, .iload_n 2, 1), (163, .idiv, 1), (164, .ireturn, 1), (165, .iload_n 2, 1), (166, .ifCond .ne 7, 3), (169, .iconst 0, 1), (170, .goto 6, 3), (173, .iload_n 1, 1), (174, .iload_n 2, 1), (175, .irem, 1), (176, .ireturn, 1)]
def I_87 : ra_I := (lst_87, fl_3, kt_3, kl_3, nl_3, ql_3, ml_3, ol_3, al_3, mml_3)
theorem dc_87 : ∀ q ∈ lst_87, decode mt_87.2.1 q.1 = .ok (q.2.1, q.2.2) := by decide +kernel
theorem oI_87 : ra_okI pT mt_87.1.cls "BathWater$Scene" vwCl pNW pMT mt_87.2.1 I_87 := ⟨dc_87, lnk_3⟩
set_option maxRecDepth 100000 in
theorem oM_87 : pMT[87]? = some mt_87 := rfl
def lst_88 : List (Nat × Instr × Nat) := [(0, .iconst 0, 1), (1, .istore_n 2, 1), (2, .iconst 0, 1), (3, .istore_n 3, 1), (4, .iload_n 3, 1), (5, .aload_n 0, 1), (6, .getfield 23, 3), (9, .getfield 89, 3), (12, .if_icmp .ge 28, 3), (15, .aload_n 0, 1), (16, .getfield 33, 3), (19, .getfield 124, 3), (22, .iload_n 3, 1), (23, .iaload, 1), (24, .iload_n 1, 1), (25, .if_icmp .ne 9, 3), (28, .iload_n 2, 1), (29, .iconst 1, 1), (30, .iload_n 3, 1), (31, .ishl, 1), (32, .ior, 1), (33, .istore_n 2, 1), (34, .iinc 3 1, 3), (37, .goto (-33), 3), (40, .iload_n 2, 1), (41, .ireturn, 1)]
def I_88 : ra_I := (lst_88, fl_8, kt_8, kl_8, nl_8, ql_8, ml_8, ol_8, al_8, mml_8)
theorem dc_88 : ∀ q ∈ lst_88, decode mt_88.2.1 q.1 = .ok (q.2.1, q.2.2) := by decide +kernel
theorem oI_88 : ra_okI pT mt_88.1.cls "BathWater$Scene" vwCl pNW pMT mt_88.2.1 I_88 := ⟨dc_88, lnk_8⟩
set_option maxRecDepth 100000 in
theorem oM_88 : pMT[88]? = some mt_88 := rfl
def lst_90 : List (Nat × Instr × Nat) := [(0, .iload_n 1, 1), (1, .ifCond .lt 18, 3), (4, .iload_n 1, 1), (5, .aload_n 0, 1), (6, .getfield 23, 3), (9, .getfield 89, 3), (12, .if_icmp .ge 7, 3), (15, .iconst 1, 1), (16, .goto 4, 3), (19, .iconst 0, 1), (20, .ireturn, 1)]
def I_90 : ra_I := (lst_90, fl_8, kt_8, kl_8, nl_8, ql_8, ml_8, ol_8, al_8, mml_8)
theorem dc_90 : ∀ q ∈ lst_90, decode mt_90.2.1 q.1 = .ok (q.2.1, q.2.2) := by decide +kernel
theorem oI_90 : ra_okI pT mt_90.1.cls "BathWater$Scene" vwCl pNW pMT mt_90.2.1 I_90 := ⟨dc_90, lnk_8⟩
set_option maxRecDepth 100000 in
theorem oM_90 : pMT[90]? = some mt_90 := rfl
def lst_93 : List (Nat × Instr × Nat) := [(0, .aload_n 0, 1), (1, .iload_n 1, 1), (2, .invokevirtual 120, 3), (5, .ifCond .eq 19, 3), (8, .aload_n 0, 1), (9, .getfield 33, 3), (12, .getfield 124, 3), (15, .iload_n 1, 1), (16, .iaload, 1), (17, .ifCond .lt 7, 3), (20, .iconst 1, 1), (21, .goto 4, 3), (24, .iconst 0, 1), (25, .ireturn, 1)]
def I_93 : ra_I := (lst_93, fl_8, kt_8, kl_8, nl_8, ql_8, ml_8, ol_8, al_8, mml_8)
theorem dc_93 : ∀ q ∈ lst_93, decode mt_93.2.1 q.1 = .ok (q.2.1, q.2.2) := by decide +kernel
theorem oI_93 : ra_okI pT mt_93.1.cls "BathWater$Scene" vwCl pNW pMT mt_93.2.1 I_93 := ⟨dc_93, lnk_8⟩
set_option maxRecDepth 100000 in
theorem oM_93 : pMT[93]? = some mt_93 := rfl
def lst_97 : List (Nat × Instr × Nat) := [(0, .aload_n 0, 1), (1, .iconst 0, 1), (2, .invokevirtual 108, 3), (5, .aload_n 0, 1), (6, .iload_n 1, 1), (7, .ifCond .eq 15, 3), (10, .iconst 2, 1), (11, .aload_n 0, 1), (12, .getfield 12, 3), (15, .getfield 112, 3), (18, .imul, 1), (19, .goto 10, 3), (22, .aload_n 0, 1), (23, .getfield 12, 3), (26, .getfield 112, 3), (29, .invokevirtual 115, 3), (32, .aload_n 0, 1), (33, .invokevirtual 119, 3), (36, .aload_n 0, 1), (37, .getfield 21, 3), (40, .dup, 1), (41, .getfield 71, 3), (44, .iconst 1, 1), (45, .iadd, 1), (46, .putfield 71, 3), (49, .return_, 1)]
def I_97 : ra_I := (lst_97, fl_1, kt_1, kl_1, nl_1, ql_1, ml_1, ol_1, al_1, mml_1)
theorem dc_97 : ∀ q ∈ lst_97, decode mt_97.2.1 q.1 = .ok (q.2.1, q.2.2) := by decide +kernel
theorem oI_97 : ra_okI pT mt_97.1.cls "BathWater$Scene" vwCl pNW pMT mt_97.2.1 I_97 := ⟨dc_97, lnk_1⟩
set_option maxRecDepth 100000 in
theorem oM_97 : pMT[97]? = some mt_97 := rfl
def lst_98 : List (Nat × Instr × Nat) := [(0, .aload_n 0, 1), (1, .getfield 35, 3), (4, .iconst 0, 1), (5, .invokestatic 45, 3), (8, .aload_n 0, 1), (9, .iconst 0, 1), (10, .putfield 55, 3), (13, .iconst 0, 1), (14, .istore_n 2, 1), (15, .iload_n 2, 1), (16, .aload_n 0, 1), (17, .getfield 12, 3), (20, .getfield 105, 3), (23, .if_icmp .ge 62, 3), (26, .aload_n 0, 1), (27, .iload_n 2, 1), (28, .invokevirtual 122, 3), (31, .istore_n 3, 1), (32, .iload_n 3, 1), (33, .iload_n 2, 1), (34, .if_icmp .eq 45, 3), (37, .iload_n 1, 1), (38, .aload_n 0, 1), (39, .getfield 21, 3), (42, .getfield 62, 3), (45, .iload_n 2, 1), (46, .iaload, 1), (47, .invokestatic 125, 3), (50, .istore 4, 2), (52, .aload_n 0, 1), (53, .getfield 35, 3), (56, .iload_n 2, 1), (57, .dup2, 1), (58, .iaload, 1), (59, .iload 4, 2), (61, .isub, 1), (62, .iastore, 1), (63, .aload_n 0, 1), (64, .getfield 35, 3), (67, .iload_n 3, 1), (68, .dup2, 1), (69, .iaload, 1), (70, .iload 4, 2), (72, .iadd, 1), (73, .iastore, 1), (74, .aload_n 0, 1), (75, .iconst 1, 1), (76, .putfield 55, 3), (79, .iinc 2 1, 3), (82, .goto (-67), 3), (85, .iconst 0, 1), (86, .istore_n 2, 1), (87, .iload_n 2, 1), (88, .aload_n 0, 1), (89, .getfield 12, 3), (92, .getfield 105, 3), (95, .if_icmp .ge 27, 3), (98, .aload_n 0, 1), (99, .getfield 21, 3), (102, .getfield 62, 3), (105, .iload_n 2, 1), (106, .dup2, 1), (107, .iaload, 1), (108, .aload_n 0, 1), (109, .getfield 35, 3), (112, .iload_n 2, 1), (113, .iaload, 1), (114, .iadd, 1), (115, .iastore, 1), (116, .iinc 2 1, 3), (119, .goto (-32), 3), (122, .return_, 1)]
def I_98 : ra_I := (lst_98, fl_1, kt_1, kl_1, nl_1, ql_1, ml_1, ol_1, al_1, mml_1)
theorem dc_98 : ∀ q ∈ lst_98, decode mt_98.2.1 q.1 = .ok (q.2.1, q.2.2) := by decide +kernel
theorem oI_98 : ra_okI pT mt_98.1.cls "BathWater$Scene" vwCl pNW pMT mt_98.2.1 I_98 := ⟨dc_98, lnk_1⟩
set_option maxRecDepth 100000 in
theorem oM_98 : pMT[98]? = some mt_98 := rfl
def lst_99 : List (Nat × Instr × Nat) := [(0, .aload_n 0, 1), (1, .getfield 29, 3), (4, .iload_n 1, 1), (5, .iaload, 1), (6, .istore_n 2, 1), (7, .iload_n 2, 1), (8, .ifCond .lt 16, 3), (11, .aload_n 0, 1), (12, .getfield 21, 3), (15, .getfield 74, 3), (18, .iload_n 2, 1), (19, .iaload, 1), (20, .iload_n 1, 1), (21, .if_icmp .ne 5, 3), (24, .iload_n 1, 1), (25, .ireturn, 1), (26, .aload_n 0, 1), (27, .getfield 21, 3), (30, .getfield 74, 3), (33, .iload_n 2, 1), (34, .iaload, 1), (35, .iload_n 1, 1), (36, .if_icmp .ge 9, 3), (39, .iload_n 1, 1), (40, .iconst 1, 1), (41, .isub, 1), (42, .goto 6, 3), (45, .iload_n 1, 1), (46, .iconst 1, 1), (47, .iadd, 1), (48, .ireturn, 1)]
def I_99 : ra_I := (lst_99, fl_1, kt_1, kl_1, nl_1, ql_1, ml_1, ol_1, al_1, mml_1)
theorem dc_99 : ∀ q ∈ lst_99, decode mt_99.2.1 q.1 = .ok (q.2.1, q.2.2) := by decide +kernel
theorem oI_99 : ra_okI pT mt_99.1.cls "BathWater$Scene" vwCl pNW pMT mt_99.2.1 I_99 := ⟨dc_99, lnk_1⟩
set_option maxRecDepth 100000 in
theorem oM_99 : pMT[99]? = some mt_99 := rfl
def lst_100 : List (Nat × Instr × Nat) := [(0, .aload_n 0, 1), (1, .iconst 0, 1), (2, .putfield 51, 3), (5, .iconst 0, 1), (6, .istore_n 1, 1), (7, .iload_n 1, 1), (8, .aload_n 0, 1), (9, .getfield 12, 3), (12, .getfield 98, 3), (15, .if_icmp .ge 92, 3), (18, .aload_n 0, 1), (19, .getfield 21, 3), (22, .getfield 74, 3), (25, .iload_n 1, 1), (26, .iaload, 1), (27, .istore_n 2, 1), (28, .iload_n 2, 1), (29, .ifCond .lt 72, 3), (32, .aload_n 0, 1), (33, .getfield 21, 3), (36, .getfield 62, 3), (39, .iload_n 2, 1), (40, .iaload, 1), (41, .aload_n 0, 1), (42, .getfield 12, 3), (45, .getfield 68, 3), (48, .iload_n 1, 1), (49, .iaload, 1), (50, .if_icmp .lt 51, 3), (53, .aload_n 0, 1), (54, .dup, 1), (55, .getfield 51, 3), (58, .iconst 1, 1), (59, .iload_n 1, 1), (60, .ishl, 1), (61, .ior, 1), (62, .putfield 51, 3), (65, .aload_n 0, 1), (66, .getfield 25, 3), (69, .iload_n 1, 1), (70, .dup2, 1), (71, .iaload, 1), (72, .iconst 1, 1), (73, .iadd, 1), (74, .iastore, 1), (75, .aload_n 0, 1), (76, .getfield 21, 3), (79, .getfield 65, 3), (82, .iload_n 1, 1), (83, .sipush 999, 3), (86, .aload_n 0, 1), (87, .getfield 21, 3), (90, .getfield 65, 3), (93, .iload_n 1, 1), (94, .iaload, 1), (95, .iconst 1, 1), (96, .iadd, 1), (97, .invokestatic 125, 3), (100, .iastore, 1), (101, .iinc 1 1, 3), (104, .goto (-97), 3), (107, .return_, 1)]
def I_100 : ra_I := (lst_100, fl_1, kt_1, kl_1, nl_1, ql_1, ml_1, ol_1, al_1, mml_1)
theorem dc_100 : ∀ q ∈ lst_100, decode mt_100.2.1 q.1 = .ok (q.2.1, q.2.2) := by decide +kernel
theorem oI_100 : ra_okI pT mt_100.1.cls "BathWater$Scene" vwCl pNW pMT mt_100.2.1 I_100 := ⟨dc_100, lnk_1⟩
set_option maxRecDepth 100000 in
theorem oM_100 : pMT[100]? = some mt_100 := rfl
def lst_105 : List (Nat × Instr × Nat) := [(0, .iload_n 0, 1), (1, .iload_n 1, 1), (2, .if_icmp .lt 12, 3), (5, .iload_n 0, 1), (6, .iload_n 2, 1), (7, .if_icmp .gt 7, 3), (10, .iconst 1, 1), (11, .goto 4, 3), (14, .iconst 0, 1), (15, .ireturn, 1)]
def I_105 : ra_I := (lst_105, fl_8, kt_8, kl_8, nl_8, ql_8, ml_8, ol_8, al_8, mml_8)
theorem dc_105 : ∀ q ∈ lst_105, decode mt_105.2.1 q.1 = .ok (q.2.1, q.2.2) := by decide +kernel
theorem oI_105 : ra_okI pT mt_105.1.cls "BathWater$Scene" vwCl pNW pMT mt_105.2.1 I_105 := ⟨dc_105, lnk_8⟩
set_option maxRecDepth 100000 in
theorem oM_105 : pMT[105]? = some mt_105 := rfl
def lst_114 : List (Nat × Instr × Nat) := [(0, .iload_n 1, 1), (1, .iconst 1, 1), (2, .isub, 1), (3, .istore_n 2, 1), (4, .iload_n 2, 1), (5, .ifCond .lt 40, 3), (8, .aload_n 0, 1), (9, .iconst 0, 1), (10, .invokevirtual 128, 3), (13, .aload_n 0, 1), (14, .getfield 55, 3), (17, .ifCond .ne 22, 3), (20, .aload_n 0, 1), (21, .getfield 12, 3), (24, .getfield 88, 3), (27, .getfield 131, 3), (30, .ifCond .ne 9, 3), (33, .aload_n 0, 1), (34, .iload_n 2, 1), (35, .invokevirtual 134, 3), (38, .return_, 1), (39, .iinc 2 (-1), 3), (42, .goto (-38), 3), (45, .return_, 1)]
def I_114 : ra_I := (lst_114, fl_1, kt_1, kl_1, nl_1, ql_1, ml_1, ol_1, al_1, mml_1)
theorem dc_114 : ∀ q ∈ lst_114, decode mt_114.2.1 q.1 = .ok (q.2.1, q.2.2) := by decide +kernel
theorem oI_114 : ra_okI pT mt_114.1.cls "BathWater$Scene" vwCl pNW pMT mt_114.2.1 I_114 := ⟨dc_114, lnk_1⟩
set_option maxRecDepth 100000 in
theorem oM_114 : pMT[114]? = some mt_114 := rfl
def lst_115 : List (Nat × Instr × Nat) := [(0, .iconst 0, 1), (1, .istore_n 2, 1), (2, .iload_n 2, 1), (3, .aload_n 0, 1), (4, .getfield 12, 3), (7, .getfield 98, 3), (10, .if_icmp .ge 56, 3), (13, .aload_n 0, 1), (14, .getfield 51, 3), (17, .iload_n 2, 1), (18, .ishr, 1), (19, .iconst 1, 1), (20, .iand, 1), (21, .ifCond .eq 39, 3), (24, .aload_n 0, 1), (25, .getfield 25, 3), (28, .iload_n 2, 1), (29, .dup2, 1), (30, .iaload, 1), (31, .iload_n 1, 1), (32, .iadd, 1), (33, .iastore, 1), (34, .aload_n 0, 1), (35, .getfield 21, 3), (38, .getfield 65, 3), (41, .iload_n 2, 1), (42, .sipush 999, 3), (45, .aload_n 0, 1), (46, .getfield 21, 3), (49, .getfield 65, 3), (52, .iload_n 2, 1), (53, .iaload, 1), (54, .iload_n 1, 1), (55, .iadd, 1), (56, .invokestatic 125, 3), (59, .iastore, 1), (60, .iinc 2 1, 3), (63, .goto (-61), 3), (66, .aload_n 0, 1), (67, .getfield 21, 3), (70, .dup, 1), (71, .getfield 71, 3), (74, .iload_n 1, 1), (75, .iadd, 1), (76, .putfield 71, 3), (79, .return_, 1)]
def I_115 : ra_I := (lst_115, fl_1, kt_1, kl_1, nl_1, ql_1, ml_1, ol_1, al_1, mml_1)
theorem dc_115 : ∀ q ∈ lst_115, decode mt_115.2.1 q.1 = .ok (q.2.1, q.2.2) := by decide +kernel
theorem oI_115 : ra_okI pT mt_115.1.cls "BathWater$Scene" vwCl pNW pMT mt_115.2.1 I_115 := ⟨dc_115, lnk_1⟩
set_option maxRecDepth 100000 in
theorem oM_115 : pMT[115]? = some mt_115 := rfl
def lst_121 : List (Nat × Instr × Nat) := [(0, .aload_n 0, 1), (1, .iload_n 1, 1), (2, .invokevirtual 120, 3), (5, .ifCond .eq 20, 3), (8, .aload_n 0, 1), (9, .iload_n 2, 1), (10, .invokevirtual 120, 3), (13, .ifCond .eq 12, 3), (16, .iload_n 1, 1), (17, .iload_n 2, 1), (18, .if_icmp .eq 7, 3), (21, .iconst 1, 1), (22, .goto 4, 3), (25, .iconst 0, 1), (26, .ireturn, 1)]
def I_121 : ra_I := (lst_121, fl_8, kt_8, kl_8, nl_8, ql_8, ml_8, ol_8, al_8, mml_8)
theorem dc_121 : ∀ q ∈ lst_121, decode mt_121.2.1 q.1 = .ok (q.2.1, q.2.2) := by decide +kernel
theorem oI_121 : ra_okI pT mt_121.1.cls "BathWater$Scene" vwCl pNW pMT mt_121.2.1 I_121 := ⟨dc_121, lnk_8⟩
set_option maxRecDepth 100000 in
theorem oM_121 : pMT[121]? = some mt_121 := rfl
def lst_133 : List (Nat × Instr × Nat) := [(0, .aload_n 0, 1), (1, .iconst 0, 1), (2, .putfield 105, 3), (5, .aload_n 0, 1), (6, .iload_n 1, 1), (7, .iload_n 2, 1), (8, .invokevirtual 220, 3), (11, .ifCond .eq 29, 3), (14, .aload_n 0, 1), (15, .iload_n 1, 1), (16, .invokevirtual 171, 3), (19, .ifCond .eq 21, 3), (22, .aload_n 0, 1), (23, .iload_n 2, 1), (24, .invokevirtual 171, 3), (27, .ifCond .eq 13, 3), (30, .iload_n 3, 1), (31, .iconst 1, 1), (32, .bipush 10, 2), (34, .invokestatic 126, 3), (37, .ifCond .ne 5, 3), (40, .iconst (-1), 1), (41, .ireturn, 1), (42, .aload_n 0, 1), (43, .iload_n 1, 1), (44, .iload_n 2, 1), (45, .iload_n 3, 1), (46, .invokevirtual 264, 3), (49, .iconst 0, 1), (50, .istore 4, 2), (52, .iconst 0, 1), (53, .istore 5, 2), (55, .iload 5, 2), (57, .bipush 36, 2), (59, .if_icmp .ge 40, 3), (62, .aload_n 0, 1), (63, .iload 5, 2), (65, .invokevirtual 268, 3), (68, .ifCond .eq 25, 3), (71, .iload 4, 2), (73, .ifCond .ne 17, 3), (76, .aload_n 0, 1), (77, .iload 5, 2), (79, .bipush 6, 2), (81, .idiv, 1), (82, .iload 5, 2), (84, .bipush 6, 2), (86, .irem, 1), (87, .invokevirtual 271, 3), (90, .iinc 4 1, 3), (93, .iinc 5 1, 3), (96, .goto (-41), 3), (99, .iload 4, 2), (101, .ireturn, 1)]
def I_133 : ra_I := (lst_133, fl_8, kt_8, kl_8, nl_8, ql_8, ml_8, ol_8, al_8, mml_8)
theorem dc_133 : ∀ q ∈ lst_133, decode mt_133.2.1 q.1 = .ok (q.2.1, q.2.2) := by decide +kernel
theorem oI_133 : ra_okI pT mt_133.1.cls "BathWater$Scene" vwCl pNW pMT mt_133.2.1 I_133 := ⟨dc_133, lnk_8⟩
set_option maxRecDepth 100000 in
theorem oM_133 : pMT[133]? = some mt_133 := rfl
def lst_134 : List (Nat × Instr × Nat) := [(0, .iconst 0, 1), (1, .istore 4, 2), (3, .iload 4, 2), (5, .bipush 36, 2), (7, .if_icmp .ge 167, 3), (10, .aload_n 0, 1), (11, .getfield 33, 3), (14, .getfield 158, 3), (17, .iload_n 1, 1), (18, .iaload, 1), (19, .iload 4, 2), (21, .bipush 6, 2), (23, .idiv, 1), (24, .iadd, 1), (25, .istore 5, 2), (27, .aload_n 0, 1), (28, .getfield 33, 3), (31, .getfield 158, 3), (34, .iload_n 2, 1), (35, .iaload, 1), (36, .iload 4, 2), (38, .bipush 6, 2), (40, .irem, 1), (41, .iadd, 1), (42, .istore 6, 2), (44, .aload_n 0, 1), (45, .getfield 61, 3), (48, .iload 4, 2), (50, .iconst (-1), 1), (51, .iastore, 1), (52, .aload_n 0, 1), (53, .getfield 64, 3), (56, .iload 4, 2), (58, .iconst (-1), 1), (59, .iastore, 1), (60, .iload 5, 2), (62, .bipush 99, 2), (64, .if_icmp .gt 104, 3), (67, .iload 6, 2), (69, .bipush 99, 2), (71, .if_icmp .gt 97, 3), (74, .aload_n 0, 1), (75, .invokevirtual 134, 3), (78, .aload_n 0, 1), (79, .getfield 47, 3), (82, .getfield 185, 3), (85, .getfield 158, 3), (88, .iload_n 1, 1), (89, .iload 5, 2), (91, .iastore, 1), (92, .aload_n 0, 1), (93, .getfield 47, 3), (96, .getfield 185, 3), (99, .getfield 158, 3), (102, .iload_n 2, 1), (103, .iload 6, 2), (105, .iastore, 1), (106, .aload_n 0, 1), (107, .getfield 47, 3), (110, .iload_n 3, 1), (111, .invokevirtual 204, 3), (114, .aload_n 0, 1), (115, .getfield 61, 3), (118, .iload 4, 2), (120, .aload_n 0, 1), (121, .getfield 47, 3), (124, .getfield 185, 3), (127, .getfield 147, 3), (130, .aload_n 0, 1), (131, .getfield 33, 3), (134, .getfield 124, 3), (137, .iload_n 1, 1), (138, .iaload, 1), (139, .iaload, 1), (140, .iastore, 1), (141, .aload_n 0, 1), (142, .getfield 64, 3), (145, .iload 4, 2), (147, .aload_n 0, 1), (148, .getfield 47, 3), (151, .getfield 185, 3), (154, .getfield 147, 3), (157, .aload_n 0, 1), (158, .getfield 33, 3), (161, .getfield 124, 3), (164, .iload_n 2, 1), (165, .iaload, 1), (166, .iaload, 1), (167, .iastore, 1), (168, .iinc 4 1, 3), (171, .goto (-168), 3), (174, .return_, 1)]
def I_134 : ra_I := (lst_134, fl_8, kt_8, kl_8, nl_8, ql_8, ml_8, ol_8, al_8, mml_8)
theorem dc_134 : ∀ q ∈ lst_134, decode mt_134.2.1 q.1 = .ok (q.2.1, q.2.2) := by decide +kernel
theorem oI_134 : ra_okI pT mt_134.1.cls "BathWater$Scene" vwCl pNW pMT mt_134.2.1 I_134 := ⟨dc_134, lnk_8⟩
set_option maxRecDepth 100000 in
theorem oM_134 : pMT[134]? = some mt_134 := rfl
def lst_135 : List (Nat × Instr × Nat) := [(0, .iload_n 1, 1), (1, .bipush 6, 2), (3, .idiv, 1), (4, .istore_n 2, 1), (5, .iload_n 1, 1), (6, .bipush 6, 2), (8, .irem, 1), (9, .istore_n 3, 1), (10, .aload_n 0, 1), (11, .getfield 61, 3), (14, .iload_n 1, 1), (15, .iaload, 1), (16, .iconst (-1), 1), (17, .if_icmp .ne 5, 3), (20, .iconst 0, 1), (21, .ireturn, 1), (22, .iconst 0, 1), (23, .istore 4, 2), (25, .iload 4, 2), (27, .bipush 6, 2), (29, .if_icmp .ge 73, 3), (32, .aload_n 0, 1), (33, .getfield 61, 3), (36, .iload 4, 2), (38, .bipush 6, 2), (40, .imul, 1), (41, .iload_n 3, 1), (42, .iadd, 1), (43, .iaload, 1), (44, .istore 5, 2), (46, .aload_n 0, 1), (47, .getfield 64, 3), (50, .iload_n 2, 1), (51, .bipush 6, 2), (53, .imul, 1), (54, .iload 4, 2), (56, .iadd, 1), (57, .iaload, 1), (58, .istore 6, 2), (60, .iload 5, 2), (62, .iload 4, 2), (64, .aload_n 0, 1), (65, .getfield 61, 3), (68, .iload_n 1, 1), (69, .iaload, 1), (70, .iload_n 2, 1), (71, .invokestatic 274, 3), (74, .ifCond .ne 20, 3), (77, .iload 6, 2), (79, .iload 4, 2), (81, .aload_n 0, 1), (82, .getfield 64, 3), (85, .iload_n 1, 1), (86, .iaload, 1), (87, .iload_n 3, 1), (88, .invokestatic 274, 3), (91, .ifCond .eq 5, 3), (94, .iconst 0, 1), (95, .ireturn, 1), (96, .iinc 4 1, 3), (99, .goto (-74), 3), (102, .iconst 1, 1), (103, .ireturn, 1)]
def I_135 : ra_I := (lst_135, fl_8, kt_8, kl_8, nl_8, ql_8, ml_8, ol_8, al_8, mml_8)
theorem dc_135 : ∀ q ∈ lst_135, decode mt_135.2.1 q.1 = .ok (q.2.1, q.2.2) := by decide +kernel
theorem oI_135 : ra_okI pT mt_135.1.cls "BathWater$Scene" vwCl pNW pMT mt_135.2.1 I_135 := ⟨dc_135, lnk_8⟩
set_option maxRecDepth 100000 in
theorem oM_135 : pMT[135]? = some mt_135 := rfl
def lst_136 : List (Nat × Instr × Nat) := [(0, .iload_n 0, 1), (1, .iload_n 2, 1), (2, .if_icmp .gt 13, 3), (5, .iload_n 0, 1), (6, .iload_n 2, 1), (7, .if_icmp .ne 12, 3), (10, .iload_n 1, 1), (11, .iload_n 3, 1), (12, .if_icmp .ge 7, 3), (15, .iconst 1, 1), (16, .goto 4, 3), (19, .iconst 0, 1), (20, .ireturn, 1)]
def I_136 : ra_I := (lst_136, fl_8, kt_8, kl_8, nl_8, ql_8, ml_8, ol_8, al_8, mml_8)
theorem dc_136 : ∀ q ∈ lst_136, decode mt_136.2.1 q.1 = .ok (q.2.1, q.2.2) := by decide +kernel
theorem oI_136 : ra_okI pT mt_136.1.cls "BathWater$Scene" vwCl pNW pMT mt_136.2.1 I_136 := ⟨dc_136, lnk_8⟩
set_option maxRecDepth 100000 in
theorem oM_136 : pMT[136]? = some mt_136 := rfl
def lst_137 : List (Nat × Instr × Nat) := [(0, .aload_n 0, 1), (1, .getfield 55, 3), (4, .iconst 0, 1), (5, .iload_n 1, 1), (6, .iastore, 1), (7, .aload_n 0, 1), (8, .getfield 55, 3), (11, .iconst 1, 1), (12, .iload_n 2, 1), (13, .iastore, 1), (14, .aload_n 0, 1), (15, .iconst 2, 1), (16, .putfield 105, 3), (19, .return_, 1)]
def I_137 : ra_I := (lst_137, fl_8, kt_8, kl_8, nl_8, ql_8, ml_8, ol_8, al_8, mml_8)
theorem dc_137 : ∀ q ∈ lst_137, decode mt_137.2.1 q.1 = .ok (q.2.1, q.2.2) := by decide +kernel
theorem oI_137 : ra_okI pT mt_137.1.cls "BathWater$Scene" vwCl pNW pMT mt_137.2.1 I_137 := ⟨dc_137, lnk_8⟩
set_option maxRecDepth 100000 in
theorem oM_137 : pMT[137]? = some mt_137 := rfl
def lst_155 : List (Nat × Instr × Nat) := [(0, .iconst (-1), 1), (1, .istore_n 1, 1), (2, .iconst (-1), 1), (3, .istore_n 2, 1), (4, .iconst 0, 1), (5, .istore_n 3, 1), (6, .iload_n 3, 1), (7, .aload_n 0, 1), (8, .getfield 23, 3), (11, .getfield 117, 3), (14, .if_icmp .ge 34, 3), (17, .aload_n 0, 1), (18, .getfield 33, 3), (21, .getfield 147, 3), (24, .iload_n 3, 1), (25, .iaload, 1), (26, .ifCond .le 16, 3), (29, .iload_n 1, 1), (30, .iconst (-1), 1), (31, .if_icmp .ne 7, 3), (34, .iload_n 3, 1), (35, .goto 4, 3), (38, .iload_n 1, 1), (39, .istore_n 1, 1), (40, .iload_n 3, 1), (41, .istore_n 2, 1), (42, .iinc 3 1, 3), (45, .goto (-39), 3), (48, .iload_n 1, 1), (49, .iconst (-1), 1), (50, .if_icmp .ne 7, 3), (53, .iconst 0, 1), (54, .goto 8, 3), (57, .iload_n 2, 1), (58, .iload_n 1, 1), (59, .isub, 1), (60, .iconst 1, 1), (61, .iadd, 1), (62, .ireturn, 1)]
def I_155 : ra_I := (lst_155, fl_8, kt_8, kl_8, nl_8, ql_8, ml_8, ol_8, al_8, mml_8)
theorem dc_155 : ∀ q ∈ lst_155, decode mt_155.2.1 q.1 = .ok (q.2.1, q.2.2) := by decide +kernel
theorem oI_155 : ra_okI pT mt_155.1.cls "BathWater$Scene" vwCl pNW pMT mt_155.2.1 I_155 := ⟨dc_155, lnk_8⟩
set_option maxRecDepth 100000 in
theorem oM_155 : pMT[155]? = some mt_155 := rfl
def lst_169 : List (Nat × Instr × Nat) := [(0, .iload_n 1, 1), (1, .iconst 0, 1), (2, .sipush 1000, 3), (5, .invokestatic 126, 3), (8, .ifCond .eq 15, 3), (11, .aload_n 0, 1), (12, .getfield 317, 3), (15, .iload_n 1, 1), (16, .iadd, 1), (17, .ldc_w 327, 3), (20, .if_icmp .le 5, 3), (23, .iconst (-1), 1), (24, .ireturn, 1), (25, .aload_n 0, 1), (26, .dup, 1), (27, .getfield 317, 3), (30, .iload_n 1, 1), (31, .iadd, 1), (32, .putfield 317, 3), (35, .aload_n 0, 1), (36, .getfield 317, 3), (39, .ireturn, 1)]
def I_169 : ra_I := (lst_169, fl_8, kt_8, kl_8, nl_8, ql_8, ml_8, ol_8, al_8, mml_8)
theorem dc_169 : ∀ q ∈ lst_169, decode mt_169.2.1 q.1 = .ok (q.2.1, q.2.2) := by decide +kernel
theorem oI_169 : ra_okI pT mt_169.1.cls "BathWater$Scene" vwCl pNW pMT mt_169.2.1 I_169 := ⟨dc_169, lnk_8⟩
set_option maxRecDepth 100000 in
theorem oM_169 : pMT[169]? = some mt_169 := rfl
