def lst_97 : List (Nat × Instr × Nat) := [(0, .aload_n 0, 1), (1, .iconst 0, 1), (2, .invokevirtual 108, 3), (5, .aload_n 0, 1), (6, .iload_n 1, 1), (7, .ifCond .eq 15, 3), (10, .iconst 2, 1), (11, .aload_n 0, 1), (12, .getfield 12, 3), (15, .getfield 112, 3), (18, .imul, 1), (19, .goto 10, 3), (22, .aload_n 0, 1), (23, .getfield 12, 3), (26, .getfield 112, 3), (29, .invokevirtual 115, 3), (32, .aload_n 0, 1), (33, .invokevirtual 119, 3), (36, .aload_n 0, 1), (37, .getfield 21, 3), (40, .dup, 1), (41, .getfield 71, 3), (44, .iconst 1, 1), (45, .iadd, 1), (46, .putfield 71, 3), (49, .return_, 1)]
def I_97 : ra_I := (lst_97, fl_1, kt_1, kl_1, nl_1, ql_1, ml_1, ol_1, al_1, mml_1)
theorem dc_97 : ∀ q ∈ lst_97, decode mt_97.2.1 q.1 = .ok (q.2.1, q.2.2) := by decide +kernel
theorem oI_97 : ra_okI pT mt_97.1.cls "BathWater$Scene" vwCl pNW pMT mt_97.2.1 I_97 := ⟨dc_97, lnk_1⟩
set_option maxRecDepth 100000 in
theorem oM_97 : pMT[97]? = some mt_97 := rfl
def lst_98 : List (Nat × Instr × Nat) := [(0, .aload_n 0, 1), (1, .getfield 35, 3), (4, .iconst 0, 1), (5, .invokestatic 45, 3), (8, .aload_n 0, 1), (9, .iconst 0, 1), (10, .putfield 55, 3), (13, .iconst 0, 1), (14, .istore_n 2, 1), (15, .iload_n 2, 1), (16, .aload_n 0, 1), (17, .getfield 12, 3), (20, .getfield 105, 3), (23, .if_icmp .ge 62, 3), (26, .aload_n 0, 1), (27, .iload_n 2, 1), (28, .invokevirtual 122, 3), (31, .istore_n 3, 1), (32, .iload_n 3, 1), (33, .iload_n 2, 1), (34, .if_icmp .eq 45, 3), (37, .iload_n 1, 1), (38, .aload_n 0, 1), (39, .getfield 21, 3), (42, .getfield 62, 3), (45, .iload_n 2, 1), (46, .iaload, 1), (47, .invokestatic 125, 3), (50, .istore 4, 2), (52, .aload_n 0, 1), (53, .getfield 35, 3), (56, .iload_n 2, 1), (57, .dup2, 1), (58, .iaload, 1), (59, .iload 4, 2), (61, .isub, 1), (62, .iastore, 1), (63, .aload_n 0, 1), (64, .getfield 35, 3), (67, .iload_n 3, 1), (68, .dup2, 1), (69, .iaload, 1), (70, .iload 4, 2), (72, .iadd, 1), (73, .iastore, 1), (74, .aload_n 0, 1), (75, .iconst 1, 1), (76, .putfield 55, 3), (79, .iinc 2 1, 3), (82, .goto (-67), 3), (85, .iconst 0, 1), (86, .istore_n 2, 1), (87, .iload_n 2, 1), (88, .aload_n 0, 1), (89, .getfield 12, 3), (92, .getfield 105, 3), (95, .if_icmp .ge 27, 3), (98, .aload_n 0, 1), (99, .getfield 21, 3), (102, .getfield 62, 3), (105, .iload_n 2, 1), (106, .dup2, 1), (107, .iaload, 1), (108, .aload_n 0, 1), (109, .getfield 35, 3), (112, .iload_n 2, 1), (113, .iaload, 1), (114, .iadd, 1), (115, .iastore, 1), (116, .iinc 2 1, 3), (119, .goto (-32), 3), (122, .return_, 1)]
def I_98 : ra_I := (lst_98, fl_1, kt_1, kl_1, nl_1, ql_1, ml_1, ol_1, al_1, mml_1)
theorem dc_98 : ∀ q ∈ lst_98, decode mt_98.2.1 q.1 = .ok (q.2.1, q.2.2) := by decide +kernel
theorem oI_98 : ra_okI pT mt_98.1.cls "BathWater$Scene" vwCl pNW pMT mt_98.2.1 I_98 := ⟨dc_98, lnk_1⟩
set_option maxRecDepth 100000 in
theorem oM_98 : pMT[98]? = some mt_98 := rfl
def lst_99 : List (Nat × Instr × Nat) := [(0, .aload_n 0, 1), (1, .getfield 29, 3), (4, .iload_n 1, 1), (5, .iaload, 1), (6, .istore_n 2, 1), (7, .iload_n 2, 1), (8, .ifCond .lt 16, 3), (11, .aload_n 0, 1), (12, .getfield 21, 3), (15, .getfield 74, 3), (18, .iload_n 2, 1), (19, .iaload, 1), (20, .iload_n 1, 1), (21, .if_icmp .ne 5, 3), (24, .iload_n 1, 1), (25, .ireturn, 1), (26, .aload_n 0, 1), (27, .getfield 21, 3), (30, .getfield 74, 3), (33, .iload_n 2, 1), (34, .iaload, 1), (35, .iload_n 1, 1), (36, .if_icmp .ge 9, 3), (39, .iload_n 1, 1), (40, .iconst 1, 1), (41, .isub, 1), (42, .goto 6, 3), (45, .iload_n 1, 1), (46, .iconst 1, 1), (47, .iadd, 1), (48, .ireturn, 1)]
def I_99 : ra_I := (lst_99, fl_1, kt_1, kl_1, nl_1, ql_1, ml_1, ol_1, al_1, mml_1)
theorem dc_99 : ∀ q ∈ lst_99, decode mt_99.2.1 q.1 = .ok (q.2.1, q.2.2) := by decide +kernel
theorem oI_99 : ra_okI pT mt_99.1.cls "BathWater$Scene" vwCl pNW pMT mt_99.2.1 I_99 := ⟨dc_99, lnk_1⟩
set_option maxRecDepth 100000 in
theorem oM_99 : pMT[99]? = some mt_99 := rfl
def lst_100 : List (Nat × Instr × Nat) := [(0, .aload_n 0, 1), (1, .iconst 0, 1), (2, .putfield 51, 3), (5, .iconst 0, 1), (6, .istore_n 1, 1), (7, .iload_n 1, 1), (8, .aload_n 0, 1), (9, .getfield 12, 3), (12, .getfield 98, 3), (15, .if_icmp .ge 92, 3), (18, .aload_n 0, 1), (19, .getfield 21, 3), (22, .getfield 74, 3), (25, .iload_n 1, 1), (26, .iaload, 1), (27, .istore_n 2, 1), (28, .iload_n 2, 1), (29, .ifCond .lt 72, 3), (32, .aload_n 0, 1), (33, .getfield 21, 3), (36, .getfield 62, 3), (39, .iload_n 2, 1), (40, .iaload, 1), (41, .aload_n 0, 1), (42, .getfield 12, 3), (45, .getfield 68, 3), (48, .iload_n 1, 1), (49, .iaload, 1), (50, .if_icmp .lt 51, 3), (53, .aload_n 0, 1), (54, .dup, 1), (55, .getfield 51, 3), (58, .iconst 1, 1), (59, .iload_n 1, 1), (60, .ishl, 1), (61, .ior, 1), (62, .putfield 51, 3), (65, .aload_n 0, 1), (66, .getfield 25, 3), (69, .iload_n 1, 1), (70, .dup2, 1), (71, .iaload, 1), (72, .iconst 1, 1), (73, .iadd, 1), (74, .iastore, 1), (75, .aload_n 0, 1), (76, .getfield 21, 3), (79, .getfield 65, 3), (82, .iload_n 1, 1), (83, .sipush 999, 3), (86, .aload_n 0, 1), (87, .getfield 21, 3), (90, .getfield 65, 3), (93, .iload_n 1, 1), (94, .iaload, 1), (95, .iconst 1, 1), (96, .iadd, 1), (97, .invokestatic 125, 3), (100, .iastore, 1), (101, .iinc 1 1, 3), (104, .goto (-97), 3), (107, .return_, 1)]
def I_100 : ra_I := (lst_100, fl_1, kt_1, kl_1, nl_1, ql_1, ml_1, ol_1, al_1, mml_1)
theorem dc_100 : ∀ q ∈ lst_100, decode mt_100.2.1 q.1 = .ok (q.2.1, q.2.2) := by decide +kernel
theorem oI_100 : ra_okI pT mt_100.1.cls "BathWater$Scene" vwCl pNW pMT mt_100.2.1 I_100 := ⟨dc_100, lnk_1⟩
set_option maxRecDepth 100000 in
theorem oM_100 : pMT[100]? = some mt_100 := rfl
def lst_101 : List (Nat × Instr × Nat) := [(0, .aload_n 0, 1), (1, .getfield 22, 3), (4, .bipush 40, 2), (6, .if_icmp .ne 19, 3), (9, .aload_n 0, 1), (10, .aload_n 0, 1), (11, .getfield 18, 3), (14, .iconst 1, 1), (15, .iadd, 1), (16, .bipush 41, 2), (18, .irem, 1), (19, .putfield 18, 3), (22, .goto 13, 3), (25, .aload_n 0, 1), (26, .dup, 1), (27, .getfield 22, 3), (30, .iconst 1, 1), (31, .iadd, 1), (32, .putfield 22, 3), (35, .aload_n 0, 1), (36, .aload_n 0, 1), (37, .getfield 22, 3), (40, .putfield 25, 3), (43, .aload_n 0, 1), (44, .aload_n 0, 1), (45, .getfield 22, 3), (48, .invokevirtual 28, 3), (51, .aload_n 1, 1), (52, .invokevirtual 32, 3), (55, .return_, 1)]
def I_101 : ra_I := (lst_101, fl_0, kt_0, kl_0, nl_0, ql_0, ml_0, ol_0, al_0, mml_0)
theorem dc_101 : ∀ q ∈ lst_101, decode mt_101.2.1 q.1 = .ok (q.2.1, q.2.2) := by decide +kernel
theorem oI_101 : ra_okI pT mt_101.1.cls "BathWater$Scene" vwCl pNW pMT mt_101.2.1 I_101 := ⟨dc_101, lnk_0⟩
set_option maxRecDepth 100000 in
theorem oM_101 : pMT[101]? = some mt_101 := rfl
def lst_102 : List (Nat × Instr × Nat) := [(0, .aload_n 0, 1), (1, .iload_n 1, 1), (2, .invokevirtual 120, 3), (5, .ifCond .eq 24, 3), (8, .aload_n 0, 1), (9, .iload_n 2, 1), (10, .invokevirtual 144, 3), (13, .ifCond .eq 16, 3), (16, .aload_n 0, 1), (17, .getfield 33, 3), (20, .getfield 124, 3), (23, .iload_n 1, 1), (24, .iaload, 1), (25, .iload_n 2, 1), (26, .if_icmp .ne 6, 3), (29, .bipush (-2), 2), (31, .ireturn, 1), (32, .aload_n 0, 1), (33, .getfield 33, 3), (36, .getfield 124, 3), (39, .iload_n 1, 1), (40, .iaload, 1), (41, .istore_n 3, 1), (42, .aload_n 0, 1), (43, .getfield 33, 3), (46, .getfield 124, 3), (49, .iload_n 1, 1), (50, .iload_n 2, 1), (51, .iastore, 1), (52, .aload_n 0, 1), (53, .getfield 40, 3), (56, .aload_n 0, 1), (57, .getfield 33, 3), (60, .invokevirtual 188, 3), (63, .iload_n 3, 1), (64, .ireturn, 1)]
def I_102 : ra_I := (lst_102, fl_8, kt_8, kl_8, nl_8, ql_8, ml_8, ol_8, al_8, mml_8)
theorem dc_102 : ∀ q ∈ lst_102, decode mt_102.2.1 q.1 = .ok (q.2.1, q.2.2) := by decide +kernel
theorem oI_102 : ra_okI pT mt_102.1.cls "BathWater$Scene" vwCl pNW pMT mt_102.2.1 I_102 := ⟨dc_102, lnk_8⟩
set_option maxRecDepth 100000 in
theorem oM_102 : pMT[102]? = some mt_102 := rfl
def lst_103 : List (Nat × Instr × Nat) := [(0, .aload_n 0, 1), (1, .iload_n 1, 1), (2, .invokevirtual 171, 3), (5, .ifCond .ne 5, 3), (8, .iconst (-1), 1), (9, .ireturn, 1), (10, .aload_n 0, 1), (11, .getfield 33, 3), (14, .getfield 124, 3), (17, .iload_n 1, 1), (18, .iaload, 1), (19, .istore_n 2, 1), (20, .aload_n 0, 1), (21, .getfield 33, 3), (24, .getfield 124, 3), (27, .iload_n 1, 1), (28, .iconst (-1), 1), (29, .iastore, 1), (30, .aload_n 0, 1), (31, .getfield 40, 3), (34, .aload_n 0, 1), (35, .getfield 33, 3), (38, .invokevirtual 188, 3), (41, .iload_n 2, 1), (42, .ireturn, 1)]
def I_103 : ra_I := (lst_103, fl_8, kt_8, kl_8, nl_8, ql_8, ml_8, ol_8, al_8, mml_8)
theorem dc_103 : ∀ q ∈ lst_103, decode mt_103.2.1 q.1 = .ok (q.2.1, q.2.2) := by decide +kernel
theorem oI_103 : ra_okI pT mt_103.1.cls "BathWater$Scene" vwCl pNW pMT mt_103.2.1 I_103 := ⟨dc_103, lnk_8⟩
set_option maxRecDepth 100000 in
theorem oM_103 : pMT[103]? = some mt_103 := rfl
def lst_104 : List (Nat × Instr × Nat) := [(0, .aload_n 0, 1), (1, .iload_n 1, 1), (2, .invokevirtual 144, 3), (5, .ifCond .eq 30, 3), (8, .iload_n 2, 1), (9, .iconst 1, 1), (10, .bipush 99, 2), (12, .invokestatic 126, 3), (15, .ifCond .eq 20, 3), (18, .aload_n 0, 1), (19, .getfield 33, 3), (22, .getfield 147, 3), (25, .iload_n 1, 1), (26, .iaload, 1), (27, .iload_n 2, 1), (28, .iadd, 1), (29, .sipush 999, 3), (32, .if_icmp .le 5, 3), (35, .iconst (-1), 1), (36, .ireturn, 1), (37, .aload_n 0, 1), (38, .getfield 33, 3), (41, .getfield 147, 3), (44, .iload_n 1, 1), (45, .dup2, 1), (46, .iaload, 1), (47, .iload_n 2, 1), (48, .iadd, 1), (49, .iastore, 1), (50, .aload_n 0, 1), (51, .getfield 40, 3), (54, .aload_n 0, 1), (55, .getfield 33, 3), (58, .invokevirtual 188, 3), (61, .aload_n 0, 1), (62, .getfield 33, 3), (65, .getfield 147, 3), (68, .iload_n 1, 1), (69, .iaload, 1), (70, .ireturn, 1)]
def I_104 : ra_I := (lst_104, fl_8, kt_8, kl_8, nl_8, ql_8, ml_8, ol_8, al_8, mml_8)
theorem dc_104 : ∀ q ∈ lst_104, decode mt_104.2.1 q.1 = .ok (q.2.1, q.2.2) := by decide +kernel
theorem oI_104 : ra_okI pT mt_104.1.cls "BathWater$Scene" vwCl pNW pMT mt_104.2.1 I_104 := ⟨dc_104, lnk_8⟩
set_option maxRecDepth 100000 in
theorem oM_104 : pMT[104]? = some mt_104 := rfl
def lst_105 : List (Nat × Instr × Nat) := [(0, .iload_n 0, 1), (1, .iload_n 1, 1), (2, .if_icmp .lt 12, 3), (5, .iload_n 0, 1), (6, .iload_n 2, 1), (7, .if_icmp .gt 7, 3), (10, .iconst 1, 1), (11, .goto 4, 3), (14, .iconst 0, 1), (15, .ireturn, 1)]
def I_105 : ra_I := (lst_105, fl_8, kt_8, kl_8, nl_8, ql_8, ml_8, ol_8, al_8, mml_8)
theorem dc_105 : ∀ q ∈ lst_105, decode mt_105.2.1 q.1 = .ok (q.2.1, q.2.2) := by decide +kernel
theorem oI_105 : ra_okI pT mt_105.1.cls "BathWater$Scene" vwCl pNW pMT mt_105.2.1 I_105 := ⟨dc_105, lnk_8⟩
set_option maxRecDepth 100000 in
theorem oM_105 : pMT[105]? = some mt_105 := rfl
def lst_106 : List (Nat × Instr × Nat) := [(0, .aload_n 0, 1), (1, .iload_n 1, 1), (2, .invokevirtual 144, 3), (5, .ifCond .eq 20, 3), (8, .iload_n 2, 1), (9, .iconst 1, 1), (10, .aload_n 0, 1), (11, .getfield 33, 3), (14, .getfield 147, 3), (17, .iload_n 1, 1), (18, .iaload, 1), (19, .invokestatic 126, 3), (22, .ifCond .ne 5, 3), (25, .iconst (-1), 1), (26, .ireturn, 1), (27, .aload_n 0, 1), (28, .getfield 33, 3), (31, .getfield 147, 3), (34, .iload_n 1, 1), (35, .dup2, 1), (36, .iaload, 1), (37, .iload_n 2, 1), (38, .isub, 1), (39, .iastore, 1), (40, .aload_n 0, 1), (41, .getfield 40, 3), (44, .aload_n 0, 1), (45, .getfield 33, 3), (48, .invokevirtual 188, 3), (51, .aload_n 0, 1), (52, .getfield 33, 3), (55, .getfield 147, 3), (58, .iload_n 1, 1), (59, .iaload, 1), (60, .ireturn, 1)]
def I_106 : ra_I := (lst_106, fl_8, kt_8, kl_8, nl_8, ql_8, ml_8, ol_8, al_8, mml_8)
theorem dc_106 : ∀ q ∈ lst_106, decode mt_106.2.1 q.1 = .ok (q.2.1, q.2.2) := by decide +kernel
theorem oI_106 : ra_okI pT mt_106.1.cls "BathWater$Scene" vwCl pNW pMT mt_106.2.1 I_106 := ⟨dc_106, lnk_8⟩
set_option maxRecDepth 100000 in
theorem oM_106 : pMT[106]? = some mt_106 := rfl
def lst_107 : List (Nat × Instr × Nat) := [(0, .aload_n 0, 1), (1, .iload_n 1, 1), (2, .invokevirtual 120, 3), (5, .ifCond .eq 26, 3), (8, .iload_n 2, 1), (9, .iconst 0, 1), (10, .bipush 99, 2), (12, .invokestatic 126, 3), (15, .ifCond .eq 16, 3), (18, .aload_n 0, 1), (19, .getfield 33, 3), (22, .getfield 158, 3), (25, .iload_n 1, 1), (26, .iaload, 1), (27, .iload_n 2, 1), (28, .if_icmp .ne 5, 3), (31, .iconst (-1), 1), (32, .ireturn, 1), (33, .aload_n 0, 1), (34, .getfield 33, 3), (37, .getfield 158, 3), (40, .iload_n 1, 1), (41, .iaload, 1), (42, .istore_n 3, 1), (43, .aload_n 0, 1), (44, .getfield 33, 3), (47, .getfield 158, 3), (50, .iload_n 1, 1), (51, .iload_n 2, 1), (52, .iastore, 1), (53, .aload_n 0, 1), (54, .getfield 40, 3), (57, .aload_n 0, 1), (58, .getfield 33, 3), (61, .invokevirtual 188, 3), (64, .iload_n 3, 1), (65, .ireturn, 1)]
def I_107 : ra_I := (lst_107, fl_8, kt_8, kl_8, nl_8, ql_8, ml_8, ol_8, al_8, mml_8)
theorem dc_107 : ∀ q ∈ lst_107, decode mt_107.2.1 q.1 = .ok (q.2.1, q.2.2) := by decide +kernel
theorem oI_107 : ra_okI pT mt_107.1.cls "BathWater$Scene" vwCl pNW pMT mt_107.2.1 I_107 := ⟨dc_107, lnk_8⟩
set_option maxRecDepth 100000 in
theorem oM_107 : pMT[107]? = some mt_107 := rfl
def lst_108 : List (Nat × Instr × Nat) := [(0, .aload_n 0, 1), (1, .getfield 40, 3), (4, .aload_n 0, 1), (5, .getfield 33, 3), (8, .invokevirtual 194, 3), (11, .ireturn, 1)]
def I_108 : ra_I := (lst_108, fl_8, kt_8, kl_8, nl_8, ql_8, ml_8, ol_8, al_8, mml_8)
theorem dc_108 : ∀ q ∈ lst_108, decode mt_108.2.1 q.1 = .ok (q.2.1, q.2.2) := by decide +kernel
theorem oI_108 : ra_okI pT mt_108.1.cls "BathWater$Scene" vwCl pNW pMT mt_108.2.1 I_108 := ⟨dc_108, lnk_8⟩
set_option maxRecDepth 100000 in
theorem oM_108 : pMT[108]? = some mt_108 := rfl
def lst_109 : List (Nat × Instr × Nat) := [(0, .aload_n 0, 1), (1, .getfield 22, 3), (4, .ifCond .ne 5, 3), (7, .iconst 0, 1), (8, .ireturn, 1), (9, .aload_n 0, 1), (10, .dup, 1), (11, .getfield 22, 3), (14, .iconst 1, 1), (15, .isub, 1), (16, .putfield 22, 3), (19, .aload_n 1, 1), (20, .aload_n 0, 1), (21, .aload_n 0, 1), (22, .getfield 22, 3), (25, .invokevirtual 28, 3), (28, .invokevirtual 32, 3), (31, .iconst 1, 1), (32, .ireturn, 1)]
def I_109 : ra_I := (lst_109, fl_0, kt_0, kl_0, nl_0, ql_0, ml_0, ol_0, al_0, mml_0)
theorem dc_109 : ∀ q ∈ lst_109, decode mt_109.2.1 q.1 = .ok (q.2.1, q.2.2) := by decide +kernel
theorem oI_109 : ra_okI pT mt_109.1.cls "BathWater$Scene" vwCl pNW pMT mt_109.2.1 I_109 := ⟨dc_109, lnk_0⟩
set_option maxRecDepth 100000 in
theorem oM_109 : pMT[109]? = some mt_109 := rfl
def lst_110 : List (Nat × Instr × Nat) := [(0, .aload_n 0, 1), (1, .getfield 40, 3), (4, .aload_n 0, 1), (5, .getfield 33, 3), (8, .invokevirtual 198, 3), (11, .ireturn, 1)]
def I_110 : ra_I := (lst_110, fl_8, kt_8, kl_8, nl_8, ql_8, ml_8, ol_8, al_8, mml_8)
theorem dc_110 : ∀ q ∈ lst_110, decode mt_110.2.1 q.1 = .ok (q.2.1, q.2.2) := by decide +kernel
theorem oI_110 : ra_okI pT mt_110.1.cls "BathWater$Scene" vwCl pNW pMT mt_110.2.1 I_110 := ⟨dc_110, lnk_8⟩
set_option maxRecDepth 100000 in
theorem oM_110 : pMT[110]? = some mt_110 := rfl
def lst_111 : List (Nat × Instr × Nat) := [(0, .aload_n 0, 1), (1, .getfield 22, 3), (4, .aload_n 0, 1), (5, .getfield 25, 3), (8, .if_icmp .lt 5, 3), (11, .iconst 0, 1), (12, .ireturn, 1), (13, .aload_n 0, 1), (14, .dup, 1), (15, .getfield 22, 3), (18, .iconst 1, 1), (19, .iadd, 1), (20, .putfield 22, 3), (23, .aload_n 1, 1), (24, .aload_n 0, 1), (25, .aload_n 0, 1), (26, .getfield 22, 3), (29, .invokevirtual 28, 3), (32, .invokevirtual 32, 3), (35, .iconst 1, 1), (36, .ireturn, 1)]
def I_111 : ra_I := (lst_111, fl_0, kt_0, kl_0, nl_0, ql_0, ml_0, ol_0, al_0, mml_0)
theorem dc_111 : ∀ q ∈ lst_111, decode mt_111.2.1 q.1 = .ok (q.2.1, q.2.2) := by decide +kernel
theorem oI_111 : ra_okI pT mt_111.1.cls "BathWater$Scene" vwCl pNW pMT mt_111.2.1 I_111 := ⟨dc_111, lnk_0⟩
set_option maxRecDepth 100000 in
theorem oM_111 : pMT[111]? = some mt_111 := rfl
def lst_112 : List (Nat × Instr × Nat) := [(0, .aload_n 0, 1), (1, .iload_n 1, 1), (2, .invokevirtual 144, 3), (5, .ifCond .eq 19, 3), (8, .iload_n 2, 1), (9, .invokestatic 201, 3), (12, .ifCond .eq 12, 3), (15, .iload_n 3, 1), (16, .iconst 0, 1), (17, .iconst 1, 1), (18, .invokestatic 126, 3), (21, .ifCond .ne 5, 3), (24, .iconst (-1), 1), (25, .ireturn, 1), (26, .aload_n 0, 1), (27, .invokevirtual 134, 3), (30, .iload_n 3, 1), (31, .ifCond .ne 14, 3), (34, .aload_n 0, 1), (35, .getfield 47, 3), (38, .iload_n 2, 1), (39, .invokevirtual 204, 3), (42, .goto 11, 3), (45, .aload_n 0, 1), (46, .getfield 47, 3), (49, .iload_n 2, 1), (50, .invokevirtual 207, 3), (53, .aload_n 0, 1), (54, .getfield 47, 3), (57, .getfield 185, 3), (60, .getfield 147, 3), (63, .iload_n 1, 1), (64, .iaload, 1), (65, .ireturn, 1)]
def I_112 : ra_I := (lst_112, fl_8, kt_8, kl_8, nl_8, ql_8, ml_8, ol_8, al_8, mml_8)
theorem dc_112 : ∀ q ∈ lst_112, decode mt_112.2.1 q.1 = .ok (q.2.1, q.2.2) := by decide +kernel
theorem oI_112 : ra_okI pT mt_112.1.cls "BathWater$Scene" vwCl pNW pMT mt_112.2.1 I_112 := ⟨dc_112, lnk_8⟩
set_option maxRecDepth 100000 in
theorem oM_112 : pMT[112]? = some mt_112 := rfl
def lst_113 : List (Nat × Instr × Nat) := [(0, .iload_n 0, 1), (1, .iconst 0, 1), (2, .bipush 60, 2), (4, .invokestatic 126, 3), (7, .ireturn, 1)]
def I_113 : ra_I := (lst_113, fl_8, kt_8, kl_8, nl_8, ql_8, ml_8, ol_8, al_8, mml_8)
theorem dc_113 : ∀ q ∈ lst_113, decode mt_113.2.1 q.1 = .ok (q.2.1, q.2.2) := by decide +kernel
theorem oI_113 : ra_okI pT mt_113.1.cls "BathWater$Scene" vwCl pNW pMT mt_113.2.1 I_113 := ⟨dc_113, lnk_8⟩
set_option maxRecDepth 100000 in
theorem oM_113 : pMT[113]? = some mt_113 := rfl
def lst_114 : List (Nat × Instr × Nat) := [(0, .iload_n 1, 1), (1, .iconst 1, 1), (2, .isub, 1), (3, .istore_n 2, 1), (4, .iload_n 2, 1), (5, .ifCond .lt 40, 3), (8, .aload_n 0, 1), (9, .iconst 0, 1), (10, .invokevirtual 128, 3), (13, .aload_n 0, 1), (14, .getfield 55, 3), (17, .ifCond .ne 22, 3), (20, .aload_n 0, 1), (21, .getfield 12, 3), (24, .getfield 88, 3), (27, .getfield 131, 3), (30, .ifCond .ne 9, 3), (33, .aload_n 0, 1), (34, .iload_n 2, 1), (35, .invokevirtual 134, 3), (38, .return_, 1), (39, .iinc 2 (-1), 3), (42, .goto (-38), 3), (45, .return_, 1)]
def I_114 : ra_I := (lst_114, fl_1, kt_1, kl_1, nl_1, ql_1, ml_1, ol_1, al_1, mml_1)
theorem dc_114 : ∀ q ∈ lst_114, decode mt_114.2.1 q.1 = .ok (q.2.1, q.2.2) := by decide +kernel
theorem oI_114 : ra_okI pT mt_114.1.cls "BathWater$Scene" vwCl pNW pMT mt_114.2.1 I_114 := ⟨dc_114, lnk_1⟩
set_option maxRecDepth 100000 in
theorem oM_114 : pMT[114]? = some mt_114 := rfl
def lst_115 : List (Nat × Instr × Nat) := [(0, .iconst 0, 1), (1, .istore_n 2, 1), (2, .iload_n 2, 1), (3, .aload_n 0, 1), (4, .getfield 12, 3), (7, .getfield 98, 3), (10, .if_icmp .ge 56, 3), (13, .aload_n 0, 1), (14, .getfield 51, 3), (17, .iload_n 2, 1), (18, .ishr, 1), (19, .iconst 1, 1), (20, .iand, 1), (21, .ifCond .eq 39, 3), (24, .aload_n 0, 1), (25, .getfield 25, 3), (28, .iload_n 2, 1), (29, .dup2, 1), (30, .iaload, 1), (31, .iload_n 1, 1), (32, .iadd, 1), (33, .iastore, 1), (34, .aload_n 0, 1), (35, .getfield 21, 3), (38, .getfield 65, 3), (41, .iload_n 2, 1), (42, .sipush 999, 3), (45, .aload_n 0, 1), (46, .getfield 21, 3), (49, .getfield 65, 3), (52, .iload_n 2, 1), (53, .iaload, 1), (54, .iload_n 1, 1), (55, .iadd, 1), (56, .invokestatic 125, 3), (59, .iastore, 1), (60, .iinc 2 1, 3), (63, .goto (-61), 3), (66, .aload_n 0, 1), (67, .getfield 21, 3), (70, .dup, 1), (71, .getfield 71, 3), (74, .iload_n 1, 1), (75, .iadd, 1), (76, .putfield 71, 3), (79, .return_, 1)]
def I_115 : ra_I := (lst_115, fl_1, kt_1, kl_1, nl_1, ql_1, ml_1, ol_1, al_1, mml_1)
theorem dc_115 : ∀ q ∈ lst_115, decode mt_115.2.1 q.1 = .ok (q.2.1, q.2.2) := by decide +kernel
theorem oI_115 : ra_okI pT mt_115.1.cls "BathWater$Scene" vwCl pNW pMT mt_115.2.1 I_115 := ⟨dc_115, lnk_1⟩
set_option maxRecDepth 100000 in
theorem oM_115 : pMT[115]? = some mt_115 := rfl
def lst_116 : List (Nat × Instr × Nat) := [(0, .iconst 0, 1), (1, .istore_n 2, 1), (2, .iload_n 2, 1), (3, .iload_n 1, 1), (4, .if_icmp .ge 13, 3), (7, .aload_n 0, 1), (8, .invokevirtual 143, 3), (11, .iinc 2 1, 3), (14, .goto (-12), 3), (17, .return_, 1)]
def I_116 : ra_I := (lst_116, fl_1, kt_1, kl_1, nl_1, ql_1, ml_1, ol_1, al_1, mml_1)
theorem dc_116 : ∀ q ∈ lst_116, decode mt_116.2.1 q.1 = .ok (q.2.1, q.2.2) := by decide +kernel
theorem oI_116 : ra_okI pT mt_116.1.cls "BathWater$Scene" vwCl pNW pMT mt_116.2.1 I_116 := ⟨dc_116, lnk_1⟩
set_option maxRecDepth 100000 in
theorem oM_116 : pMT[116]? = some mt_116 := rfl
def lst_117 : List (Nat × Instr × Nat) := [(0, .aload_n 0, 1), (1, .iload_n 1, 1), (2, .invokevirtual 120, 3), (5, .ifCond .eq 10, 3), (8, .iload_n 2, 1), (9, .invokestatic 201, 3), (12, .ifCond .ne 5, 3), (15, .iconst (-1), 1), (16, .ireturn, 1), (17, .aload_n 0, 1), (18, .invokevirtual 134, 3), (21, .aload_n 0, 1), (22, .getfield 47, 3), (25, .iload_n 2, 1), (26, .invokevirtual 204, 3), (29, .aload_n 0, 1), (30, .getfield 47, 3), (33, .getfield 210, 3), (36, .iload_n 1, 1), (37, .iaload, 1), (38, .ireturn, 1)]
def I_117 : ra_I := (lst_117, fl_8, kt_8, kl_8, nl_8, ql_8, ml_8, ol_8, al_8, mml_8)
theorem dc_117 : ∀ q ∈ lst_117, decode mt_117.2.1 q.1 = .ok (q.2.1, q.2.2) := by decide +kernel
theorem oI_117 : ra_okI pT mt_117.1.cls "BathWater$Scene" vwCl pNW pMT mt_117.2.1 I_117 := ⟨dc_117, lnk_8⟩
set_option maxRecDepth 100000 in
theorem oM_117 : pMT[117]? = some mt_117 := rfl
def lst_118 : List (Nat × Instr × Nat) := [(0, .aload_n 0, 1), (1, .invokevirtual 134, 3), (4, .iconst 0, 1), (5, .istore_n 1, 1), (6, .iload_n 1, 1), (7, .bipush 60, 2), (9, .if_icmp .gt 29, 3), (12, .aload_n 0, 1), (13, .getfield 47, 3), (16, .iconst 0, 1), (17, .invokevirtual 213, 3), (20, .aload_n 0, 1), (21, .getfield 47, 3), (24, .getfield 216, 3), (27, .ifCond .ne 5, 3), (30, .iload_n 1, 1), (31, .ireturn, 1), (32, .iinc 1 1, 3), (35, .goto (-29), 3), (38, .iconst (-1), 1), (39, .ireturn, 1)]
def I_118 : ra_I := (lst_118, fl_8, kt_8, kl_8, nl_8, ql_8, ml_8, ol_8, al_8, mml_8)
theorem dc_118 : ∀ q ∈ lst_118, decode mt_118.2.1 q.1 = .ok (q.2.1, q.2.2) := by decide +kernel
theorem oI_118 : ra_okI pT mt_118.1.cls "BathWater$Scene" vwCl pNW pMT mt_118.2.1 I_118 := ⟨dc_118, lnk_8⟩
set_option maxRecDepth 100000 in
theorem oM_118 : pMT[118]? = some mt_118 := rfl
def lst_119 : List (Nat × Instr × Nat) := [(0, .aload_n 0, 1), (1, .iload_n 1, 1), (2, .invokevirtual 120, 3), (5, .ifCond .eq 22, 3), (8, .iload_n 2, 1), (9, .iconst 0, 1), (10, .bipush 20, 2), (12, .invokestatic 126, 3), (15, .ifCond .eq 12, 3), (18, .iload_n 3, 1), (19, .iconst 0, 1), (20, .iconst 1, 1), (21, .invokestatic 126, 3), (24, .ifCond .ne 5, 3), (27, .iconst (-1), 1), (28, .ireturn, 1), (29, .iconst (-1), 1), (30, .istore 4, 2), (32, .iconst (-1), 1), (33, .istore 5, 2), (35, .iconst 0, 1), (36, .istore 6, 2), (38, .iload 6, 2), (40, .aload_n 0, 1), (41, .getfield 23, 3), (44, .getfield 117, 3), (47, .if_icmp .ge 72, 3), (50, .aload_n 0, 1), (51, .invokevirtual 134, 3), (54, .aload_n 0, 1), (55, .getfield 47, 3), (58, .getfield 185, 3), (61, .getfield 124, 3), (64, .iload_n 1, 1), (65, .iload 6, 2), (67, .iastore, 1), (68, .aload_n 0, 1), (69, .getfield 47, 3), (72, .iload_n 2, 1), (73, .invokevirtual 204, 3), (76, .aload_n 0, 1), (77, .getfield 47, 3), (80, .getfield 185, 3), (83, .getfield 147, 3), (86, .iload 6, 2), (88, .iaload, 1), (89, .iload 5, 2), (91, .if_icmp .le 22, 3), (94, .aload_n 0, 1), (95, .getfield 47, 3), (98, .getfield 185, 3), (101, .getfield 147, 3), (104, .iload 6, 2), (106, .iaload, 1), (107, .istore 5, 2), (109, .iload 6, 2), (111, .istore 4, 2), (113, .iinc 6 1, 3), (116, .goto (-78), 3), (119, .iload_n 3, 1), (120, .ifCond .ne 8, 3), (123, .iload 4, 2), (125, .goto 5, 3), (128, .iload 5, 2), (130, .ireturn, 1)]
def I_119 : ra_I := (lst_119, fl_8, kt_8, kl_8, nl_8, ql_8, ml_8, ol_8, al_8, mml_8)
theorem dc_119 : ∀ q ∈ lst_119, decode mt_119.2.1 q.1 = .ok (q.2.1, q.2.2) := by decide +kernel
theorem oI_119 : ra_okI pT mt_119.1.cls "BathWater$Scene" vwCl pNW pMT mt_119.2.1 I_119 := ⟨dc_119, lnk_8⟩
set_option maxRecDepth 100000 in
theorem oM_119 : pMT[119]? = some mt_119 := rfl
def lst_120 : List (Nat × Instr × Nat) := [(0, .aload_n 0, 1), (1, .iload_n 1, 1), (2, .iload_n 2, 1), (3, .invokevirtual 220, 3), (6, .ifCond .eq 23, 3), (9, .iload_n 3, 1), (10, .iconst 1, 1), (11, .bipush 10, 2), (13, .invokestatic 126, 3), (16, .ifCond .eq 13, 3), (19, .iload 4, 2), (21, .iconst 0, 1), (22, .iconst 2, 1), (23, .invokestatic 126, 3), (26, .ifCond .ne 5, 3), (29, .iconst (-1), 1), (30, .ireturn, 1), (31, .iconst (-1), 1), (32, .istore 5, 2), (34, .iconst (-1), 1), (35, .istore 6, 2), (37, .iconst 0, 1), (38, .istore 7, 2), (40, .iload 7, 2), (42, .sipush 144, 3), (45, .if_icmp .ge 59, 3), (48, .aload_n 0, 1), (49, .iload 7, 2), (51, .bipush 12, 2), (53, .idiv, 1), (54, .invokevirtual 144, 3), (57, .ifCond .eq 41, 3), (60, .aload_n 0, 1), (61, .iload 7, 2), (63, .bipush 12, 2), (65, .irem, 1), (66, .invokevirtual 144, 3), (69, .ifCond .eq 29, 3), (72, .aload_n 0, 1), (73, .iload_n 1, 1), (74, .iload_n 2, 1), (75, .iload 7, 2), (77, .iload_n 3, 1), (78, .invokevirtual 224, 3), (81, .istore 8, 2), (83, .iload 8, 2), (85, .iload 6, 2), (87, .if_icmp .le 11, 3), (90, .iload 8, 2), (92, .istore 6, 2), (94, .iload 7, 2), (96, .istore 5, 2), (98, .iinc 7 1, 3), (101, .goto (-61), 3), (104, .iload 4, 2), (106, .lookupswitch 38 #[(0, 26), (1, 32)], 26), (132, .iload 5, 2), (134, .bipush 12, 2), (136, .idiv, 1), (137, .ireturn, 1), (138, .iload 5, 2), (140, .bipush 12, 2), (142, .irem, 1), (143, .ireturn, 1), (144, .iload 6, 2), (146, .ireturn, 1)]
def I_120 : ra_I := (lst_120, fl_8, kt_8, kl_8, nl_8, ql_8, ml_8, ol_8, al_8, mml_8)
theorem dc_120 : ∀ q ∈ lst_120, decode mt_120.2.1 q.1 = .ok (q.2.1, q.2.2) := by decide +kernel
theorem oI_120 : ra_okI pT mt_120.1.cls "BathWater$Scene" vwCl pNW pMT mt_120.2.1 I_120 := ⟨dc_120, lnk_8⟩
set_option maxRecDepth 100000 in
theorem oM_120 : pMT[120]? = some mt_120 := rfl
def lst_121 : List (Nat × Instr × Nat) := [(0, .aload_n 0, 1), (1, .iload_n 1, 1), (2, .invokevirtual 120, 3), (5, .ifCond .eq 20, 3), (8, .aload_n 0, 1), (9, .iload_n 2, 1), (10, .invokevirtual 120, 3), (13, .ifCond .eq 12, 3), (16, .iload_n 1, 1), (17, .iload_n 2, 1), (18, .if_icmp .eq 7, 3), (21, .iconst 1, 1), (22, .goto 4, 3), (25, .iconst 0, 1), (26, .ireturn, 1)]
def I_121 : ra_I := (lst_121, fl_8, kt_8, kl_8, nl_8, ql_8, ml_8, ol_8, al_8, mml_8)
theorem dc_121 : ∀ q ∈ lst_121, decode mt_121.2.1 q.1 = .ok (q.2.1, q.2.2) := by decide +kernel
theorem oI_121 : ra_okI pT mt_121.1.cls "BathWater$Scene" vwCl pNW pMT mt_121.2.1 I_121 := ⟨dc_121, lnk_8⟩
set_option maxRecDepth 100000 in
theorem oM_121 : pMT[121]? = some mt_121 := rfl
def lst_122 : List (Nat × Instr × Nat) := [(0, .aload_n 0, 1), (1, .invokevirtual 134, 3), (4, .aload_n 0, 1), (5, .getfield 47, 3), (8, .getfield 185, 3), (11, .getfield 124, 3), (14, .iload_n 1, 1), (15, .iload_n 3, 1), (16, .bipush 12, 2), (18, .idiv, 1), (19, .iastore, 1), (20, .aload_n 0, 1), (21, .getfield 47, 3), (24, .getfield 185, 3), (27, .getfield 124, 3), (30, .iload_n 2, 1), (31, .iload_n 3, 1), (32, .bipush 12, 2), (34, .irem, 1), (35, .iastore, 1), (36, .aload_n 0, 1), (37, .getfield 47, 3), (40, .iload 4, 2), (42, .invokevirtual 204, 3), (45, .aload_n 0, 1), (46, .getfield 47, 3), (49, .getfield 210, 3), (52, .iload_n 1, 1), (53, .iaload, 1), (54, .aload_n 0, 1), (55, .getfield 47, 3), (58, .getfield 210, 3), (61, .iload_n 2, 1), (62, .iaload, 1), (63, .iadd, 1), (64, .ireturn, 1)]
def I_122 : ra_I := (lst_122, fl_8, kt_8, kl_8, nl_8, ql_8, ml_8, ol_8, al_8, mml_8)
theorem dc_122 : ∀ q ∈ lst_122, decode mt_122.2.1 q.1 = .ok (q.2.1, q.2.2) := by decide +kernel
theorem oI_122 : ra_okI pT mt_122.1.cls "BathWater$Scene" vwCl pNW pMT mt_122.2.1 I_122 := ⟨dc_122, lnk_8⟩
set_option maxRecDepth 100000 in
theorem oM_122 : pMT[122]? = some mt_122 := rfl
def lst_123 : List (Nat × Instr × Nat) := [(0, .aload_n 0, 1), (1, .iconst 0, 1), (2, .putfield 105, 3), (5, .aload_n 0, 1), (6, .getfield 23, 3), (9, .getfield 89, 3), (12, .ifCond .eq 12, 3), (15, .iload_n 1, 1), (16, .iconst 1, 1), (17, .iconst 3, 1), (18, .invokestatic 126, 3), (21, .ifCond .ne 5, 3), (24, .iconst (-1), 1), (25, .ireturn, 1), (26, .iconst 0, 1), (27, .istore_n 2, 1), (28, .iload_n 2, 1), (29, .iconst 5, 1), (30, .if_icmp .ge 16, 3), (33, .aload_n 0, 1), (34, .getfield 58, 3), (37, .iload_n 2, 1), (38, .iload_n 2, 1), (39, .iastore, 1), (40, .iinc 2 1, 3), (43, .goto (-15), 3), (46, .iconst (-1), 1), (47, .istore_n 2, 1), (48, .iconst 1, 1), (49, .istore_n 3, 1), (50, .iconst 0, 1), (51, .istore 4, 2), (53, .iload 4, 2), (55, .bipush 120, 2), (57, .if_icmp .ge 38, 3), (60, .iload_n 3, 1), (61, .ifCond .eq 34, 3), (64, .aload_n 0, 1), (65, .iload_n 1, 1), (66, .invokevirtual 228, 3), (69, .istore 5, 2), (71, .iload 5, 2), (73, .iload_n 2, 1), (74, .if_icmp .le 10, 3), (77, .iload 5, 2), (79, .istore_n 2, 1), (80, .aload_n 0, 1), (81, .invokevirtual 231, 3), (84, .aload_n 0, 1), (85, .invokevirtual 234, 3), (88, .istore_n 3, 1), (89, .iinc 4 1, 3), (92, .goto (-39), 3), (95, .iload_n 2, 1), (96, .ireturn, 1)]
def I_123 : ra_I := (lst_123, fl_8, kt_8, kl_8, nl_8, ql_8, ml_8, ol_8, al_8, mml_8)
theorem dc_123 : ∀ q ∈ lst_123, decode mt_123.2.1 q.1 = .ok (q.2.1, q.2.2) := by decide +kernel
theorem oI_123 : ra_okI pT mt_123.1.cls "BathWater$Scene" vwCl pNW pMT mt_123.2.1 I_123 := ⟨dc_123, lnk_8⟩
set_option maxRecDepth 100000 in
theorem oM_123 : pMT[123]? = some mt_123 := rfl
def lst_124 : List (Nat × Instr × Nat) := [(0, .aload_n 0, 1), (1, .invokevirtual 134, 3), (4, .iconst 0, 1), (5, .istore_n 2, 1), (6, .iload_n 2, 1), (7, .aload_n 0, 1), (8, .getfield 23, 3), (11, .getfield 89, 3), (14, .if_icmp .ge 49, 3), (17, .aload_n 0, 1), (18, .getfield 47, 3), (21, .getfield 185, 3), (24, .getfield 124, 3), (27, .iconst (-1), 1), (28, .invokestatic 238, 3), (31, .aload_n 0, 1), (32, .getfield 47, 3), (35, .getfield 185, 3), (38, .getfield 124, 3), (41, .aload_n 0, 1), (42, .getfield 58, 3), (45, .iload_n 2, 1), (46, .iaload, 1), (47, .iconst 0, 1), (48, .iastore, 1), (49, .aload_n 0, 1), (50, .getfield 47, 3), (53, .iload_n 1, 1), (54, .invokevirtual 204, 3), (57, .iinc 2 1, 3), (60, .goto (-54), 3), (63, .aload_n 0, 1), (64, .getfield 47, 3), (67, .invokevirtual 244, 3), (70, .ireturn, 1)]
def I_124 : ra_I := (lst_124, fl_8, kt_8, kl_8, nl_8, ql_8, ml_8, ol_8, al_8, mml_8)
theorem dc_124 : ∀ q ∈ lst_124, decode mt_124.2.1 q.1 = .ok (q.2.1, q.2.2) := by decide +kernel
theorem oI_124 : ra_okI pT mt_124.1.cls "BathWater$Scene" vwCl pNW pMT mt_124.2.1 I_124 := ⟨dc_124, lnk_8⟩
set_option maxRecDepth 100000 in
theorem oM_124 : pMT[124]? = some mt_124 := rfl
def lst_125 : List (Nat × Instr × Nat) := [(0, .iconst 0, 1), (1, .istore_n 1, 1), (2, .iconst 0, 1), (3, .istore_n 2, 1), (4, .iload_n 2, 1), (5, .aload_n 0, 1), (6, .getfield 12, 3), (9, .getfield 98, 3), (12, .if_icmp .ge 18, 3), (15, .iload_n 1, 1), (16, .aload_n 0, 1), (17, .getfield 25, 3), (20, .iload_n 2, 1), (21, .iaload, 1), (22, .iadd, 1), (23, .istore_n 1, 1), (24, .iinc 2 1, 3), (27, .goto (-23), 3), (30, .iload_n 1, 1), (31, .ireturn, 1)]
def I_125 : ra_I := (lst_125, fl_1, kt_1, kl_1, nl_1, ql_1, ml_1, ol_1, al_1, mml_1)
theorem dc_125 : ∀ q ∈ lst_125, decode mt_125.2.1 q.1 = .ok (q.2.1, q.2.2) := by decide +kernel
theorem oI_125 : ra_okI pT mt_125.1.cls "BathWater$Scene" vwCl pNW pMT mt_125.2.1 I_125 := ⟨dc_125, lnk_1⟩
set_option maxRecDepth 100000 in
theorem oM_125 : pMT[125]? = some mt_125 := rfl
def lst_126 : List (Nat × Instr × Nat) := [(0, .aload_n 0, 1), (1, .getfield 58, 3), (4, .iconst 0, 1), (5, .aload_n 0, 1), (6, .getfield 55, 3), (9, .iconst 0, 1), (10, .aload_n 0, 1), (11, .getfield 23, 3), (14, .getfield 89, 3), (17, .invokestatic 248, 3), (20, .aload_n 0, 1), (21, .aload_n 0, 1), (22, .getfield 23, 3), (25, .getfield 89, 3), (28, .putfield 105, 3), (31, .return_, 1)]
def I_126 : ra_I := (lst_126, fl_8, kt_8, kl_8, nl_8, ql_8, ml_8, ol_8, al_8, mml_8)
theorem dc_126 : ∀ q ∈ lst_126, decode mt_126.2.1 q.1 = .ok (q.2.1, q.2.2) := by decide +kernel
theorem oI_126 : ra_okI pT mt_126.1.cls "BathWater$Scene" vwCl pNW pMT mt_126.2.1 I_126 := ⟨dc_126, lnk_8⟩
set_option maxRecDepth 100000 in
theorem oM_126 : pMT[126]? = some mt_126 := rfl
def lst_127 : List (Nat × Instr × Nat) := [(0, .aload_n 0, 1), (1, .getfield 23, 3), (4, .getfield 89, 3), (7, .iconst 2, 1), (8, .isub, 1), (9, .istore_n 1, 1), (10, .iload_n 1, 1), (11, .ifCond .lt 26, 3), (14, .aload_n 0, 1), (15, .getfield 58, 3), (18, .iload_n 1, 1), (19, .iaload, 1), (20, .aload_n 0, 1), (21, .getfield 58, 3), (24, .iload_n 1, 1), (25, .iconst 1, 1), (26, .iadd, 1), (27, .iaload, 1), (28, .if_icmp .le 9, 3), (31, .iinc 1 (-1), 3), (34, .goto (-24), 3), (37, .iload_n 1, 1), (38, .ifCond .ge 5, 3), (41, .iconst 0, 1), (42, .ireturn, 1), (43, .aload_n 0, 1), (44, .getfield 23, 3), (47, .getfield 89, 3), (50, .iconst 1, 1), (51, .isub, 1), (52, .istore_n 2, 1), (53, .iload_n 2, 1), (54, .iload_n 1, 1), (55, .iconst 1, 1), (56, .iadd, 1), (57, .if_icmp .le 24, 3), (60, .aload_n 0, 1), (61, .getfield 58, 3), (64, .iload_n 2, 1), (65, .iaload, 1), (66, .aload_n 0, 1), (67, .getfield 58, 3), (70, .iload_n 1, 1), (71, .iaload, 1), (72, .if_icmp .ge 9, 3), (75, .iinc 2 (-1), 3), (78, .goto (-25), 3), (81, .aload_n 0, 1), (82, .iload_n 1, 1), (83, .iload_n 2, 1), (84, .invokevirtual 254, 3), (87, .aload_n 0, 1), (88, .getfield 23, 3), (91, .getfield 89, 3), (94, .iconst 1, 1), (95, .isub, 1), (96, .istore_n 3, 1), (97, .iload_n 1, 1), (98, .iconst 1, 1), (99, .iadd, 1), (100, .istore 4, 2), (102, .iload 4, 2), (104, .iload_n 3, 1), (105, .if_icmp .ge 19, 3), (108, .aload_n 0, 1), (109, .iload 4, 2), (111, .iload_n 3, 1), (112, .invokevirtual 254, 3), (115, .iinc 3 (-1), 3), (118, .iinc 4 1, 3), (121, .goto (-19), 3), (124, .iconst 1, 1), (125, .ireturn, 1)]
def I_127 : ra_I := (lst_127, fl_8, kt_8, kl_8, nl_8, ql_8, ml_8, ol_8, al_8, mml_8)
theorem dc_127 : ∀ q ∈ lst_127, decode mt_127.2.1 q.1 = .ok (q.2.1, q.2.2) := by decide +kernel
theorem oI_127 : ra_okI pT mt_127.1.cls "BathWater$Scene" vwCl pNW pMT mt_127.2.1 I_127 := ⟨dc_127, lnk_8⟩
set_option maxRecDepth 100000 in
theorem oM_127 : pMT[127]? = some mt_127 := rfl
def lst_128 : List (Nat × Instr × Nat) := [(0, .aload_n 0, 1), (1, .getfield 58, 3), (4, .iload_n 1, 1), (5, .iaload, 1), (6, .istore_n 3, 1), (7, .aload_n 0, 1), (8, .getfield 58, 3), (11, .iload_n 1, 1), (12, .aload_n 0, 1), (13, .getfield 58, 3), (16, .iload_n 2, 1), (17, .iaload, 1), (18, .iastore, 1), (19, .aload_n 0, 1), (20, .getfield 58, 3), (23, .iload_n 2, 1), (24, .iload_n 3, 1), (25, .iastore, 1), (26, .return_, 1)]
def I_128 : ra_I := (lst_128, fl_8, kt_8, kl_8, nl_8, ql_8, ml_8, ol_8, al_8, mml_8)
theorem dc_128 : ∀ q ∈ lst_128, decode mt_128.2.1 q.1 = .ok (q.2.1, q.2.2) := by decide +kernel
theorem oI_128 : ra_okI pT mt_128.1.cls "BathWater$Scene" vwCl pNW pMT mt_128.2.1 I_128 := ⟨dc_128, lnk_8⟩
set_option maxRecDepth 100000 in
theorem oM_128 : pMT[128]? = some mt_128 := rfl
def lst_129 : List (Nat × Instr × Nat) := [(0, .iload_n 1, 1), (1, .iconst 1, 1), (2, .bipush 20, 2), (4, .invokestatic 126, 3), (7, .ifCond .eq 12, 3), (10, .iload_n 2, 1), (11, .iconst 0, 1), (12, .iconst 1, 1), (13, .invokestatic 126, 3), (16, .ifCond .ne 5, 3), (19, .iconst (-1), 1), (20, .ireturn, 1), (21, .aload_n 0, 1), (22, .invokevirtual 134, 3), (25, .iconst 1, 1), (26, .istore_n 3, 1), (27, .iload_n 3, 1), (28, .bipush 60, 2), (30, .if_icmp .gt 44, 3), (33, .aload_n 0, 1), (34, .getfield 47, 3), (37, .iconst 0, 1), (38, .invokevirtual 213, 3), (41, .aload_n 0, 1), (42, .getfield 47, 3), (45, .iload_n 1, 1), (46, .invokevirtual 258, 3), (49, .istore 4, 2), (51, .iload 4, 2), (53, .iconst (-1), 1), (54, .if_icmp .eq 14, 3), (57, .iload_n 2, 1), (58, .ifCond .ne 8, 3), (61, .iload 4, 2), (63, .goto 4, 3), (66, .iload_n 3, 1), (67, .ireturn, 1), (68, .iinc 3 1, 3), (71, .goto (-44), 3), (74, .iconst (-1), 1), (75, .ireturn, 1)]
def I_129 : ra_I := (lst_129, fl_8, kt_8, kl_8, nl_8, ql_8, ml_8, ol_8, al_8, mml_8)
theorem dc_129 : ∀ q ∈ lst_129, decode mt_129.2.1 q.1 = .ok (q.2.1, q.2.2) := by decide +kernel
theorem oI_129 : ra_okI pT mt_129.1.cls "BathWater$Scene" vwCl pNW pMT mt_129.2.1 I_129 := ⟨dc_129, lnk_8⟩
set_option maxRecDepth 100000 in
theorem oM_129 : pMT[129]? = some mt_129 := rfl
def lst_130 : List (Nat × Instr × Nat) := [(0, .iconst 0, 1), (1, .istore_n 2, 1), (2, .iload_n 2, 1), (3, .aload_n 0, 1), (4, .getfield 12, 3), (7, .getfield 98, 3), (10, .if_icmp .ge 21, 3), (13, .aload_n 0, 1), (14, .getfield 25, 3), (17, .iload_n 2, 1), (18, .iaload, 1), (19, .iload_n 1, 1), (20, .if_icmp .lt 5, 3), (23, .iload_n 2, 1), (24, .ireturn, 1), (25, .iinc 2 1, 3), (28, .goto (-26), 3), (31, .iconst (-1), 1), (32, .ireturn, 1)]
def I_130 : ra_I := (lst_130, fl_1, kt_1, kl_1, nl_1, ql_1, ml_1, ol_1, al_1, mml_1)
theorem dc_130 : ∀ q ∈ lst_130, decode mt_130.2.1 q.1 = .ok (q.2.1, q.2.2) := by decide +kernel
theorem oI_130 : ra_okI pT mt_130.1.cls "BathWater$Scene" vwCl pNW pMT mt_130.2.1 I_130 := ⟨dc_130, lnk_1⟩
set_option maxRecDepth 100000 in
theorem oM_130 : pMT[130]? = some mt_130 := rfl
def lst_131 : List (Nat × Instr × Nat) := [(0, .aload_n 0, 1), (1, .iload_n 1, 1), (2, .invokevirtual 171, 3), (5, .ifCond .eq 11, 3), (8, .aload_n 0, 1), (9, .iload_n 2, 1), (10, .invokevirtual 144, 3), (13, .ifCond .ne 5, 3), (16, .iconst (-1), 1), (17, .ireturn, 1), (18, .aload_n 0, 1), (19, .invokevirtual 134, 3), (22, .iconst 0, 1), (23, .istore_n 3, 1), (24, .iload_n 3, 1), (25, .bipush 99, 2), (27, .if_icmp .gt 36, 3), (30, .aload_n 0, 1), (31, .getfield 47, 3), (34, .getfield 185, 3), (37, .getfield 158, 3), (40, .iload_n 1, 1), (41, .iload_n 3, 1), (42, .iastore, 1), (43, .aload_n 0, 1), (44, .getfield 47, 3), (47, .iload_n 2, 1), (48, .invokevirtual 261, 3), (51, .iload_n 1, 1), (52, .if_icmp .ne 5, 3), (55, .iload_n 3, 1), (56, .ireturn, 1), (57, .iinc 3 1, 3), (60, .goto (-36), 3), (63, .iconst (-1), 1), (64, .ireturn, 1)]
def I_131 : ra_I := (lst_131, fl_8, kt_8, kl_8, nl_8, ql_8, ml_8, ol_8, al_8, mml_8)
theorem dc_131 : ∀ q ∈ lst_131, decode mt_131.2.1 q.1 = .ok (q.2.1, q.2.2) := by decide +kernel
theorem oI_131 : ra_okI pT mt_131.1.cls "BathWater$Scene" vwCl pNW pMT mt_131.2.1 I_131 := ⟨dc_131, lnk_8⟩
set_option maxRecDepth 100000 in
theorem oM_131 : pMT[131]? = some mt_131 := rfl
def lst_132 : List (Nat × Instr × Nat) := [(0, .iconst (-1), 1), (1, .istore_n 2, 1), (2, .iconst 0, 1), (3, .istore_n 3, 1), (4, .iconst 0, 1), (5, .istore 4, 2), (7, .iload 4, 2), (9, .aload_n 0, 1), (10, .getfield 12, 3), (13, .getfield 98, 3), (16, .if_icmp .ge 43, 3), (19, .aload_n 0, 1), (20, .iload 4, 2), (22, .iload_n 1, 1), (23, .invokevirtual 101, 3), (26, .istore 5, 2), (28, .aload_n 0, 1), (29, .getfield 21, 3), (32, .getfield 74, 3), (35, .iload 4, 2), (37, .iaload, 1), (38, .ifCond .lt 15, 3), (41, .iload 5, 2), (43, .iload_n 3, 1), (44, .if_icmp .le 9, 3), (47, .iload 5, 2), (49, .istore_n 3, 1), (50, .iload 4, 2), (52, .istore_n 2, 1), (53, .iinc 4 1, 3), (56, .goto (-49), 3), (59, .iload_n 2, 1), (60, .ireturn, 1)]
def I_132 : ra_I := (lst_132, fl_1, kt_1, kl_1, nl_1, ql_1, ml_1, ol_1, al_1, mml_1)
theorem dc_132 : ∀ q ∈ lst_132, decode mt_132.2.1 q.1 = .ok (q.2.1, q.2.2) := by decide +kernel
theorem oI_132 : ra_okI pT mt_132.1.cls "BathWater$Scene" vwCl pNW pMT mt_132.2.1 I_132 := ⟨dc_132, lnk_1⟩
set_option maxRecDepth 100000 in
theorem oM_132 : pMT[132]? = some mt_132 := rfl
def lst_133 : List (Nat × Instr × Nat) := [(0, .aload_n 0, 1), (1, .iconst 0, 1), (2, .putfield 105, 3), (5, .aload_n 0, 1), (6, .iload_n 1, 1), (7, .iload_n 2, 1), (8, .invokevirtual 220, 3), (11, .ifCond .eq 29, 3), (14, .aload_n 0, 1), (15, .iload_n 1, 1), (16, .invokevirtual 171, 3), (19, .ifCond .eq 21, 3), (22, .aload_n 0, 1), (23, .iload_n 2, 1), (24, .invokevirtual 171, 3), (27, .ifCond .eq 13, 3), (30, .iload_n 3, 1), (31, .iconst 1, 1), (32, .bipush 10, 2), (34, .invokestatic 126, 3), (37, .ifCond .ne 5, 3), (40, .iconst (-1), 1), (41, .ireturn, 1), (42, .aload_n 0, 1), (43, .iload_n 1, 1), (44, .iload_n 2, 1), (45, .iload_n 3, 1), (46, .invokevirtual 264, 3), (49, .iconst 0, 1), (50, .istore 4, 2), (52, .iconst 0, 1), (53, .istore 5, 2), (55, .iload 5, 2), (57, .bipush 36, 2), (59, .if_icmp .ge 40, 3), (62, .aload_n 0, 1), (63, .iload 5, 2), (65, .invokevirtual 268, 3), (68, .ifCond .eq 25, 3), (71, .iload 4, 2), (73, .ifCond .ne 17, 3), (76, .aload_n 0, 1), (77, .iload 5, 2), (79, .bipush 6, 2), (81, .idiv, 1), (82, .iload 5, 2), (84, .bipush 6, 2), (86, .irem, 1), (87, .invokevirtual 271, 3), (90, .iinc 4 1, 3), (93, .iinc 5 1, 3), (96, .goto (-41), 3), (99, .iload 4, 2), (101, .ireturn, 1)]
def I_133 : ra_I := (lst_133, fl_8, kt_8, kl_8, nl_8, ql_8, ml_8, ol_8, al_8, mml_8)
theorem dc_133 : ∀ q ∈ lst_133, decode mt_133.2.1 q.1 = .ok (q.2.1, q.2.2) := by decide +kernel
theorem oI_133 : ra_okI pT mt_133.1.cls "BathWater$Scene" vwCl pNW pMT mt_133.2.1 I_133 := ⟨dc_133, lnk_8⟩
set_option maxRecDepth 100000 in
theorem oM_133 : pMT[133]? = some mt_133 := rfl
def lst_134 : List (Nat × Instr × Nat) := [(0, .iconst 0, 1), (1, .istore 4, 2), (3, .iload 4, 2), (5, .bipush 36, 2), (7, .if_icmp .ge 167, 3), (10, .aload_n 0, 1), (11, .getfield 33, 3), (14, .getfield 158, 3), (17, .iload_n 1, 1), (18, .iaload, 1), (19, .iload 4, 2), (21, .bipush 6, 2), (23, .idiv, 1), (24, .iadd, 1), (25, .istore 5, 2), (27, .aload_n 0, 1), (28, .getfield 33, 3), (31, .getfield 158, 3), (34, .iload_n 2, 1), (35, .iaload, 1), (36, .iload 4, 2), (38, .bipush 6, 2), (40, .irem, 1), (41, .iadd, 1), (42, .istore 6, 2), (44, .aload_n 0, 1), (45, .getfield 61, 3), (48, .iload 4, 2), (50, .iconst (-1), 1), (51, .iastore, 1), (52, .aload_n 0, 1), (53, .getfield 64, 3), (56, .iload 4, 2), (58, .iconst (-1), 1), (59, .iastore, 1), (60, .iload 5, 2), (62, .bipush 99, 2), (64, .if_icmp .gt 104, 3), (67, .iload 6, 2), (69, .bipush 99, 2), (71, .if_icmp .gt 97, 3), (74, .aload_n 0, 1), (75, .invokevirtual 134, 3), (78, .aload_n 0, 1), (79, .getfield 47, 3), (82, .getfield 185, 3), (85, .getfield 158, 3), (88, .iload_n 1, 1), (89, .iload 5, 2), (91, .iastore, 1), (92, .aload_n 0, 1), (93, .getfield 47, 3), (96, .getfield 185, 3), (99, .getfield 158, 3), (102, .iload_n 2, 1), (103, .iload 6, 2), (105, .iastore, 1), (106, .aload_n 0, 1), (107, .getfield 47, 3), (110, .iload_n 3, 1), (111, .invokevirtual 204, 3), (114, .aload_n 0, 1), (115, .getfield 61, 3), (118, .iload 4, 2), (120, .aload_n 0, 1), (121, .getfield 47, 3), (124, .getfield 185, 3), (127, .getfield 147, 3), (130, .aload_n 0, 1), (131, .getfield 33, 3), (134, .getfield 124, 3), (137, .iload_n 1, 1), (138, .iaload, 1), (139, .iaload, 1), (140, .iastore, 1), (141, .aload_n 0, 1), (142, .getfield 64, 3), (145, .iload 4, 2), (147, .aload_n 0, 1), (148, .getfield 47, 3), (151, .getfield 185, 3), (154, .getfield 147, 3), (157, .aload_n 0, 1), (158, .getfield 33, 3), (161, .getfield 124, 3), (164, .iload_n 2, 1), (165, .iaload, 1), (166, .iaload, 1), (167, .iastore, 1), (168, .iinc 4 1, 3), (171, .goto (-168), 3), (174, .return_, 1)]
def I_134 : ra_I := (lst_134, fl_8, kt_8, kl_8, nl_8, ql_8, ml_8, ol_8, al_8, mml_8)
theorem dc_134 : ∀ q ∈ lst_134, decode mt_134.2.1 q.1 = .ok (q.2.1, q.2.2) := by decide +kernel
theorem oI_134 : ra_okI pT mt_134.1.cls "BathWater$Scene" vwCl pNW pMT mt_134.2.1 I_134 := ⟨dc_134, lnk_8⟩
set_option maxRecDepth 100000 in
theorem oM_134 : pMT[134]? = some mt_134 := rfl
def lst_135 : List (Nat × Instr × Nat) := [(0, .iload_n 1, 1), (1, .bipush 6, 2), (3, .idiv, 1), (4, .istore_n 2, 1), (5, .iload_n 1, 1), (6, .bipush 6, 2), (8, .irem, 1), (9, .istore_n 3, 1), (10, .aload_n 0, 1), (11, .getfield 61, 3), (14, .iload_n 1, 1), (15, .iaload, 1), (16, .iconst (-1), 1), (17, .if_icmp .ne 5, 3), (20, .iconst 0, 1), (21, .ireturn, 1), (22, .iconst 0, 1), (23, .istore 4, 2), (25, .iload 4, 2), (27, .bipush 6, 2), (29, .if_icmp .ge 73, 3), (32, .aload_n 0, 1), (33, .getfield 61, 3), (36, .iload 4, 2), (38, .bipush 6, 2), (40, .imul, 1), (41, .iload_n 3, 1), (42, .iadd, 1), (43, .iaload, 1), (44, .istore 5, 2), (46, .aload_n 0, 1), (47, .getfield 64, 3), (50, .iload_n 2, 1), (51, .bipush 6, 2), (53, .imul, 1), (54, .iload 4, 2), (56, .iadd, 1), (57, .iaload, 1), (58, .istore 6, 2), (60, .iload 5, 2), (62, .iload 4, 2), (64, .aload_n 0, 1), (65, .getfield 61, 3), (68, .iload_n 1, 1), (69, .iaload, 1), (70, .iload_n 2, 1), (71, .invokestatic 274, 3), (74, .ifCond .ne 20, 3), (77, .iload 6, 2), (79, .iload 4, 2), (81, .aload_n 0, 1), (82, .getfield 64, 3), (85, .iload_n 1, 1), (86, .iaload, 1), (87, .iload_n 3, 1), (88, .invokestatic 274, 3), (91, .ifCond .eq 5, 3), (94, .iconst 0, 1), (95, .ireturn, 1), (96, .iinc 4 1, 3), (99, .goto (-74), 3), (102, .iconst 1, 1), (103, .ireturn, 1)]
def I_135 : ra_I := (lst_135, fl_8, kt_8, kl_8, nl_8, ql_8, ml_8, ol_8, al_8, mml_8)
theorem dc_135 : ∀ q ∈ lst_135, decode mt_135.2.1 q.1 = .ok (q.2.1, q.2.2) := by decide +kernel
theorem oI_135 : ra_okI pT mt_135.1.cls "BathWater$Scene" vwCl pNW pMT mt_135.2.1 I_135 := ⟨dc_135, lnk_8⟩
set_option maxRecDepth 100000 in
theorem oM_135 : pMT[135]? = some mt_135 := rfl
def lst_136 : List (Nat × Instr × Nat) := [(0, .iload_n 0, 1), (1, .iload_n 2, 1), (2, .if_icmp .gt 13, 3), (5, .iload_n 0, 1), (6, .iload_n 2, 1), (7, .if_icmp .ne 12, 3), (10, .iload_n 1, 1), (11, .iload_n 3, 1), (12, .if_icmp .ge 7, 3), (15, .iconst 1, 1), (16, .goto 4, 3), (19, .iconst 0, 1), (20, .ireturn, 1)]
def I_136 : ra_I := (lst_136, fl_8, kt_8, kl_8, nl_8, ql_8, ml_8, ol_8, al_8, mml_8)
theorem dc_136 : ∀ q ∈ lst_136, decode mt_136.2.1 q.1 = .ok (q.2.1, q.2.2) := by decide +kernel
theorem oI_136 : ra_okI pT mt_136.1.cls "BathWater$Scene" vwCl pNW pMT mt_136.2.1 I_136 := ⟨dc_136, lnk_8⟩
set_option maxRecDepth 100000 in
theorem oM_136 : pMT[136]? = some mt_136 := rfl
