def lst_56 : List (Nat × Instr × Nat) := [(0, .iload_n 1, 1), (1, .tableswitch 117 0 9 #[55, 117, 68, 117, 83, 117, 117, 100, 100, 100], 55), (56, .aload_n 0, 1), (57, .getfield 46, 3), (60, .ifCond .ne 7, 3), (63, .iconst 1, 1), (64, .goto 4, 3), (67, .iconst 0, 1), (68, .ireturn, 1), (69, .aload_n 0, 1), (70, .getfield 49, 3), (73, .bipush 12, 2), (75, .if_icmp .ge 7, 3), (78, .iconst 1, 1), (79, .goto 4, 3), (82, .iconst 0, 1), (83, .ireturn, 1), (84, .aload_n 0, 1), (85, .getfield 25, 3), (88, .getfield 128, 3), (91, .iconst 5, 1), (92, .if_icmp .ge 7, 3), (95, .iconst 1, 1), (96, .goto 4, 3), (99, .iconst 0, 1), (100, .ireturn, 1), (101, .aload_n 0, 1), (102, .getfield 46, 3), (105, .iload_n 1, 1), (106, .ishr, 1), (107, .iconst 1, 1), (108, .iand, 1), (109, .ifCond .ne 7, 3), (112, .iconst 1, 1), (113, .goto 4, 3), (116, .iconst 0, 1), (117, .ireturn, 1), (118, .iconst 0, 1), (119, .ireturn, 1)]
def I_56 : ra_I := (lst_56, fl_5, kt_5, kl_5, nl_5, ql_5, ml_5, ol_5, al_5, mml_5)
theorem dc_56 : ∀ q ∈ lst_56, decode mt_56.2.1 q.1 = .ok (q.2.1, q.2.2) := by decide +kernel
theorem oI_56 : ra_okI pT mt_56.1.cls "BathWater$Scene" vwCl pNW pMT mt_56.2.1 I_56 := ⟨dc_56, lnk_5⟩
set_option maxRecDepth 100000 in
theorem oM_56 : pMT[56]? = some mt_56 := rfl
def lst_57 : List (Nat × Instr × Nat) := [(0, .aload_n 0, 1), (1, .getfield 52, 3), (4, .ifCond .ne 48, 3), (7, .aload_n 0, 1), (8, .aload_n 0, 1), (9, .getfield 61, 3), (12, .bipush 30, 2), (14, .if_icmp .ne 7, 3), (17, .iconst 1, 1), (18, .goto 4, 3), (21, .iload_n 1, 1), (22, .putfield 52, 3), (25, .aload_n 0, 1), (26, .aload_n 0, 1), (27, .getfield 55, 3), (30, .ifCond .ge 7, 3), (33, .iconst 0, 1), (34, .goto 15, 3), (37, .aload_n 0, 1), (38, .getfield 12, 3), (41, .getfield 80, 3), (44, .aload_n 0, 1), (45, .getfield 55, 3), (48, .iaload, 1), (49, .putfield 29, 3), (52, .return_, 1)]
def I_57 : ra_I := (lst_57, fl_5, kt_5, kl_5, nl_5, ql_5, ml_5, ol_5, al_5, mml_5)
theorem dc_57 : ∀ q ∈ lst_57, decode mt_57.2.1 q.1 = .ok (q.2.1, q.2.2) := by decide +kernel
theorem oI_57 : ra_okI pT mt_57.1.cls "BathWater$Scene" vwCl pNW pMT mt_57.2.1 I_57 := ⟨dc_57, lnk_5⟩
set_option maxRecDepth 100000 in
theorem oM_57 : pMT[57]? = some mt_57 := rfl
def lst_58 : List (Nat × Instr × Nat) := [(0, .aload_n 0, 1), (1, .getfield 77, 3), (4, .istore_n 3, 1), (5, .aload_n 0, 1), (6, .getfield 61, 3), (9, .bipush 27, 2), (11, .if_icmp .eq 11, 3), (14, .aload_n 0, 1), (15, .iconst 2, 1), (16, .invokevirtual 83, 3), (19, .goto 25, 3), (22, .iload_n 3, 1), (23, .iload_n 1, 1), (24, .if_icmp .lt 8, 3), (27, .iload_n 3, 1), (28, .iload_n 2, 1), (29, .if_icmp .le 11, 3), (32, .aload_n 0, 1), (33, .iconst 4, 1), (34, .invokevirtual 83, 3), (37, .goto 7, 3), (40, .aload_n 0, 1), (41, .invokevirtual 58, 3), (44, .aload_n 0, 1), (45, .getfield 52, 3), (48, .ifCond .ne 7, 3), (51, .iload_n 3, 1), (52, .goto 4, 3), (55, .iload_n 1, 1), (56, .ireturn, 1)]
def I_58 : ra_I := (lst_58, fl_5, kt_5, kl_5, nl_5, ql_5, ml_5, ol_5, al_5, mml_5)
theorem dc_58 : ∀ q ∈ lst_58, decode mt_58.2.1 q.1 = .ok (q.2.1, q.2.2) := by decide +kernel
theorem oI_58 : ra_okI pT mt_58.1.cls "BathWater$Scene" vwCl pNW pMT mt_58.2.1 I_58 := ⟨dc_58, lnk_5⟩
set_option maxRecDepth 100000 in
theorem oM_58 : pMT[58]? = some mt_58 := rfl
def lst_59 : List (Nat × Instr × Nat) := [(0, .aload_n 0, 1), (1, .getfield 61, 3), (4, .iload_n 1, 1), (5, .if_icmp .eq 6, 3), (8, .iload 4, 2), (10, .ireturn, 1), (11, .aload_n 0, 1), (12, .invokevirtual 58, 3), (15, .aload_n 0, 1), (16, .iload_n 2, 1), (17, .iload_n 3, 1), (18, .invokevirtual 87, 3), (21, .ireturn, 1)]
def I_59 : ra_I := (lst_59, fl_5, kt_5, kl_5, nl_5, ql_5, ml_5, ol_5, al_5, mml_5)
theorem dc_59 : ∀ q ∈ lst_59, decode mt_59.2.1 q.1 = .ok (q.2.1, q.2.2) := by decide +kernel
theorem oI_59 : ra_okI pT mt_59.1.cls "BathWater$Scene" vwCl pNW pMT mt_59.2.1 I_59 := ⟨dc_59, lnk_5⟩
set_option maxRecDepth 100000 in
theorem oM_59 : pMT[59]? = some mt_59 := rfl
def lst_60 : List (Nat × Instr × Nat) := [(0, .aload_n 0, 1), (1, .iconst 0, 1), (2, .bipush 99, 2), (4, .invokevirtual 87, 3), (7, .istore_n 1, 1), (8, .aload_n 0, 1), (9, .iconst 3, 1), (10, .invokevirtual 125, 3), (13, .aload_n 0, 1), (14, .getfield 61, 3), (17, .bipush 27, 2), (19, .if_icmp .ne 39, 3), (22, .aload_n 0, 1), (23, .getfield 77, 3), (26, .aload_n 0, 1), (27, .getfield 25, 3), (30, .getfield 94, 3), (33, .if_icmp .ge 25, 3), (36, .aload_n 0, 1), (37, .getfield 25, 3), (40, .getfield 131, 3), (43, .aload_n 0, 1), (44, .getfield 77, 3), (47, .ishr, 1), (48, .iconst 1, 1), (49, .iand, 1), (50, .ifCond .eq 8, 3), (53, .aload_n 0, 1), (54, .iconst 3, 1), (55, .invokevirtual 83, 3), (58, .aload_n 0, 1), (59, .iconst 0, 1), (60, .aload_n 0, 1), (61, .getfield 25, 3), (64, .getfield 94, 3), (67, .iconst 1, 1), (68, .isub, 1), (69, .invokevirtual 87, 3), (72, .istore_n 2, 1), (73, .aload_n 0, 1), (74, .getfield 25, 3), (77, .getfield 116, 3), (80, .getfield 134, 3), (83, .iload_n 2, 1), (84, .iload_n 1, 1), (85, .iastore, 1), (86, .aload_n 0, 1), (87, .getfield 25, 3), (90, .dup, 1), (91, .getfield 131, 3), (94, .iconst 1, 1), (95, .iload_n 2, 1), (96, .ishl, 1), (97, .ior, 1), (98, .putfield 131, 3), (101, .aload_n 0, 1), (102, .dup, 1), (103, .getfield 49, 3), (106, .iconst 1, 1), (107, .iadd, 1), (108, .putfield 49, 3), (111, .return_, 1)]
def I_60 : ra_I := (lst_60, fl_5, kt_5, kl_5, nl_5, ql_5, ml_5, ol_5, al_5, mml_5)
theorem dc_60 : ∀ q ∈ lst_60, decode mt_60.2.1 q.1 = .ok (q.2.1, q.2.2) := by decide +kernel
theorem oI_60 : ra_okI pT mt_60.1.cls "BathWater$Scene" vwCl pNW pMT mt_60.2.1 I_60 := ⟨dc_60, lnk_5⟩
set_option maxRecDepth 100000 in
theorem oM_60 : pMT[60]? = some mt_60 := rfl
def lst_61 : List (Nat × Instr × Nat) := [(0, .aload_n 0, 1), (1, .getfield 61, 3), (4, .iload_n 1, 1), (5, .if_icmp .ne 10, 3), (8, .aload_n 0, 1), (9, .invokevirtual 58, 3), (12, .goto 8, 3), (15, .aload_n 0, 1), (16, .iconst 2, 1), (17, .invokevirtual 83, 3), (20, .return_, 1)]
def I_61 : ra_I := (lst_61, fl_5, kt_5, kl_5, nl_5, ql_5, ml_5, ol_5, al_5, mml_5)
theorem dc_61 : ∀ q ∈ lst_61, decode mt_61.2.1 q.1 = .ok (q.2.1, q.2.2) := by decide +kernel
theorem oI_61 : ra_okI pT mt_61.1.cls "BathWater$Scene" vwCl pNW pMT mt_61.2.1 I_61 := ⟨dc_61, lnk_5⟩
set_option maxRecDepth 100000 in
theorem oM_61 : pMT[61]? = some mt_61 := rfl
def lst_62 : List (Nat × Instr × Nat) := [(0, .aload_n 0, 1), (1, .getfield 25, 3), (4, .getfield 128, 3), (7, .istore_n 1, 1), (8, .aload_n 0, 1), (9, .iload_n 1, 1), (10, .invokevirtual 137, 3), (13, .aload_n 0, 1), (14, .iconst 5, 1), (15, .invokevirtual 125, 3), (18, .aload_n 0, 1), (19, .getfield 25, 3), (22, .getfield 116, 3), (25, .getfield 140, 3), (28, .iload_n 1, 1), (29, .aload_n 0, 1), (30, .iconst 0, 1), (31, .bipush 99, 2), (33, .invokevirtual 87, 3), (36, .iastore, 1), (37, .aload_n 0, 1), (38, .getfield 25, 3), (41, .getfield 143, 3), (44, .iload_n 1, 1), (45, .aload_n 0, 1), (46, .bipush 6, 2), (48, .iconst 0, 1), (49, .bipush 99, 2), (51, .iconst 1, 1), (52, .invokevirtual 100, 3), (55, .iastore, 1), (56, .aload_n 0, 1), (57, .getfield 25, 3), (60, .getfield 116, 3), (63, .getfield 146, 3), (66, .iload_n 1, 1), (67, .aload_n 0, 1), (68, .iconst 3, 1), (69, .iconst 0, 1), (70, .aload_n 0, 1), (71, .getfield 25, 3), (74, .getfield 94, 3), (77, .iconst 1, 1), (78, .isub, 1), (79, .iconst (-1), 1), (80, .invokevirtual 100, 3), (83, .iastore, 1), (84, .aload_n 0, 1), (85, .getfield 25, 3), (88, .dup, 1), (89, .getfield 128, 3), (92, .iconst 1, 1), (93, .iadd, 1), (94, .putfield 128, 3), (97, .return_, 1)]
def I_62 : ra_I := (lst_62, fl_5, kt_5, kl_5, nl_5, ql_5, ml_5, ol_5, al_5, mml_5)
theorem dc_62 : ∀ q ∈ lst_62, decode mt_62.2.1 q.1 = .ok (q.2.1, q.2.2) := by decide +kernel
theorem oI_62 : ra_okI pT mt_62.1.cls "BathWater$Scene" vwCl pNW pMT mt_62.2.1 I_62 := ⟨dc_62, lnk_5⟩
set_option maxRecDepth 100000 in
theorem oM_62 : pMT[62]? = some mt_62 := rfl
def lst_63 : List (Nat × Instr × Nat) := [(0, .aload_n 0, 1), (1, .getfield 18, 3), (4, .iload_n 1, 1), (5, .aload_n 0, 1), (6, .getfield 12, 3), (9, .getfield 74, 3), (12, .aload_n 0, 1), (13, .getfield 55, 3), (16, .laload, 1), (17, .lastore, 1), (18, .iconst 0, 1), (19, .istore_n 2, 1), (20, .iload_n 2, 1), (21, .iload_n 1, 1), (22, .if_icmp .ge 39, 3), (25, .aload_n 0, 1), (26, .getfield 61, 3), (29, .bipush 28, 2), (31, .if_icmp .ne 30, 3), (34, .aload_n 0, 1), (35, .getfield 18, 3), (38, .iload_n 2, 1), (39, .laload, 1), (40, .aload_n 0, 1), (41, .getfield 18, 3), (44, .iload_n 1, 1), (45, .laload, 1), (46, .lcmp, 1), (47, .ifCond .ne 8, 3), (50, .aload_n 0, 1), (51, .iconst 3, 1), (52, .invokevirtual 83, 3), (55, .iinc 2 1, 3), (58, .goto (-38), 3), (61, .aload_n 0, 1), (62, .bipush 28, 2), (64, .invokevirtual 125, 3), (67, .return_, 1)]
def I_63 : ra_I := (lst_63, fl_5, kt_5, kl_5, nl_5, ql_5, ml_5, ol_5, al_5, mml_5)
theorem dc_63 : ∀ q ∈ lst_63, decode mt_63.2.1 q.1 = .ok (q.2.1, q.2.2) := by decide +kernel
theorem oI_63 : ra_okI pT mt_63.1.cls "BathWater$Scene" vwCl pNW pMT mt_63.2.1 I_63 := ⟨dc_63, lnk_5⟩
set_option maxRecDepth 100000 in
theorem oM_63 : pMT[63]? = some mt_63 := rfl
def lst_64 : List (Nat × Instr × Nat) := [(0, .aload_n 0, 1), (1, .iload_n 1, 1), (2, .invokevirtual 148, 3), (5, .iconst 0, 1), (6, .istore_n 2, 1), (7, .iload_n 2, 1), (8, .sipush 1600, 3), (11, .if_icmp .ge 47, 3), (14, .aload_n 0, 1), (15, .getfield 61, 3), (18, .bipush 10, 2), (20, .if_icmp .ne 38, 3), (23, .aload_n 0, 1), (24, .getfield 52, 3), (27, .ifCond .ne 31, 3), (30, .aload_n 0, 1), (31, .invokevirtual 58, 3), (34, .aload_n 0, 1), (35, .iload_n 1, 1), (36, .invokevirtual 148, 3), (39, .aload_n 0, 1), (40, .getfield 25, 3), (43, .getfield 151, 3), (46, .bipush 10, 2), (48, .iconst 0, 1), (49, .invokevirtual 155, 3), (52, .iinc 2 1, 3), (55, .goto (-48), 3), (58, .return_, 1)]
def I_64 : ra_I := (lst_64, fl_5, kt_5, kl_5, nl_5, ql_5, ml_5, ol_5, al_5, mml_5)
theorem dc_64 : ∀ q ∈ lst_64, decode mt_64.2.1 q.1 = .ok (q.2.1, q.2.2) := by decide +kernel
theorem oI_64 : ra_okI pT mt_64.1.cls "BathWater$Scene" vwCl pNW pMT mt_64.2.1 I_64 := ⟨dc_64, lnk_5⟩
set_option maxRecDepth 100000 in
theorem oM_64 : pMT[64]? = some mt_64 := rfl
def lst_65 : List (Nat × Instr × Nat) := [(0, .aload_n 0, 1), (1, .iload_n 1, 1), (2, .invokevirtual 161, 3), (5, .iconst 0, 1), (6, .istore_n 2, 1), (7, .iload_n 2, 1), (8, .sipush 1600, 3), (11, .if_icmp .ge 47, 3), (14, .aload_n 0, 1), (15, .getfield 61, 3), (18, .bipush 11, 2), (20, .if_icmp .ne 38, 3), (23, .aload_n 0, 1), (24, .getfield 52, 3), (27, .ifCond .ne 31, 3), (30, .aload_n 0, 1), (31, .invokevirtual 58, 3), (34, .aload_n 0, 1), (35, .iload_n 1, 1), (36, .invokevirtual 161, 3), (39, .aload_n 0, 1), (40, .getfield 25, 3), (43, .getfield 151, 3), (46, .bipush 11, 2), (48, .iconst 0, 1), (49, .invokevirtual 155, 3), (52, .iinc 2 1, 3), (55, .goto (-48), 3), (58, .return_, 1)]
def I_65 : ra_I := (lst_65, fl_5, kt_5, kl_5, nl_5, ql_5, ml_5, ol_5, al_5, mml_5)
theorem dc_65 : ∀ q ∈ lst_65, decode mt_65.2.1 q.1 = .ok (q.2.1, q.2.2) := by decide +kernel
theorem oI_65 : ra_okI pT mt_65.1.cls "BathWater$Scene" vwCl pNW pMT mt_65.2.1 I_65 := ⟨dc_65, lnk_5⟩
set_option maxRecDepth 100000 in
theorem oM_65 : pMT[65]? = some mt_65 := rfl
def lst_66 : List (Nat × Instr × Nat) := [(0, .aload_n 0, 1), (1, .getfield 61, 3), (4, .bipush 12, 2), (6, .if_icmp .ne 40, 3), (9, .iload_n 1, 1), (10, .bipush 7, 2), (12, .if_icmp .lt 9, 3), (15, .aload_n 0, 1), (16, .iconst 2, 1), (17, .invokevirtual 83, 3), (20, .return_, 1), (21, .aload_n 0, 1), (22, .invokevirtual 58, 3), (25, .aload_n 0, 1), (26, .iload_n 1, 1), (27, .iconst 1, 1), (28, .iadd, 1), (29, .invokevirtual 161, 3), (32, .aload_n 0, 1), (33, .getfield 25, 3), (36, .getfield 151, 3), (39, .bipush 12, 2), (41, .iconst 0, 1), (42, .invokevirtual 155, 3), (45, .return_, 1), (46, .aload_n 0, 1), (47, .iload_n 1, 1), (48, .invokevirtual 164, 3), (51, .aload_n 0, 1), (52, .getfield 61, 3), (55, .istore_n 2, 1), (56, .iload_n 2, 1), (57, .bipush 19, 2), (59, .if_icmp .eq 15, 3), (62, .iload_n 2, 1), (63, .bipush 20, 2), (65, .if_icmp .eq 9, 3), (68, .iload_n 2, 1), (69, .bipush 21, 2), (71, .if_icmp .ne 24, 3), (74, .aload_n 0, 1), (75, .invokevirtual 58, 3), (78, .aload_n 0, 1), (79, .iload_n 1, 1), (80, .invokevirtual 164, 3), (83, .aload_n 0, 1), (84, .getfield 25, 3), (87, .getfield 151, 3), (90, .iload_n 2, 1), (91, .iconst 0, 1), (92, .invokevirtual 155, 3), (95, .return_, 1)]
def I_66 : ra_I := (lst_66, fl_5, kt_5, kl_5, nl_5, ql_5, ml_5, ol_5, al_5, mml_5)
theorem dc_66 : ∀ q ∈ lst_66, decode mt_66.2.1 q.1 = .ok (q.2.1, q.2.2) := by decide +kernel
theorem oI_66 : ra_okI pT mt_66.1.cls "BathWater$Scene" vwCl pNW pMT mt_66.2.1 I_66 := ⟨dc_66, lnk_5⟩
set_option maxRecDepth 100000 in
theorem oM_66 : pMT[66]? = some mt_66 := rfl
def lst_67 : List (Nat × Instr × Nat) := [(0, .aload_n 0, 1), (1, .getfield 21, 3), (4, .sipush 320, 3), (7, .if_icmp .ge 33, 3), (10, .aload_n 0, 1), (11, .getfield 9, 3), (14, .aload_n 0, 1), (15, .getfield 21, 3), (18, .iload_n 1, 1), (19, .iastore, 1), (20, .aload_n 0, 1), (21, .getfield 15, 3), (24, .aload_n 0, 1), (25, .getfield 21, 3), (28, .iload_n 2, 1), (29, .iastore, 1), (30, .aload_n 0, 1), (31, .dup, 1), (32, .getfield 21, 3), (35, .iconst 1, 1), (36, .iadd, 1), (37, .putfield 21, 3), (40, .aload_n 0, 1), (41, .aload_n 0, 1), (42, .getfield 28, 3), (45, .ifCond .ne 15, 3), (48, .iload_n 1, 1), (49, .bipush 14, 2), (51, .if_icmp .eq 9, 3), (54, .iload_n 1, 1), (55, .bipush 15, 2), (57, .if_icmp .ne 7, 3), (60, .iconst 1, 1), (61, .goto 4, 3), (64, .iconst 0, 1), (65, .putfield 28, 3), (68, .return_, 1)]
def I_67 : ra_I := (lst_67, fl_3, kt_3, kl_3, nl_3, ql_3, ml_3, ol_3, al_3, mml_3)
theorem dc_67 : ∀ q ∈ lst_67, decode mt_67.2.1 q.1 = .ok (q.2.1, q.2.2) := by decide +kernel
theorem oI_67 : ra_okI pT mt_67.1.cls "BathWater$Scene" vwCl pNW pMT mt_67.2.1 I_67 := ⟨dc_67, lnk_3⟩
set_option maxRecDepth 100000 in
theorem oM_67 : pMT[67]? = some mt_67 := rfl
def lst_68 : List (Nat × Instr × Nat) := [(0, .aload_n 0, 1), (1, .iload_n 1, 1), (2, .invokevirtual 167, 3), (5, .iconst 0, 1), (6, .istore_n 2, 1), (7, .iload_n 2, 1), (8, .sipush 1600, 3), (11, .if_icmp .ge 60, 3), (14, .aload_n 0, 1), (15, .getfield 61, 3), (18, .bipush 22, 2), (20, .if_icmp .eq 12, 3), (23, .aload_n 0, 1), (24, .getfield 61, 3), (27, .bipush 23, 2), (29, .if_icmp .ne 42, 3), (32, .aload_n 0, 1), (33, .getfield 52, 3), (36, .ifCond .ne 35, 3), (39, .aload_n 0, 1), (40, .getfield 61, 3), (43, .istore_n 3, 1), (44, .aload_n 0, 1), (45, .invokevirtual 58, 3), (48, .aload_n 0, 1), (49, .iload_n 1, 1), (50, .invokevirtual 167, 3), (53, .aload_n 0, 1), (54, .getfield 25, 3), (57, .getfield 151, 3), (60, .iload_n 3, 1), (61, .iconst 0, 1), (62, .invokevirtual 155, 3), (65, .iinc 2 1, 3), (68, .goto (-61), 3), (71, .return_, 1)]
def I_68 : ra_I := (lst_68, fl_5, kt_5, kl_5, nl_5, ql_5, ml_5, ol_5, al_5, mml_5)
theorem dc_68 : ∀ q ∈ lst_68, decode mt_68.2.1 q.1 = .ok (q.2.1, q.2.2) := by decide +kernel
theorem oI_68 : ra_okI pT mt_68.1.cls "BathWater$Scene" vwCl pNW pMT mt_68.2.1 I_68 := ⟨dc_68, lnk_5⟩
set_option maxRecDepth 100000 in
theorem oM_68 : pMT[68]? = some mt_68 := rfl
def lst_69 : List (Nat × Instr × Nat) := [(0, .aload_n 0, 1), (1, .iload_n 1, 1), (2, .invokevirtual 170, 3), (5, .iconst 0, 1), (6, .istore_n 2, 1), (7, .iload_n 2, 1), (8, .sipush 1600, 3), (11, .if_icmp .ge 60, 3), (14, .aload_n 0, 1), (15, .getfield 61, 3), (18, .bipush 24, 2), (20, .if_icmp .lt 51, 3), (23, .aload_n 0, 1), (24, .getfield 61, 3), (27, .bipush 26, 2), (29, .if_icmp .gt 42, 3), (32, .aload_n 0, 1), (33, .getfield 52, 3), (36, .ifCond .ne 35, 3), (39, .aload_n 0, 1), (40, .getfield 61, 3), (43, .istore_n 3, 1), (44, .aload_n 0, 1), (45, .invokevirtual 58, 3), (48, .aload_n 0, 1), (49, .iload_n 1, 1), (50, .invokevirtual 170, 3), (53, .aload_n 0, 1), (54, .getfield 25, 3), (57, .getfield 151, 3), (60, .iload_n 3, 1), (61, .iconst 0, 1), (62, .invokevirtual 155, 3), (65, .iinc 2 1, 3), (68, .goto (-61), 3), (71, .return_, 1)]
def I_69 : ra_I := (lst_69, fl_5, kt_5, kl_5, nl_5, ql_5, ml_5, ol_5, al_5, mml_5)
theorem dc_69 : ∀ q ∈ lst_69, decode mt_69.2.1 q.1 = .ok (q.2.1, q.2.2) := by decide +kernel
theorem oI_69 : ra_okI pT mt_69.1.cls "BathWater$Scene" vwCl pNW pMT mt_69.2.1 I_69 := ⟨dc_69, lnk_5⟩
set_option maxRecDepth 100000 in
theorem oM_69 : pMT[69]? = some mt_69 := rfl
def lst_70 : List (Nat × Instr × Nat) := [(0, .aload_n 0, 1), (1, .getfield 25, 3), (4, .getfield 151, 3), (7, .getfield 173, 3), (10, .bipush 30, 2), (12, .if_icmp .lt 7, 3), (15, .iconst 1, 1), (16, .goto 4, 3), (19, .iconst 0, 1), (20, .istore_n 2, 1), (21, .aload_n 0, 1), (22, .getfield 61, 3), (25, .bipush 17, 2), (27, .if_icmp .ne 13, 3), (30, .iload_n 1, 1), (31, .bipush 7, 2), (33, .if_icmp .lt 7, 3), (36, .iconst 1, 1), (37, .goto 4, 3), (40, .iconst 0, 1), (41, .istore_n 3, 1), (42, .aload_n 0, 1), (43, .invokevirtual 176, 3), (46, .ifCond .eq 11, 3), (49, .iload_n 2, 1), (50, .ifCond .ne 7, 3), (53, .iload_n 3, 1), (54, .ifCond .eq 9, 3), (57, .aload_n 0, 1), (58, .iconst 2, 1), (59, .invokevirtual 83, 3), (62, .return_, 1), (63, .aload_n 0, 1), (64, .getfield 25, 3), (67, .getfield 151, 3), (70, .dup, 1), (71, .getfield 173, 3), (74, .iconst 1, 1), (75, .iadd, 1), (76, .putfield 173, 3), (79, .aload_n 0, 1), (80, .getfield 61, 3), (83, .bipush 17, 2), (85, .if_icmp .ne 23, 3), (88, .aload_n 0, 1), (89, .invokevirtual 58, 3), (92, .aload_n 0, 1), (93, .iload_n 1, 1), (94, .iconst 1, 1), (95, .iadd, 1), (96, .invokevirtual 110, 3), (99, .aload_n 0, 1), (100, .bipush 18, 2), (102, .invokevirtual 125, 3), (105, .goto 25, 3), (108, .aload_n 0, 1), (109, .getfield 25, 3), (112, .getfield 151, 3), (115, .aload_n 0, 1), (116, .getfield 61, 3), (119, .aload_n 0, 1), (120, .getfield 77, 3), (123, .invokevirtual 155, 3), (126, .aload_n 0, 1), (127, .invokevirtual 58, 3), (130, .return_, 1)]
def I_70 : ra_I := (lst_70, fl_5, kt_5, kl_5, nl_5, ql_5, ml_5, ol_5, al_5, mml_5)
theorem dc_70 : ∀ q ∈ lst_70, decode mt_70.2.1 q.1 = .ok (q.2.1, q.2.2) := by decide +kernel
theorem oI_70 : ra_okI pT mt_70.1.cls "BathWater$Scene" vwCl pNW pMT mt_70.2.1 I_70 := ⟨dc_70, lnk_5⟩
set_option maxRecDepth 100000 in
theorem oM_70 : pMT[70]? = some mt_70 := rfl
def lst_71 : List (Nat × Instr × Nat) := [(0, .aload_n 0, 1), (1, .getfield 61, 3), (4, .tableswitch 122 2 27 #[120, 122, 122, 120, 120, 122, 122, 122, 122, 122, 122, 120, 120, 120, 122, 120, 122, 122, 122, 122, 122, 122, 122, 122, 122, 120], 120), (124, .iconst 1, 1), (125, .ireturn, 1), (126, .iconst 0, 1), (127, .ireturn, 1)]
def I_71 : ra_I := (lst_71, fl_5, kt_5, kl_5, nl_5, ql_5, ml_5, ol_5, al_5, mml_5)
theorem dc_71 : ∀ q ∈ lst_71, decode mt_71.2.1 q.1 = .ok (q.2.1, q.2.2) := by decide +kernel
theorem oI_71 : ra_okI pT mt_71.1.cls "BathWater$Scene" vwCl pNW pMT mt_71.2.1 I_71 := ⟨dc_71, lnk_5⟩
set_option maxRecDepth 100000 in
theorem oM_71 : pMT[71]? = some mt_71 := rfl
def lst_72 : List (Nat × Instr × Nat) := [(0, .aload_n 0, 1), (1, .getfield 33, 3), (4, .aload_n 0, 1), (5, .getfield 23, 3), (8, .getfield 92, 3), (11, .invokevirtual 95, 3), (14, .aload_n 0, 1), (15, .getfield 40, 3), (18, .aload_n 0, 1), (19, .getfield 33, 3), (22, .invokevirtual 99, 3), (25, .aload_n 0, 1), (26, .getfield 70, 3), (29, .iconst 0, 1), (30, .putfield 102, 3), (33, .aload_n 0, 1), (34, .iconst 0, 1), (35, .putfield 105, 3), (38, .aload_n 0, 1), (39, .iconst 0, 1), (40, .putfield 108, 3), (43, .return_, 1)]
def I_72 : ra_I := (lst_72, fl_8, kt_8, kl_8, nl_8, ql_8, ml_8, ol_8, al_8, mml_8)
theorem dc_72 : ∀ q ∈ lst_72, decode mt_72.2.1 q.1 = .ok (q.2.1, q.2.2) := by decide +kernel
theorem oI_72 : ra_okI pT mt_72.1.cls "BathWater$Scene" vwCl pNW pMT mt_72.2.1 I_72 := ⟨dc_72, lnk_8⟩
set_option maxRecDepth 100000 in
theorem oM_72 : pMT[72]? = some mt_72 := rfl
def lst_73 : List (Nat × Instr × Nat) := [(0, .aload_n 1, 1), (1, .getfield 9, 3), (4, .iconst 0, 1), (5, .aload_n 0, 1), (6, .getfield 9, 3), (9, .iconst 0, 1), (10, .bipush 12, 2), (12, .invokestatic 40, 3), (15, .aload_n 1, 1), (16, .getfield 15, 3), (19, .iconst 0, 1), (20, .aload_n 0, 1), (21, .getfield 15, 3), (24, .iconst 0, 1), (25, .iconst 5, 1), (26, .invokestatic 40, 3), (29, .aload_n 1, 1), (30, .getfield 18, 3), (33, .iconst 0, 1), (34, .aload_n 0, 1), (35, .getfield 18, 3), (38, .iconst 0, 1), (39, .iconst 5, 1), (40, .invokestatic 40, 3), (43, .aload_n 1, 1), (44, .getfield 21, 3), (47, .iconst 0, 1), (48, .aload_n 0, 1), (49, .getfield 21, 3), (52, .iconst 0, 1), (53, .iconst 5, 1), (54, .invokestatic 40, 3), (57, .aload_n 0, 1), (58, .aload_n 1, 1), (59, .getfield 33, 3), (62, .putfield 33, 3), (65, .aload_n 0, 1), (66, .aload_n 1, 1), (67, .getfield 37, 3), (70, .putfield 37, 3), (73, .return_, 1)]
def I_73 : ra_I := (lst_73, fl_6, kt_6, kl_6, nl_6, ql_6, ml_6, ol_6, al_6, mml_6)
theorem dc_73 : ∀ q ∈ lst_73, decode mt_73.2.1 q.1 = .ok (q.2.1, q.2.2) := by decide +kernel
theorem oI_73 : ra_okI pT mt_73.1.cls "BathWater$Scene" vwCl pNW pMT mt_73.2.1 I_73 := ⟨dc_73, lnk_6⟩
set_option maxRecDepth 100000 in
theorem oM_73 : pMT[73]? = some mt_73 := rfl
def lst_74 : List (Nat × Instr × Nat) := [(0, .aload_n 0, 1), (1, .iconst 0, 1), (2, .putfield 18, 3), (5, .aload_n 0, 1), (6, .iconst 0, 1), (7, .putfield 22, 3), (10, .aload_n 0, 1), (11, .iconst 0, 1), (12, .putfield 25, 3), (15, .aload_n 0, 1), (16, .iconst 0, 1), (17, .invokevirtual 28, 3), (20, .aload_n 1, 1), (21, .invokevirtual 32, 3), (24, .return_, 1)]
def I_74 : ra_I := (lst_74, fl_0, kt_0, kl_0, nl_0, ql_0, ml_0, ol_0, al_0, mml_0)
theorem dc_74 : ∀ q ∈ lst_74, decode mt_74.2.1 q.1 = .ok (q.2.1, q.2.2) := by decide +kernel
theorem oI_74 : ra_okI pT mt_74.1.cls "BathWater$Scene" vwCl pNW pMT mt_74.2.1 I_74 := ⟨dc_74, lnk_0⟩
set_option maxRecDepth 100000 in
theorem oM_74 : pMT[74]? = some mt_74 := rfl
def lst_75 : List (Nat × Instr × Nat) := [(0, .aload_n 0, 1), (1, .getfield 13, 3), (4, .aload_n 0, 1), (5, .getfield 18, 3), (8, .iload_n 1, 1), (9, .iadd, 1), (10, .bipush 41, 2), (12, .irem, 1), (13, .aaload, 1), (14, .areturn, 1)]
def I_75 : ra_I := (lst_75, fl_0, kt_0, kl_0, nl_0, ql_0, ml_0, ol_0, al_0, mml_0)
theorem dc_75 : ∀ q ∈ lst_75, decode mt_75.2.1 q.1 = .ok (q.2.1, q.2.2) := by decide +kernel
theorem oI_75 : ra_okI pT mt_75.1.cls "BathWater$Scene" vwCl pNW pMT mt_75.2.1 I_75 := ⟨dc_75, lnk_0⟩
set_option maxRecDepth 100000 in
theorem oM_75 : pMT[75]? = some mt_75 := rfl
def lst_76 : List (Nat × Instr × Nat) := [(0, .iload_n 1, 1), (1, .ifCond .ne 11, 3), (4, .aload_n 0, 1), (5, .getfield 16, 3), (8, .getfield 111, 3), (11, .ireturn, 1), (12, .iload_n 1, 1), (13, .iconst 1, 1), (14, .if_icmp .ne 13, 3), (17, .aload_n 0, 1), (18, .getfield 16, 3), (21, .getfield 114, 3), (24, .goto 4, 3), (27, .iconst (-1), 1), (28, .ireturn, 1)]
def I_76 : ra_I := (lst_76, fl_8, kt_8, kl_8, nl_8, ql_8, ml_8, ol_8, al_8, mml_8)
theorem dc_76 : ∀ q ∈ lst_76, decode mt_76.2.1 q.1 = .ok (q.2.1, q.2.2) := by decide +kernel
theorem oI_76 : ra_okI pT mt_76.1.cls "BathWater$Scene" vwCl pNW pMT mt_76.2.1 I_76 := ⟨dc_76, lnk_8⟩
set_option maxRecDepth 100000 in
theorem oM_76 : pMT[76]? = some mt_76 := rfl
def lst_77 : List (Nat × Instr × Nat) := [(0, .aload_n 0, 1), (1, .iload_n 1, 1), (2, .invokevirtual 144, 3), (5, .ifCond .ne 6, 3), (8, .bipush (-2), 2), (10, .ireturn, 1), (11, .iload_n 2, 1), (12, .tableswitch 51 0 2 #[28, 38, 45], 28), (40, .aload_n 0, 1), (41, .getfield 33, 3), (44, .getfield 147, 3), (47, .iload_n 1, 1), (48, .iaload, 1), (49, .ireturn, 1), (50, .aload_n 0, 1), (51, .invokevirtual 150, 3), (54, .iload_n 1, 1), (55, .iaload, 1), (56, .ireturn, 1), (57, .aload_n 0, 1), (58, .iload_n 1, 1), (59, .invokevirtual 154, 3), (62, .ireturn, 1), (63, .bipush (-2), 2), (65, .ireturn, 1)]
def I_77 : ra_I := (lst_77, fl_8, kt_8, kl_8, nl_8, ql_8, ml_8, ol_8, al_8, mml_8)
theorem dc_77 : ∀ q ∈ lst_77, decode mt_77.2.1 q.1 = .ok (q.2.1, q.2.2) := by decide +kernel
theorem oI_77 : ra_okI pT mt_77.1.cls "BathWater$Scene" vwCl pNW pMT mt_77.2.1 I_77 := ⟨dc_77, lnk_8⟩
set_option maxRecDepth 100000 in
theorem oM_77 : pMT[77]? = some mt_77 := rfl
def lst_78 : List (Nat × Instr × Nat) := [(0, .iload_n 1, 1), (1, .ifCond .lt 18, 3), (4, .iload_n 1, 1), (5, .aload_n 0, 1), (6, .getfield 23, 3), (9, .getfield 117, 3), (12, .if_icmp .ge 7, 3), (15, .iconst 1, 1), (16, .goto 4, 3), (19, .iconst 0, 1), (20, .ireturn, 1)]
def I_78 : ra_I := (lst_78, fl_8, kt_8, kl_8, nl_8, ql_8, ml_8, ol_8, al_8, mml_8)
theorem dc_78 : ∀ q ∈ lst_78, decode mt_78.2.1 q.1 = .ok (q.2.1, q.2.2) := by decide +kernel
theorem oI_78 : ra_okI pT mt_78.1.cls "BathWater$Scene" vwCl pNW pMT mt_78.2.1 I_78 := ⟨dc_78, lnk_8⟩
set_option maxRecDepth 100000 in
theorem oM_78 : pMT[78]? = some mt_78 := rfl
def lst_79 : List (Nat × Instr × Nat) := [(0, .aload_n 0, 1), (1, .invokevirtual 134, 3), (4, .aload_n 0, 1), (5, .getfield 47, 3), (8, .iconst 1, 1), (9, .invokevirtual 137, 3), (12, .aload_n 0, 1), (13, .getfield 47, 3), (16, .getfield 141, 3), (19, .areturn, 1)]
def I_79 : ra_I := (lst_79, fl_8, kt_8, kl_8, nl_8, ql_8, ml_8, ol_8, al_8, mml_8)
theorem dc_79 : ∀ q ∈ lst_79, decode mt_79.2.1 q.1 = .ok (q.2.1, q.2.2) := by decide +kernel
theorem oI_79 : ra_okI pT mt_79.1.cls "BathWater$Scene" vwCl pNW pMT mt_79.2.1 I_79 := ⟨dc_79, lnk_8⟩
set_option maxRecDepth 100000 in
theorem oM_79 : pMT[79]? = some mt_79 := rfl
def lst_80 : List (Nat × Instr × Nat) := [(0, .aload_n 0, 1), (1, .getfield 47, 3), (4, .aload_n 0, 1), (5, .getfield 23, 3), (8, .aload_n 0, 1), (9, .getfield 33, 3), (12, .invokevirtual 130, 3), (15, .return_, 1)]
def I_80 : ra_I := (lst_80, fl_8, kt_8, kl_8, nl_8, ql_8, ml_8, ol_8, al_8, mml_8)
theorem dc_80 : ∀ q ∈ lst_80, decode mt_80.2.1 q.1 = .ok (q.2.1, q.2.2) := by decide +kernel
theorem oI_80 : ra_okI pT mt_80.1.cls "BathWater$Scene" vwCl pNW pMT mt_80.2.1 I_80 := ⟨dc_80, lnk_8⟩
set_option maxRecDepth 100000 in
theorem oM_80 : pMT[80]? = some mt_80 := rfl
def lst_81 : List (Nat × Instr × Nat) := [(0, .aload_n 0, 1), (1, .aload_n 1, 1), (2, .putfield 12, 3), (5, .aload_n 0, 1), (6, .getfield 21, 3), (9, .aload_n 2, 1), (10, .invokevirtual 41, 3), (13, .aload_n 0, 1), (14, .getfield 25, 3), (17, .iconst 0, 1), (18, .invokestatic 45, 3), (21, .aload_n 0, 1), (22, .iconst 0, 1), (23, .putfield 51, 3), (26, .aload_n 0, 1), (27, .iconst 0, 1), (28, .putfield 55, 3), (31, .return_, 1)]
def I_81 : ra_I := (lst_81, fl_1, kt_1, kl_1, nl_1, ql_1, ml_1, ol_1, al_1, mml_1)
theorem dc_81 : ∀ q ∈ lst_81, decode mt_81.2.1 q.1 = .ok (q.2.1, q.2.2) := by decide +kernel
theorem oI_81 : ra_okI pT mt_81.1.cls "BathWater$Scene" vwCl pNW pMT mt_81.2.1 I_81 := ⟨dc_81, lnk_1⟩
set_option maxRecDepth 100000 in
theorem oM_81 : pMT[81]? = some mt_81 := rfl
def lst_82 : List (Nat × Instr × Nat) := [(0, .aload_n 0, 1), (1, .getfield 29, 3), (4, .iconst (-1), 1), (5, .invokestatic 45, 3), (8, .aload_n 0, 1), (9, .getfield 32, 3), (12, .iconst 0, 1), (13, .invokestatic 45, 3), (16, .iconst 0, 1), (17, .istore_n 2, 1), (18, .iload_n 2, 1), (19, .aload_n 0, 1), (20, .getfield 12, 3), (23, .getfield 98, 3), (26, .if_icmp .ge 130, 3), (29, .aload_n 0, 1), (30, .getfield 21, 3), (33, .getfield 74, 3), (36, .iload_n 2, 1), (37, .iaload, 1), (38, .istore_n 3, 1), (39, .iload_n 3, 1), (40, .ifCond .lt 9, 3), (43, .aload_n 0, 1), (44, .iload_n 2, 1), (45, .iload_n 3, 1), (46, .invokevirtual 78, 3), (49, .iconst 0, 1), (50, .istore 4, 2), (52, .iload 4, 2), (54, .aload_n 0, 1), (55, .getfield 12, 3), (58, .getfield 105, 3), (61, .if_icmp .ge 89, 3), (64, .iload_n 3, 1), (65, .ifCond .lt 85, 3), (68, .iload_n 1, 1), (69, .ifCond .ne 16, 3), (72, .aload_n 0, 1), (73, .getfield 21, 3), (76, .getfield 62, 3), (79, .iload 4, 2), (81, .iaload, 1), (82, .ifCond .le 62, 3), (85, .aload_n 0, 1), (86, .getfield 38, 3), (89, .bipush 13, 2), (91, .iload_n 3, 1), (92, .iload 4, 2), (94, .isub, 1), (95, .invokestatic 82, 3), (98, .iastore, 1), (99, .aload_n 0, 1), (100, .getfield 12, 3), (103, .getfield 88, 3), (106, .aload_n 0, 1), (107, .getfield 38, 3), (110, .invokevirtual 92, 3), (113, .istore 5, 2), (115, .iload 5, 2), (117, .aload_n 0, 1), (118, .getfield 32, 3), (121, .iload 4, 2), (123, .iaload, 1), (124, .if_icmp .le 20, 3), (127, .aload_n 0, 1), (128, .getfield 32, 3), (131, .iload 4, 2), (133, .iload 5, 2), (135, .iastore, 1), (136, .aload_n 0, 1), (137, .getfield 29, 3), (140, .iload 4, 2), (142, .iload_n 2, 1), (143, .iastore, 1), (144, .iinc 4 1, 3), (147, .goto (-95), 3), (150, .iinc 2 1, 3), (153, .goto (-135), 3), (156, .return_, 1)]
def I_82 : ra_I := (lst_82, fl_1, kt_1, kl_1, nl_1, ql_1, ml_1, ol_1, al_1, mml_1)
theorem dc_82 : ∀ q ∈ lst_82, decode mt_82.2.1 q.1 = .ok (q.2.1, q.2.2) := by decide +kernel
theorem oI_82 : ra_okI pT mt_82.1.cls "BathWater$Scene" vwCl pNW pMT mt_82.2.1 I_82 := ⟨dc_82, lnk_1⟩
set_option maxRecDepth 100000 in
theorem oM_82 : pMT[82]? = some mt_82 := rfl
def lst_83 : List (Nat × Instr × Nat) := [(0, .aload_n 0, 1), (1, .getfield 38, 3), (4, .iconst 5, 1), (5, .aload_n 0, 1), (6, .getfield 21, 3), (9, .getfield 59, 3), (12, .iload_n 1, 1), (13, .iaload, 1), (14, .iastore, 1), (15, .aload_n 0, 1), (16, .getfield 38, 3), (19, .iconst 2, 1), (20, .aload_n 0, 1), (21, .getfield 21, 3), (24, .getfield 62, 3), (27, .iload_n 2, 1), (28, .iaload, 1), (29, .iastore, 1), (30, .aload_n 0, 1), (31, .getfield 38, 3), (34, .bipush 14, 2), (36, .aload_n 0, 1), (37, .getfield 21, 3), (40, .getfield 65, 3), (43, .iload_n 1, 1), (44, .iaload, 1), (45, .iastore, 1), (46, .aload_n 0, 1), (47, .getfield 38, 3), (50, .bipush 6, 2), (52, .aload_n 0, 1), (53, .getfield 12, 3), (56, .getfield 68, 3), (59, .iload_n 1, 1), (60, .iaload, 1), (61, .iastore, 1), (62, .aload_n 0, 1), (63, .getfield 38, 3), (66, .bipush 15, 2), (68, .aload_n 0, 1), (69, .getfield 21, 3), (72, .getfield 71, 3), (75, .iastore, 1), (76, .return_, 1)]
def I_83 : ra_I := (lst_83, fl_1, kt_1, kl_1, nl_1, ql_1, ml_1, ol_1, al_1, mml_1)
theorem dc_83 : ∀ q ∈ lst_83, decode mt_83.2.1 q.1 = .ok (q.2.1, q.2.2) := by decide +kernel
theorem oI_83 : ra_okI pT mt_83.1.cls "BathWater$Scene" vwCl pNW pMT mt_83.2.1 I_83 := ⟨dc_83, lnk_1⟩
set_option maxRecDepth 100000 in
theorem oM_83 : pMT[83]? = some mt_83 := rfl
def lst_85 : List (Nat × Instr × Nat) := [(0, .aload_n 0, 1), (1, .getfield 25, 3), (4, .ifCond .ne 12, 3), (7, .aload_n 1, 1), (8, .iconst 5, 1), (9, .iaload, 1), (10, .aload_n 1, 1), (11, .bipush 13, 2), (13, .iaload, 1), (14, .isub, 1), (15, .ireturn, 1), (16, .iconst 0, 1), (17, .istore_n 2, 1), (18, .iconst 0, 1), (19, .istore_n 3, 1), (20, .iload_n 3, 1), (21, .aload_n 0, 1), (22, .getfield 21, 3), (25, .if_icmp .ge 136, 3), (28, .aload_n 0, 1), (29, .getfield 9, 3), (32, .iload_n 3, 1), (33, .iaload, 1), (34, .istore 4, 2), (36, .iload 4, 2), (38, .bipush 12, 2), (40, .if_icmp .ne 34, 3), (43, .iload_n 2, 1), (44, .ifCond .le 30, 3), (47, .aload_n 0, 1), (48, .getfield 18, 3), (51, .iload_n 2, 1), (52, .iconst 1, 1), (53, .isub, 1), (54, .aload_n 0, 1), (55, .getfield 18, 3), (58, .iload_n 2, 1), (59, .iconst 1, 1), (60, .isub, 1), (61, .iaload, 1), (62, .ifCond .ne 7, 3), (65, .iconst 1, 1), (66, .goto 4, 3), (69, .iconst 0, 1), (70, .iastore, 1), (71, .goto 84, 3), (74, .iload 4, 2), (76, .invokestatic 32, 3), (79, .ifCond .eq 41, 3), (82, .iload_n 2, 1), (83, .iconst 1, 1), (84, .if_icmp .le 36, 3), (87, .iinc 2 (-1), 3), (90, .aload_n 0, 1), (91, .getfield 18, 3), (94, .iload_n 2, 1), (95, .iconst 1, 1), (96, .isub, 1), (97, .iload 4, 2), (99, .aload_n 0, 1), (100, .getfield 18, 3), (103, .iload_n 2, 1), (104, .iconst 1, 1), (105, .isub, 1), (106, .iaload, 1), (107, .aload_n 0, 1), (108, .getfield 18, 3), (111, .iload_n 2, 1), (112, .iaload, 1), (113, .invokestatic 36, 3), (116, .iastore, 1), (117, .goto 38, 3), (120, .iload_n 2, 1), (121, .bipush 30, 2), (123, .if_icmp .ge 32, 3), (126, .aload_n 0, 1), (127, .getfield 18, 3), (130, .iload_n 2, 1), (131, .iload 4, 2), (133, .bipush 16, 2), (135, .if_icmp .ge 10, 3), (138, .aload_n 1, 1), (139, .iload 4, 2), (141, .iaload, 1), (142, .goto 9, 3), (145, .aload_n 0, 1), (146, .getfield 15, 3), (149, .iload_n 3, 1), (150, .iaload, 1), (151, .iastore, 1), (152, .iinc 2 1, 3), (155, .iinc 3 1, 3), (158, .goto (-138), 3), (161, .iload_n 2, 1), (162, .ifCond .le 14, 3), (165, .aload_n 0, 1), (166, .getfield 18, 3), (169, .iload_n 2, 1), (170, .iconst 1, 1), (171, .isub, 1), (172, .iaload, 1), (173, .goto 4, 3), (176, .iconst 0, 1), (177, .ireturn, 1)]
def I_85 : ra_I := (lst_85, fl_3, kt_3, kl_3, nl_3, ql_3, ml_3, ol_3, al_3, mml_3)
theorem dc_85 : ∀ q ∈ lst_85, decode mt_85.2.1 q.1 = .ok (q.2.1, q.2.2) := by decide +kernel
theorem oI_85 : ra_okI pT mt_85.1.cls "BathWater$Scene" vwCl pNW pMT mt_85.2.1 I_85 := ⟨dc_85, lnk_3⟩
set_option maxRecDepth 100000 in
theorem oM_85 : pMT[85]? = some mt_85 := rfl
def lst_86 : List (Nat × Instr × Nat) := [(0, .iload_n 0, 1), (1, .bipush 19, 2), (3, .if_icmp .lt 9, 3), (6, .iload_n 0, 1), (7, .bipush 26, 2), (9, .if_icmp .le 15, 3), (12, .iload_n 0, 1), (13, .bipush 10, 2), (15, .if_icmp .eq 9, 3), (18, .iload_n 0, 1), (19, .bipush 11, 2), (21, .if_icmp .ne 7, 3), (24, .iconst 1, 1), (25, .goto 4, 3), (28, .iconst 0, 1), (29, .ireturn, 1)]
def I_86 : ra_I := (lst_86, fl_3, kt_3, kl_3, nl_3, ql_3, ml_3, ol_3, al_3, mml_3)
theorem dc_86 : ∀ q ∈ lst_86, decode mt_86.2.1 q.1 = .ok (q.2.1, q.2.2) := by decide +kernel
theorem oI_86 : ra_okI pT mt_86.1.cls "BathWater$Scene" vwCl pNW pMT mt_86.2.1 I_86 := ⟨dc_86, lnk_3⟩
set_option maxRecDepth 100000 in
theorem oM_86 : pMT[86]? = some mt_86 := rfl
def lst_87 : List (Nat × Instr × Nat) := [(0, .iload_n 0, 1), (1, .tableswitch 164 10 25 #[79, 93, 164, 164, 164, 164, 164, 164, 164, 107, 118, 129, 140, 144, 148, 152], 79), (80, .iload_n 1, 1), (81, .ifCond .ne 7, 3), (84, .iload_n 2, 1), (85, .ifCond .eq 7, 3), (88, .iconst 1, 1), (89, .goto 4, 3), (92, .iconst 0, 1), (93, .ireturn, 1), (94, .iload_n 1, 1), (95, .ifCond .eq 11, 3), (98, .iload_n 2, 1), (99, .ifCond .eq 7, 3), (102, .iconst 1, 1), (103, .goto 4, 3), (106, .iconst 0, 1), (107, .ireturn, 1), (108, .iload_n 1, 1), (109, .iload_n 2, 1), (110, .if_icmp .ge 7, 3), (113, .iconst 1, 1), (114, .goto 4, 3), (117, .iconst 0, 1), (118, .ireturn, 1), (119, .iload_n 1, 1), (120, .iload_n 2, 1), (121, .if_icmp .le 7, 3), (124, .iconst 1, 1), (125, .goto 4, 3), (128, .iconst 0, 1), (129, .ireturn, 1), (130, .iload_n 1, 1), (131, .iload_n 2, 1), (132, .if_icmp .ne 7, 3), (135, .iconst 1, 1), (136, .goto 4, 3), (139, .iconst 0, 1), (140, .ireturn, 1), (141, .iload_n 1, 1), (142, .iload_n 2, 1), (143, .iadd, 1), (144, .ireturn, 1), (145, .iload_n 1, 1), (146, .iload_n 2, 1), (147, .isub, 1), (148, .ireturn, 1), (149, .iload_n 1, 1), (150, .iload_n 2, 1), (151, .imul, 1), (152, .ireturn, 1), (153, .iload_n 2, 1), (154, .ifCond .ne 7, 3), (157, .iconst 0, 1), (158, .goto 6, 3), (161, .iload_n 1, 1), (162, .iload_n 2, 1), (163, .idiv, 1), (164, .ireturn, 1), (165, .iload_n 2, 1), (166, .ifCond .ne 7, 3), (169, .iconst 0, 1), (170, .goto 6, 3), (173, .iload_n 1, 1), (174, .iload_n 2, 1), (175, .irem, 1), (176, .ireturn, 1)]
def I_87 : ra_I := (lst_87, fl_3, kt_3, kl_3, nl_3, ql_3, ml_3, ol_3, al_3, mml_3)
theorem dc_87 : ∀ q ∈ lst_87, decode mt_87.2.1 q.1 = .ok (q.2.1, q.2.2) := by decide +kernel
theorem oI_87 : ra_okI pT mt_87.1.cls "BathWater$Scene" vwCl pNW pMT mt_87.2.1 I_87 := ⟨dc_87, lnk_3⟩
set_option maxRecDepth 100000 in
theorem oM_87 : pMT[87]? = some mt_87 := rfl
def lst_88 : List (Nat × Instr × Nat) := [(0, .iconst 0, 1), (1, .istore_n 2, 1), (2, .iconst 0, 1), (3, .istore_n 3, 1), (4, .iload_n 3, 1), (5, .aload_n 0, 1), (6, .getfield 23, 3), (9, .getfield 89, 3), (12, .if_icmp .ge 28, 3), (15, .aload_n 0, 1), (16, .getfield 33, 3), (19, .getfield 124, 3), (22, .iload_n 3, 1), (23, .iaload, 1), (24, .iload_n 1, 1), (25, .if_icmp .ne 9, 3), (28, .iload_n 2, 1), (29, .iconst 1, 1), (30, .iload_n 3, 1), (31, .ishl, 1), (32, .ior, 1), (33, .istore_n 2, 1), (34, .iinc 3 1, 3), (37, .goto (-33), 3), (40, .iload_n 2, 1), (41, .ireturn, 1)]
def I_88 : ra_I := (lst_88, fl_8, kt_8, kl_8, nl_8, ql_8, ml_8, ol_8, al_8, mml_8)
theorem dc_88 : ∀ q ∈ lst_88, decode mt_88.2.1 q.1 = .ok (q.2.1, q.2.2) := by decide +kernel
theorem oI_88 : ra_okI pT mt_88.1.cls "BathWater$Scene" vwCl pNW pMT mt_88.2.1 I_88 := ⟨dc_88, lnk_8⟩
set_option maxRecDepth 100000 in
theorem oM_88 : pMT[88]? = some mt_88 := rfl
def lst_89 : List (Nat × Instr × Nat) := [(0, .aload_n 0, 1), (1, .iload_n 1, 1), (2, .invokevirtual 120, 3), (5, .ifCond .ne 6, 3), (8, .bipush (-2), 2), (10, .ireturn, 1), (11, .iload_n 2, 1), (12, .tableswitch 86 0 4 #[36, 46, 56, 66, 76], 36), (48, .aload_n 0, 1), (49, .getfield 33, 3), (52, .getfield 124, 3), (55, .iload_n 1, 1), (56, .iaload, 1), (57, .ireturn, 1), (58, .aload_n 0, 1), (59, .getfield 33, 3), (62, .getfield 158, 3), (65, .iload_n 1, 1), (66, .iaload, 1), (67, .ireturn, 1), (68, .aload_n 0, 1), (69, .getfield 23, 3), (72, .getfield 161, 3), (75, .iload_n 1, 1), (76, .iaload, 1), (77, .ireturn, 1), (78, .aload_n 0, 1), (79, .getfield 33, 3), (82, .getfield 164, 3), (85, .iload_n 1, 1), (86, .iaload, 1), (87, .ireturn, 1), (88, .aload_n 0, 1), (89, .iload_n 1, 1), (90, .aload_n 0, 1), (91, .invokevirtual 150, 3), (94, .invokevirtual 167, 3), (97, .ireturn, 1), (98, .bipush (-2), 2), (100, .ireturn, 1)]
def I_89 : ra_I := (lst_89, fl_8, kt_8, kl_8, nl_8, ql_8, ml_8, ol_8, al_8, mml_8)
theorem dc_89 : ∀ q ∈ lst_89, decode mt_89.2.1 q.1 = .ok (q.2.1, q.2.2) := by decide +kernel
theorem oI_89 : ra_okI pT mt_89.1.cls "BathWater$Scene" vwCl pNW pMT mt_89.2.1 I_89 := ⟨dc_89, lnk_8⟩
set_option maxRecDepth 100000 in
theorem oM_89 : pMT[89]? = some mt_89 := rfl
def lst_90 : List (Nat × Instr × Nat) := [(0, .iload_n 1, 1), (1, .ifCond .lt 18, 3), (4, .iload_n 1, 1), (5, .aload_n 0, 1), (6, .getfield 23, 3), (9, .getfield 89, 3), (12, .if_icmp .ge 7, 3), (15, .iconst 1, 1), (16, .goto 4, 3), (19, .iconst 0, 1), (20, .ireturn, 1)]
def I_90 : ra_I := (lst_90, fl_8, kt_8, kl_8, nl_8, ql_8, ml_8, ol_8, al_8, mml_8)
theorem dc_90 : ∀ q ∈ lst_90, decode mt_90.2.1 q.1 = .ok (q.2.1, q.2.2) := by decide +kernel
theorem oI_90 : ra_okI pT mt_90.1.cls "BathWater$Scene" vwCl pNW pMT mt_90.2.1 I_90 := ⟨dc_90, lnk_8⟩
set_option maxRecDepth 100000 in
theorem oM_90 : pMT[90]? = some mt_90 := rfl
def lst_91 : List (Nat × Instr × Nat) := [(0, .iconst 0, 1), (1, .istore_n 3, 1), (2, .iconst 0, 1), (3, .istore 4, 2), (5, .iload 4, 2), (7, .aload_n 0, 1), (8, .getfield 23, 3), (11, .getfield 117, 3), (14, .if_icmp .ge 24, 3), (17, .aload_n 2, 1), (18, .iload 4, 2), (20, .iaload, 1), (21, .iload_n 1, 1), (22, .if_icmp .ne 10, 3), (25, .iload_n 3, 1), (26, .iconst 1, 1), (27, .iload 4, 2), (29, .ishl, 1), (30, .ior, 1), (31, .istore_n 3, 1), (32, .iinc 4 1, 3), (35, .goto (-30), 3), (38, .iload_n 3, 1), (39, .ireturn, 1)]
def I_91 : ra_I := (lst_91, fl_8, kt_8, kl_8, nl_8, ql_8, ml_8, ol_8, al_8, mml_8)
theorem dc_91 : ∀ q ∈ lst_91, decode mt_91.2.1 q.1 = .ok (q.2.1, q.2.2) := by decide +kernel
theorem oI_91 : ra_okI pT mt_91.1.cls "BathWater$Scene" vwCl pNW pMT mt_91.2.1 I_91 := ⟨dc_91, lnk_8⟩
set_option maxRecDepth 100000 in
theorem oM_91 : pMT[91]? = some mt_91 := rfl
def lst_92 : List (Nat × Instr × Nat) := [(0, .aload_n 0, 1), (1, .iload_n 1, 1), (2, .invokevirtual 171, 3), (5, .ifCond .eq 11, 3), (8, .aload_n 0, 1), (9, .iload_n 2, 1), (10, .invokevirtual 144, 3), (13, .ifCond .ne 6, 3), (16, .ldc 174, 2), (18, .ireturn, 1), (19, .aload_n 0, 1), (20, .invokevirtual 134, 3), (23, .aload_n 0, 1), (24, .getfield 47, 3), (27, .iload_n 1, 1), (28, .iload_n 2, 1), (29, .invokevirtual 175, 3), (32, .ireturn, 1)]
def I_92 : ra_I := (lst_92, fl_8, kt_8, kl_8, nl_8, ql_8, ml_8, ol_8, al_8, mml_8)
theorem dc_92 : ∀ q ∈ lst_92, decode mt_92.2.1 q.1 = .ok (q.2.1, q.2.2) := by decide +kernel
theorem oI_92 : ra_okI pT mt_92.1.cls "BathWater$Scene" vwCl pNW pMT mt_92.2.1 I_92 := ⟨dc_92, lnk_8⟩
set_option maxRecDepth 100000 in
theorem oM_92 : pMT[92]? = some mt_92 := rfl
def lst_93 : List (Nat × Instr × Nat) := [(0, .aload_n 0, 1), (1, .iload_n 1, 1), (2, .invokevirtual 120, 3), (5, .ifCond .eq 19, 3), (8, .aload_n 0, 1), (9, .getfield 33, 3), (12, .getfield 124, 3), (15, .iload_n 1, 1), (16, .iaload, 1), (17, .ifCond .lt 7, 3), (20, .iconst 1, 1), (21, .goto 4, 3), (24, .iconst 0, 1), (25, .ireturn, 1)]
def I_93 : ra_I := (lst_93, fl_8, kt_8, kl_8, nl_8, ql_8, ml_8, ol_8, al_8, mml_8)
theorem dc_93 : ∀ q ∈ lst_93, decode mt_93.2.1 q.1 = .ok (q.2.1, q.2.2) := by decide +kernel
theorem oI_93 : ra_okI pT mt_93.1.cls "BathWater$Scene" vwCl pNW pMT mt_93.2.1 I_93 := ⟨dc_93, lnk_8⟩
set_option maxRecDepth 100000 in
theorem oM_93 : pMT[93]? = some mt_93 := rfl
def lst_94 : List (Nat × Instr × Nat) := [(0, .aload_n 0, 1), (1, .getfield 21, 3), (4, .getfield 74, 3), (7, .iload_n 1, 1), (8, .iaload, 1), (9, .istore_n 3, 1), (10, .iload_n 3, 1), (11, .ifCond .ge 6, 3), (14, .ldc 77, 2), (16, .ireturn, 1), (17, .aload_n 0, 1), (18, .iload_n 1, 1), (19, .iload_n 3, 1), (20, .invokevirtual 78, 3), (23, .aload_n 0, 1), (24, .getfield 38, 3), (27, .bipush 13, 2), (29, .iload_n 3, 1), (30, .iload_n 2, 1), (31, .isub, 1), (32, .invokestatic 82, 3), (35, .iastore, 1), (36, .aload_n 0, 1), (37, .getfield 12, 3), (40, .getfield 88, 3), (43, .aload_n 0, 1), (44, .getfield 38, 3), (47, .invokevirtual 92, 3), (50, .ireturn, 1)]
def I_94 : ra_I := (lst_94, fl_1, kt_1, kl_1, nl_1, ql_1, ml_1, ol_1, al_1, mml_1)
theorem dc_94 : ∀ q ∈ lst_94, decode mt_94.2.1 q.1 = .ok (q.2.1, q.2.2) := by decide +kernel
theorem oI_94 : ra_okI pT mt_94.1.cls "BathWater$Scene" vwCl pNW pMT mt_94.2.1 I_94 := ⟨dc_94, lnk_1⟩
set_option maxRecDepth 100000 in
theorem oM_94 : pMT[94]? = some mt_94 := rfl
def lst_95 : List (Nat × Instr × Nat) := [(0, .aload_n 0, 1), (1, .getfield 33, 3), (4, .getfield 179, 3), (7, .sipush 999, 3), (10, .if_icmp .lt 5, 3), (13, .iconst (-1), 1), (14, .ireturn, 1), (15, .aload_n 0, 1), (16, .invokevirtual 134, 3), (19, .aload_n 0, 1), (20, .getfield 47, 3), (23, .invokevirtual 182, 3), (26, .aload_n 0, 1), (27, .getfield 33, 3), (30, .aload_n 0, 1), (31, .getfield 47, 3), (34, .getfield 185, 3), (37, .invokevirtual 95, 3), (40, .aload_n 0, 1), (41, .getfield 40, 3), (44, .aload_n 0, 1), (45, .getfield 33, 3), (48, .invokevirtual 188, 3), (51, .aload_n 0, 1), (52, .getfield 47, 3), (55, .getfield 191, 3), (58, .ireturn, 1)]
def I_95 : ra_I := (lst_95, fl_8, kt_8, kl_8, nl_8, ql_8, ml_8, ol_8, al_8, mml_8)
theorem dc_95 : ∀ q ∈ lst_95, decode mt_95.2.1 q.1 = .ok (q.2.1, q.2.2) := by decide +kernel
theorem oI_95 : ra_okI pT mt_95.1.cls "BathWater$Scene" vwCl pNW pMT mt_95.2.1 I_95 := ⟨dc_95, lnk_8⟩
set_option maxRecDepth 100000 in
theorem oM_95 : pMT[95]? = some mt_95 := rfl
def lst_96 : List (Nat × Instr × Nat) := [(0, .aload_n 0, 1), (1, .getfield 21, 3), (4, .aload_n 0, 1), (5, .getfield 21, 3), (8, .getfield 137, 3), (11, .sipush 137, 3), (14, .imul, 1), (15, .bipush 71, 2), (17, .iadd, 1), (18, .sipush 1000, 3), (21, .irem, 1), (22, .putfield 137, 3), (25, .aload_n 0, 1), (26, .aload_n 0, 1), (27, .getfield 21, 3), (30, .getfield 137, 3), (33, .bipush 100, 2), (35, .irem, 1), (36, .aload_n 0, 1), (37, .getfield 12, 3), (40, .getfield 140, 3), (43, .if_icmp .ge 7, 3), (46, .iconst 1, 1), (47, .goto 4, 3), (50, .iconst 0, 1), (51, .invokevirtual 128, 3), (54, .return_, 1)]
def I_96 : ra_I := (lst_96, fl_1, kt_1, kl_1, nl_1, ql_1, ml_1, ol_1, al_1, mml_1)
theorem dc_96 : ∀ q ∈ lst_96, decode mt_96.2.1 q.1 = .ok (q.2.1, q.2.2) := by decide +kernel
theorem oI_96 : ra_okI pT mt_96.1.cls "BathWater$Scene" vwCl pNW pMT mt_96.2.1 I_96 := ⟨dc_96, lnk_1⟩
set_option maxRecDepth 100000 in
theorem oM_96 : pMT[96]? = some mt_96 := rfl
