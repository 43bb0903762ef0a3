def lst_137 : List (Nat × Instr × Nat) := [(0, .aload_n 0, 1), (1, .getfield 55, 3), (4, .iconst 0, 1), (5, .iload_n 1, 1), (6, .iastore, 1), (7, .aload_n 0, 1), (8, .getfield 55, 3), (11, .iconst 1, 1), (12, .iload_n 2, 1), (13, .iastore, 1), (14, .aload_n 0, 1), (15, .iconst 2, 1), (16, .putfield 105, 3), (19, .return_, 1)]
def I_137 : ra_I := (lst_137, fl_8, kt_8, kl_8, nl_8, ql_8, ml_8, ol_8, al_8, mml_8)
theorem dc_137 : ∀ q ∈ lst_137, decode mt_137.2.1 q.1 = .ok (q.2.1, q.2.2) := by decide +kernel
theorem oI_137 : ra_okI pT mt_137.1.cls "BathWater$Scene" vwCl pNW pMT mt_137.2.1 I_137 := ⟨dc_137, lnk_8⟩
set_option maxRecDepth 100000 in
theorem oM_137 : pMT[137]? = some mt_137 := rfl
def lst_138 : List (Nat × Instr × Nat) := [(0, .aload_n 0, 1), (1, .iload_n 1, 1), (2, .invokevirtual 171, 3), (5, .ifCond .eq 10, 3), (8, .iload_n 2, 1), (9, .invokestatic 201, 3), (12, .ifCond .ne 7, 3), (15, .ldc_w 278, 3), (18, .ireturn, 1), (19, .aload_n 0, 1), (20, .invokevirtual 134, 3), (23, .aload_n 0, 1), (24, .getfield 47, 3), (27, .iload_n 2, 1), (28, .invokevirtual 204, 3), (31, .aload_n 0, 1), (32, .getfield 47, 3), (35, .invokevirtual 244, 3), (38, .aload_n 0, 1), (39, .getfield 47, 3), (42, .getfield 210, 3), (45, .iload_n 1, 1), (46, .iaload, 1), (47, .isub, 1), (48, .istore_n 3, 1), (49, .aload_n 0, 1), (50, .invokevirtual 134, 3), (53, .aload_n 0, 1), (54, .getfield 47, 3), (57, .getfield 185, 3), (60, .getfield 124, 3), (63, .iload_n 1, 1), (64, .iconst (-1), 1), (65, .iastore, 1), (66, .aload_n 0, 1), (67, .getfield 47, 3), (70, .iload_n 2, 1), (71, .invokevirtual 204, 3), (74, .iload_n 3, 1), (75, .aload_n 0, 1), (76, .getfield 47, 3), (79, .invokevirtual 244, 3), (82, .isub, 1), (83, .ireturn, 1)]
def I_138 : ra_I := (lst_138, fl_8, kt_8, kl_8, nl_8, ql_8, ml_8, ol_8, al_8, mml_8)
theorem dc_138 : ∀ q ∈ lst_138, decode mt_138.2.1 q.1 = .ok (q.2.1, q.2.2) := by decide +kernel
theorem oI_138 : ra_okI pT mt_138.1.cls "BathWater$Scene" vwCl pNW pMT mt_138.2.1 I_138 := ⟨dc_138, lnk_8⟩
set_option maxRecDepth 100000 in
theorem oM_138 : pMT[138]? = some mt_138 := rfl
def lst_139 : List (Nat × Instr × Nat) := [(0, .aload_n 0, 1), (1, .iload_n 1, 1), (2, .invokevirtual 120, 3), (5, .ifCond .eq 20, 3), (8, .iload_n 2, 1), (9, .invokestatic 201, 3), (12, .ifCond .eq 13, 3), (15, .iload_n 3, 1), (16, .iconst 0, 1), (17, .bipush 60, 2), (19, .invokestatic 126, 3), (22, .ifCond .ne 5, 3), (25, .iconst (-1), 1), (26, .ireturn, 1), (27, .iconst 0, 1), (28, .istore 4, 2), (30, .iload 4, 2), (32, .bipush 99, 2), (34, .if_icmp .gt 56, 3), (37, .iload_n 3, 1), (38, .iload_n 2, 1), (39, .if_icmp .gt 51, 3), (42, .aload_n 0, 1), (43, .invokevirtual 134, 3), (46, .aload_n 0, 1), (47, .getfield 47, 3), (50, .getfield 185, 3), (53, .getfield 158, 3), (56, .iload_n 1, 1), (57, .iload 4, 2), (59, .iastore, 1), (60, .aload_n 0, 1), (61, .getfield 47, 3), (64, .iload_n 2, 1), (65, .invokevirtual 204, 3), (68, .aload_n 0, 1), (69, .getfield 47, 3), (72, .getfield 210, 3), (75, .iload_n 1, 1), (76, .iaload, 1), (77, .iload_n 3, 1), (78, .if_icmp .lt 6, 3), (81, .iload 4, 2), (83, .ireturn, 1), (84, .iinc 4 1, 3), (87, .goto (-57), 3), (90, .iconst (-1), 1), (91, .ireturn, 1)]
def I_139 : ra_I := (lst_139, fl_8, kt_8, kl_8, nl_8, ql_8, ml_8, ol_8, al_8, mml_8)
theorem dc_139 : ∀ q ∈ lst_139, decode mt_139.2.1 q.1 = .ok (q.2.1, q.2.2) := by decide +kernel
theorem oI_139 : ra_okI pT mt_139.1.cls "BathWater$Scene" vwCl pNW pMT mt_139.2.1 I_139 := ⟨dc_139, lnk_8⟩
set_option maxRecDepth 100000 in
theorem oM_139 : pMT[139]? = some mt_139 := rfl
def lst_140 : List (Nat × Instr × Nat) := [(0, .aload_n 0, 1), (1, .iload_n 1, 1), (2, .invokevirtual 120, 3), (5, .ifCond .eq 10, 3), (8, .iload_n 2, 1), (9, .invokestatic 201, 3), (12, .ifCond .ne 5, 3), (15, .iconst (-1), 1), (16, .ireturn, 1), (17, .aload_n 0, 1), (18, .invokevirtual 134, 3), (21, .aload_n 0, 1), (22, .getfield 47, 3), (25, .getfield 185, 3), (28, .getfield 124, 3), (31, .iconst (-1), 1), (32, .invokestatic 238, 3), (35, .aload_n 0, 1), (36, .getfield 47, 3), (39, .getfield 185, 3), (42, .getfield 124, 3), (45, .iload_n 1, 1), (46, .aload_n 0, 1), (47, .getfield 33, 3), (50, .getfield 124, 3), (53, .iload_n 1, 1), (54, .iaload, 1), (55, .iastore, 1), (56, .aload_n 0, 1), (57, .getfield 47, 3), (60, .iload_n 2, 1), (61, .invokevirtual 204, 3), (64, .aload_n 0, 1), (65, .getfield 47, 3), (68, .getfield 210, 3), (71, .iload_n 1, 1), (72, .iaload, 1), (73, .ireturn, 1)]
def I_140 : ra_I := (lst_140, fl_8, kt_8, kl_8, nl_8, ql_8, ml_8, ol_8, al_8, mml_8)
theorem dc_140 : ∀ q ∈ lst_140, decode mt_140.2.1 q.1 = .ok (q.2.1, q.2.2) := by decide +kernel
theorem oI_140 : ra_okI pT mt_140.1.cls "BathWater$Scene" vwCl pNW pMT mt_140.2.1 I_140 := ⟨dc_140, lnk_8⟩
set_option maxRecDepth 100000 in
theorem oM_140 : pMT[140]? = some mt_140 := rfl
def lst_141 : List (Nat × Instr × Nat) := [(0, .iload_n 1, 1), (1, .invokestatic 201, 3), (4, .ifCond .ne 5, 3), (7, .iconst (-1), 1), (8, .ireturn, 1), (9, .aload_n 0, 1), (10, .invokevirtual 134, 3), (13, .aload_n 0, 1), (14, .getfield 47, 3), (17, .iload_n 1, 1), (18, .invokevirtual 204, 3), (21, .iconst (-1), 1), (22, .istore_n 2, 1), (23, .iconst (-1), 1), (24, .istore_n 3, 1), (25, .iconst 0, 1), (26, .istore 4, 2), (28, .iload 4, 2), (30, .aload_n 0, 1), (31, .getfield 23, 3), (34, .getfield 89, 3), (37, .if_icmp .ge 37, 3), (40, .aload_n 0, 1), (41, .getfield 47, 3), (44, .getfield 210, 3), (47, .iload 4, 2), (49, .iaload, 1), (50, .iload_n 3, 1), (51, .if_icmp .le 17, 3), (54, .aload_n 0, 1), (55, .getfield 47, 3), (58, .getfield 210, 3), (61, .iload 4, 2), (63, .iaload, 1), (64, .istore_n 3, 1), (65, .iload 4, 2), (67, .istore_n 2, 1), (68, .iinc 4 1, 3), (71, .goto (-43), 3), (74, .iload_n 2, 1), (75, .ireturn, 1)]
def I_141 : ra_I := (lst_141, fl_8, kt_8, kl_8, nl_8, ql_8, ml_8, ol_8, al_8, mml_8)
theorem dc_141 : ∀ q ∈ lst_141, decode mt_141.2.1 q.1 = .ok (q.2.1, q.2.2) := by decide +kernel
theorem oI_141 : ra_okI pT mt_141.1.cls "BathWater$Scene" vwCl pNW pMT mt_141.2.1 I_141 := ⟨dc_141, lnk_8⟩
set_option maxRecDepth 100000 in
theorem oM_141 : pMT[141]? = some mt_141 := rfl
def lst_142 : List (Nat × Instr × Nat) := [(0, .iload_n 1, 1), (1, .invokestatic 201, 3), (4, .ifCond .eq 12, 3), (7, .iload_n 2, 1), (8, .iconst 0, 1), (9, .iconst 1, 1), (10, .invokestatic 126, 3), (13, .ifCond .ne 5, 3), (16, .iconst (-1), 1), (17, .ireturn, 1), (18, .iconst (-1), 1), (19, .istore_n 3, 1), (20, .iconst (-1), 1), (21, .istore 4, 2), (23, .iconst 0, 1), (24, .istore 5, 2), (26, .iload 5, 2), (28, .aload_n 0, 1), (29, .getfield 23, 3), (32, .getfield 117, 3), (35, .if_icmp .ge 46, 3), (38, .aload_n 0, 1), (39, .getfield 33, 3), (42, .getfield 147, 3), (45, .iload 5, 2), (47, .iaload, 1), (48, .ifCond .le 27, 3), (51, .aload_n 0, 1), (52, .iload 5, 2), (54, .iconst 0, 1), (55, .iload_n 1, 1), (56, .invokevirtual 279, 3), (59, .istore 6, 2), (61, .iload 6, 2), (63, .iload 4, 2), (65, .if_icmp .le 10, 3), (68, .iload 6, 2), (70, .istore 4, 2), (72, .iload 5, 2), (74, .istore_n 3, 1), (75, .iinc 5 1, 3), (78, .goto (-52), 3), (81, .iload_n 2, 1), (82, .ifCond .ne 7, 3), (85, .iload_n 3, 1), (86, .goto 5, 3), (89, .iload 4, 2), (91, .ireturn, 1)]
def I_142 : ra_I := (lst_142, fl_8, kt_8, kl_8, nl_8, ql_8, ml_8, ol_8, al_8, mml_8)
theorem dc_142 : ∀ q ∈ lst_142, decode mt_142.2.1 q.1 = .ok (q.2.1, q.2.2) := by decide +kernel
theorem oI_142 : ra_okI pT mt_142.1.cls "BathWater$Scene" vwCl pNW pMT mt_142.2.1 I_142 := ⟨dc_142, lnk_8⟩
set_option maxRecDepth 100000 in
theorem oM_142 : pMT[142]? = some mt_142 := rfl
def lst_143 : List (Nat × Instr × Nat) := [(0, .aload_n 0, 1), (1, .invokevirtual 134, 3), (4, .aload_n 0, 1), (5, .getfield 47, 3), (8, .getfield 185, 3), (11, .getfield 147, 3), (14, .iload_n 1, 1), (15, .iload_n 2, 1), (16, .iastore, 1), (17, .aload_n 0, 1), (18, .getfield 47, 3), (21, .iload_n 3, 1), (22, .invokevirtual 204, 3), (25, .aload_n 0, 1), (26, .getfield 47, 3), (29, .invokevirtual 244, 3), (32, .ireturn, 1)]
def I_143 : ra_I := (lst_143, fl_8, kt_8, kl_8, nl_8, ql_8, ml_8, ol_8, al_8, mml_8)
theorem dc_143 : ∀ q ∈ lst_143, decode mt_143.2.1 q.1 = .ok (q.2.1, q.2.2) := by decide +kernel
theorem oI_143 : ra_okI pT mt_143.1.cls "BathWater$Scene" vwCl pNW pMT mt_143.2.1 I_143 := ⟨dc_143, lnk_8⟩
set_option maxRecDepth 100000 in
theorem oM_143 : pMT[143]? = some mt_143 := rfl
def lst_144 : List (Nat × Instr × Nat) := [(0, .iload_n 1, 1), (1, .invokestatic 201, 3), (4, .ifCond .eq 22, 3), (7, .iload_n 2, 1), (8, .iconst 1, 1), (9, .bipush 99, 2), (11, .invokestatic 126, 3), (14, .ifCond .eq 12, 3), (17, .iload_n 3, 1), (18, .iconst 0, 1), (19, .iconst 1, 1), (20, .invokestatic 126, 3), (23, .ifCond .ne 5, 3), (26, .iconst (-1), 1), (27, .ireturn, 1), (28, .iconst (-1), 1), (29, .istore 4, 2), (31, .iconst (-1), 1), (32, .istore 5, 2), (34, .iconst 0, 1), (35, .istore 6, 2), (37, .iload 6, 2), (39, .aload_n 0, 1), (40, .getfield 23, 3), (43, .getfield 117, 3), (46, .if_icmp .ge 45, 3), (49, .aload_n 0, 1), (50, .iload 6, 2), (52, .aload_n 0, 1), (53, .getfield 33, 3), (56, .getfield 147, 3), (59, .iload 6, 2), (61, .iaload, 1), (62, .iload_n 2, 1), (63, .iadd, 1), (64, .iload_n 1, 1), (65, .invokevirtual 279, 3), (68, .istore 7, 2), (70, .iload 7, 2), (72, .iload 5, 2), (74, .if_icmp .le 11, 3), (77, .iload 7, 2), (79, .istore 5, 2), (81, .iload 6, 2), (83, .istore 4, 2), (85, .iinc 6 1, 3), (88, .goto (-51), 3), (91, .iload_n 3, 1), (92, .ifCond .ne 8, 3), (95, .iload 4, 2), (97, .goto 5, 3), (100, .iload 5, 2), (102, .ireturn, 1)]
def I_144 : ra_I := (lst_144, fl_8, kt_8, kl_8, nl_8, ql_8, ml_8, ol_8, al_8, mml_8)
theorem dc_144 : ∀ q ∈ lst_144, decode mt_144.2.1 q.1 = .ok (q.2.1, q.2.2) := by decide +kernel
theorem oI_144 : ra_okI pT mt_144.1.cls "BathWater$Scene" vwCl pNW pMT mt_144.2.1 I_144 := ⟨dc_144, lnk_8⟩
set_option maxRecDepth 100000 in
theorem oM_144 : pMT[144]? = some mt_144 := rfl
def lst_145 : List (Nat × Instr × Nat) := [(0, .iload_n 1, 1), (1, .invokestatic 201, 3), (4, .ifCond .eq 12, 3), (7, .iload_n 2, 1), (8, .iconst 0, 1), (9, .iconst 2, 1), (10, .invokestatic 126, 3), (13, .ifCond .ne 5, 3), (16, .iconst (-1), 1), (17, .ireturn, 1), (18, .iconst (-1), 1), (19, .istore_n 3, 1), (20, .aload_n 0, 1), (21, .iconst 0, 1), (22, .iconst 0, 1), (23, .iload_n 1, 1), (24, .invokevirtual 283, 3), (27, .istore 4, 2), (29, .iconst 0, 1), (30, .istore 5, 2), (32, .iload 5, 2), (34, .bipush 25, 2), (36, .if_icmp .ge 71, 3), (39, .iload 5, 2), (41, .iconst 5, 1), (42, .idiv, 1), (43, .istore 6, 2), (45, .iload 5, 2), (47, .iconst 5, 1), (48, .irem, 1), (49, .istore 7, 2), (51, .iload 6, 2), (53, .iload 7, 2), (55, .if_icmp .ge 46, 3), (58, .aload_n 0, 1), (59, .iload 6, 2), (61, .invokevirtual 171, 3), (64, .ifCond .eq 37, 3), (67, .aload_n 0, 1), (68, .iload 7, 2), (70, .invokevirtual 171, 3), (73, .ifCond .eq 28, 3), (76, .aload_n 0, 1), (77, .iload 6, 2), (79, .iload 7, 2), (81, .iload_n 1, 1), (82, .invokevirtual 283, 3), (85, .istore 8, 2), (87, .iload 8, 2), (89, .iload 4, 2), (91, .if_icmp .le 10, 3), (94, .iload 8, 2), (96, .istore 4, 2), (98, .iload 5, 2), (100, .istore_n 3, 1), (101, .iinc 5 1, 3), (104, .goto (-72), 3), (107, .iload_n 3, 1), (108, .iconst (-1), 1), (109, .if_icmp .ne 5, 3), (112, .iconst (-1), 1), (113, .ireturn, 1), (114, .iload_n 2, 1), (115, .lookupswitch 33 #[(0, 25), (1, 29)], 25), (140, .iload_n 3, 1), (141, .iconst 5, 1), (142, .idiv, 1), (143, .ireturn, 1), (144, .iload_n 3, 1), (145, .iconst 5, 1), (146, .irem, 1), (147, .ireturn, 1), (148, .iload 4, 2), (150, .ireturn, 1)]
def I_145 : ra_I := (lst_145, fl_8, kt_8, kl_8, nl_8, ql_8, ml_8, ol_8, al_8, mml_8)
theorem dc_145 : ∀ q ∈ lst_145, decode mt_145.2.1 q.1 = .ok (q.2.1, q.2.2) := by decide +kernel
theorem oI_145 : ra_okI pT mt_145.1.cls "BathWater$Scene" vwCl pNW pMT mt_145.2.1 I_145 := ⟨dc_145, lnk_8⟩
set_option maxRecDepth 100000 in
theorem oM_145 : pMT[145]? = some mt_145 := rfl
def lst_146 : List (Nat × Instr × Nat) := [(0, .aload_n 0, 1), (1, .invokevirtual 134, 3), (4, .aload_n 0, 1), (5, .getfield 47, 3), (8, .getfield 185, 3), (11, .getfield 124, 3), (14, .iload_n 1, 1), (15, .aload_n 0, 1), (16, .getfield 33, 3), (19, .getfield 124, 3), (22, .iload_n 2, 1), (23, .iaload, 1), (24, .iastore, 1), (25, .aload_n 0, 1), (26, .getfield 47, 3), (29, .getfield 185, 3), (32, .getfield 124, 3), (35, .iload_n 2, 1), (36, .aload_n 0, 1), (37, .getfield 33, 3), (40, .getfield 124, 3), (43, .iload_n 1, 1), (44, .iaload, 1), (45, .iastore, 1), (46, .aload_n 0, 1), (47, .getfield 47, 3), (50, .iload_n 3, 1), (51, .invokevirtual 204, 3), (54, .aload_n 0, 1), (55, .getfield 47, 3), (58, .invokevirtual 244, 3), (61, .ireturn, 1)]
def I_146 : ra_I := (lst_146, fl_8, kt_8, kl_8, nl_8, ql_8, ml_8, ol_8, al_8, mml_8)
theorem dc_146 : ∀ q ∈ lst_146, decode mt_146.2.1 q.1 = .ok (q.2.1, q.2.2) := by decide +kernel
theorem oI_146 : ra_okI pT mt_146.1.cls "BathWater$Scene" vwCl pNW pMT mt_146.2.1 I_146 := ⟨dc_146, lnk_8⟩
set_option maxRecDepth 100000 in
theorem oM_146 : pMT[146]? = some mt_146 := rfl
def lst_147 : List (Nat × Instr × Nat) := [(0, .iload_n 1, 1), (1, .invokestatic 201, 3), (4, .ifCond .eq 12, 3), (7, .iload_n 2, 1), (8, .iconst 0, 1), (9, .iconst 1, 1), (10, .invokestatic 126, 3), (13, .ifCond .ne 5, 3), (16, .iconst (-1), 1), (17, .ireturn, 1), (18, .aload_n 0, 1), (19, .invokevirtual 286, 3), (22, .istore_n 3, 1), (23, .iload_n 3, 1), (24, .istore 4, 2), (26, .iconst 0, 1), (27, .istore 5, 2), (29, .iload 5, 2), (31, .iload_n 3, 1), (32, .if_icmp .ge 57, 3), (35, .iload 5, 2), (37, .invokestatic 289, 3), (40, .iload 4, 2), (42, .invokestatic 289, 3), (45, .if_icmp .ge 7, 3), (48, .iconst 1, 1), (49, .goto 4, 3), (52, .iconst 0, 1), (53, .istore 6, 2), (55, .iload 5, 2), (57, .iload_n 3, 1), (58, .iconst (-1), 1), (59, .ixor, 1), (60, .iand, 1), (61, .ifCond .ne 22, 3), (64, .iload 6, 2), (66, .ifCond .eq 17, 3), (69, .aload_n 0, 1), (70, .iload 5, 2), (72, .iload_n 1, 1), (73, .invokevirtual 294, 3), (76, .ifCond .eq 7, 3), (79, .iload 5, 2), (81, .istore 4, 2), (83, .iinc 5 1, 3), (86, .goto (-57), 3), (89, .iload_n 2, 1), (90, .ifCond .ne 11, 3), (93, .iload 4, 2), (95, .invokestatic 289, 3), (98, .goto 5, 3), (101, .iload 4, 2), (103, .ireturn, 1)]
def I_147 : ra_I := (lst_147, fl_8, kt_8, kl_8, nl_8, ql_8, ml_8, ol_8, al_8, mml_8)
theorem dc_147 : ∀ q ∈ lst_147, decode mt_147.2.1 q.1 = .ok (q.2.1, q.2.2) := by decide +kernel
theorem oI_147 : ra_okI pT mt_147.1.cls "BathWater$Scene" vwCl pNW pMT mt_147.2.1 I_147 := ⟨dc_147, lnk_8⟩
set_option maxRecDepth 100000 in
theorem oM_147 : pMT[147]? = some mt_147 := rfl
def lst_148 : List (Nat × Instr × Nat) := [(0, .iconst 0, 1), (1, .istore_n 1, 1), (2, .iconst 0, 1), (3, .istore_n 2, 1), (4, .iload_n 2, 1), (5, .aload_n 0, 1), (6, .getfield 23, 3), (9, .getfield 89, 3), (12, .if_icmp .ge 27, 3), (15, .aload_n 0, 1), (16, .getfield 33, 3), (19, .getfield 124, 3), (22, .iload_n 2, 1), (23, .iaload, 1), (24, .ifCond .lt 9, 3), (27, .iload_n 1, 1), (28, .iconst 1, 1), (29, .iload_n 2, 1), (30, .ishl, 1), (31, .ior, 1), (32, .istore_n 1, 1), (33, .iinc 2 1, 3), (36, .goto (-32), 3), (39, .iload_n 1, 1), (40, .ireturn, 1)]
def I_148 : ra_I := (lst_148, fl_8, kt_8, kl_8, nl_8, ql_8, ml_8, ol_8, al_8, mml_8)
theorem dc_148 : ∀ q ∈ lst_148, decode mt_148.2.1 q.1 = .ok (q.2.1, q.2.2) := by decide +kernel
theorem oI_148 : ra_okI pT mt_148.1.cls "BathWater$Scene" vwCl pNW pMT mt_148.2.1 I_148 := ⟨dc_148, lnk_8⟩
set_option maxRecDepth 100000 in
theorem oM_148 : pMT[148]? = some mt_148 := rfl
def lst_149 : List (Nat × Instr × Nat) := [(0, .iload_n 0, 1), (1, .iload_n 0, 1), (2, .iconst 1, 1), (3, .iushr, 1), (4, .ldc_w 265, 3), (7, .iand, 1), (8, .isub, 1), (9, .istore_n 0, 1), (10, .iload_n 0, 1), (11, .ldc_w 266, 3), (14, .iand, 1), (15, .iload_n 0, 1), (16, .iconst 2, 1), (17, .iushr, 1), (18, .ldc_w 266, 3), (21, .iand, 1), (22, .iadd, 1), (23, .istore_n 0, 1), (24, .iload_n 0, 1), (25, .iload_n 0, 1), (26, .iconst 4, 1), (27, .iushr, 1), (28, .iadd, 1), (29, .ldc_w 267, 3), (32, .iand, 1), (33, .istore_n 0, 1), (34, .iload_n 0, 1), (35, .iload_n 0, 1), (36, .bipush 8, 2), (38, .iushr, 1), (39, .iadd, 1), (40, .istore_n 0, 1), (41, .iload_n 0, 1), (42, .iload_n 0, 1), (43, .bipush 16, 2), (45, .iushr, 1), (46, .iadd, 1), (47, .istore_n 0, 1), (48, .iload_n 0, 1), (49, .bipush 63, 2), (51, .iand, 1), (52, .ireturn, 1)]
def I_149 : ra_I := (lst_149, fl_13, kt_13, kl_13, nl_13, ql_13, ml_13, ol_13, al_13, mml_13)
theorem dc_149 : ∀ q ∈ lst_149, decode mt_149.2.1 q.1 = .ok (q.2.1, q.2.2) := by decide +kernel
theorem oI_149 : ra_okI pT mt_149.1.cls "BathWater$Scene" vwCl pNW pMT mt_149.2.1 I_149 := ⟨dc_149, lnk_13⟩
set_option maxRecDepth 100000 in
theorem oM_149 : pMT[149]? = some mt_149 := rfl
def lst_150 : List (Nat × Instr × Nat) := [(0, .aload_n 0, 1), (1, .invokevirtual 134, 3), (4, .iconst 0, 1), (5, .istore_n 3, 1), (6, .iload_n 3, 1), (7, .aload_n 0, 1), (8, .getfield 23, 3), (11, .getfield 89, 3), (14, .if_icmp .ge 30, 3), (17, .iload_n 1, 1), (18, .iload_n 3, 1), (19, .ishr, 1), (20, .iconst 1, 1), (21, .iand, 1), (22, .ifCond .eq 16, 3), (25, .aload_n 0, 1), (26, .getfield 47, 3), (29, .getfield 185, 3), (32, .getfield 124, 3), (35, .iload_n 3, 1), (36, .iconst (-1), 1), (37, .iastore, 1), (38, .iinc 3 1, 3), (41, .goto (-35), 3), (44, .aload_n 0, 1), (45, .getfield 47, 3), (48, .iload_n 2, 1), (49, .invokevirtual 204, 3), (52, .aload_n 0, 1), (53, .getfield 47, 3), (56, .invokevirtual 297, 3), (59, .ifCond .ne 7, 3), (62, .iconst 1, 1), (63, .goto 4, 3), (66, .iconst 0, 1), (67, .ireturn, 1)]
def I_150 : ra_I := (lst_150, fl_8, kt_8, kl_8, nl_8, ql_8, ml_8, ol_8, al_8, mml_8)
theorem dc_150 : ∀ q ∈ lst_150, decode mt_150.2.1 q.1 = .ok (q.2.1, q.2.2) := by decide +kernel
theorem oI_150 : ra_okI pT mt_150.1.cls "BathWater$Scene" vwCl pNW pMT mt_150.2.1 I_150 := ⟨dc_150, lnk_8⟩
set_option maxRecDepth 100000 in
theorem oM_150 : pMT[150]? = some mt_150 := rfl
def lst_151 : List (Nat × Instr × Nat) := [(0, .iconst 0, 1), (1, .istore_n 1, 1), (2, .iconst 0, 1), (3, .istore_n 2, 1), (4, .iload_n 2, 1), (5, .aload_n 0, 1), (6, .getfield 12, 3), (9, .getfield 98, 3), (12, .if_icmp .ge 36, 3), (15, .aload_n 0, 1), (16, .getfield 21, 3), (19, .getfield 74, 3), (22, .iload_n 2, 1), (23, .iaload, 1), (24, .ifCond .lt 18, 3), (27, .aload_n 0, 1), (28, .getfield 25, 3), (31, .iload_n 2, 1), (32, .iaload, 1), (33, .ifCond .ne 9, 3), (36, .iload_n 1, 1), (37, .iconst 1, 1), (38, .iload_n 2, 1), (39, .ishl, 1), (40, .ior, 1), (41, .istore_n 1, 1), (42, .iinc 2 1, 3), (45, .goto (-41), 3), (48, .iload_n 1, 1), (49, .ireturn, 1)]
def I_151 : ra_I := (lst_151, fl_1, kt_1, kl_1, nl_1, ql_1, ml_1, ol_1, al_1, mml_1)
theorem dc_151 : ∀ q ∈ lst_151, decode mt_151.2.1 q.1 = .ok (q.2.1, q.2.2) := by decide +kernel
theorem oI_151 : ra_okI pT mt_151.1.cls "BathWater$Scene" vwCl pNW pMT mt_151.2.1 I_151 := ⟨dc_151, lnk_1⟩
set_option maxRecDepth 100000 in
theorem oM_151 : pMT[151]? = some mt_151 := rfl
def lst_152 : List (Nat × Instr × Nat) := [(0, .aload_n 0, 1), (1, .iload_n 1, 1), (2, .invokevirtual 144, 3), (5, .ifCond .eq 14, 3), (8, .iload_n 2, 1), (9, .iconst 0, 1), (10, .sipush 999, 3), (13, .invokestatic 126, 3), (16, .ifCond .ne 5, 3), (19, .iconst (-1), 1), (20, .ireturn, 1), (21, .aload_n 0, 1), (22, .invokevirtual 134, 3), (25, .iconst 0, 1), (26, .istore_n 3, 1), (27, .iload_n 3, 1), (28, .bipush 60, 2), (30, .if_icmp .gt 35, 3), (33, .aload_n 0, 1), (34, .getfield 47, 3), (37, .getfield 185, 3), (40, .getfield 147, 3), (43, .iload_n 1, 1), (44, .iaload, 1), (45, .iload_n 2, 1), (46, .if_icmp .lt 5, 3), (49, .iload_n 3, 1), (50, .ireturn, 1), (51, .aload_n 0, 1), (52, .getfield 47, 3), (55, .iconst 0, 1), (56, .invokevirtual 213, 3), (59, .iinc 3 1, 3), (62, .goto (-35), 3), (65, .iconst (-1), 1), (66, .ireturn, 1)]
def I_152 : ra_I := (lst_152, fl_8, kt_8, kl_8, nl_8, ql_8, ml_8, ol_8, al_8, mml_8)
theorem dc_152 : ∀ q ∈ lst_152, decode mt_152.2.1 q.1 = .ok (q.2.1, q.2.2) := by decide +kernel
theorem oI_152 : ra_okI pT mt_152.1.cls "BathWater$Scene" vwCl pNW pMT mt_152.2.1 I_152 := ⟨dc_152, lnk_8⟩
set_option maxRecDepth 100000 in
theorem oM_152 : pMT[152]? = some mt_152 := rfl
def lst_153 : List (Nat × Instr × Nat) := [(0, .aload_n 0, 1), (1, .iload_n 1, 1), (2, .invokevirtual 144, 3), (5, .ifCond .eq 11, 3), (8, .aload_n 0, 1), (9, .iload_n 2, 1), (10, .invokevirtual 144, 3), (13, .ifCond .ne 5, 3), (16, .iconst (-1), 1), (17, .ireturn, 1), (18, .aload_n 0, 1), (19, .iload_n 1, 1), (20, .iload_n 2, 1), (21, .invokestatic 300, 3), (24, .iload_n 1, 1), (25, .iload_n 2, 1), (26, .invokestatic 305, 3), (29, .invokevirtual 308, 3), (32, .ireturn, 1)]
def I_153 : ra_I := (lst_153, fl_8, kt_8, kl_8, nl_8, ql_8, ml_8, ol_8, al_8, mml_8)
theorem dc_153 : ∀ q ∈ lst_153, decode mt_153.2.1 q.1 = .ok (q.2.1, q.2.2) := by decide +kernel
theorem oI_153 : ra_okI pT mt_153.1.cls "BathWater$Scene" vwCl pNW pMT mt_153.2.1 I_153 := ⟨dc_153, lnk_8⟩
set_option maxRecDepth 100000 in
theorem oM_153 : pMT[153]? = some mt_153 := rfl
def lst_154 : List (Nat × Instr × Nat) := [(0, .iconst 0, 1), (1, .istore_n 3, 1), (2, .iload_n 1, 1), (3, .istore 4, 2), (5, .iload 4, 2), (7, .iload_n 2, 1), (8, .if_icmp .gt 22, 3), (11, .iload_n 3, 1), (12, .aload_n 0, 1), (13, .getfield 33, 3), (16, .getfield 147, 3), (19, .iload 4, 2), (21, .iaload, 1), (22, .iadd, 1), (23, .istore_n 3, 1), (24, .iinc 4 1, 3), (27, .goto (-22), 3), (30, .iload_n 3, 1), (31, .ireturn, 1)]
def I_154 : ra_I := (lst_154, fl_8, kt_8, kl_8, nl_8, ql_8, ml_8, ol_8, al_8, mml_8)
theorem dc_154 : ∀ q ∈ lst_154, decode mt_154.2.1 q.1 = .ok (q.2.1, q.2.2) := by decide +kernel
theorem oI_154 : ra_okI pT mt_154.1.cls "BathWater$Scene" vwCl pNW pMT mt_154.2.1 I_154 := ⟨dc_154, lnk_8⟩
set_option maxRecDepth 100000 in
theorem oM_154 : pMT[154]? = some mt_154 := rfl
def lst_155 : List (Nat × Instr × Nat) := [(0, .iconst (-1), 1), (1, .istore_n 1, 1), (2, .iconst (-1), 1), (3, .istore_n 2, 1), (4, .iconst 0, 1), (5, .istore_n 3, 1), (6, .iload_n 3, 1), (7, .aload_n 0, 1), (8, .getfield 23, 3), (11, .getfield 117, 3), (14, .if_icmp .ge 34, 3), (17, .aload_n 0, 1), (18, .getfield 33, 3), (21, .getfield 147, 3), (24, .iload_n 3, 1), (25, .iaload, 1), (26, .ifCond .le 16, 3), (29, .iload_n 1, 1), (30, .iconst (-1), 1), (31, .if_icmp .ne 7, 3), (34, .iload_n 3, 1), (35, .goto 4, 3), (38, .iload_n 1, 1), (39, .istore_n 1, 1), (40, .iload_n 3, 1), (41, .istore_n 2, 1), (42, .iinc 3 1, 3), (45, .goto (-39), 3), (48, .iload_n 1, 1), (49, .iconst (-1), 1), (50, .if_icmp .ne 7, 3), (53, .iconst 0, 1), (54, .goto 8, 3), (57, .iload_n 2, 1), (58, .iload_n 1, 1), (59, .isub, 1), (60, .iconst 1, 1), (61, .iadd, 1), (62, .ireturn, 1)]
def I_155 : ra_I := (lst_155, fl_8, kt_8, kl_8, nl_8, ql_8, ml_8, ol_8, al_8, mml_8)
theorem dc_155 : ∀ q ∈ lst_155, decode mt_155.2.1 q.1 = .ok (q.2.1, q.2.2) := by decide +kernel
theorem oI_155 : ra_okI pT mt_155.1.cls "BathWater$Scene" vwCl pNW pMT mt_155.2.1 I_155 := ⟨dc_155, lnk_8⟩
set_option maxRecDepth 100000 in
theorem oM_155 : pMT[155]? = some mt_155 := rfl
def lst_156 : List (Nat × Instr × Nat) := [(0, .aload_n 0, 1), (1, .invokevirtual 150, 3), (4, .astore_n 1, 1), (5, .iconst 0, 1), (6, .istore_n 2, 1), (7, .iconst 0, 1), (8, .istore_n 3, 1), (9, .iload_n 3, 1), (10, .aload_n 0, 1), (11, .getfield 23, 3), (14, .getfield 117, 3), (17, .if_icmp .ge 22, 3), (20, .aload_n 1, 1), (21, .iload_n 3, 1), (22, .iaload, 1), (23, .iconst (-1), 1), (24, .if_icmp .eq 9, 3), (27, .iload_n 2, 1), (28, .iconst 1, 1), (29, .iload_n 3, 1), (30, .ishl, 1), (31, .ior, 1), (32, .istore_n 2, 1), (33, .iinc 3 1, 3), (36, .goto (-27), 3), (39, .iload_n 2, 1), (40, .ireturn, 1)]
def I_156 : ra_I := (lst_156, fl_8, kt_8, kl_8, nl_8, ql_8, ml_8, ol_8, al_8, mml_8)
theorem dc_156 : ∀ q ∈ lst_156, decode mt_156.2.1 q.1 = .ok (q.2.1, q.2.2) := by decide +kernel
theorem oI_156 : ra_okI pT mt_156.1.cls "BathWater$Scene" vwCl pNW pMT mt_156.2.1 I_156 := ⟨dc_156, lnk_8⟩
set_option maxRecDepth 100000 in
theorem oM_156 : pMT[156]? = some mt_156 := rfl
def lst_157 : List (Nat × Instr × Nat) := [(0, .iconst 0, 1), (1, .istore_n 1, 1), (2, .iconst 1, 1), (3, .istore_n 2, 1), (4, .iload_n 2, 1), (5, .aload_n 0, 1), (6, .getfield 23, 3), (9, .getfield 117, 3), (12, .if_icmp .ge 32, 3), (15, .aload_n 0, 1), (16, .getfield 33, 3), (19, .getfield 147, 3), (22, .iload_n 2, 1), (23, .iaload, 1), (24, .aload_n 0, 1), (25, .getfield 33, 3), (28, .getfield 147, 3), (31, .iload_n 1, 1), (32, .iaload, 1), (33, .if_icmp .le 5, 3), (36, .iload_n 2, 1), (37, .istore_n 1, 1), (38, .iinc 2 1, 3), (41, .goto (-37), 3), (44, .iload_n 1, 1), (45, .ireturn, 1)]
def I_157 : ra_I := (lst_157, fl_8, kt_8, kl_8, nl_8, ql_8, ml_8, ol_8, al_8, mml_8)
theorem dc_157 : ∀ q ∈ lst_157, decode mt_157.2.1 q.1 = .ok (q.2.1, q.2.2) := by decide +kernel
theorem oI_157 : ra_okI pT mt_157.1.cls "BathWater$Scene" vwCl pNW pMT mt_157.2.1 I_157 := ⟨dc_157, lnk_8⟩
set_option maxRecDepth 100000 in
theorem oM_157 : pMT[157]? = some mt_157 := rfl
def lst_158 : List (Nat × Instr × Nat) := [(0, .aload_n 0, 1), (1, .invokevirtual 150, 3), (4, .astore_n 1, 1), (5, .iconst (-1), 1), (6, .istore_n 2, 1), (7, .iconst (-1), 1), (8, .istore_n 3, 1), (9, .iconst 0, 1), (10, .istore 4, 2), (12, .iload 4, 2), (14, .aload_n 0, 1), (15, .getfield 23, 3), (18, .getfield 89, 3), (21, .if_icmp .ge 42, 3), (24, .aload_n 0, 1), (25, .iload 4, 2), (27, .aload_n 1, 1), (28, .invokevirtual 167, 3), (31, .invokestatic 289, 3), (34, .istore 5, 2), (36, .aload_n 0, 1), (37, .iload 4, 2), (39, .invokevirtual 171, 3), (42, .ifCond .eq 15, 3), (45, .iload 5, 2), (47, .iload_n 3, 1), (48, .if_icmp .le 9, 3), (51, .iload 5, 2), (53, .istore_n 3, 1), (54, .iload 4, 2), (56, .istore_n 2, 1), (57, .iinc 4 1, 3), (60, .goto (-48), 3), (63, .iload_n 2, 1), (64, .ireturn, 1)]
def I_158 : ra_I := (lst_158, fl_8, kt_8, kl_8, nl_8, ql_8, ml_8, ol_8, al_8, mml_8)
theorem dc_158 : ∀ q ∈ lst_158, decode mt_158.2.1 q.1 = .ok (q.2.1, q.2.2) := by decide +kernel
theorem oI_158 : ra_okI pT mt_158.1.cls "BathWater$Scene" vwCl pNW pMT mt_158.2.1 I_158 := ⟨dc_158, lnk_8⟩
set_option maxRecDepth 100000 in
theorem oM_158 : pMT[158]? = some mt_158 := rfl
def lst_159 : List (Nat × Instr × Nat) := [(0, .iload_n 1, 1), (1, .invokestatic 201, 3), (4, .ifCond .ne 5, 3), (7, .iconst (-1), 1), (8, .ireturn, 1), (9, .aload_n 0, 1), (10, .invokevirtual 134, 3), (13, .aload_n 0, 1), (14, .getfield 47, 3), (17, .iload_n 1, 1), (18, .invokevirtual 204, 3), (21, .aload_n 0, 1), (22, .getfield 47, 3), (25, .invokevirtual 297, 3), (28, .ireturn, 1)]
def I_159 : ra_I := (lst_159, fl_8, kt_8, kl_8, nl_8, ql_8, ml_8, ol_8, al_8, mml_8)
theorem dc_159 : ∀ q ∈ lst_159, decode mt_159.2.1 q.1 = .ok (q.2.1, q.2.2) := by decide +kernel
theorem oI_159 : ra_okI pT mt_159.1.cls "BathWater$Scene" vwCl pNW pMT mt_159.2.1 I_159 := ⟨dc_159, lnk_8⟩
set_option maxRecDepth 100000 in
theorem oM_159 : pMT[159]? = some mt_159 := rfl
def lst_160 : List (Nat × Instr × Nat) := [(0, .aload_n 0, 1), (1, .iload_n 1, 1), (2, .invokevirtual 144, 3), (5, .ifCond .eq 10, 3), (8, .iload_n 2, 1), (9, .invokestatic 201, 3), (12, .ifCond .ne 5, 3), (15, .iconst (-1), 1), (16, .ireturn, 1), (17, .aload_n 0, 1), (18, .invokevirtual 134, 3), (21, .aload_n 0, 1), (22, .getfield 47, 3), (25, .getfield 185, 3), (28, .getfield 147, 3), (31, .iload_n 1, 1), (32, .iaload, 1), (33, .istore_n 3, 1), (34, .iconst 0, 1), (35, .istore 4, 2), (37, .iload 4, 2), (39, .iload_n 2, 1), (40, .if_icmp .ge 34, 3), (43, .aload_n 0, 1), (44, .getfield 47, 3), (47, .iconst 0, 1), (48, .invokevirtual 213, 3), (51, .iload_n 3, 1), (52, .aload_n 0, 1), (53, .getfield 47, 3), (56, .getfield 185, 3), (59, .getfield 147, 3), (62, .iload_n 1, 1), (63, .iaload, 1), (64, .invokestatic 305, 3), (67, .istore_n 3, 1), (68, .iinc 4 1, 3), (71, .goto (-34), 3), (74, .iload_n 3, 1), (75, .ireturn, 1)]
def I_160 : ra_I := (lst_160, fl_8, kt_8, kl_8, nl_8, ql_8, ml_8, ol_8, al_8, mml_8)
theorem dc_160 : ∀ q ∈ lst_160, decode mt_160.2.1 q.1 = .ok (q.2.1, q.2.2) := by decide +kernel
theorem oI_160 : ra_okI pT mt_160.1.cls "BathWater$Scene" vwCl pNW pMT mt_160.2.1 I_160 := ⟨dc_160, lnk_8⟩
set_option maxRecDepth 100000 in
theorem oM_160 : pMT[160]? = some mt_160 := rfl
def lst_161 : List (Nat × Instr × Nat) := [(0, .iload_n 1, 1), (1, .invokestatic 201, 3), (4, .ifCond .eq 13, 3), (7, .iload_n 2, 1), (8, .iconst 0, 1), (9, .bipush 99, 2), (11, .invokestatic 126, 3), (14, .ifCond .ne 5, 3), (17, .iconst (-1), 1), (18, .ireturn, 1), (19, .aload_n 0, 1), (20, .invokevirtual 134, 3), (23, .aload_n 0, 1), (24, .getfield 47, 3), (27, .getfield 185, 3), (30, .getfield 158, 3), (33, .iload_n 2, 1), (34, .invokestatic 238, 3), (37, .aload_n 0, 1), (38, .getfield 47, 3), (41, .iload_n 1, 1), (42, .invokevirtual 204, 3), (45, .aload_n 0, 1), (46, .getfield 47, 3), (49, .invokevirtual 244, 3), (52, .ireturn, 1)]
def I_161 : ra_I := (lst_161, fl_8, kt_8, kl_8, nl_8, ql_8, ml_8, ol_8, al_8, mml_8)
theorem dc_161 : ∀ q ∈ lst_161, decode mt_161.2.1 q.1 = .ok (q.2.1, q.2.2) := by decide +kernel
theorem oI_161 : ra_okI pT mt_161.1.cls "BathWater$Scene" vwCl pNW pMT mt_161.2.1 I_161 := ⟨dc_161, lnk_8⟩
set_option maxRecDepth 100000 in
theorem oM_161 : pMT[161]? = some mt_161 := rfl
def lst_162 : List (Nat × Instr × Nat) := [(0, .iload_n 1, 1), (1, .iconst 0, 1), (2, .iconst 4, 1), (3, .invokestatic 126, 3), (6, .ifCond .eq 12, 3), (9, .iload_n 2, 1), (10, .iconst 0, 1), (11, .iconst 1, 1), (12, .invokestatic 126, 3), (15, .ifCond .ne 5, 3), (18, .iconst (-1), 1), (19, .ireturn, 1), (20, .iconst 1, 1), (21, .istore_n 3, 1), (22, .iconst 1, 1), (23, .istore 4, 2), (25, .iconst 0, 1), (26, .istore 5, 2), (28, .iload 5, 2), (30, .iload_n 1, 1), (31, .if_icmp .ge 29, 3), (34, .iload_n 3, 1), (35, .bipush 100, 2), (37, .aload_n 0, 1), (38, .getfield 23, 3), (41, .getfield 311, 3), (44, .isub, 1), (45, .imul, 1), (46, .istore_n 3, 1), (47, .iload 4, 2), (49, .bipush 100, 2), (51, .imul, 1), (52, .istore 4, 2), (54, .iinc 5 1, 3), (57, .goto (-29), 3), (60, .iload_n 3, 1), (61, .iload 4, 2), (63, .invokestatic 314, 3), (66, .istore 5, 2), (68, .iload 5, 2), (70, .ifCond .ne 5, 3), (73, .iconst (-1), 1), (74, .ireturn, 1), (75, .iload_n 2, 1), (76, .ifCond .ne 10, 3), (79, .iload_n 3, 1), (80, .iload 5, 2), (82, .idiv, 1), (83, .goto 8, 3), (86, .iload 4, 2), (88, .iload 5, 2), (90, .idiv, 1), (91, .ireturn, 1)]
def I_162 : ra_I := (lst_162, fl_8, kt_8, kl_8, nl_8, ql_8, ml_8, ol_8, al_8, mml_8)
theorem dc_162 : ∀ q ∈ lst_162, decode mt_162.2.1 q.1 = .ok (q.2.1, q.2.2) := by decide +kernel
theorem oI_162 : ra_okI pT mt_162.1.cls "BathWater$Scene" vwCl pNW pMT mt_162.2.1 I_162 := ⟨dc_162, lnk_8⟩
set_option maxRecDepth 100000 in
theorem oM_162 : pMT[162]? = some mt_162 := rfl
def lst_163 : List (Nat × Instr × Nat) := [(0, .iload_n 0, 1), (1, .istore_n 2, 1), (2, .iload_n 1, 1), (3, .istore_n 3, 1), (4, .iconst 0, 1), (5, .istore 4, 2), (7, .iload 4, 2), (9, .bipush 100, 2), (11, .if_icmp .ge 23, 3), (14, .iload_n 3, 1), (15, .ifCond .eq 19, 3), (18, .iload_n 2, 1), (19, .iload_n 3, 1), (20, .irem, 1), (21, .istore 5, 2), (23, .iload_n 3, 1), (24, .istore_n 2, 1), (25, .iload 5, 2), (27, .istore_n 3, 1), (28, .iinc 4 1, 3), (31, .goto (-24), 3), (34, .iload_n 2, 1), (35, .ireturn, 1)]
def I_163 : ra_I := (lst_163, fl_8, kt_8, kl_8, nl_8, ql_8, ml_8, ol_8, al_8, mml_8)
theorem dc_163 : ∀ q ∈ lst_163, decode mt_163.2.1 q.1 = .ok (q.2.1, q.2.2) := by decide +kernel
theorem oI_163 : ra_okI pT mt_163.1.cls "BathWater$Scene" vwCl pNW pMT mt_163.2.1 I_163 := ⟨dc_163, lnk_8⟩
set_option maxRecDepth 100000 in
theorem oM_163 : pMT[163]? = some mt_163 := rfl
def lst_164 : List (Nat × Instr × Nat) := [(0, .iload_n 1, 1), (1, .ifCond .lt 20, 3), (4, .iload_n 1, 1), (5, .aload_n 0, 1), (6, .getfield 105, 3), (9, .if_icmp .ge 12, 3), (12, .aload_n 0, 1), (13, .getfield 55, 3), (16, .iload_n 1, 1), (17, .iaload, 1), (18, .goto 4, 3), (21, .iconst (-1), 1), (22, .ireturn, 1)]
def I_164 : ra_I := (lst_164, fl_8, kt_8, kl_8, nl_8, ql_8, ml_8, ol_8, al_8, mml_8)
theorem dc_164 : ∀ q ∈ lst_164, decode mt_164.2.1 q.1 = .ok (q.2.1, q.2.2) := by decide +kernel
theorem oI_164 : ra_okI pT mt_164.1.cls "BathWater$Scene" vwCl pNW pMT mt_164.2.1 I_164 := ⟨dc_164, lnk_8⟩
set_option maxRecDepth 100000 in
theorem oM_164 : pMT[164]? = some mt_164 := rfl
def lst_165 : List (Nat × Instr × Nat) := [(0, .iload_n 1, 1), (1, .iconst 0, 1), (2, .bipush 9, 2), (4, .invokestatic 126, 3), (7, .ifCond .eq 22, 3), (10, .aload_n 0, 1), (11, .iload_n 2, 1), (12, .invokevirtual 144, 3), (15, .ifCond .eq 14, 3), (18, .iload_n 3, 1), (19, .iconst 0, 1), (20, .sipush 999, 3), (23, .invokestatic 126, 3), (26, .ifCond .ne 5, 3), (29, .iconst (-1), 1), (30, .ireturn, 1), (31, .aload_n 0, 1), (32, .getfield 23, 3), (35, .getfield 89, 3), (38, .ifCond .eq 15, 3), (41, .aload_n 0, 1), (42, .getfield 70, 3), (45, .getfield 102, 3), (48, .bipush 30, 2), (50, .if_icmp .lt 5, 3), (53, .iconst (-1), 1), (54, .ireturn, 1), (55, .aload_n 0, 1), (56, .getfield 70, 3), (59, .iload_n 1, 1), (60, .iload_n 2, 1), (61, .iload_n 3, 1), (62, .iload 4, 2), (64, .aload_n 0, 1), (65, .getfield 317, 3), (68, .invokevirtual 320, 3), (71, .ireturn, 1)]
def I_165 : ra_I := (lst_165, fl_8, kt_8, kl_8, nl_8, ql_8, ml_8, ol_8, al_8, mml_8)
theorem dc_165 : ∀ q ∈ lst_165, decode mt_165.2.1 q.1 = .ok (q.2.1, q.2.2) := by decide +kernel
theorem oI_165 : ra_okI pT mt_165.1.cls "BathWater$Scene" vwCl pNW pMT mt_165.2.1 I_165 := ⟨dc_165, lnk_8⟩
set_option maxRecDepth 100000 in
theorem oM_165 : pMT[165]? = some mt_165 := rfl
def lst_166 : List (Nat × Instr × Nat) := [(0, .aload_n 0, 1), (1, .getfield 37, 3), (4, .bipush 30, 2), (6, .if_icmp .lt 5, 3), (9, .iconst (-1), 1), (10, .ireturn, 1), (11, .aload_n 0, 1), (12, .getfield 9, 3), (15, .aload_n 0, 1), (16, .getfield 37, 3), (19, .iload_n 1, 1), (20, .iastore, 1), (21, .aload_n 0, 1), (22, .getfield 15, 3), (25, .aload_n 0, 1), (26, .getfield 37, 3), (29, .iload_n 2, 1), (30, .iastore, 1), (31, .aload_n 0, 1), (32, .getfield 18, 3), (35, .aload_n 0, 1), (36, .getfield 37, 3), (39, .iload_n 3, 1), (40, .iastore, 1), (41, .aload_n 0, 1), (42, .getfield 21, 3), (45, .aload_n 0, 1), (46, .getfield 37, 3), (49, .iload 4, 2), (51, .bastore, 1), (52, .aload_n 0, 1), (53, .getfield 25, 3), (56, .aload_n 0, 1), (57, .getfield 37, 3), (60, .iload 5, 2), (62, .iastore, 1), (63, .aload_n 0, 1), (64, .getfield 28, 3), (67, .aload_n 0, 1), (68, .getfield 37, 3), (71, .iconst (-1), 1), (72, .iastore, 1), (73, .aload_n 0, 1), (74, .dup, 1), (75, .getfield 37, 3), (78, .iconst 1, 1), (79, .iadd, 1), (80, .putfield 37, 3), (83, .aload_n 0, 1), (84, .getfield 37, 3), (87, .iconst 1, 1), (88, .isub, 1), (89, .ireturn, 1)]
def I_166 : ra_I := (lst_166, fl_2, kt_2, kl_2, nl_2, ql_2, ml_2, ol_2, al_2, mml_2)
theorem dc_166 : ∀ q ∈ lst_166, decode mt_166.2.1 q.1 = .ok (q.2.1, q.2.2) := by decide +kernel
theorem oI_166 : ra_okI pT mt_166.1.cls "BathWater$Scene" vwCl pNW pMT mt_166.2.1 I_166 := ⟨dc_166, lnk_2⟩
set_option maxRecDepth 100000 in
theorem oM_166 : pMT[166]? = some mt_166 := rfl
def lst_167 : List (Nat × Instr × Nat) := [(0, .aload_n 0, 1), (1, .getfield 70, 3), (4, .iload_n 1, 1), (5, .aload_n 0, 1), (6, .getfield 317, 3), (9, .invokevirtual 324, 3), (12, .ireturn, 1)]
def I_167 : ra_I := (lst_167, fl_8, kt_8, kl_8, nl_8, ql_8, ml_8, ol_8, al_8, mml_8)
theorem dc_167 : ∀ q ∈ lst_167, decode mt_167.2.1 q.1 = .ok (q.2.1, q.2.2) := by decide +kernel
theorem oI_167 : ra_okI pT mt_167.1.cls "BathWater$Scene" vwCl pNW pMT mt_167.2.1 I_167 := ⟨dc_167, lnk_8⟩
set_option maxRecDepth 100000 in
theorem oM_167 : pMT[167]? = some mt_167 := rfl
def lst_168 : List (Nat × Instr × Nat) := [(0, .iload_n 1, 1), (1, .ifCond .lt 21, 3), (4, .iload_n 1, 1), (5, .aload_n 0, 1), (6, .getfield 37, 3), (9, .if_icmp .ge 13, 3), (12, .aload_n 0, 1), (13, .getfield 28, 3), (16, .iload_n 1, 1), (17, .iaload, 1), (18, .iconst (-1), 1), (19, .if_icmp .eq 5, 3), (22, .iconst 0, 1), (23, .ireturn, 1), (24, .aload_n 0, 1), (25, .getfield 28, 3), (28, .iload_n 1, 1), (29, .iload_n 2, 1), (30, .iastore, 1), (31, .iconst 1, 1), (32, .ireturn, 1)]
def I_168 : ra_I := (lst_168, fl_2, kt_2, kl_2, nl_2, ql_2, ml_2, ol_2, al_2, mml_2)
theorem dc_168 : ∀ q ∈ lst_168, decode mt_168.2.1 q.1 = .ok (q.2.1, q.2.2) := by decide +kernel
theorem oI_168 : ra_okI pT mt_168.1.cls "BathWater$Scene" vwCl pNW pMT mt_168.2.1 I_168 := ⟨dc_168, lnk_2⟩
set_option maxRecDepth 100000 in
theorem oM_168 : pMT[168]? = some mt_168 := rfl
def lst_169 : List (Nat × Instr × Nat) := [(0, .iload_n 1, 1), (1, .iconst 0, 1), (2, .sipush 1000, 3), (5, .invokestatic 126, 3), (8, .ifCond .eq 15, 3), (11, .aload_n 0, 1), (12, .getfield 317, 3), (15, .iload_n 1, 1), (16, .iadd, 1), (17, .ldc_w 327, 3), (20, .if_icmp .le 5, 3), (23, .iconst (-1), 1), (24, .ireturn, 1), (25, .aload_n 0, 1), (26, .dup, 1), (27, .getfield 317, 3), (30, .iload_n 1, 1), (31, .iadd, 1), (32, .putfield 317, 3), (35, .aload_n 0, 1), (36, .getfield 317, 3), (39, .ireturn, 1)]
def I_169 : ra_I := (lst_169, fl_8, kt_8, kl_8, nl_8, ql_8, ml_8, ol_8, al_8, mml_8)
theorem dc_169 : ∀ q ∈ lst_169, decode mt_169.2.1 q.1 = .ok (q.2.1, q.2.2) := by decide +kernel
theorem oI_169 : ra_okI pT mt_169.1.cls "BathWater$Scene" vwCl pNW pMT mt_169.2.1 I_169 := ⟨dc_169, lnk_8⟩
set_option maxRecDepth 100000 in
theorem oM_169 : pMT[169]? = some mt_169 := rfl
def lst_170 : List (Nat × Instr × Nat) := [(0, .iconst 0, 1), (1, .istore_n 2, 1), (2, .iconst 0, 1), (3, .istore_n 3, 1), (4, .iload_n 3, 1), (5, .bipush 99, 2), (7, .if_icmp .gt 21, 3), (10, .aload_n 0, 1), (11, .iload_n 3, 1), (12, .iload_n 1, 1), (13, .invokevirtual 338, 3), (16, .ifCond .eq 6, 3), (19, .iinc 2 1, 3), (22, .iinc 3 1, 3), (25, .goto (-21), 3), (28, .iload_n 2, 1), (29, .ireturn, 1)]
def I_170 : ra_I := (lst_170, fl_8, kt_8, kl_8, nl_8, ql_8, ml_8, ol_8, al_8, mml_8)
theorem dc_170 : ∀ q ∈ lst_170, decode mt_170.2.1 q.1 = .ok (q.2.1, q.2.2) := by decide +kernel
theorem oI_170 : ra_okI pT mt_170.1.cls "BathWater$Scene" vwCl pNW pMT mt_170.2.1 I_170 := ⟨dc_170, lnk_8⟩
set_option maxRecDepth 100000 in
theorem oM_170 : pMT[170]? = some mt_170 := rfl
def lst_171 : List (Nat × Instr × Nat) := [(0, .aload_n 0, 1), (1, .getfield 23, 3), (4, .getfield 89, 3), (7, .ifCond .ne 5, 3), (10, .iconst 0, 1), (11, .ireturn, 1), (12, .aload_n 0, 1), (13, .iload_n 1, 1), (14, .invokevirtual 328, 3), (17, .aload_n 0, 1), (18, .getfield 70, 3), (21, .iload_n 2, 1), (22, .invokevirtual 331, 3), (25, .istore_n 3, 1), (26, .iconst 0, 1), (27, .istore 4, 2), (29, .iload 4, 2), (31, .iload_n 3, 1), (32, .if_icmp .gt 42, 3), (35, .aload_n 0, 1), (36, .getfield 70, 3), (39, .iload 4, 2), (41, .iload_n 2, 1), (42, .aload_n 0, 1), (43, .getfield 47, 3), (46, .getfield 185, 3), (49, .getfield 147, 3), (52, .invokevirtual 334, 3), (55, .ifCond .ne 5, 3), (58, .iconst 0, 1), (59, .ireturn, 1), (60, .aload_n 0, 1), (61, .getfield 47, 3), (64, .iconst 0, 1), (65, .invokevirtual 213, 3), (68, .iinc 4 1, 3), (71, .goto (-42), 3), (74, .iconst 1, 1), (75, .ireturn, 1)]
def I_171 : ra_I := (lst_171, fl_8, kt_8, kl_8, nl_8, ql_8, ml_8, ol_8, al_8, mml_8)
theorem dc_171 : ∀ q ∈ lst_171, decode mt_171.2.1 q.1 = .ok (q.2.1, q.2.2) := by decide +kernel
theorem oI_171 : ra_okI pT mt_171.1.cls "BathWater$Scene" vwCl pNW pMT mt_171.2.1 I_171 := ⟨dc_171, lnk_8⟩
set_option maxRecDepth 100000 in
theorem oM_171 : pMT[171]? = some mt_171 := rfl
def lst_172 : List (Nat × Instr × Nat) := [(0, .aload_n 0, 1), (1, .getfield 47, 3), (4, .aload_n 0, 1), (5, .getfield 23, 3), (8, .aload_n 0, 1), (9, .getfield 23, 3), (12, .getfield 92, 3), (15, .invokevirtual 130, 3), (18, .aload_n 0, 1), (19, .getfield 23, 3), (22, .getfield 89, 3), (25, .ifCond .le 24, 3), (28, .aload_n 0, 1), (29, .getfield 47, 3), (32, .getfield 185, 3), (35, .getfield 158, 3), (38, .aload_n 0, 1), (39, .getfield 23, 3), (42, .getfield 89, 3), (45, .iconst 1, 1), (46, .isub, 1), (47, .iload_n 1, 1), (48, .iastore, 1), (49, .return_, 1)]
def I_172 : ra_I := (lst_172, fl_8, kt_8, kl_8, nl_8, ql_8, ml_8, ol_8, al_8, mml_8)
theorem dc_172 : ∀ q ∈ lst_172, decode mt_172.2.1 q.1 = .ok (q.2.1, q.2.2) := by decide +kernel
theorem oI_172 : ra_okI pT mt_172.1.cls "BathWater$Scene" vwCl pNW pMT mt_172.2.1 I_172 := ⟨dc_172, lnk_8⟩
set_option maxRecDepth 100000 in
theorem oM_172 : pMT[172]? = some mt_172 := rfl
def lst_173 : List (Nat × Instr × Nat) := [(0, .iconst (-1), 1), (1, .istore_n 2, 1), (2, .iconst 0, 1), (3, .istore_n 3, 1), (4, .iload_n 3, 1), (5, .aload_n 0, 1), (6, .getfield 37, 3), (9, .if_icmp .ge 29, 3), (12, .aload_n 0, 1), (13, .iload_n 3, 1), (14, .iload_n 1, 1), (15, .invokevirtual 41, 3), (18, .ifCond .eq 14, 3), (21, .iload_n 2, 1), (22, .aload_n 0, 1), (23, .getfield 9, 3), (26, .iload_n 3, 1), (27, .iaload, 1), (28, .invokestatic 45, 3), (31, .istore_n 2, 1), (32, .iinc 3 1, 3), (35, .goto (-31), 3), (38, .iload_n 2, 1), (39, .ireturn, 1)]
def I_173 : ra_I := (lst_173, fl_2, kt_2, kl_2, nl_2, ql_2, ml_2, ol_2, al_2, mml_2)
theorem dc_173 : ∀ q ∈ lst_173, decode mt_173.2.1 q.1 = .ok (q.2.1, q.2.2) := by decide +kernel
theorem oI_173 : ra_okI pT mt_173.1.cls "BathWater$Scene" vwCl pNW pMT mt_173.2.1 I_173 := ⟨dc_173, lnk_2⟩
set_option maxRecDepth 100000 in
theorem oM_173 : pMT[173]? = some mt_173 := rfl
def lst_174 : List (Nat × Instr × Nat) := [(0, .aload_n 0, 1), (1, .getfield 25, 3), (4, .iload_n 1, 1), (5, .iaload, 1), (6, .iload_n 2, 1), (7, .if_icmp .gt 27, 3), (10, .aload_n 0, 1), (11, .getfield 28, 3), (14, .iload_n 1, 1), (15, .iaload, 1), (16, .iconst (-1), 1), (17, .if_icmp .eq 13, 3), (20, .aload_n 0, 1), (21, .getfield 28, 3), (24, .iload_n 1, 1), (25, .iaload, 1), (26, .iload_n 2, 1), (27, .if_icmp .le 7, 3), (30, .iconst 1, 1), (31, .goto 4, 3), (34, .iconst 0, 1), (35, .ireturn, 1)]
def I_174 : ra_I := (lst_174, fl_2, kt_2, kl_2, nl_2, ql_2, ml_2, ol_2, al_2, mml_2)
theorem dc_174 : ∀ q ∈ lst_174, decode mt_174.2.1 q.1 = .ok (q.2.1, q.2.2) := by decide +kernel
theorem oI_174 : ra_okI pT mt_174.1.cls "BathWater$Scene" vwCl pNW pMT mt_174.2.1 I_174 := ⟨dc_174, lnk_2⟩
set_option maxRecDepth 100000 in
theorem oM_174 : pMT[174]? = some mt_174 := rfl
def lst_175 : List (Nat × Instr × Nat) := [(0, .iconst 0, 1), (1, .istore 4, 2), (3, .iload 4, 2), (5, .aload_n 0, 1), (6, .getfield 37, 3), (9, .if_icmp .ge 70, 3), (12, .aload_n 3, 1), (13, .aload_n 0, 1), (14, .getfield 15, 3), (17, .iload 4, 2), (19, .iaload, 1), (20, .iaload, 1), (21, .aload_n 0, 1), (22, .getfield 18, 3), (25, .iload 4, 2), (27, .iaload, 1), (28, .if_icmp .lt 7, 3), (31, .iconst 1, 1), (32, .goto 4, 3), (35, .iconst 0, 1), (36, .istore 5, 2), (38, .aload_n 0, 1), (39, .getfield 9, 3), (42, .iload 4, 2), (44, .iaload, 1), (45, .iload_n 1, 1), (46, .if_icmp .ne 27, 3), (49, .aload_n 0, 1), (50, .iload 4, 2), (52, .iload_n 2, 1), (53, .invokevirtual 41, 3), (56, .ifCond .eq 17, 3), (59, .iload 5, 2), (61, .aload_n 0, 1), (62, .getfield 21, 3), (65, .iload 4, 2), (67, .baload, 1), (68, .if_icmp .eq 5, 3), (71, .iconst 0, 1), (72, .ireturn, 1), (73, .iinc 4 1, 3), (76, .goto (-73), 3), (79, .iconst 1, 1), (80, .ireturn, 1)]
def I_175 : ra_I := (lst_175, fl_2, kt_2, kl_2, nl_2, ql_2, ml_2, ol_2, al_2, mml_2)
theorem dc_175 : ∀ q ∈ lst_175, decode mt_175.2.1 q.1 = .ok (q.2.1, q.2.2) := by decide +kernel
theorem oI_175 : ra_okI pT mt_175.1.cls "BathWater$Scene" vwCl pNW pMT mt_175.2.1 I_175 := ⟨dc_175, lnk_2⟩
set_option maxRecDepth 100000 in
theorem oM_175 : pMT[175]? = some mt_175 := rfl
def lst_176 : List (Nat × Instr × Nat) := [(0, .iload_n 1, 1), (1, .iconst 0, 1), (2, .iconst 1, 1), (3, .invokestatic 126, 3), (6, .ifCond .ne 5, 3), (9, .iconst (-1), 1), (10, .ireturn, 1), (11, .iconst 0, 1), (12, .istore_n 3, 1), (13, .iload_n 3, 1), (14, .bipush 99, 2), (16, .if_icmp .gt 36, 3), (19, .iload_n 1, 1), (20, .ifCond .ne 7, 3), (23, .iload_n 3, 1), (24, .goto 7, 3), (27, .bipush 99, 2), (29, .iload_n 3, 1), (30, .isub, 1), (31, .istore 4, 2), (33, .aload_n 0, 1), (34, .iload 4, 2), (36, .iload_n 2, 1), (37, .invokevirtual 338, 3), (40, .ifCond .eq 6, 3), (43, .iload 4, 2), (45, .ireturn, 1), (46, .iinc 3 1, 3), (49, .goto (-36), 3), (52, .iconst (-1), 1), (53, .ireturn, 1)]
def I_176 : ra_I := (lst_176, fl_8, kt_8, kl_8, nl_8, ql_8, ml_8, ol_8, al_8, mml_8)
theorem dc_176 : ∀ q ∈ lst_176, decode mt_176.2.1 q.1 = .ok (q.2.1, q.2.2) := by decide +kernel
theorem oI_176 : ra_okI pT mt_176.1.cls "BathWater$Scene" vwCl pNW pMT mt_176.2.1 I_176 := ⟨dc_176, lnk_8⟩
set_option maxRecDepth 100000 in
theorem oM_176 : pMT[176]? = some mt_176 := rfl
