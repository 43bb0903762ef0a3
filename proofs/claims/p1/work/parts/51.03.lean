def lst_224 : List (Nat × Instr × Nat) := [(0, .iload_n 1, 1), (1, .iconst 0, 1), (2, .aload_n 0, 1), (3, .invokevirtual 342, 3), (6, .iconst 1, 1), (7, .isub, 1), (8, .invokestatic 338, 3), (11, .ireturn, 1)]
def I_224 : ra_I := (lst_224, fl_9, kt_9, kl_9, nl_9, ql_9, ml_9, ol_9, al_9, mml_9)
theorem dc_224 : ∀ q ∈ lst_224, decode mt_224.2.1 q.1 = .ok (q.2.1, q.2.2) := by decide +kernel
theorem oI_224 : ra_okI pT mt_224.1.cls "BathWater$Scene" vwCl pNW pMT mt_224.2.1 I_224 := ⟨dc_224, lnk_9⟩
set_option maxRecDepth 100000 in
theorem oM_224 : pMT[224]? = some mt_224 := rfl
def lst_225 : List (Nat × Instr × Nat) := [(0, .aload_n 0, 1), (1, .getfield 20, 3), (4, .aload_n 0, 1), (5, .getfield 253, 3), (8, .iaload, 1), (9, .ireturn, 1)]
def I_225 : ra_I := (lst_225, fl_9, kt_9, kl_9, nl_9, ql_9, ml_9, ol_9, al_9, mml_9)
theorem dc_225 : ∀ q ∈ lst_225, decode mt_225.2.1 q.1 = .ok (q.2.1, q.2.2) := by decide +kernel
theorem oI_225 : ra_okI pT mt_225.1.cls "BathWater$Scene" vwCl pNW pMT mt_225.2.1 I_225 := ⟨dc_225, lnk_9⟩
set_option maxRecDepth 100000 in
theorem oM_225 : pMT[225]? = some mt_225 := rfl
def lst_226 : List (Nat × Instr × Nat) := [(0, .iload_n 0, 1), (1, .iload_n 1, 1), (2, .if_icmp .lt 12, 3), (5, .iload_n 0, 1), (6, .iload_n 2, 1), (7, .if_icmp .gt 7, 3), (10, .iconst 1, 1), (11, .goto 4, 3), (14, .iconst 0, 1), (15, .ireturn, 1)]
def I_226 : ra_I := (lst_226, fl_9, kt_9, kl_9, nl_9, ql_9, ml_9, ol_9, al_9, mml_9)
theorem dc_226 : ∀ q ∈ lst_226, decode mt_226.2.1 q.1 = .ok (q.2.1, q.2.2) := by decide +kernel
theorem oI_226 : ra_okI pT mt_226.1.cls "BathWater$Scene" vwCl pNW pMT mt_226.2.1 I_226 := ⟨dc_226, lnk_9⟩
set_option maxRecDepth 100000 in
theorem oM_226 : pMT[226]? = some mt_226 := rfl
def lst_227 : List (Nat × Instr × Nat) := [(0, .iconst (-1), 1), (1, .istore_n 2, 1), (2, .iconst 0, 1), (3, .istore_n 3, 1), (4, .iconst 0, 1), (5, .istore 4, 2), (7, .iload 4, 2), (9, .aload_n 0, 1), (10, .invokevirtual 335, 3), (13, .if_icmp .ge 46, 3), (16, .aload_n 0, 1), (17, .iload 4, 2), (19, .invokevirtual 360, 3), (22, .ifCond .eq 13, 3), (25, .aload_n 0, 1), (26, .iload 4, 2), (28, .iload_n 1, 1), (29, .invokevirtual 366, 3), (32, .goto 4, 3), (35, .iconst 0, 1), (36, .istore 5, 2), (38, .iload 5, 2), (40, .iload_n 3, 1), (41, .if_icmp .gt 6, 3), (44, .goto 9, 3), (47, .iload 4, 2), (49, .istore_n 2, 1), (50, .iload 5, 2), (52, .istore_n 3, 1), (53, .iinc 4 1, 3), (56, .goto (-49), 3), (59, .iload_n 2, 1), (60, .ireturn, 1)]
def I_227 : ra_I := (lst_227, fl_9, kt_9, kl_9, nl_9, ql_9, ml_9, ol_9, al_9, mml_9)
theorem dc_227 : ∀ q ∈ lst_227, decode mt_227.2.1 q.1 = .ok (q.2.1, q.2.2) := by decide +kernel
theorem oI_227 : ra_okI pT mt_227.1.cls "BathWater$Scene" vwCl pNW pMT mt_227.2.1 I_227 := ⟨dc_227, lnk_9⟩
set_option maxRecDepth 100000 in
theorem oM_227 : pMT[227]? = some mt_227 := rfl
def lst_233 : List (Nat × Instr × Nat) := [(0, .iconst 0, 1), (1, .istore_n 2, 1), (2, .iconst 0, 1), (3, .istore_n 3, 1), (4, .iload_n 3, 1), (5, .aload_n 0, 1), (6, .invokevirtual 335, 3), (9, .if_icmp .ge 28, 3), (12, .aload_n 0, 1), (13, .getfield 85, 3), (16, .bipush 12, 2), (18, .iload_n 3, 1), (19, .iadd, 1), (20, .iaload, 1), (21, .iload_n 1, 1), (22, .if_icmp .ne 9, 3), (25, .iload_n 2, 1), (26, .iconst 1, 1), (27, .iload_n 3, 1), (28, .ishl, 1), (29, .ior, 1), (30, .istore_n 2, 1), (31, .iinc 3 1, 3), (34, .goto (-30), 3), (37, .iload_n 2, 1), (38, .ireturn, 1)]
def I_233 : ra_I := (lst_233, fl_9, kt_9, kl_9, nl_9, ql_9, ml_9, ol_9, al_9, mml_9)
theorem dc_233 : ∀ q ∈ lst_233, decode mt_233.2.1 q.1 = .ok (q.2.1, q.2.2) := by decide +kernel
theorem oI_233 : ra_okI pT mt_233.1.cls "BathWater$Scene" vwCl pNW pMT mt_233.2.1 I_233 := ⟨dc_233, lnk_9⟩
set_option maxRecDepth 100000 in
theorem oM_233 : pMT[233]? = some mt_233 := rfl
def lst_234 : List (Nat × Instr × Nat) := [(0, .aload_n 0, 1), (1, .iload_n 1, 1), (2, .invokevirtual 386, 3), (5, .ifCond .ne 6, 3), (8, .bipush (-2), 2), (10, .ireturn, 1), (11, .iload_n 2, 1), (12, .tableswitch 86 0 4 #[36, 46, 56, 70, 80], 36), (48, .aload_n 0, 1), (49, .getfield 85, 3), (52, .bipush 12, 2), (54, .iload_n 1, 1), (55, .iadd, 1), (56, .iaload, 1), (57, .ireturn, 1), (58, .aload_n 0, 1), (59, .getfield 85, 3), (62, .bipush 17, 2), (64, .iload_n 1, 1), (65, .iadd, 1), (66, .iaload, 1), (67, .ireturn, 1), (68, .aload_n 0, 1), (69, .getfield 54, 3), (72, .iconst 5, 1), (73, .aload_n 0, 1), (74, .getfield 253, 3), (77, .imul, 1), (78, .iload_n 1, 1), (79, .iadd, 1), (80, .iaload, 1), (81, .ireturn, 1), (82, .aload_n 0, 1), (83, .getfield 85, 3), (86, .bipush 22, 2), (88, .iload_n 1, 1), (89, .iadd, 1), (90, .iaload, 1), (91, .ireturn, 1), (92, .aload_n 0, 1), (93, .iload_n 1, 1), (94, .invokevirtual 389, 3), (97, .ireturn, 1), (98, .bipush (-2), 2), (100, .ireturn, 1)]
def I_234 : ra_I := (lst_234, fl_9, kt_9, kl_9, nl_9, ql_9, ml_9, ol_9, al_9, mml_9)
theorem dc_234 : ∀ q ∈ lst_234, decode mt_234.2.1 q.1 = .ok (q.2.1, q.2.2) := by decide +kernel
theorem oI_234 : ra_okI pT mt_234.1.cls "BathWater$Scene" vwCl pNW pMT mt_234.2.1 I_234 := ⟨dc_234, lnk_9⟩
set_option maxRecDepth 100000 in
theorem oM_234 : pMT[234]? = some mt_234 := rfl
def lst_235 : List (Nat × Instr × Nat) := [(0, .iload_n 1, 1), (1, .iconst 0, 1), (2, .aload_n 0, 1), (3, .invokevirtual 335, 3), (6, .iconst 1, 1), (7, .isub, 1), (8, .invokestatic 338, 3), (11, .ireturn, 1)]
def I_235 : ra_I := (lst_235, fl_9, kt_9, kl_9, nl_9, ql_9, ml_9, ol_9, al_9, mml_9)
theorem dc_235 : ∀ q ∈ lst_235, decode mt_235.2.1 q.1 = .ok (q.2.1, q.2.2) := by decide +kernel
theorem oI_235 : ra_okI pT mt_235.1.cls "BathWater$Scene" vwCl pNW pMT mt_235.2.1 I_235 := ⟨dc_235, lnk_9⟩
set_option maxRecDepth 100000 in
theorem oM_235 : pMT[235]? = some mt_235 := rfl
def lst_236 : List (Nat × Instr × Nat) := [(0, .iconst 0, 1), (1, .istore_n 2, 1), (2, .iconst 0, 1), (3, .istore_n 3, 1), (4, .iload_n 3, 1), (5, .aload_n 0, 1), (6, .invokevirtual 342, 3), (9, .if_icmp .ge 24, 3), (12, .aload_n 0, 1), (13, .iload_n 3, 1), (14, .invokevirtual 373, 3), (17, .iload_n 1, 1), (18, .if_icmp .ne 9, 3), (21, .iload_n 2, 1), (22, .iconst 1, 1), (23, .iload_n 3, 1), (24, .ishl, 1), (25, .ior, 1), (26, .istore_n 2, 1), (27, .iinc 3 1, 3), (30, .goto (-26), 3), (33, .iload_n 2, 1), (34, .ireturn, 1)]
def I_236 : ra_I := (lst_236, fl_9, kt_9, kl_9, nl_9, ql_9, ml_9, ol_9, al_9, mml_9)
theorem dc_236 : ∀ q ∈ lst_236, decode mt_236.2.1 q.1 = .ok (q.2.1, q.2.2) := by decide +kernel
theorem oI_236 : ra_okI pT mt_236.1.cls "BathWater$Scene" vwCl pNW pMT mt_236.2.1 I_236 := ⟨dc_236, lnk_9⟩
set_option maxRecDepth 100000 in
theorem oM_236 : pMT[236]? = some mt_236 := rfl
def lst_237 : List (Nat × Instr × Nat) := [(0, .aload_n 0, 1), (1, .iload_n 1, 1), (2, .invokevirtual 386, 3), (5, .ifCond .eq 28, 3), (8, .aload_n 0, 1), (9, .iload_n 2, 1), (10, .invokevirtual 380, 3), (13, .ifCond .eq 20, 3), (16, .aload_n 0, 1), (17, .iload_n 1, 1), (18, .invokevirtual 360, 3), (21, .ifCond .eq 12, 3), (24, .aload_n 0, 1), (25, .iload_n 1, 1), (26, .iload_n 2, 1), (27, .invokevirtual 366, 3), (30, .goto 6, 3), (33, .ldc_w 392, 3), (36, .ireturn, 1)]
def I_237 : ra_I := (lst_237, fl_9, kt_9, kl_9, nl_9, ql_9, ml_9, ol_9, al_9, mml_9)
theorem dc_237 : ∀ q ∈ lst_237, decode mt_237.2.1 q.1 = .ok (q.2.1, q.2.2) := by decide +kernel
theorem oI_237 : ra_okI pT mt_237.1.cls "BathWater$Scene" vwCl pNW pMT mt_237.2.1 I_237 := ⟨dc_237, lnk_9⟩
set_option maxRecDepth 100000 in
theorem oM_237 : pMT[237]? = some mt_237 := rfl
def lst_238 : List (Nat × Instr × Nat) := [(0, .iconst 1, 1), (1, .aload_n 0, 1), (2, .invokevirtual 342, 3), (5, .ishl, 1), (6, .iconst 1, 1), (7, .isub, 1), (8, .aload_n 0, 1), (9, .iconst (-1), 1), (10, .invokevirtual 389, 3), (13, .iconst (-1), 1), (14, .ixor, 1), (15, .iand, 1), (16, .ireturn, 1)]
def I_238 : ra_I := (lst_238, fl_9, kt_9, kl_9, nl_9, ql_9, ml_9, ol_9, al_9, mml_9)
theorem dc_238 : ∀ q ∈ lst_238, decode mt_238.2.1 q.1 = .ok (q.2.1, q.2.2) := by decide +kernel
theorem oI_238 : ra_okI pT mt_238.1.cls "BathWater$Scene" vwCl pNW pMT mt_238.2.1 I_238 := ⟨dc_238, lnk_9⟩
set_option maxRecDepth 100000 in
theorem oM_238 : pMT[238]? = some mt_238 := rfl
def lst_239 : List (Nat × Instr × Nat) := [(0, .aload_n 0, 1), (1, .iload_n 1, 1), (2, .invokevirtual 380, 3), (5, .ifCond .eq 11, 3), (8, .aload_n 0, 1), (9, .iload_n 2, 1), (10, .invokevirtual 380, 3), (13, .ifCond .ne 5, 3), (16, .iconst (-1), 1), (17, .ireturn, 1), (18, .iconst 0, 1), (19, .istore_n 3, 1), (20, .iconst 0, 1), (21, .istore 4, 2), (23, .iload 4, 2), (25, .aload_n 0, 1), (26, .invokevirtual 342, 3), (29, .if_icmp .ge 37, 3), (32, .iload_n 3, 1), (33, .iload 4, 2), (35, .iload_n 1, 1), (36, .isub, 1), (37, .iload 4, 2), (39, .iload_n 2, 1), (40, .isub, 1), (41, .imul, 1), (42, .ifCond .gt 15, 3), (45, .aload_n 0, 1), (46, .getfield 85, 3), (49, .iconst 0, 1), (50, .iload 4, 2), (52, .iadd, 1), (53, .iaload, 1), (54, .goto 4, 3), (57, .iconst 0, 1), (58, .iadd, 1), (59, .istore_n 3, 1), (60, .iinc 4 1, 3), (63, .goto (-40), 3), (66, .iload_n 3, 1), (67, .ireturn, 1)]
def I_239 : ra_I := (lst_239, fl_9, kt_9, kl_9, nl_9, ql_9, ml_9, ol_9, al_9, mml_9)
theorem dc_239 : ∀ q ∈ lst_239, decode mt_239.2.1 q.1 = .ok (q.2.1, q.2.2) := by decide +kernel
theorem oI_239 : ra_okI pT mt_239.1.cls "BathWater$Scene" vwCl pNW pMT mt_239.2.1 I_239 := ⟨dc_239, lnk_9⟩
set_option maxRecDepth 100000 in
theorem oM_239 : pMT[239]? = some mt_239 := rfl
def lst_240 : List (Nat × Instr × Nat) := [(0, .iconst 0, 1), (1, .istore_n 1, 1), (2, .aload_n 0, 1), (3, .invokevirtual 342, 3), (6, .iconst 1, 1), (7, .isub, 1), (8, .istore_n 2, 1), (9, .iload_n 1, 1), (10, .aload_n 0, 1), (11, .invokevirtual 342, 3), (14, .if_icmp .ge 20, 3), (17, .aload_n 0, 1), (18, .getfield 85, 3), (21, .iconst 0, 1), (22, .iload_n 1, 1), (23, .iadd, 1), (24, .iaload, 1), (25, .ifCond .ne 9, 3), (28, .iinc 1 1, 3), (31, .goto (-22), 3), (34, .iload_n 2, 1), (35, .iload_n 1, 1), (36, .if_icmp .lt 20, 3), (39, .aload_n 0, 1), (40, .getfield 85, 3), (43, .iconst 0, 1), (44, .iload_n 2, 1), (45, .iadd, 1), (46, .iaload, 1), (47, .ifCond .ne 9, 3), (50, .iinc 2 (-1), 3), (53, .goto (-19), 3), (56, .iload_n 2, 1), (57, .iload_n 1, 1), (58, .isub, 1), (59, .iconst 1, 1), (60, .iadd, 1), (61, .ireturn, 1)]
def I_240 : ra_I := (lst_240, fl_9, kt_9, kl_9, nl_9, ql_9, ml_9, ol_9, al_9, mml_9)
theorem dc_240 : ∀ q ∈ lst_240, decode mt_240.2.1 q.1 = .ok (q.2.1, q.2.2) := by decide +kernel
theorem oI_240 : ra_okI pT mt_240.1.cls "BathWater$Scene" vwCl pNW pMT mt_240.2.1 I_240 := ⟨dc_240, lnk_9⟩
set_option maxRecDepth 100000 in
theorem oM_240 : pMT[240]? = some mt_240 := rfl
def lst_241 : List (Nat × Instr × Nat) := [(0, .iconst 0, 1), (1, .istore_n 1, 1), (2, .iconst 1, 1), (3, .istore_n 2, 1), (4, .iload_n 2, 1), (5, .aload_n 0, 1), (6, .invokevirtual 342, 3), (9, .if_icmp .ge 30, 3), (12, .aload_n 0, 1), (13, .getfield 85, 3), (16, .iconst 0, 1), (17, .iload_n 2, 1), (18, .iadd, 1), (19, .iaload, 1), (20, .aload_n 0, 1), (21, .getfield 85, 3), (24, .iconst 0, 1), (25, .iload_n 1, 1), (26, .iadd, 1), (27, .iaload, 1), (28, .if_icmp .le 5, 3), (31, .iload_n 2, 1), (32, .istore_n 1, 1), (33, .iinc 2 1, 3), (36, .goto (-32), 3), (39, .iload_n 1, 1), (40, .ireturn, 1)]
def I_241 : ra_I := (lst_241, fl_9, kt_9, kl_9, nl_9, ql_9, ml_9, ol_9, al_9, mml_9)
theorem dc_241 : ∀ q ∈ lst_241, decode mt_241.2.1 q.1 = .ok (q.2.1, q.2.2) := by decide +kernel
theorem oI_241 : ra_okI pT mt_241.1.cls "BathWater$Scene" vwCl pNW pMT mt_241.2.1 I_241 := ⟨dc_241, lnk_9⟩
set_option maxRecDepth 100000 in
theorem oM_241 : pMT[241]? = some mt_241 := rfl
def lst_242 : List (Nat × Instr × Nat) := [(0, .iconst (-1), 1), (1, .istore_n 1, 1), (2, .iconst 0, 1), (3, .istore_n 2, 1), (4, .iload_n 2, 1), (5, .aload_n 0, 1), (6, .invokevirtual 335, 3), (9, .if_icmp .ge 42, 3), (12, .aload_n 0, 1), (13, .iload_n 2, 1), (14, .invokevirtual 360, 3), (17, .ifCond .eq 28, 3), (20, .iload_n 1, 1), (21, .ifCond .lt 22, 3), (24, .aload_n 0, 1), (25, .iload_n 2, 1), (26, .invokevirtual 389, 3), (29, .invokestatic 259, 3), (32, .aload_n 0, 1), (33, .iload_n 1, 1), (34, .invokevirtual 389, 3), (37, .invokestatic 259, 3), (40, .if_icmp .le 5, 3), (43, .iload_n 2, 1), (44, .istore_n 1, 1), (45, .iinc 2 1, 3), (48, .goto (-44), 3), (51, .iload_n 1, 1), (52, .ireturn, 1)]
def I_242 : ra_I := (lst_242, fl_9, kt_9, kl_9, nl_9, ql_9, ml_9, ol_9, al_9, mml_9)
theorem dc_242 : ∀ q ∈ lst_242, decode mt_242.2.1 q.1 = .ok (q.2.1, q.2.2) := by decide +kernel
theorem oI_242 : ra_okI pT mt_242.1.cls "BathWater$Scene" vwCl pNW pMT mt_242.2.1 I_242 := ⟨dc_242, lnk_9⟩
set_option maxRecDepth 100000 in
theorem oM_242 : pMT[242]? = some mt_242 := rfl
def lst_243 : List (Nat × Instr × Nat) := [(0, .aload_n 0, 1), (1, .getfield 85, 3), (4, .bipush 27, 2), (6, .iaload, 1), (7, .sipush 999, 3), (10, .if_icmp .ne 5, 3), (13, .iconst (-1), 1), (14, .ireturn, 1), (15, .aload_n 0, 1), (16, .invokevirtual 393, 3), (19, .aload_n 0, 1), (20, .invokevirtual 396, 3), (23, .ireturn, 1)]
def I_243 : ra_I := (lst_243, fl_9, kt_9, kl_9, nl_9, ql_9, ml_9, ol_9, al_9, mml_9)
theorem dc_243 : ∀ q ∈ lst_243, decode mt_243.2.1 q.1 = .ok (q.2.1, q.2.2) := by decide +kernel
theorem oI_243 : ra_okI pT mt_243.1.cls "BathWater$Scene" vwCl pNW pMT mt_243.2.1 I_243 := ⟨dc_243, lnk_9⟩
set_option maxRecDepth 100000 in
theorem oM_243 : pMT[243]? = some mt_243 := rfl
def lst_244 : List (Nat × Instr × Nat) := [(0, .aload_n 0, 1), (1, .getfield 348, 3), (4, .bipush 40, 2), (6, .if_icmp .ne 43, 3), (9, .iconst 0, 1), (10, .istore_n 1, 1), (11, .iload_n 1, 1), (12, .sipush 1160, 3), (15, .if_icmp .ge 24, 3), (18, .aload_n 0, 1), (19, .getfield 91, 3), (22, .iload_n 1, 1), (23, .aload_n 0, 1), (24, .getfield 91, 3), (27, .iload_n 1, 1), (28, .bipush 29, 2), (30, .iadd, 1), (31, .iaload, 1), (32, .iastore, 1), (33, .iinc 1 1, 3), (36, .goto (-25), 3), (39, .aload_n 0, 1), (40, .dup, 1), (41, .getfield 348, 3), (44, .iconst 1, 1), (45, .isub, 1), (46, .putfield 348, 3), (49, .iconst 0, 1), (50, .istore_n 1, 1), (51, .iload_n 1, 1), (52, .bipush 29, 2), (54, .if_icmp .ge 29, 3), (57, .aload_n 0, 1), (58, .getfield 91, 3), (61, .bipush 29, 2), (63, .aload_n 0, 1), (64, .getfield 348, 3), (67, .imul, 1), (68, .iload_n 1, 1), (69, .iadd, 1), (70, .aload_n 0, 1), (71, .getfield 85, 3), (74, .iload_n 1, 1), (75, .iaload, 1), (76, .iastore, 1), (77, .iinc 1 1, 3), (80, .goto (-29), 3), (83, .aload_n 0, 1), (84, .dup, 1), (85, .getfield 348, 3), (88, .iconst 1, 1), (89, .iadd, 1), (90, .putfield 348, 3), (93, .aload_n 0, 1), (94, .iconst 0, 1), (95, .putfield 351, 3), (98, .return_, 1)]
def I_244 : ra_I := (lst_244, fl_9, kt_9, kl_9, nl_9, ql_9, ml_9, ol_9, al_9, mml_9)
theorem dc_244 : ∀ q ∈ lst_244, decode mt_244.2.1 q.1 = .ok (q.2.1, q.2.2) := by decide +kernel
theorem oI_244 : ra_okI pT mt_244.1.cls "BathWater$Scene" vwCl pNW pMT mt_244.2.1 I_244 := ⟨dc_244, lnk_9⟩
set_option maxRecDepth 100000 in
theorem oM_244 : pMT[244]? = some mt_244 := rfl
def lst_245 : List (Nat × Instr × Nat) := [(0, .aload_n 0, 1), (1, .getfield 85, 3), (4, .bipush 28, 2), (6, .sipush 137, 3), (9, .aload_n 0, 1), (10, .getfield 85, 3), (13, .bipush 28, 2), (15, .iaload, 1), (16, .imul, 1), (17, .bipush 71, 2), (19, .iadd, 1), (20, .sipush 1000, 3), (23, .irem, 1), (24, .iastore, 1), (25, .aload_n 0, 1), (26, .aload_n 0, 1), (27, .getfield 85, 3), (30, .bipush 28, 2), (32, .iaload, 1), (33, .bipush 100, 2), (35, .irem, 1), (36, .aload_n 0, 1), (37, .getfield 39, 3), (40, .aload_n 0, 1), (41, .getfield 253, 3), (44, .iaload, 1), (45, .if_icmp .ge 7, 3), (48, .iconst 1, 1), (49, .goto 4, 3), (52, .iconst 0, 1), (53, .invokevirtual 376, 3), (56, .ireturn, 1)]
def I_245 : ra_I := (lst_245, fl_9, kt_9, kl_9, nl_9, ql_9, ml_9, ol_9, al_9, mml_9)
theorem dc_245 : ∀ q ∈ lst_245, decode mt_245.2.1 q.1 = .ok (q.2.1, q.2.2) := by decide +kernel
theorem oI_245 : ra_okI pT mt_245.1.cls "BathWater$Scene" vwCl pNW pMT mt_245.2.1 I_245 := ⟨dc_245, lnk_9⟩
set_option maxRecDepth 100000 in
theorem oM_245 : pMT[245]? = some mt_245 := rfl
def lst_246 : List (Nat × Instr × Nat) := [(0, .aload_n 0, 1), (1, .iconst 0, 1), (2, .putfield 369, 3), (5, .iconst 0, 1), (6, .istore_n 2, 1), (7, .iload_n 2, 1), (8, .aload_n 0, 1), (9, .invokevirtual 342, 3), (12, .if_icmp .ge 23, 3), (15, .aload_n 0, 1), (16, .getfield 88, 3), (19, .iload_n 2, 1), (20, .aload_n 0, 1), (21, .getfield 85, 3), (24, .iconst 0, 1), (25, .iload_n 2, 1), (26, .iadd, 1), (27, .iaload, 1), (28, .iastore, 1), (29, .iinc 2 1, 3), (32, .goto (-25), 3), (35, .iconst 0, 1), (36, .istore_n 2, 1), (37, .iload_n 2, 1), (38, .aload_n 0, 1), (39, .invokevirtual 342, 3), (42, .if_icmp .ge 146, 3), (45, .aload_n 0, 1), (46, .iload_n 2, 1), (47, .invokevirtual 373, 3), (50, .istore_n 3, 1), (51, .iload_n 3, 1), (52, .ifCond .ge 7, 3), (55, .iload_n 2, 1), (56, .goto 12, 3), (59, .aload_n 0, 1), (60, .getfield 85, 3), (63, .bipush 12, 2), (65, .iload_n 3, 1), (66, .iadd, 1), (67, .iaload, 1), (68, .istore 4, 2), (70, .iload_n 1, 1), (71, .ifCond .eq 17, 3), (74, .iconst 2, 1), (75, .aload_n 0, 1), (76, .getfield 24, 3), (79, .aload_n 0, 1), (80, .getfield 253, 3), (83, .iaload, 1), (84, .imul, 1), (85, .goto 12, 3), (88, .aload_n 0, 1), (89, .getfield 24, 3), (92, .aload_n 0, 1), (93, .getfield 253, 3), (96, .iaload, 1), (97, .istore 5, 2), (99, .aload_n 0, 1), (100, .getfield 85, 3), (103, .iconst 0, 1), (104, .iload_n 2, 1), (105, .iadd, 1), (106, .iaload, 1), (107, .iload 5, 2), (109, .if_icmp .ge 14, 3), (112, .aload_n 0, 1), (113, .getfield 85, 3), (116, .iconst 0, 1), (117, .iload_n 2, 1), (118, .iadd, 1), (119, .iaload, 1), (120, .goto 5, 3), (123, .iload 5, 2), (125, .istore 6, 2), (127, .iload 4, 2), (129, .iload_n 2, 1), (130, .if_icmp .eq 52, 3), (133, .iload 6, 2), (135, .ifCond .ne 6, 3), (138, .goto 44, 3), (141, .aload_n 0, 1), (142, .iconst 1, 1), (143, .putfield 369, 3), (146, .aload_n 0, 1), (147, .getfield 88, 3), (150, .iload_n 2, 1), (151, .dup2, 1), (152, .iaload, 1), (153, .iload 6, 2), (155, .isub, 1), (156, .iastore, 1), (157, .aload_n 0, 1), (158, .getfield 88, 3), (161, .iload 4, 2), (163, .iload_n 2, 1), (164, .if_icmp .le 9, 3), (167, .iload_n 2, 1), (168, .iconst 1, 1), (169, .iadd, 1), (170, .goto 6, 3), (173, .iload_n 2, 1), (174, .iconst 1, 1), (175, .isub, 1), (176, .dup2, 1), (177, .iaload, 1), (178, .iload 6, 2), (180, .iadd, 1), (181, .iastore, 1), (182, .iinc 2 1, 3), (185, .goto (-148), 3), (188, .iconst 0, 1), (189, .istore_n 2, 1), (190, .iload_n 2, 1), (191, .aload_n 0, 1), (192, .invokevirtual 342, 3), (195, .if_icmp .ge 23, 3), (198, .aload_n 0, 1), (199, .getfield 85, 3), (202, .iconst 0, 1), (203, .iload_n 2, 1), (204, .iadd, 1), (205, .aload_n 0, 1), (206, .getfield 88, 3), (209, .iload_n 2, 1), (210, .iaload, 1), (211, .iastore, 1), (212, .iinc 2 1, 3), (215, .goto (-25), 3), (218, .iconst 0, 1), (219, .istore_n 2, 1), (220, .iconst 0, 1), (221, .istore_n 3, 1), (222, .iload_n 3, 1), (223, .aload_n 0, 1), (224, .invokevirtual 335, 3), (227, .if_icmp .ge 86, 3), (230, .aload_n 0, 1), (231, .iload_n 3, 1), (232, .invokevirtual 360, 3), (235, .ifCond .eq 72, 3), (238, .aload_n 0, 1), (239, .getfield 85, 3), (242, .iconst 0, 1), (243, .aload_n 0, 1), (244, .getfield 85, 3), (247, .bipush 12, 2), (249, .iload_n 3, 1), (250, .iadd, 1), (251, .iaload, 1), (252, .iadd, 1), (253, .iaload, 1), (254, .aload_n 0, 1), (255, .getfield 54, 3), (258, .iconst 5, 1), (259, .aload_n 0, 1), (260, .getfield 253, 3), (263, .imul, 1), (264, .iload_n 3, 1), (265, .iadd, 1), (266, .iaload, 1), (267, .if_icmp .ge 6, 3), (270, .goto 37, 3), (273, .iload_n 2, 1), (274, .iconst 1, 1), (275, .iload_n 3, 1), (276, .ishl, 1), (277, .ior, 1), (278, .istore_n 2, 1), (279, .aload_n 0, 1), (280, .getfield 85, 3), (283, .bipush 22, 2), (285, .iload_n 3, 1), (286, .iadd, 1), (287, .iaload, 1), (288, .sipush 999, 3), (291, .if_icmp .ge 16, 3), (294, .aload_n 0, 1), (295, .getfield 85, 3), (298, .bipush 22, 2), (300, .iload_n 3, 1), (301, .iadd, 1), (302, .dup2, 1), (303, .iaload, 1), (304, .iconst 1, 1), (305, .iadd, 1), (306, .iastore, 1), (307, .iinc 3 1, 3), (310, .goto (-88), 3), (313, .aload_n 0, 1), (314, .getfield 85, 3), (317, .bipush 27, 2), (319, .dup2, 1), (320, .iaload, 1), (321, .iconst 1, 1), (322, .iadd, 1), (323, .iastore, 1), (324, .iload_n 2, 1), (325, .ireturn, 1)]
def I_246 : ra_I := (lst_246, fl_9, kt_9, kl_9, nl_9, ql_9, ml_9, ol_9, al_9, mml_9)
theorem dc_246 : ∀ q ∈ lst_246, decode mt_246.2.1 q.1 = .ok (q.2.1, q.2.2) := by decide +kernel
theorem oI_246 : ra_okI pT mt_246.1.cls "BathWater$Scene" vwCl pNW pMT mt_246.2.1 I_246 := ⟨dc_246, lnk_9⟩
set_option maxRecDepth 100000 in
theorem oM_246 : pMT[246]? = some mt_246 := rfl
def lst_247 : List (Nat × Instr × Nat) := [(0, .aload_n 0, 1), (1, .iload_n 1, 1), (2, .invokevirtual 386, 3), (5, .ifCond .eq 24, 3), (8, .aload_n 0, 1), (9, .iload_n 2, 1), (10, .invokevirtual 380, 3), (13, .ifCond .eq 16, 3), (16, .aload_n 0, 1), (17, .getfield 85, 3), (20, .bipush 12, 2), (22, .iload_n 1, 1), (23, .iadd, 1), (24, .iaload, 1), (25, .iload_n 2, 1), (26, .if_icmp .ne 6, 3), (29, .bipush (-2), 2), (31, .ireturn, 1), (32, .aload_n 0, 1), (33, .invokevirtual 393, 3), (36, .aload_n 0, 1), (37, .getfield 85, 3), (40, .bipush 12, 2), (42, .iload_n 1, 1), (43, .iadd, 1), (44, .iaload, 1), (45, .istore_n 3, 1), (46, .aload_n 0, 1), (47, .getfield 85, 3), (50, .bipush 12, 2), (52, .iload_n 1, 1), (53, .iadd, 1), (54, .iload_n 2, 1), (55, .iastore, 1), (56, .iload_n 3, 1), (57, .ireturn, 1)]
def I_247 : ra_I := (lst_247, fl_9, kt_9, kl_9, nl_9, ql_9, ml_9, ol_9, al_9, mml_9)
theorem dc_247 : ∀ q ∈ lst_247, decode mt_247.2.1 q.1 = .ok (q.2.1, q.2.2) := by decide +kernel
theorem oI_247 : ra_okI pT mt_247.1.cls "BathWater$Scene" vwCl pNW pMT mt_247.2.1 I_247 := ⟨dc_247, lnk_9⟩
set_option maxRecDepth 100000 in
theorem oM_247 : pMT[247]? = some mt_247 := rfl
def lst_248 : List (Nat × Instr × Nat) := [(0, .aload_n 0, 1), (1, .iload_n 1, 1), (2, .invokevirtual 386, 3), (5, .ifCond .eq 11, 3), (8, .aload_n 0, 1), (9, .iload_n 1, 1), (10, .invokevirtual 360, 3), (13, .ifCond .ne 5, 3), (16, .iconst (-1), 1), (17, .ireturn, 1), (18, .aload_n 0, 1), (19, .invokevirtual 393, 3), (22, .aload_n 0, 1), (23, .getfield 85, 3), (26, .bipush 12, 2), (28, .iload_n 1, 1), (29, .iadd, 1), (30, .iaload, 1), (31, .istore_n 2, 1), (32, .aload_n 0, 1), (33, .getfield 85, 3), (36, .bipush 12, 2), (38, .iload_n 1, 1), (39, .iadd, 1), (40, .iconst (-1), 1), (41, .iastore, 1), (42, .iload_n 2, 1), (43, .ireturn, 1)]
def I_248 : ra_I := (lst_248, fl_9, kt_9, kl_9, nl_9, ql_9, ml_9, ol_9, al_9, mml_9)
theorem dc_248 : ∀ q ∈ lst_248, decode mt_248.2.1 q.1 = .ok (q.2.1, q.2.2) := by decide +kernel
theorem oI_248 : ra_okI pT mt_248.1.cls "BathWater$Scene" vwCl pNW pMT mt_248.2.1 I_248 := ⟨dc_248, lnk_9⟩
set_option maxRecDepth 100000 in
theorem oM_248 : pMT[248]? = some mt_248 := rfl
def lst_249 : List (Nat × Instr × Nat) := [(0, .aload_n 0, 1), (1, .iload_n 1, 1), (2, .invokevirtual 380, 3), (5, .ifCond .eq 29, 3), (8, .iload_n 2, 1), (9, .iconst 1, 1), (10, .bipush 99, 2), (12, .invokestatic 338, 3), (15, .ifCond .eq 19, 3), (18, .aload_n 0, 1), (19, .getfield 85, 3), (22, .iconst 0, 1), (23, .iload_n 1, 1), (24, .iadd, 1), (25, .iaload, 1), (26, .iload_n 2, 1), (27, .iadd, 1), (28, .sipush 999, 3), (31, .if_icmp .le 5, 3), (34, .iconst (-1), 1), (35, .ireturn, 1), (36, .aload_n 0, 1), (37, .invokevirtual 393, 3), (40, .aload_n 0, 1), (41, .getfield 85, 3), (44, .iconst 0, 1), (45, .iload_n 1, 1), (46, .iadd, 1), (47, .dup2, 1), (48, .iaload, 1), (49, .iload_n 2, 1), (50, .iadd, 1), (51, .iastore, 1), (52, .aload_n 0, 1), (53, .getfield 85, 3), (56, .iconst 0, 1), (57, .iload_n 1, 1), (58, .iadd, 1), (59, .iaload, 1), (60, .ireturn, 1)]
def I_249 : ra_I := (lst_249, fl_9, kt_9, kl_9, nl_9, ql_9, ml_9, ol_9, al_9, mml_9)
theorem dc_249 : ∀ q ∈ lst_249, decode mt_249.2.1 q.1 = .ok (q.2.1, q.2.2) := by decide +kernel
theorem oI_249 : ra_okI pT mt_249.1.cls "BathWater$Scene" vwCl pNW pMT mt_249.2.1 I_249 := ⟨dc_249, lnk_9⟩
set_option maxRecDepth 100000 in
theorem oM_249 : pMT[249]? = some mt_249 := rfl
def lst_250 : List (Nat × Instr × Nat) := [(0, .aload_n 0, 1), (1, .iload_n 1, 1), (2, .invokevirtual 380, 3), (5, .ifCond .eq 19, 3), (8, .iload_n 2, 1), (9, .iconst 1, 1), (10, .aload_n 0, 1), (11, .getfield 85, 3), (14, .iconst 0, 1), (15, .iload_n 1, 1), (16, .iadd, 1), (17, .iaload, 1), (18, .invokestatic 338, 3), (21, .ifCond .ne 5, 3), (24, .iconst (-1), 1), (25, .ireturn, 1), (26, .aload_n 0, 1), (27, .invokevirtual 393, 3), (30, .aload_n 0, 1), (31, .getfield 85, 3), (34, .iconst 0, 1), (35, .iload_n 1, 1), (36, .iadd, 1), (37, .dup2, 1), (38, .iaload, 1), (39, .iload_n 2, 1), (40, .isub, 1), (41, .iastore, 1), (42, .aload_n 0, 1), (43, .getfield 85, 3), (46, .iconst 0, 1), (47, .iload_n 1, 1), (48, .iadd, 1), (49, .iaload, 1), (50, .ireturn, 1)]
def I_250 : ra_I := (lst_250, fl_9, kt_9, kl_9, nl_9, ql_9, ml_9, ol_9, al_9, mml_9)
theorem dc_250 : ∀ q ∈ lst_250, decode mt_250.2.1 q.1 = .ok (q.2.1, q.2.2) := by decide +kernel
theorem oI_250 : ra_okI pT mt_250.1.cls "BathWater$Scene" vwCl pNW pMT mt_250.2.1 I_250 := ⟨dc_250, lnk_9⟩
set_option maxRecDepth 100000 in
theorem oM_250 : pMT[250]? = some mt_250 := rfl
def lst_251 : List (Nat × Instr × Nat) := [(0, .aload_n 0, 1), (1, .iload_n 1, 1), (2, .invokevirtual 386, 3), (5, .ifCond .eq 26, 3), (8, .iload_n 2, 1), (9, .iconst 0, 1), (10, .bipush 99, 2), (12, .invokestatic 338, 3), (15, .ifCond .eq 16, 3), (18, .aload_n 0, 1), (19, .getfield 85, 3), (22, .bipush 17, 2), (24, .iload_n 1, 1), (25, .iadd, 1), (26, .iaload, 1), (27, .iload_n 2, 1), (28, .if_icmp .ne 5, 3), (31, .iconst (-1), 1), (32, .ireturn, 1), (33, .aload_n 0, 1), (34, .invokevirtual 393, 3), (37, .aload_n 0, 1), (38, .getfield 85, 3), (41, .bipush 17, 2), (43, .iload_n 1, 1), (44, .iadd, 1), (45, .iaload, 1), (46, .istore_n 3, 1), (47, .aload_n 0, 1), (48, .getfield 85, 3), (51, .bipush 17, 2), (53, .iload_n 1, 1), (54, .iadd, 1), (55, .iload_n 2, 1), (56, .iastore, 1), (57, .iload_n 3, 1), (58, .ireturn, 1)]
def I_251 : ra_I := (lst_251, fl_9, kt_9, kl_9, nl_9, ql_9, ml_9, ol_9, al_9, mml_9)
theorem dc_251 : ∀ q ∈ lst_251, decode mt_251.2.1 q.1 = .ok (q.2.1, q.2.2) := by decide +kernel
theorem oI_251 : ra_okI pT mt_251.1.cls "BathWater$Scene" vwCl pNW pMT mt_251.2.1 I_251 := ⟨dc_251, lnk_9⟩
set_option maxRecDepth 100000 in
theorem oM_251 : pMT[251]? = some mt_251 := rfl
def lst_252 : List (Nat × Instr × Nat) := [(0, .aload_n 0, 1), (1, .getfield 348, 3), (4, .ifCond .ne 5, 3), (7, .iconst 0, 1), (8, .ireturn, 1), (9, .aload_n 0, 1), (10, .dup, 1), (11, .getfield 348, 3), (14, .iconst 1, 1), (15, .isub, 1), (16, .putfield 348, 3), (19, .aload_n 0, 1), (20, .dup, 1), (21, .getfield 351, 3), (24, .iconst 1, 1), (25, .iadd, 1), (26, .putfield 351, 3), (29, .aload_n 0, 1), (30, .invokevirtual 399, 3), (33, .iconst 1, 1), (34, .ireturn, 1)]
def I_252 : ra_I := (lst_252, fl_9, kt_9, kl_9, nl_9, ql_9, ml_9, ol_9, al_9, mml_9)
theorem dc_252 : ∀ q ∈ lst_252, decode mt_252.2.1 q.1 = .ok (q.2.1, q.2.2) := by decide +kernel
theorem oI_252 : ra_okI pT mt_252.1.cls "BathWater$Scene" vwCl pNW pMT mt_252.2.1 I_252 := ⟨dc_252, lnk_9⟩
set_option maxRecDepth 100000 in
theorem oM_252 : pMT[252]? = some mt_252 := rfl
def lst_254 : List (Nat × Instr × Nat) := [(0, .aload_n 0, 1), (1, .getfield 351, 3), (4, .ifCond .ne 5, 3), (7, .iconst 0, 1), (8, .ireturn, 1), (9, .aload_n 0, 1), (10, .invokevirtual 399, 3), (13, .aload_n 0, 1), (14, .dup, 1), (15, .getfield 348, 3), (18, .iconst 1, 1), (19, .iadd, 1), (20, .putfield 348, 3), (23, .aload_n 0, 1), (24, .dup, 1), (25, .getfield 351, 3), (28, .iconst 1, 1), (29, .isub, 1), (30, .putfield 351, 3), (33, .iconst 1, 1), (34, .ireturn, 1)]
def I_254 : ra_I := (lst_254, fl_9, kt_9, kl_9, nl_9, ql_9, ml_9, ol_9, al_9, mml_9)
theorem dc_254 : ∀ q ∈ lst_254, decode mt_254.2.1 q.1 = .ok (q.2.1, q.2.2) := by decide +kernel
theorem oI_254 : ra_okI pT mt_254.1.cls "BathWater$Scene" vwCl pNW pMT mt_254.2.1 I_254 := ⟨dc_254, lnk_9⟩
set_option maxRecDepth 100000 in
theorem oM_254 : pMT[254]? = some mt_254 := rfl
def lst_255 : List (Nat × Instr × Nat) := [(0, .iload_n 1, 1), (1, .iconst 0, 1), (2, .aload_n 0, 1), (3, .getfield 357, 3), (6, .iconst 1, 1), (7, .isub, 1), (8, .invokestatic 338, 3), (11, .ifCond .eq 12, 3), (14, .aload_n 0, 1), (15, .getfield 100, 3), (18, .iload_n 1, 1), (19, .iaload, 1), (20, .goto 4, 3), (23, .iconst (-1), 1), (24, .ireturn, 1)]
def I_255 : ra_I := (lst_255, fl_9, kt_9, kl_9, nl_9, ql_9, ml_9, ol_9, al_9, mml_9)
theorem dc_255 : ∀ q ∈ lst_255, decode mt_255.2.1 q.1 = .ok (q.2.1, q.2.2) := by decide +kernel
theorem oI_255 : ra_okI pT mt_255.1.cls "BathWater$Scene" vwCl pNW pMT mt_255.2.1 I_255 := ⟨dc_255, lnk_9⟩
set_option maxRecDepth 100000 in
theorem oM_255 : pMT[255]? = some mt_255 := rfl
def lst_256 : List (Nat × Instr × Nat) := [(0, .aload_n 0, 1), (1, .iload_n 1, 1), (2, .invokevirtual 380, 3), (5, .ifCond .eq 19, 3), (8, .iload_n 2, 1), (9, .invokestatic 415, 3), (12, .ifCond .eq 12, 3), (15, .iload_n 3, 1), (16, .iconst 0, 1), (17, .iconst 1, 1), (18, .invokestatic 338, 3), (21, .ifCond .ne 5, 3), (24, .iconst (-1), 1), (25, .ireturn, 1), (26, .aload_n 0, 1), (27, .invokevirtual 409, 3), (30, .iconst 0, 1), (31, .istore 4, 2), (33, .iconst 0, 1), (34, .istore 5, 2), (36, .iload 5, 2), (38, .iload_n 2, 1), (39, .if_icmp .ge 28, 3), (42, .iload_n 3, 1), (43, .iconst 1, 1), (44, .if_icmp .ne 10, 3), (47, .aload_n 0, 1), (48, .invokevirtual 396, 3), (51, .goto 8, 3), (54, .aload_n 0, 1), (55, .iconst 0, 1), (56, .invokevirtual 376, 3), (59, .istore 4, 2), (61, .iinc 5 1, 3), (64, .goto (-28), 3), (67, .aload_n 0, 1), (68, .getfield 85, 3), (71, .iconst 0, 1), (72, .iload_n 1, 1), (73, .iadd, 1), (74, .iaload, 1), (75, .istore 5, 2), (77, .aload_n 0, 1), (78, .invokevirtual 406, 3), (81, .iload 5, 2), (83, .ireturn, 1)]
def I_256 : ra_I := (lst_256, fl_9, kt_9, kl_9, nl_9, ql_9, ml_9, ol_9, al_9, mml_9)
theorem dc_256 : ∀ q ∈ lst_256, decode mt_256.2.1 q.1 = .ok (q.2.1, q.2.2) := by decide +kernel
theorem oI_256 : ra_okI pT mt_256.1.cls "BathWater$Scene" vwCl pNW pMT mt_256.2.1 I_256 := ⟨dc_256, lnk_9⟩
set_option maxRecDepth 100000 in
theorem oM_256 : pMT[256]? = some mt_256 := rfl
def lst_257 : List (Nat × Instr × Nat) := [(0, .iload_n 0, 1), (1, .ifCond .lt 13, 3), (4, .iload_n 0, 1), (5, .bipush 60, 2), (7, .if_icmp .gt 7, 3), (10, .iconst 1, 1), (11, .goto 4, 3), (14, .iconst 0, 1), (15, .ireturn, 1)]
def I_257 : ra_I := (lst_257, fl_9, kt_9, kl_9, nl_9, ql_9, ml_9, ol_9, al_9, mml_9)
theorem dc_257 : ∀ q ∈ lst_257, decode mt_257.2.1 q.1 = .ok (q.2.1, q.2.2) := by decide +kernel
theorem oI_257 : ra_okI pT mt_257.1.cls "BathWater$Scene" vwCl pNW pMT mt_257.2.1 I_257 := ⟨dc_257, lnk_9⟩
set_option maxRecDepth 100000 in
theorem oM_257 : pMT[257]? = some mt_257 := rfl
def lst_258 : List (Nat × Instr × Nat) := [(0, .iconst 0, 1), (1, .istore_n 1, 1), (2, .iload_n 1, 1), (3, .bipush 29, 2), (5, .if_icmp .ge 21, 3), (8, .aload_n 0, 1), (9, .getfield 94, 3), (12, .iload_n 1, 1), (13, .aload_n 0, 1), (14, .getfield 85, 3), (17, .iload_n 1, 1), (18, .iaload, 1), (19, .iastore, 1), (20, .iinc 1 1, 3), (23, .goto (-21), 3), (26, .return_, 1)]
def I_258 : ra_I := (lst_258, fl_9, kt_9, kl_9, nl_9, ql_9, ml_9, ol_9, al_9, mml_9)
theorem dc_258 : ∀ q ∈ lst_258, decode mt_258.2.1 q.1 = .ok (q.2.1, q.2.2) := by decide +kernel
theorem oI_258 : ra_okI pT mt_258.1.cls "BathWater$Scene" vwCl pNW pMT mt_258.2.1 I_258 := ⟨dc_258, lnk_9⟩
set_option maxRecDepth 100000 in
theorem oM_258 : pMT[258]? = some mt_258 := rfl
def lst_259 : List (Nat × Instr × Nat) := [(0, .iconst 0, 1), (1, .istore_n 1, 1), (2, .iload_n 1, 1), (3, .bipush 29, 2), (5, .if_icmp .ge 21, 3), (8, .aload_n 0, 1), (9, .getfield 85, 3), (12, .iload_n 1, 1), (13, .aload_n 0, 1), (14, .getfield 94, 3), (17, .iload_n 1, 1), (18, .iaload, 1), (19, .iastore, 1), (20, .iinc 1 1, 3), (23, .goto (-21), 3), (26, .return_, 1)]
def I_259 : ra_I := (lst_259, fl_9, kt_9, kl_9, nl_9, ql_9, ml_9, ol_9, al_9, mml_9)
theorem dc_259 : ∀ q ∈ lst_259, decode mt_259.2.1 q.1 = .ok (q.2.1, q.2.2) := by decide +kernel
theorem oI_259 : ra_okI pT mt_259.1.cls "BathWater$Scene" vwCl pNW pMT mt_259.2.1 I_259 := ⟨dc_259, lnk_9⟩
set_option maxRecDepth 100000 in
theorem oM_259 : pMT[259]? = some mt_259 := rfl
def lst_260 : List (Nat × Instr × Nat) := [(0, .aload_n 0, 1), (1, .iload_n 1, 1), (2, .invokevirtual 386, 3), (5, .ifCond .eq 10, 3), (8, .iload_n 2, 1), (9, .invokestatic 415, 3), (12, .ifCond .ne 5, 3), (15, .iconst (-1), 1), (16, .ireturn, 1), (17, .aload_n 0, 1), (18, .iload_n 2, 1), (19, .invokevirtual 418, 3), (22, .istore_n 3, 1), (23, .aload_n 0, 1), (24, .getfield 97, 3), (27, .iload_n 1, 1), (28, .iaload, 1), (29, .ireturn, 1)]
def I_260 : ra_I := (lst_260, fl_9, kt_9, kl_9, nl_9, ql_9, ml_9, ol_9, al_9, mml_9)
theorem dc_260 : ∀ q ∈ lst_260, decode mt_260.2.1 q.1 = .ok (q.2.1, q.2.2) := by decide +kernel
theorem oI_260 : ra_okI pT mt_260.1.cls "BathWater$Scene" vwCl pNW pMT mt_260.2.1 I_260 := ⟨dc_260, lnk_9⟩
set_option maxRecDepth 100000 in
theorem oM_260 : pMT[260]? = some mt_260 := rfl
def lst_261 : List (Nat × Instr × Nat) := [(0, .aload_n 0, 1), (1, .invokevirtual 409, 3), (4, .aload_n 0, 1), (5, .iload_n 1, 1), (6, .invokevirtual 412, 3), (9, .ireturn, 1)]
def I_261 : ra_I := (lst_261, fl_9, kt_9, kl_9, nl_9, ql_9, ml_9, ol_9, al_9, mml_9)
theorem dc_261 : ∀ q ∈ lst_261, decode mt_261.2.1 q.1 = .ok (q.2.1, q.2.2) := by decide +kernel
theorem oI_261 : ra_okI pT mt_261.1.cls "BathWater$Scene" vwCl pNW pMT mt_261.2.1 I_261 := ⟨dc_261, lnk_9⟩
set_option maxRecDepth 100000 in
theorem oM_261 : pMT[261]? = some mt_261 := rfl
def lst_262 : List (Nat × Instr × Nat) := [(0, .iconst 0, 1), (1, .istore_n 2, 1), (2, .iload_n 2, 1), (3, .iconst 5, 1), (4, .if_icmp .ge 16, 3), (7, .aload_n 0, 1), (8, .getfield 97, 3), (11, .iload_n 2, 1), (12, .iconst 0, 1), (13, .iastore, 1), (14, .iinc 2 1, 3), (17, .goto (-15), 3), (20, .aload_n 0, 1), (21, .iload_n 1, 1), (22, .invokevirtual 402, 3), (25, .aload_n 0, 1), (26, .invokevirtual 406, 3), (29, .iconst 0, 1), (30, .istore_n 2, 1), (31, .iconst 0, 1), (32, .istore_n 3, 1), (33, .iload_n 3, 1), (34, .aload_n 0, 1), (35, .invokevirtual 335, 3), (38, .if_icmp .ge 18, 3), (41, .iload_n 2, 1), (42, .aload_n 0, 1), (43, .getfield 97, 3), (46, .iload_n 3, 1), (47, .iaload, 1), (48, .iadd, 1), (49, .istore_n 2, 1), (50, .iinc 3 1, 3), (53, .goto (-20), 3), (56, .iload_n 2, 1), (57, .ireturn, 1)]
def I_262 : ra_I := (lst_262, fl_9, kt_9, kl_9, nl_9, ql_9, ml_9, ol_9, al_9, mml_9)
theorem dc_262 : ∀ q ∈ lst_262, decode mt_262.2.1 q.1 = .ok (q.2.1, q.2.2) := by decide +kernel
theorem oI_262 : ra_okI pT mt_262.1.cls "BathWater$Scene" vwCl pNW pMT mt_262.2.1 I_262 := ⟨dc_262, lnk_9⟩
set_option maxRecDepth 100000 in
theorem oM_262 : pMT[262]? = some mt_262 := rfl
def lst_263 : List (Nat × Instr × Nat) := [(0, .iconst 0, 1), (1, .istore_n 2, 1), (2, .iload_n 2, 1), (3, .iload_n 1, 1), (4, .if_icmp .ge 49, 3), (7, .aload_n 0, 1), (8, .iconst 0, 1), (9, .invokevirtual 376, 3), (12, .istore_n 3, 1), (13, .iconst 0, 1), (14, .istore 4, 2), (16, .iload 4, 2), (18, .aload_n 0, 1), (19, .invokevirtual 335, 3), (22, .if_icmp .ge 25, 3), (25, .aload_n 0, 1), (26, .getfield 97, 3), (29, .iload 4, 2), (31, .dup2, 1), (32, .iaload, 1), (33, .iload_n 3, 1), (34, .iload 4, 2), (36, .ishr, 1), (37, .iconst 1, 1), (38, .iand, 1), (39, .iadd, 1), (40, .iastore, 1), (41, .iinc 4 1, 3), (44, .goto (-28), 3), (47, .iinc 2 1, 3), (50, .goto (-48), 3), (53, .return_, 1)]
def I_263 : ra_I := (lst_263, fl_9, kt_9, kl_9, nl_9, ql_9, ml_9, ol_9, al_9, mml_9)
theorem dc_263 : ∀ q ∈ lst_263, decode mt_263.2.1 q.1 = .ok (q.2.1, q.2.2) := by decide +kernel
theorem oI_263 : ra_okI pT mt_263.1.cls "BathWater$Scene" vwCl pNW pMT mt_263.2.1 I_263 := ⟨dc_263, lnk_9⟩
set_option maxRecDepth 100000 in
theorem oM_263 : pMT[263]? = some mt_263 := rfl
def lst_264 : List (Nat × Instr × Nat) := [(0, .aload_n 0, 1), (1, .invokevirtual 409, 3), (4, .iconst 0, 1), (5, .istore_n 1, 1), (6, .aload_n 0, 1), (7, .iconst 1, 1), (8, .putfield 369, 3), (11, .iload_n 1, 1), (12, .bipush 60, 2), (14, .if_icmp .gt 22, 3), (17, .aload_n 0, 1), (18, .getfield 369, 3), (21, .ifCond .eq 15, 3), (24, .aload_n 0, 1), (25, .iconst 0, 1), (26, .invokevirtual 376, 3), (29, .istore_n 2, 1), (30, .iinc 1 1, 3), (33, .goto (-22), 3), (36, .aload_n 0, 1), (37, .invokevirtual 406, 3), (40, .aload_n 0, 1), (41, .getfield 369, 3), (44, .ifCond .eq 7, 3), (47, .iconst (-1), 1), (48, .goto 6, 3), (51, .iload_n 1, 1), (52, .iconst 1, 1), (53, .isub, 1), (54, .ireturn, 1)]
def I_264 : ra_I := (lst_264, fl_9, kt_9, kl_9, nl_9, ql_9, ml_9, ol_9, al_9, mml_9)
theorem dc_264 : ∀ q ∈ lst_264, decode mt_264.2.1 q.1 = .ok (q.2.1, q.2.2) := by decide +kernel
theorem oI_264 : ra_okI pT mt_264.1.cls "BathWater$Scene" vwCl pNW pMT mt_264.2.1 I_264 := ⟨dc_264, lnk_9⟩
set_option maxRecDepth 100000 in
theorem oM_264 : pMT[264]? = some mt_264 := rfl
def lst_265 : List (Nat × Instr × Nat) := [(0, .aload_n 0, 1), (1, .iload_n 1, 1), (2, .invokevirtual 380, 3), (5, .ifCond .eq 14, 3), (8, .iload_n 2, 1), (9, .iconst 0, 1), (10, .sipush 999, 3), (13, .invokestatic 338, 3), (16, .ifCond .ne 5, 3), (19, .iconst (-1), 1), (20, .ireturn, 1), (21, .aload_n 0, 1), (22, .invokevirtual 409, 3), (25, .iconst (-1), 1), (26, .istore_n 3, 1), (27, .iconst 0, 1), (28, .istore 4, 2), (30, .iload 4, 2), (32, .bipush 60, 2), (34, .if_icmp .gt 35, 3), (37, .iload_n 3, 1), (38, .ifCond .ge 31, 3), (41, .aload_n 0, 1), (42, .getfield 85, 3), (45, .iconst 0, 1), (46, .iload_n 1, 1), (47, .iadd, 1), (48, .iaload, 1), (49, .iload_n 2, 1), (50, .if_icmp .lt 6, 3), (53, .iload 4, 2), (55, .istore_n 3, 1), (56, .aload_n 0, 1), (57, .iconst 0, 1), (58, .invokevirtual 376, 3), (61, .istore 5, 2), (63, .iinc 4 1, 3), (66, .goto (-36), 3), (69, .aload_n 0, 1), (70, .invokevirtual 406, 3), (73, .iload_n 3, 1), (74, .ireturn, 1)]
def I_265 : ra_I := (lst_265, fl_9, kt_9, kl_9, nl_9, ql_9, ml_9, ol_9, al_9, mml_9)
theorem dc_265 : ∀ q ∈ lst_265, decode mt_265.2.1 q.1 = .ok (q.2.1, q.2.2) := by decide +kernel
theorem oI_265 : ra_okI pT mt_265.1.cls "BathWater$Scene" vwCl pNW pMT mt_265.2.1 I_265 := ⟨dc_265, lnk_9⟩
set_option maxRecDepth 100000 in
theorem oM_265 : pMT[265]? = some mt_265 := rfl
def lst_266 : List (Nat × Instr × Nat) := [(0, .aload_n 0, 1), (1, .iload_n 1, 1), (2, .invokevirtual 380, 3), (5, .ifCond .eq 10, 3), (8, .iload_n 2, 1), (9, .invokestatic 415, 3), (12, .ifCond .ne 5, 3), (15, .iconst (-1), 1), (16, .ireturn, 1), (17, .aload_n 0, 1), (18, .invokevirtual 409, 3), (21, .aload_n 0, 1), (22, .getfield 85, 3), (25, .iconst 0, 1), (26, .iload_n 1, 1), (27, .iadd, 1), (28, .iaload, 1), (29, .istore_n 3, 1), (30, .iconst 0, 1), (31, .istore 4, 2), (33, .iload 4, 2), (35, .iload_n 2, 1), (36, .if_icmp .ge 37, 3), (39, .aload_n 0, 1), (40, .iconst 0, 1), (41, .invokevirtual 376, 3), (44, .istore 5, 2), (46, .aload_n 0, 1), (47, .getfield 85, 3), (50, .iconst 0, 1), (51, .iload_n 1, 1), (52, .iadd, 1), (53, .iaload, 1), (54, .iload_n 3, 1), (55, .if_icmp .le 12, 3), (58, .aload_n 0, 1), (59, .getfield 85, 3), (62, .iconst 0, 1), (63, .iload_n 1, 1), (64, .iadd, 1), (65, .iaload, 1), (66, .istore_n 3, 1), (67, .iinc 4 1, 3), (70, .goto (-37), 3), (73, .aload_n 0, 1), (74, .invokevirtual 406, 3), (77, .iload_n 3, 1), (78, .ireturn, 1)]
def I_266 : ra_I := (lst_266, fl_9, kt_9, kl_9, nl_9, ql_9, ml_9, ol_9, al_9, mml_9)
theorem dc_266 : ∀ q ∈ lst_266, decode mt_266.2.1 q.1 = .ok (q.2.1, q.2.2) := by decide +kernel
theorem oI_266 : ra_okI pT mt_266.1.cls "BathWater$Scene" vwCl pNW pMT mt_266.2.1 I_266 := ⟨dc_266, lnk_9⟩
set_option maxRecDepth 100000 in
theorem oM_266 : pMT[266]? = some mt_266 := rfl
def lst_267 : List (Nat × Instr × Nat) := [(0, .iload_n 1, 1), (1, .invokestatic 415, 3), (4, .ifCond .ne 5, 3), (7, .iconst (-1), 1), (8, .ireturn, 1), (9, .aload_n 0, 1), (10, .iload_n 1, 1), (11, .invokevirtual 418, 3), (14, .istore_n 2, 1), (15, .iconst 0, 1), (16, .istore_n 3, 1), (17, .iconst 0, 1), (18, .istore 4, 2), (20, .iload 4, 2), (22, .aload_n 0, 1), (23, .invokevirtual 335, 3), (26, .if_icmp .ge 35, 3), (29, .aload_n 0, 1), (30, .iload 4, 2), (32, .invokevirtual 360, 3), (35, .ifCond .eq 20, 3), (38, .aload_n 0, 1), (39, .getfield 97, 3), (42, .iload 4, 2), (44, .iaload, 1), (45, .ifCond .ne 10, 3), (48, .iload_n 3, 1), (49, .iconst 1, 1), (50, .iload 4, 2), (52, .ishl, 1), (53, .ior, 1), (54, .istore_n 3, 1), (55, .iinc 4 1, 3), (58, .goto (-38), 3), (61, .iload_n 3, 1), (62, .ireturn, 1)]
def I_267 : ra_I := (lst_267, fl_9, kt_9, kl_9, nl_9, ql_9, ml_9, ol_9, al_9, mml_9)
theorem dc_267 : ∀ q ∈ lst_267, decode mt_267.2.1 q.1 = .ok (q.2.1, q.2.2) := by decide +kernel
theorem oI_267 : ra_okI pT mt_267.1.cls "BathWater$Scene" vwCl pNW pMT mt_267.2.1 I_267 := ⟨dc_267, lnk_9⟩
set_option maxRecDepth 100000 in
theorem oM_267 : pMT[267]? = some mt_267 := rfl
def lst_268 : List (Nat × Instr × Nat) := [(0, .iload_n 1, 1), (1, .invokestatic 415, 3), (4, .ifCond .ne 5, 3), (7, .iconst (-1), 1), (8, .ireturn, 1), (9, .aload_n 0, 1), (10, .iload_n 1, 1), (11, .invokevirtual 418, 3), (14, .istore_n 2, 1), (15, .iconst (-1), 1), (16, .istore_n 3, 1), (17, .iconst 0, 1), (18, .istore 4, 2), (20, .iload 4, 2), (22, .aload_n 0, 1), (23, .invokevirtual 335, 3), (26, .if_icmp .ge 32, 3), (29, .iload_n 3, 1), (30, .ifCond .lt 19, 3), (33, .aload_n 0, 1), (34, .getfield 97, 3), (37, .iload 4, 2), (39, .iaload, 1), (40, .aload_n 0, 1), (41, .getfield 97, 3), (44, .iload_n 3, 1), (45, .iaload, 1), (46, .if_icmp .le 6, 3), (49, .iload 4, 2), (51, .istore_n 3, 1), (52, .iinc 4 1, 3), (55, .goto (-35), 3), (58, .iload_n 3, 1), (59, .ireturn, 1)]
def I_268 : ra_I := (lst_268, fl_9, kt_9, kl_9, nl_9, ql_9, ml_9, ol_9, al_9, mml_9)
theorem dc_268 : ∀ q ∈ lst_268, decode mt_268.2.1 q.1 = .ok (q.2.1, q.2.2) := by decide +kernel
theorem oI_268 : ra_okI pT mt_268.1.cls "BathWater$Scene" vwCl pNW pMT mt_268.2.1 I_268 := ⟨dc_268, lnk_9⟩
set_option maxRecDepth 100000 in
theorem oM_268 : pMT[268]? = some mt_268 := rfl
def lst_269 : List (Nat × Instr × Nat) := [(0, .iload_n 1, 1), (1, .iconst 1, 1), (2, .bipush 20, 2), (4, .invokestatic 338, 3), (7, .ifCond .eq 12, 3), (10, .iload_n 2, 1), (11, .iconst 0, 1), (12, .iconst 1, 1), (13, .invokestatic 338, 3), (16, .ifCond .ne 5, 3), (19, .iconst (-1), 1), (20, .ireturn, 1), (21, .aload_n 0, 1), (22, .invokevirtual 409, 3), (25, .iconst 0, 1), (26, .istore_n 3, 1), (27, .iload_n 3, 1), (28, .iconst 5, 1), (29, .if_icmp .ge 16, 3), (32, .aload_n 0, 1), (33, .getfield 97, 3), (36, .iload_n 3, 1), (37, .iconst 0, 1), (38, .iastore, 1), (39, .iinc 3 1, 3), (42, .goto (-15), 3), (45, .iconst (-1), 1), (46, .istore_n 3, 1), (47, .iconst 0, 1), (48, .istore 4, 2), (50, .iload 4, 2), (52, .bipush 60, 2), (54, .if_icmp .ge 51, 3), (57, .iload_n 3, 1), (58, .ifCond .ge 47, 3), (61, .aload_n 0, 1), (62, .iconst 1, 1), (63, .invokevirtual 402, 3), (66, .iinc 4 1, 3), (69, .aload_n 0, 1), (70, .invokevirtual 335, 3), (73, .iconst 1, 1), (74, .isub, 1), (75, .istore 5, 2), (77, .iload 5, 2), (79, .ifCond .lt 23, 3), (82, .aload_n 0, 1), (83, .getfield 97, 3), (86, .iload 5, 2), (88, .iaload, 1), (89, .iload_n 1, 1), (90, .if_icmp .ne 6, 3), (93, .iload 5, 2), (95, .istore_n 3, 1), (96, .iinc 5 (-1), 3), (99, .goto (-22), 3), (102, .goto (-52), 3), (105, .aload_n 0, 1), (106, .invokevirtual 406, 3), (109, .iload_n 3, 1), (110, .ifCond .ge 7, 3), (113, .iconst (-1), 1), (114, .goto 13, 3), (117, .iload_n 2, 1), (118, .ifCond .ne 7, 3), (121, .iload_n 3, 1), (122, .goto 5, 3), (125, .iload 4, 2), (127, .ireturn, 1)]
def I_269 : ra_I := (lst_269, fl_9, kt_9, kl_9, nl_9, ql_9, ml_9, ol_9, al_9, mml_9)
theorem dc_269 : ∀ q ∈ lst_269, decode mt_269.2.1 q.1 = .ok (q.2.1, q.2.2) := by decide +kernel
theorem oI_269 : ra_okI pT mt_269.1.cls "BathWater$Scene" vwCl pNW pMT mt_269.2.1 I_269 := ⟨dc_269, lnk_9⟩
set_option maxRecDepth 100000 in
theorem oM_269 : pMT[269]? = some mt_269 := rfl
