def pSX : ra_Sx := [("BathWater$Tokens", 62, "pool    flow    water   at      swimmer manners wants   likes   gala    draw    or      and     not     far     swum    step    ", 128, [112, 111, 111, 108, 32, 32, 32, 32, 102, 108, 111, 119, 32, 32, 32, 32, 119, 97, 116, 101, 114, 32, 32, 32, 97, 116, 32, 32, 32, 32, 32, 32, 115, 119, 105, 109, 109, 101, 114, 32, 109, 97, 110, 110, 101, 114, 115, 32, 119, 97, 110, 116, 115, 32, 32, 32, 108, 105, 107, 101, 115, 32, 32, 32, 103, 97, 108, 97, 32, 32, 32, 32, 100, 114, 97, 119, 32, 32, 32, 32, 111, 114, 32, 32, 32, 32, 32, 32, 97, 110, 100, 32, 32, 32, 32, 32, 110, 111, 116, 32, 32, 32, 32, 32, 102, 97, 114, 32, 32, 32, 32, 32, 115, 119, 117, 109, 32, 32, 32, 32, 115, 116, 101, 112, 32, 32, 32, 32]), ("BathWater$Tokens", 40, ";()<>=+-*/%", 11, [59, 40, 41, 60, 62, 61, 43, 45, 42, 47, 37])]
def sOk1 (own : String) (sx : ra_Sx) (x : Nat × Nat) : Bool := match sx[x.2]? with
  | some q => q.1 == own && q.2.1 == x.1
  | none => false
theorem mk_S1 {own : String} {sx : ra_Sx} {t : List (Nat × Nat)} (h : t.all (sOk1 own sx) = true) : ∀ x ∈ t, ∃ q, sx[x.2]? = some q ∧ q.1 = own ∧ q.2.1 = x.1 := by
  intro x hx
  have h1 := List.all_eq_true.mp h x hx
  unfold sOk1 at h1
  split at h1
  · rename_i q hq
    rw [Bool.and_eq_true, beq_iff_eq, beq_iff_eq] at h1
    exact ⟨q, hq, h1.1, h1.2⟩
  · cases h1
theorem mk_S2 {own n d : String} {ps js : List Nat} (h : ra_b2 (fun (p j : Nat) => tb_at p (Cond.fieldLink own j "java/lang/String" n d)) ps js = true) : ∀ j ∈ js, Cond.fieldLink own j "java/lang/String" n d ∈ pT := by
  intro j hj
  obtain ⟨i, hi⟩ := List.getElem?_of_mem hj
  obtain ⟨p, -, h2⟩ := ra_b2_get h hi
  exact tb_in h2
theorem mk_S4 {own : String} {ps : List Nat} {t : List (Nat × Nat)} (h : ra_b2 (fun (p : Nat) (x : Nat × Nat) => match x.2 with
    | 0 => tb_at p (Cond.fieldLink own x.1 "java/lang/String" "COMPACT_STRINGS" "Z")
    | 1 => tb_at p (Cond.fieldLink own x.1 "jdk/internal/util/Preconditions" "SIOOBE_FORMATTER" "Ljava/util/function/BiFunction;")
    | _ => false) ps t = true) : ∀ x ∈ t, (x.2 = 0 ∧ Cond.fieldLink own x.1 "java/lang/String" "COMPACT_STRINGS" "Z" ∈ pT) ∨ (x.2 = 1 ∧ Cond.fieldLink own x.1 "jdk/internal/util/Preconditions" "SIOOBE_FORMATTER" "Ljava/util/function/BiFunction;" ∈ pT) := by
  intro x hx
  obtain ⟨i, hi⟩ := List.getElem?_of_mem hx
  obtain ⟨p, -, h2⟩ := ra_b2_get h hi
  split at h2
  · rename_i e
    exact Or.inl ⟨e, tb_in h2⟩
  · rename_i e
    exact Or.inr ⟨e, tb_in h2⟩
  · cases h2
def vOk (own : String) (p : Nat × Nat × Nat × Nat) (x : Nat × Nat) : Bool := match pMT[x.2]? with
  | none => false
  | some mm => tb_at p.1 (Cond.initialized mm.1.cls) && (decide (mm.1.cls ≠ "java/lang/invoke/MethodHandle" ∧ mm.1.cls ≠ "java/lang/invoke/VarHandle" ∧ (parseMethodDescriptor mm.1.desc).map (fun d => d.parameters.length) = some mm.2.2.2.2.1) && (tb_at p.2.1 (Cond.methodLink own x.1 mm.1) && (tb_at p.2.2.1 (Cond.instanceMethod mm.1) && (tb_at p.2.2.2 (Cond.selects mm.1.cls mm.1 mm.1) && mm.1.cls == "java/lang/String"))))
theorem mk_S5 {own : String} {ps : List (Nat × Nat × Nat × Nat)} {t : List (Nat × Nat)} (h : ra_b2 (vOk own) ps t = true) : ∀ x ∈ t, ∃ mm : ra_M, pMT[x.2]? = some mm ∧ Cond.code mm.1 mm.2.1 mm.2.2.1 mm.2.2.2.1 ∈ pT ∧ Cond.initialized mm.1.cls ∈ pT ∧ (mm.1.cls ≠ "java/lang/invoke/MethodHandle" ∧ mm.1.cls ≠ "java/lang/invoke/VarHandle" ∧ (parseMethodDescriptor mm.1.desc).map (fun d => d.parameters.length) = some mm.2.2.2.2.1) ∧ Cond.methodLink own x.1 mm.1 ∈ pT ∧ Cond.instanceMethod mm.1 ∈ pT ∧ Cond.selects mm.1.cls mm.1 mm.1 ∈ pT ∧ mm.1.cls = "java/lang/String" := by
  intro x hx
  obtain ⟨i, hi⟩ := List.getElem?_of_mem hx
  obtain ⟨p, -, h2⟩ := ra_b2_get h hi
  unfold vOk at h2
  split at h2
  · cases h2
  · rename_i mm hmm
    rw [Bool.and_eq_true, Bool.and_eq_true, Bool.and_eq_true, Bool.and_eq_true, Bool.and_eq_true, decide_eq_true_eq, beq_iff_eq] at h2
    obtain ⟨a1, a2, a3, a4, a5, a6⟩ := h2
    exact ⟨mm, hmm, pMT_in mm (List.mem_of_getElem? hmm), tb_in a1, a2, tb_in a3, tb_in a4, tb_in a5, a6⟩
theorem mk_Lt {own : String} {ps : List Nat} {lt : List (Nat × Int)} (h : ra_b2 (fun (p : Nat) (e : Nat × Int) => ra_eqb (Int64.ofInt e.2).toInt e.2 && tb_at p (Cond.constantLong own e.1 (Int64.ofInt e.2))) ps lt = true) : rb_okL pT own lt := by
  intro e he
  obtain ⟨i, hi⟩ := List.getElem?_of_mem he
  obtain ⟨p, -, h2⟩ := ra_b2_get h hi
  rw [Bool.and_eq_true] at h2
  exact ⟨_, ra_eqb_eq h2.1, tb_in h2.2⟩
theorem pTb0 {own : String} : rs_okT pT own pSX pMT ([], [], [], [], []) := ⟨fun _ h => absurd h List.not_mem_nil, fun _ h => absurd h List.not_mem_nil, fun _ h => absurd h List.not_mem_nil, fun _ h => absurd h List.not_mem_nil, fun _ h => absurd h List.not_mem_nil⟩
def tb_7 : ra_Tb := ([(62, 0), (40, 1)], [], [], [], [(64, 24), (42, 36)])
theorem ptb_7 : rs_okT pT "BathWater$Tokens" pSX pMT tb_7 := ⟨mk_S1 (by decide +kernel), mk_S2 (ps := []) (by decide +kernel), mk_S2 (ps := []) (by decide +kernel), mk_S4 (ps := []) (by decide +kernel), mk_S5 (ps := [(127, 549, 550, 551), (127, 601, 602, 603)]) (by decide +kernel)⟩
def lt_7 : List (Nat × Int) := [(52, 32)]
theorem plt_7 : rb_okL pT "BathWater$Tokens" lt_7 := mk_Lt (ps := [541]) (by decide +kernel)
def lt_9 : List (Nat × Int) := [(149, 1886351212), (151, 1718382455), (153, 512736126322), (155, 24948), (157, 32500917012882802), (159, 30787899387900531), (161, 512735736947), (163, 465625113971), (165, 1734437985), (167, 1685217655), (169, 6709618), (171, 1937208685), (173, 1937007984), (175, 28530), (177, 6385252), (179, 7237492)]
theorem plt_9 : rb_okL pT "BathWaterModel" lt_9 := mk_Lt (ps := [1438, 1439, 1440, 1441, 1442, 1443, 1444, 1445, 1446, 1447, 1448, 1449, 1450, 1451, 1452, 1453]) (by decide +kernel)
def tb_14 : ra_Tb := ([], [9], [15], [(38, 0), (1053, 1)], [(492, 25), (633, 37), (505, 38), (335, 39)])
theorem ptb_14 : rs_okT pT "java/lang/String" pSX pMT tb_14 := ⟨mk_S1 (by decide +kernel), mk_S2 (ps := [1909]) (by decide +kernel), mk_S2 (ps := [1908]) (by decide +kernel), mk_S4 (ps := [557, 565]) (by decide +kernel), mk_S5 (ps := [(127, 553, 554, 555), (127, 605, 606, 607), (127, 609, 610, 611), (127, 613, 614, 615)]) (by decide +kernel)⟩
