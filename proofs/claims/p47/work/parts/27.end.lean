noncomputable section
/-! the other calls; ends; arrivals -/
section
variable {p : Program} {l : Launch} {e : Env} {R : Room} {s : State} {m : MethodId} {args : Array Value} {below : List Frame} {meth : Method} {c : Code} {Q : State → Prop}
variable {cc : ByteArray} {own : String} {nL : Nat} {A : Nat → Prop} {D : va_G} {cl : List vw_C} {tys : List (ClassId × FieldType)} {Ts : List Cond} {b0 : Nat → Nat} {ad0 : List Nat} {cT : Nat → ClassId} {n0 : Nat} {v0 : Nat → Int}
variable {sc : String}
variable {nw : List (String × Nat × MethodName × String)}
def ra_obj (ol : List Nat) (RF RL j n pc : Nat) (a : ra_S) : Option (List (Nat × ra_S)) := match a with
  | (env, lv, st, aw, ce, sl) => ra_gd (n == 3 && ol.contains j) (match st with
    | .inr (.inl _) :: st => ra_gd (Nat.ble 1 RF && (Nat.ble 20 RL && Nat.ble (ra_cats st) 8)) (some [(pc + 3, (env, lv, st, aw, ce, sl))])
    | _ => none)
def ra_okO (Ts : List Cond) (own : String) (ol : List Nat) : Prop := ∀ j ∈ ol, Cond.methodLink own j Lib.objectInit ∈ Ts ∧ Cond.instanceMethod Lib.objectInit ∈ Ts ∧ Cond.code Lib.objectInit ⟨#[0xb1]⟩ 1 none ∈ Ts
theorem ra_obj_ok {ol : List Nat} {RF RL j n pc : Nat} {a : ra_S} {out : List (Nat × ra_S)} (h : ra_obj ol RF RL j n pc a = some out) (X : ra_X p s m args c cc own nL A D cl (ra_T sc cT) Ts) (hO : ra_okO Ts own ol) (hRF : RF ≤ R.frames) (hRL : RL ≤ R.locals) (hdg : decode cc pc = .ok (.invokespecial j, n)) (hs : ∀ x ∈ out, ra_ok p l e R s m args below meth c Q nL A D cl b0 ad0 cT n0 v0 x) : ra_ok p l e R s m args below meth c Q nL A D cl b0 ad0 cT n0 v0 (pc, a) := by
  obtain ⟨env, lv, st, aw, ce, sl⟩ := a
  intro hn v lvv stv ws hg hv
  have hst := hg.2.2.1
  have hN := hg.1
  dsimp only at hn hst hN
  obtain ⟨hx, hb, hml, hown, hts, hKK, hA⟩ := id X
  unfold ra_obj at h
  dsimp only at h
  have hq0 := ra_gd_ok h; clear h; obtain ⟨h1, h⟩ := hq0
  rw [Bool.and_eq_true, beq_iff_eq, List.contains_iff_mem] at h1
  obtain ⟨h1, hj⟩ := h1
  subst h1
  split at h
  · have hq1 := ra_gd_ok h; clear h; obtain ⟨h2, h⟩ := hq1
    rw [Bool.and_eq_true, Bool.and_eq_true] at h2
    have h3 := Nat.le_of_ble_eq_true h2.1
    have h4 := Nat.le_of_ble_eq_true h2.2.1
    have h5 := Nat.le_of_ble_eq_true h2.2.2
    cases h
    obtain ⟨x0, stv1, rfl, g2, g4⟩ := ra_a2_cons hst
    obtain ⟨r, _, rfl⟩ := g2
    obtain ⟨o1, o2, o3⟩ := hO _ hj
    intro H locs ls hP hD hS hl
    have hcat := ra_cats_ok g4
    have hroom := lv_room (m := m) (pc := pc) (ls := ls) (rest := .ref r :: stv1) (st := stv1) (by rw [hcat]; exact h5)
    refine W.objInit hx hb hown (hts _ o1) (hts _ o2) (hts _ o3) rfl (by rw [hml]; exact hl.1) rfl hdg (Nat.le_trans h3 hRF) (by show 2 * (F0 m pc ls (.ref r :: stv1)).monitorRoom + _ + 12 ≤ _; omega) ?_
    exact hs _ (List.mem_singleton.mpr rfl) hn v _ _ ws (ra_g_st hg g4) hv H locs ls hP hD hS hl
  · cases h
def ra_cpy (al : List Nat) (RF RL j n pc : Nat) (a : ra_S) : Option (List (Nat × ra_S)) := match a with
  | (env, lv, st, aw, ce, sl) => ra_gd (n == 3 && al.contains j) (match st with
    | .inl qn :: .inl qd :: .inr (.inl d) :: .inl qs :: .inr (.inl sr) :: st => match aw[sr]? with
      | none => none
      | some src => match aw[d]? with
        | none => none
        | some dst => match ra_cpd env src dst qs qd qn with
          | none => none
          | some out => ra_gd (Nat.ble 1 RF && Nat.ble (ra_cats st + (nativeFrameWords "java/lang/System" "arraycopy" 5 + 11)) RL) (some [(pc + 3, (env, lv, st, aw.set d out, ce, sl))])
    | _ => none)
def ra_okY (Ts : List Cond) (own : String) (al : List Nat) : Prop := ∀ j ∈ al, Cond.methodLink own j arraycopyName ∈ Ts ∧ Cond.native arraycopyName ∈ Ts ∧ Cond.static arraycopyName ∈ Ts ∧ Cond.initialized "java/lang/System" ∈ Ts
theorem ra_cpy_ok {al : List Nat} {RF RL j n pc : Nat} {a : ra_S} {out : List (Nat × ra_S)} (h : ra_cpy al RF RL j n pc a = some out) (X : ra_X p s m args c cc own nL A D cl (ra_T sc cT) Ts) (hY : ra_okY Ts own al) (hRF : RF ≤ R.frames) (hRL : RL ≤ R.locals) (hdg : decode cc pc = .ok (.invokestatic j, n)) (hs : ∀ x ∈ out, ra_ok p l e R s m args below meth c Q nL A D cl b0 ad0 cT n0 v0 x) : ra_ok p l e R s m args below meth c Q nL A D cl b0 ad0 cT n0 v0 (pc, a) := by
  obtain ⟨env, lv, st, aw, ce, sl⟩ := a
  intro hn v lvv stv ws hg hv
  have hst := hg.2.2.1
  have hN := hg.1
  dsimp only at hn hst hN
  obtain ⟨hx, hb, hml, hown, hts, hKK, hA⟩ := id X
  unfold ra_cpy at h
  dsimp only at h
  have hq0 := ra_gd_ok h; clear h; obtain ⟨h1, h⟩ := hq0
  rw [Bool.and_eq_true, beq_iff_eq, List.contains_iff_mem] at h1
  obtain ⟨h1, hj⟩ := h1
  subst h1
  split at h
  · rename_i qn qd d qs sr st1
    split at h
    · cases h
    · rename_i src hsrc
      split at h
      · cases h
      · rename_i dst hdst
        split at h
        · cases h
        · rename_i outc hout
          have hq1 := ra_gd_ok h; clear h; obtain ⟨h2, h⟩ := hq1
          rw [Bool.and_eq_true] at h2
          have h3 := Nat.le_of_ble_eq_true h2.1
          have h4 := Nat.le_of_ble_eq_true h2.2
          cases h
          obtain ⟨x0, stv1, rfl, g2, g4⟩ := ra_a2_cons hst
          obtain ⟨x1, stv2, rfl, g5, g6⟩ := ra_a2_cons g4
          obtain ⟨x2, stv3, rfl, g7, g8⟩ := ra_a2_cons g6
          obtain ⟨x3, stv4, rfl, g9, g10⟩ := ra_a2_cons g8
          obtain ⟨x4, stv5, rfl, g11, g12⟩ := ra_a2_cons g10
          obtain ⟨k1, n, rfl, k2⟩ := g2
          obtain ⟨k3, dp, rfl, k4⟩ := g5
          obtain ⟨k5, sp, rfl, k6⟩ := g9
          obtain ⟨qd1, u1, rfl, u2⟩ := ra_cell hg hdst g7
          obtain ⟨qs1, w1, rfl, w2⟩ := ra_cell hg hsrc g11
          obtain ⟨f, g, m1, m2, e1, e2, n1, n2, n3, l1, l2, hc⟩ := ra_cpd_ok hN k5 k6 k3 k4 k1 k2 hout w2 u2
          obtain ⟨y1, y2, y3, y4⟩ := hY _ hj
          intro H locs ls hP hD hS hl
          refine va_copyi hx hb (by rw [hml, hl.1]) hown (hts _ y1) (hts _ y2) (hts _ y3) (hts _ y4) hKK hP hD hS sr d 0 0 (f := f) (g := g) (ty := .int) (by rw [w1, ← e1]) (by rw [u1, ← e2]) rfl rfl rfl n1 n2 n3 l1 l2 (fun _ _ => rfl) (Nat.le_trans h3 hRF) (by rw [ra_cats_ok g12]; exact Nat.le_trans h4 hRL) hdg (fun H1 locs1 hP1 hD1 hS1 => ?_)
          exact hs _ (List.mem_singleton.mpr rfl) hn v _ _ _ (ra_g_set hg u1 hc g12) hv H1 locs1 ls hP1 hD1 hS1 hl
  · cases h
/-- greater, less, value without sign -/
def ra_mx (RL pc : Nat) (env : ra_N) (lv : List (Nat × ra_V)) (st : List ra_V) (aw : List ra_C) (ce sl : Nat) : Option (List (Nat × ra_S)) := match st with
  | .inl y :: .inl x :: st => ra_gd (Nat.ble (ra_cats st + 13) RL) (some (ra_bs (pc + 3) (ra_le 1 env x y) lv (.inl y :: st) aw ce sl ++ ra_bs (pc + 3) (ra_le 0 env y x) lv (.inl x :: st) aw ce sl))
  | _ => none
def ra_mn (RL pc : Nat) (env : ra_N) (lv : List (Nat × ra_V)) (st : List ra_V) (aw : List ra_C) (ce sl : Nat) : Option (List (Nat × ra_S)) := match st with
  | .inl y :: .inl x :: st => ra_gd (Nat.ble (ra_cats st + 13) RL) (some (ra_bs (pc + 3) (ra_le 1 env y x) lv (.inl y :: st) aw ce sl ++ ra_bs (pc + 3) (ra_le 0 env x y) lv (.inl x :: st) aw ce sl))
  | _ => none
def ra_ab (RL pc : Nat) (env : ra_N) (lv : List (Nat × ra_V)) (st : List ra_V) (aw : List ra_C) (ce sl : Nat) : Option (List (Nat × ra_S)) := match st with
  | .inl x :: st => ra_gd (Nat.ble (ra_cats st + 13) RL) (let r := ra_sub env (0, 0) x; some (ra_bs (pc + 3) (ra_le 0 env (0, 0) x) lv (.inl x :: st) aw ce sl ++ ra_bs (pc + 3) (ra_le 1 r.1 x (0, 0)) lv (.inl r.2 :: st) aw ce sl))
  | _ => none
def ra_mm (mml : List (Nat × Nat)) (RC RS RF RL j n pc : Nat) (a : ra_S) : Option (List (Nat × ra_S)) := match a with
  | (env, lv, st, aw, ce, sl) => match ra_nf mml j with
    | none => none
    | some k => ra_gd (n == 3 && (Nat.ble 1 RF && (Nat.ble ce RC && Nat.ble sl RS))) (match k with
      | 0 => ra_mx RL pc env lv st aw ce sl
      | 1 => ra_mn RL pc env lv st aw ce sl
      | _ => ra_ab RL pc env lv st aw ce sl)
def ra_okMm (Ts : List Cond) (own : String) (mml : List (Nat × Nat)) : Prop := ∀ e ∈ mml, Cond.initialized "java/lang/Math" ∈ Ts ∧
  ((e.2 = 0 ∧ Cond.methodLink own e.1 Lib.Math.max.name ∈ Ts ∧ Cond.static Lib.Math.max.name ∈ Ts ∧ Cond.code Lib.Math.max.name Lib.Math.max.code 2 (some .int) ∈ Ts) ∨
   (e.2 = 1 ∧ Cond.methodLink own e.1 Lib.Math.min.name ∈ Ts ∧ Cond.static Lib.Math.min.name ∈ Ts ∧ Cond.code Lib.Math.min.name Lib.Math.min.code 2 (some .int) ∈ Ts) ∨
   (e.2 = 2 ∧ Cond.methodLink own e.1 Lib.Math.abs.name ∈ Ts ∧ Cond.static Lib.Math.abs.name ∈ Ts ∧ Cond.code Lib.Math.abs.name Lib.Math.abs.code 1 (some .int) ∈ Ts))
theorem ra_mm_ok {mml : List (Nat × Nat)} {RC RS RF RL j n pc : Nat} {a : ra_S} {out : List (Nat × ra_S)} (h : ra_mm mml RC RS RF RL j n pc a = some out) (X : ra_X p s m args c cc own nL A D cl (ra_T sc cT) Ts) (hM : ra_okMm Ts own mml) (hRC : RC ≤ R.cells) (hRS : RS ≤ R.slots) (hRF : RF ≤ R.frames) (hRL : RL ≤ R.locals) (hdg : decode cc pc = .ok (.invokestatic j, n)) (hs : ∀ x ∈ out, ra_ok p l e R s m args below meth c Q nL A D cl b0 ad0 cT n0 v0 x) : ra_ok p l e R s m args below meth c Q nL A D cl b0 ad0 cT n0 v0 (pc, a) := by
  obtain ⟨env, lv, st, aw, ce, sl⟩ := a
  intro hn v lvv stv ws hg hv
  have hst := hg.2.2.1
  have hN := hg.1
  dsimp only at hn hst hN
  obtain ⟨hx, hb, hml, hown, hts, hKK, hA⟩ := id X
  unfold ra_mm at h
  dsimp only at h
  split at h
  · cases h
  · rename_i k hk
    have hq1 := ra_gd_ok h; clear h; obtain ⟨h2, h⟩ := hq1
    rw [Bool.and_eq_true, Bool.and_eq_true, Bool.and_eq_true, beq_iff_eq] at h2
    obtain ⟨h2, h3, h4, h5⟩ := h2
    have h3 := Nat.le_trans (Nat.le_of_ble_eq_true h3) hRF
    have h4 := Nat.le_trans (Nat.le_of_ble_eq_true h4) hRC
    have h5 := Nat.le_trans (Nat.le_of_ble_eq_true h5) hRS
    subst h2
    obtain ⟨m0, mk⟩ := hM _ (ra_nf_mem hk)
    dsimp only at mk
    rcases mk with ⟨e0, m1, m2, m3⟩ | ⟨e0, m1, m2, m3⟩ | ⟨e0, m1, m2, m3⟩
    · subst e0
      have h : ra_mx RL pc env lv st aw ce sl = some out := h
      unfold ra_mx at h
      split at h
      · have hq2 := ra_gd_ok h; clear h; obtain ⟨h6, h⟩ := hq2
        cases h
        obtain ⟨x0, stv1, rfl, g2, g4⟩ := ra_a2_cons hst
        obtain ⟨x1, stv2, rfl, g5, g6⟩ := ra_a2_cons g4
        have g2' := g2
        have g5' := g5
        obtain ⟨k1, y, rfl, k2⟩ := g2
        obtain ⟨k3, x, rfl, k4⟩ := g5
        intro H locs ls hP hD hS hl
        refine va_mmax hx hb (by rw [hml, hl.1]) hown (hts _ m1) (hts _ m2) (hts _ m0) (hts _ m3) h3 (by rw [ra_cats_ok g6]; exact Nat.le_trans (Nat.le_of_ble_eq_true h6) hRL) h4 h5 hdg ?_
        by_cases hxy : x < y
        · rw [if_pos hxy]
          exact ra_bs_ok hg (ra_a2_mk g2' g6) hn hv (ra_le_ok hN k3 k1 k4 k2 (by have := Int32.lt_iff_toInt_lt.mp hxy; omega)) (fun z hz => hs z (List.mem_append_left _ hz)) H locs ls hP hD hS hl
        · rw [if_neg hxy]
          exact ra_bs_ok hg (ra_a2_mk g5' g6) hn hv (ra_le_ok hN k1 k3 k2 k4 (by have := Int32.le_iff_toInt_le.mp (Int32.not_lt.mp hxy); omega)) (fun z hz => hs z (List.mem_append_right _ hz)) H locs ls hP hD hS hl
      · cases h
    · subst e0
      have h : ra_mn RL pc env lv st aw ce sl = some out := h
      unfold ra_mn at h
      split at h
      · have hq2 := ra_gd_ok h; clear h; obtain ⟨h6, h⟩ := hq2
        cases h
        obtain ⟨x0, stv1, rfl, g2, g4⟩ := ra_a2_cons hst
        obtain ⟨x1, stv2, rfl, g5, g6⟩ := ra_a2_cons g4
        have g2' := g2
        have g5' := g5
        obtain ⟨k1, y, rfl, k2⟩ := g2
        obtain ⟨k3, x, rfl, k4⟩ := g5
        intro H locs ls hP hD hS hl
        refine va_mmin hx hb (by rw [hml, hl.1]) hown (hts _ m1) (hts _ m2) (hts _ m0) (hts _ m3) h3 (by rw [ra_cats_ok g6]; exact Nat.le_trans (Nat.le_of_ble_eq_true h6) hRL) h4 h5 hdg ?_
        by_cases hxy : y < x
        · rw [if_pos hxy]
          exact ra_bs_ok hg (ra_a2_mk g2' g6) hn hv (ra_le_ok hN k1 k3 k2 k4 (by have := Int32.lt_iff_toInt_lt.mp hxy; omega)) (fun z hz => hs z (List.mem_append_left _ hz)) H locs ls hP hD hS hl
        · rw [if_neg hxy]
          exact ra_bs_ok hg (ra_a2_mk g5' g6) hn hv (ra_le_ok hN k3 k1 k4 k2 (by have := Int32.le_iff_toInt_le.mp (Int32.not_lt.mp hxy); omega)) (fun z hz => hs z (List.mem_append_right _ hz)) H locs ls hP hD hS hl
      · cases h
    · subst e0
      have h : ra_ab RL pc env lv st aw ce sl = some out := h
      unfold ra_ab at h
      split at h
      · rename_i qx st1 hh
        have hq2 := ra_gd_ok h; clear h; obtain ⟨h6, h⟩ := hq2
        cases h
        obtain ⟨x0, stv1, rfl, g2, g4⟩ := ra_a2_cons hst
        have g2' := g2
        obtain ⟨k1, x, rfl, k2⟩ := g2
        have e0 : (0 : Int32).toInt = v (0, (0 : Int)).1 + (0, (0 : Int)).2 := by show _ = v 0 + 0; rw [hN.2.1]; rfl
        intro H locs ls hP hD hS hl
        refine va_mabs hx hb (by rw [hml, hl.1]) hown (hts _ m1) (hts _ m2) (hts _ m0) (hts _ m3) h3 (by rw [ra_cats_ok g4]; exact Nat.le_trans (Nat.le_of_ble_eq_true h6) hRL) h4 h5 hdg ?_
        by_cases hxy : 0 ≤ x
        · rw [if_pos hxy]
          exact ra_bs_ok hg (ra_a2_mk g2' g4) hn hv (ra_le_ok (qx := (0, 0)) (x := 0) hN hN.1 k1 e0 k2 (by have := Int32.le_iff_toInt_le.mp hxy; omega)) (fun z hz => hs z (List.mem_append_left _ hz)) H locs ls hP hD hS hl
        · rw [if_neg hxy]
          have hr := ra_sub_ok (qx := (0, 0)) (x := 0) hN hN.1 k1 e0 k2
          obtain ⟨r1, v', r3, r4, r5⟩ := ra_resV (b0 := b0) hr
          have hg' := ra_g_ext (ra_g_st (st' := st1) (stv' := stv1) (ce' := ce) (sl' := sl) hg g4) r1 r3 r4
          have k2' : x.toInt = v' qx.1 + qx.2 := by rw [r3 _ k1]; exact k2
          have e0' : (0 : Int32).toInt = v' (0, (0 : Int)).1 + (0, (0 : Int)).2 := by show _ = v' 0 + 0; rw [r4.2.1]; rfl
          exact ra_bs_ok hg' (ra_a2_mk (r5 _) hg'.2.2.1) (Nat.le_trans hn r1) (fun i hi => by rw [r3 i (by omega)]; exact hv i hi) (ra_le_ok (qy := (0, 0)) (y := 0) r4 (by omega) r4.1 k2' e0' (by have := Int32.lt_iff_toInt_lt.mp (Int32.not_le.mp hxy); omega)) (fun z hz => hs z (List.mem_append_right _ hz)) H locs ls hP hD hS hl
      · cases h
/-- the first n symbols stay -/
def ra_idn : Nat → Nat → List (Nat × Int) → Bool
  | _, 0, _ => true
  | i, k + 1, r :: μ => r.1 == i && (ra_eqb r.2 0 && ra_idn (i + 1) k μ)
  | _, _ + 1, [] => false
theorem ra_idn_ok : ∀ {k i : Nat} {μ : List (Nat × Int)}, ra_idn i k μ = true → ∀ j, j < k → μ[j]? = some (i + j, 0)
  | 0, _, _, _, j, h => by omega
  | k + 1, i, r :: μ, h, j, hj => by
    simp only [ra_idn, Bool.and_eq_true, beq_iff_eq] at h
    have h2 := ra_eqb_eq h.2.1
    cases j with
    | zero => simp [← h.1, ← h2]
    | succ j =>
      have := ra_idn_ok h.2.2 j (by omega)
      simp only [List.getElem?_cons_succ, this]
      rw [show i + 1 + j = i + (j + 1) by omega]
  | k + 1, _, [], h, _, _ => by simp [ra_idn] at h
/-- ends: what is answered by which instruction -/
def ra_rok (rt : Option FieldType) (i : Instr) (env : ra_N) (st : List ra_V) : Bool := match i with
  | .return_ => rt == none && st.isEmpty
  | .ireturn => match st with
    | [.inl q] => rt == some .int || ((rt == some .boolean && (ra_leb 0 (ra_rg env q).1 && ra_leb (ra_rg env q).2 1)) || ((rt == some .char && (ra_leb 0 (ra_rg env q).1 && ra_leb (ra_rg env q).2 65535)) || (rt == some .byte && (ra_leb 0 (ra_rg env q).1 && ra_leb (ra_rg env q).2 0))))
    | _ => false
  | .lreturn => match st with
    | [.inr (.inr (.inl k))] => k == 1 && rt == some .long
    | _ => false
  | .areturn => match st with
    | [.inr (.inl _)] => match rt with
      | some (.object _) => true
      | some (.array _) => true
      | _ => false
    | _ => false
  | _ => false
def ra_rv (rt : Option FieldType) (i : Instr) (st : List Value) (r : Option Value) : Prop :=
  (rt = none ∧ i = .return_ ∧ st = [] ∧ r = none) ∨ (∃ y : Int32, rt = some .int ∧ i = .ireturn ∧ st = [.int y] ∧ r = some (.int y)) ∨ (∃ (ty : FieldType) (y : Int32), rt = some ty ∧ i = .ireturn ∧ st = [.int y] ∧ narrow ty (.int y) = .int y ∧ r = some (.int y)) ∨ (∃ y : Int64, rt = some .long ∧ i = .lreturn ∧ st = [.long y] ∧ r = some (.long y)) ∨ (∃ (ty : FieldType) (a : Nat), rt = some ty ∧ ((∃ n, ty = .object n) ∨ ∃ t, ty = .array t) ∧ i = .areturn ∧ st = [.ref a] ∧ r = some (.ref a))
theorem ra_rok_ok {rt : Option FieldType} {i : Instr} {env : ra_N} {st : List ra_V} (h : ra_rok rt i env st = true) {v : Nat → Int} {ads : List Nat} (hN : ra_cN v env) {stv : List Value} (hc : ra_a2 (ra_cV env.length v ads b0) st stv) : ∃ r : Option Value, ra_rv rt i stv r ∧ r.toList = stv := by
  unfold ra_rok at h
  split at h
  · rw [Bool.and_eq_true, beq_iff_eq] at h
    cases st with
    | nil =>
      cases stv with
      | nil => exact ⟨none, Or.inl ⟨h.1, rfl, rfl, rfl⟩, rfl⟩
      | cons x stv => exact hc.elim
    | cons a st => simp at h
  · split at h
    · rename_i q
      obtain ⟨x, stv', rfl, g1, g2⟩ := ra_a2_cons hc
      cases stv' with
      | cons y stv => exact g2.elim
      | nil =>
        obtain ⟨_, y, rfl, k2⟩ := g1
        rw [Bool.or_eq_true] at h
        rcases h with h | h
        · rw [beq_iff_eq] at h
          exact ⟨some (.int y), Or.inr (Or.inl ⟨y, h, rfl, rfl, rfl⟩), rfl⟩
        · have h1 := ra_rg_ok hN k2
          rw [Bool.or_eq_true, Bool.or_eq_true] at h
          rcases h with h | h | h
          · rw [Bool.and_eq_true, Bool.and_eq_true, beq_iff_eq] at h
            have h2 := ra_leb_le h.2.1
            have h3 := ra_leb_le h.2.2
            refine ⟨some (.int y), Or.inr (Or.inr (Or.inl ⟨_, y, h.1, rfl, rfl, ?_, rfl⟩)), rfl⟩
            rcases ra_01 (y := y) (by omega) (by omega) with e | e <;> rw [e] <;> decide
          · rw [Bool.and_eq_true, Bool.and_eq_true, beq_iff_eq] at h
            have h2 := ra_leb_le h.2.1
            have h3 := ra_leb_le h.2.2
            refine ⟨some (.int y), Or.inr (Or.inr (Or.inl ⟨_, y, h.1, rfl, rfl, ?_, rfl⟩)), rfl⟩
            have e : y = nI y.toInt.toNat := Int32.toInt_inj.mp (by rw [nI_toInt (by omega)]; omega)
            rw [e]
            exact (pk_charN (q := y.toInt.toNat) (by omega)).1
          · rw [Bool.and_eq_true, Bool.and_eq_true, beq_iff_eq] at h
            have h2 := ra_leb_le h.2.1
            have h3 := ra_leb_le h.2.2
            refine ⟨some (.int y), Or.inr (Or.inr (Or.inl ⟨_, y, h.1, rfl, rfl, ?_, rfl⟩)), rfl⟩
            have e : y = 0 := Int32.toInt_inj.mp (by show y.toInt = 0; omega)
            rw [e]
            decide
    · cases h
  · split at h
    · rename_i k
      rw [Bool.and_eq_true, beq_iff_eq, beq_iff_eq] at h
      obtain ⟨h1, h2⟩ := h
      subst h1
      obtain ⟨x, stv', rfl, g1, g2⟩ := ra_a2_cons hc
      cases stv' with
      | cons y stv => exact g2.elim
      | nil =>
        obtain ⟨y, rfl⟩ := ra_longV g1
        exact ⟨some (.long y), Or.inr (Or.inr (Or.inr (Or.inl ⟨y, h2, rfl, rfl, rfl⟩))), rfl⟩
    · cases h
  · split at h
    · obtain ⟨x, stv', rfl, g1, g2⟩ := ra_a2_cons hc
      cases stv' with
      | cons y stv => exact g2.elim
      | nil =>
        obtain ⟨r, _, rfl⟩ := g1
        split at h
        · exact ⟨some (.ref r), Or.inr (Or.inr (Or.inr (Or.inr ⟨_, r, rfl, Or.inl ⟨_, rfl⟩, rfl, rfl, rfl⟩))), rfl⟩
        · exact ⟨some (.ref r), Or.inr (Or.inr (Or.inr (Or.inr ⟨_, r, rfl, Or.inr ⟨_, rfl⟩, rfl, rfl, rfl⟩))), rfl⟩
        · cases h
    · cases h
  · cases h
theorem ra_id_ok {n : Nat} {ads : List Nat} (i j r : Nat) (h1 : ((ra_upn 0 n, []) : ra_Pi).1[i]? = some j) (h2 : ads[j]? = some r) : ads[i]? = some r := by
  have hi : i < n := by
    have key : ∀ (k m : Nat), (ra_upn m k).length = k := by
      intro k
      induction k with
      | zero => intro m; rfl
      | succ k ih => intro m; simp [ra_upn, ih]
    have := (List.getElem?_eq_some_iff.mp h1).1
    rw [key] at this
    exact this
  have h1 : (ra_upn 0 n)[i]? = some j := h1
  rw [ra_upn_get hi] at h1
  cases h1
  rw [Nat.zero_add] at h2
  exact h2
theorem ra_en_id {n : Nat} {env : ra_N} {v : Nat → Int} {μ : List (Nat × Int)} {ads : List Nat} (hN : ra_cN v env) {a' a : ra_V} {x : Value} (h : ra_en env μ (ra_upn 0 n, []) a' a = true) (hc : ra_cV env.length v ads b0 a' x) : ra_cV μ.length (ra_vI v μ) ads b0 a x := by
  have := ra_en_ok (π := (ra_upn 0 n, [])) hN ra_id_ok h hc
  rw [ra_bI_nil] at this
  exact this
theorem ra_enC_id {n : Nat} {env : ra_N} {v : Nat → Int} {μ : List (Nat × Int)} {ads : List Nat} (hN : ra_cN v env) {a' a : ra_C} {x : va_E} (h : ra_enC env μ (ra_upn 0 n, []) a' a = true) (hc : ra_cC env.length v ads b0 cT a' x) : ra_cC μ.length (ra_vI v μ) ads b0 cT a x := by
  have := ra_enC_ok (π := (ra_upn 0 n, [])) hN ra_id_ok h hc
  rw [ra_bI_nil] at this
  exact this
/-- an end is one of those told -/
def ra_ret (hs0 : Bool) (rt : Option FieldType) (np : Nat) (posts : List ra_P) (mc ms : Nat) (i : Instr) (n : Nat) (ki : Nat) (μ : List (Nat × Int)) (a : ra_S) : Bool := match a with
  | (env, _, st, aw, ce, sl) => match hs0 with
    | true => n == 1 && (Nat.ble ce mc && (Nat.ble sl ms && (match i with
      | .ireturn => match st with
        | [.inl q] => ra_leb 1 (ra_rg env q).1 && ra_leb (ra_rg env q).2 1
        | _ => false
      | _ => false)))
    | false => match posts[ki]? with
    | none => false
    | some q => n == 1 && (ce == mc && (sl == ms && (ra_rok rt i env st && (ra_m0 μ && (ra_idn 0 np μ && (ra_mok env μ q.1 && (ra_b2 (ra_en env μ (ra_upn 0 aw.length, [])) st q.2.1 && ra_b2 (ra_enC env μ (ra_upn 0 aw.length, [])) aw q.2.2)))))))
theorem ra_ret_ok {rt : Option FieldType} {np : Nat} {posts : List ra_P} {mc ms : Nat} {i : Instr} {n pc ki : Nat} {μ : List (Nat × Int)} {a : ra_S} {vE : Nat → Int} {ws0 : va_W} (h : ra_ret false rt np posts mc ms i n ki μ a = true) (hE : np ≤ n0) (hEv : ∀ i, i < np → v0 i = vE i) (had : ad0 = ws0.map Prod.fst)
    (hR : ∀ (lv : List (Nat × Value)) (st : List Value) (ws : va_W) (r : Option Value), ra_rv rt i st r → ra_pv b0 cT vE np posts ws0 r ws → ra_W p l e R s m args below meth c Q nL A D cl pc lv st ws mc ms) : n = 1 ∧ ra_ok p l e R s m args below meth c Q nL A D cl b0 ad0 cT n0 v0 (pc, a) := by
  obtain ⟨env, lv, st, aw, ce, sl⟩ := a
  unfold ra_ret at h
  dsimp only at h
  split at h
  · cases h
  · rename_i q hq
    simp only [Bool.and_eq_true, beq_iff_eq] at h
    obtain ⟨c1, c2, c3, c4, c5, c6, c7, c8, c9⟩ := h
    refine ⟨c1, ?_⟩
    intro hn v lvv stv ws hg hv
    have hN := hg.1
    have hst := hg.2.2.1
    dsimp only at hn hN hst
    obtain ⟨r, r1, r2⟩ := ra_rok_ok c4 hN hst
    have hμl := ra_mok_len c7
    show ra_W p l e R s m args below meth c Q nL A D cl pc lvv stv ws ce sl
    rw [c2, c3]
    refine hR lvv stv ws r r1 ⟨⟨q, List.mem_of_getElem? hq, ra_vI v μ, fun i hi => ?_, ra_cN_map hN c5 c7, ?_, ?_⟩, fun k x hx => ?_⟩
    · have := ra_idn_ok c6 i hi
      simp only [ra_vI, this]
      rw [Nat.zero_add, hv i (by omega), hEv i hi]
      omega
    · rw [r2, ← hμl]
      exact ra_b2_ok (R := ra_cV env.length v (ws.map Prod.fst) b0) (R' := ra_cV μ.length (ra_vI v μ) (ws.map Prod.fst) b0) (fun a b c q1 q2 => ra_en_id hN q1 q2) c8 hst
    · rw [← hμl]
      exact ra_b2_ok (R := fun (c : ra_C) (x : Nat × va_E) => ra_cC env.length v (ws.map Prod.fst) b0 cT c x.2) (R' := fun (c : ra_C) (x : Nat × va_E) => ra_cC μ.length (ra_vI v μ) (ws.map Prod.fst) b0 cT c x.2) (fun a b c q1 q2 => ra_enC_id hN q1 q2) c9 hg.2.2.2.1
    · have h1 := hg.2.2.2.2 k x.1 (by rw [had, List.getElem?_map, hx]; rfl)
      rw [List.getElem?_map] at h1
      cases hw : ws[k]? with
      | none => rw [hw] at h1; cases h1
      | some y => rw [hw] at h1; exact ⟨y, rfl, by simpa using h1⟩
theorem ra_retL_ok {rt : Option FieldType} {np : Nat} {posts : List ra_P} {mc ms : Nat} {i : Instr} {n pc ki : Nat} {μ : List (Nat × Int)} {a : ra_S} (h : ra_ret true rt np posts mc ms i n ki μ a = true)
    (hR : i = .ireturn → ∀ (lv : List (Nat × Value)) (ws : va_W) (ce sl : Nat), ce ≤ mc → sl ≤ ms → ra_W p l e R s m args below meth c Q nL A D cl pc lv [.int 1] ws ce sl) : n = 1 ∧ ra_ok p l e R s m args below meth c Q nL A D cl b0 ad0 cT n0 v0 (pc, a) := by
  obtain ⟨env, lv, st, aw, ce, sl⟩ := a
  unfold ra_ret at h
  dsimp only at h
  rw [Bool.and_eq_true, Bool.and_eq_true, Bool.and_eq_true, beq_iff_eq] at h
  obtain ⟨c1, c2, c3, c4⟩ := h
  refine ⟨c1, ?_⟩
  intro hn v lvv stv ws hg hv
  have hN := hg.1
  have hst := hg.2.2.1
  dsimp only at hn hN hst
  split at c4
  · split at c4
    · rw [Bool.and_eq_true] at c4
      have g1 := ra_leb_le c4.1
      have g2 := ra_leb_le c4.2
      obtain ⟨x, stv', rfl, k1, k2⟩ := ra_a2_cons hst
      cases stv' with
      | cons y stv => exact k2.elim
      | nil =>
        obtain ⟨_, y, rfl, k3⟩ := k1
        have hb := ra_rg_ok hN k3
        have hy : y = 1 := Int32.toInt_inj.mp (by show y.toInt = 1; omega)
        subst hy
        exact hR rfl lvv ws ce sl (Nat.le_of_ble_eq_true c2) (Nat.le_of_ble_eq_true c3)
    · cases c4
  · cases c4
/-- a number that is to be known by one value first -/
def ra_spq (spl : Nat) (env : ra_N) (q : Nat × Int) : Option (Nat × Int) := if q.1 = 0 then none else let r := ra_rg env q; match ra_leb (r.1 + 1) r.2 && ra_leb (r.2 - r.1 + 1) spl with
  | true => some q
  | false => none
def ra_spl (spl : Nat) (i : Instr) (a : ra_S) : Option (Nat × Int) := match i with
  | .iaload => match a.2.2.1 with
    | .inl q :: _ :: _ => ra_spq spl a.1 q
    | _ => none
  | .baload => match a.2.2.1 with
    | .inl q :: _ :: _ => ra_spq spl a.1 q
    | _ => none
  | .ishl => match a.2.2.1 with
    | .inl q :: _ :: _ => ra_spq spl a.1 q
    | _ => none
  | .ishr => match a.2.2.1 with
    | .inl q :: _ :: _ => ra_spq spl a.1 q
    | _ => none
  | .iushr => match a.2.2.1 with
    | .inl q :: _ :: _ => ra_spq spl a.1 q
    | _ => none
  | .iastore => match a.2.2.1 with
    | _ :: .inl q :: _ :: _ => ra_spq spl a.1 q
    | _ => none
  | .bastore => match a.2.2.1 with
    | _ :: .inl q :: _ :: _ => ra_spq spl a.1 q
    | _ => none
  | _ => none
theorem ra_spq_eq {spl : Nat} {env : ra_N} {q r : Nat × Int} (h : ra_spq spl env q = some r) : q = r := by
  unfold ra_spq at h
  split at h
  · cases h
  · dsimp only at h
    split at h
    · exact Option.some.inj h
    · cases h
theorem ra_spl_in {spl : Nat} {i : Instr} {a : ra_S} {q : Nat × Int} (h : ra_spl spl i a = some q) : ∃ k : Nat, a.2.2.1[k]? = some (.inl q) := by
  unfold ra_spl at h
  split at h <;> first | (cases h; done) | skip
  all_goals
    split at h
    · rename_i hst
      have e := ra_spq_eq h
      subst e
      rw [hst]
      first | exact ⟨0, rfl⟩ | exact ⟨1, rfl⟩
    · cases h
def ra_sps (pc : Nat) (q : Nat × Int) (a : ra_S) : Nat → Int → List (Nat × ra_S)
  | 0, _ => []
  | n + 1, j => ra_bs pc (ra_cmpT 2 a.1 q (0, j)) a.2.1 a.2.2.1 a.2.2.2.1 a.2.2.2.2.1 a.2.2.2.2.2 ++ ra_sps pc q a n (j + 1)
theorem ra_sps_in {pc : Nat} {q : Nat × Int} {a : ra_S} : ∀ {n : Nat} {j k : Int}, j ≤ k → k < j + n → ∀ x ∈ ra_bs pc (ra_cmpT 2 a.1 q (0, k)) a.2.1 a.2.2.1 a.2.2.2.1 a.2.2.2.2.1 a.2.2.2.2.2, x ∈ ra_sps pc q a n j
  | 0, j, k, h1, h2, _, _ => by omega
  | n + 1, j, k, h1, h2, x, hx => by
    by_cases e : k = j
    · subst e
      exact List.mem_append_left _ hx
    · exact List.mem_append_right _ (ra_sps_in (by omega) (by omega) x hx)
theorem ra_sps_ok {pc : Nat} {q : Nat × Int} {a : ra_S} (hk : ∃ k : Nat, a.2.2.1[k]? = some (.inl q)) (hs : ∀ x ∈ ra_sps pc q a ((ra_rg a.1 q).2 - (ra_rg a.1 q).1 + 1).toNat (ra_rg a.1 q).1, ra_ok p l e R s m args below meth c Q nL A D cl b0 ad0 cT n0 v0 x) : ra_ok p l e R s m args below meth c Q nL A D cl b0 ad0 cT n0 v0 (pc, a) := by
  obtain ⟨env, lv, st, aw, ce, sl⟩ := a
  intro hn v lvv stv ws hg hv
  have hN := hg.1
  have hst := hg.2.2.1
  dsimp only at hn hN hst
  obtain ⟨k, hk⟩ := hk
  obtain ⟨x, h1, h2⟩ := ra_a2_get hst hk
  obtain ⟨k1, y, rfl, k2⟩ := h2
  have hr := ra_rg_ok hN k2
  exact ra_bs_ok hg hst hn hv (ra_cmpT_ok (qy := (0, y.toInt)) (y := y) hN 2 k1 hN.1 k2 (by show _ = v 0 + _; rw [hN.2.1]; omega) rfl) (fun z hz => hs z (ra_sps_in (by dsimp only; omega) (by dsimp only; omega) z hz))
abbrev ra_U : Type := Nat × ra_S × ra_L
def ra_lvb (env : ra_N) (μ : List (Nat × Int)) (π : ra_Pi) (lv : List (Nat × ra_V)) (q : Nat × ra_V) : Bool := match ra_lf lv q.1 with
  | some x => ra_en env μ π x q.2
  | none => false
def ra_neg (ts : List (Nat × Int)) : List (Nat × Int) := ts.map (fun t => (t.1, - t.2))
theorem ra_ev_neg (v : Nat → Int) : ∀ (ts us : List (Nat × Int)) (k j : Int), ra_ev v (ra_neg ts ++ us, k - j) = ra_ev v (us, k) - ra_ev v (ts, j)
  | [], us, k, j => by
    have := ra_ev_add v us k (-j)
    have e : k + -j = k - j := by omega
    rw [e] at this
    simp only [ra_neg, List.map_nil, List.nil_append, this]
    simp [ra_ev]
    omega
  | t :: ts, us, k, j => by
    have ih := ra_ev_neg v ts us k j
    have e1 : ra_ev v (ra_neg (t :: ts) ++ us, k - j) = - t.2 * v t.1 + ra_ev v (ra_neg ts ++ us, k - j) := by simp [ra_ev, ra_neg]
    have e2 : ra_ev v (t :: ts, j) = t.2 * v t.1 + ra_ev v (ts, j) := by simp [ra_ev]
    rw [e1, ih, e2, Int.neg_mul]
    omega
/-- an arrival at a cut, with a smaller rank -/
def ra_arr (np : Nat) (R0 : ra_L) (u : ra_U) (pc : Nat) (μ : List (Nat × Int)) (a : ra_S) : Bool := match a with
  | (env, lv, st, aw, ce, sl) => u.1 == pc && (ce == u.2.1.2.2.2.2.1 && (sl == u.2.1.2.2.2.2.2 && (ra_m0 μ && (ra_idn 0 np μ && (ra_mok env μ u.2.1.1 && (u.2.1.2.1.all (ra_lvb env μ (ra_upn 0 aw.length, []) lv) && (ra_b2 (ra_en env μ (ra_upn 0 aw.length, [])) st u.2.1.2.2.1 && (ra_b2 (ra_enC env μ (ra_upn 0 aw.length, [])) aw u.2.1.2.2.2.1 && (match ra_sub1 μ u.2.2.1 u.2.2.2 with
    | none => false
    | some rn => (match ra_lb env (rn.1.length + 1) rn.1 rn.2 with
      | none => false
      | some b => ra_leb 0 b) && (match ra_lb env (rn.1.length + R0.1.length + 1) (ra_neg rn.1 ++ R0.1) (R0.2 - rn.2) with
      | none => false
      | some b => ra_leb 1 b))))))))))
theorem ra_lvs {env : ra_N} {v : Nat → Int} {μ : List (Nat × Int)} {ads : List Nat} {n : Nat} (hN : ra_cN v env) {lv : List (Nat × ra_V)} {lvv : List (Nat × Value)} (hlv : ra_a2 (fun (p : Nat × ra_V) (q : Nat × Value) => p.1 = q.1 ∧ ra_cV env.length v ads b0 p.2 q.2) lv lvv) : ∀ {lu : List (Nat × ra_V)}, lu.all (ra_lvb env μ (ra_upn 0 n, []) lv) = true → ∃ lvu : List (Nat × Value), ra_a2 (fun (p : Nat × ra_V) (q : Nat × Value) => p.1 = q.1 ∧ ra_cV μ.length (ra_vI v μ) ads b0 p.2 q.2) lu lvu ∧ ∀ q ∈ lvu, q ∈ lvv
  | [], _ => ⟨[], trivial, fun _ h => by cases h⟩
  | q :: lu, h => by
    rw [List.all_cons, Bool.and_eq_true] at h
    obtain ⟨lvu, h1, h2⟩ := ra_lvs hN hlv h.2
    have h3 := h.1
    unfold ra_lvb at h3
    split at h3
    · rename_i x hx
      obtain ⟨k, y, g1, g2⟩ := ra_lf_ok hx hlv
      refine ⟨(q.1, y) :: lvu, ⟨⟨rfl, ra_en_id hN h3 g2⟩, h1⟩, fun z hz => ?_⟩
      rcases List.mem_cons.mp hz with e | e
      · rw [e]
        exact List.mem_of_getElem? g1
      · exact h2 z e
    · cases h3
theorem ra_arr_ok {np : Nat} {R0 : ra_L} {u : ra_U} {pc : Nat} {μ : List (Nat × Int)} {a : ra_S} {vE : Nat → Int} (h : ra_arr np R0 u pc μ a = true) (hE : np ≤ n0) (hEv : ∀ i, i < np → v0 i = vE i) (hR0 : ∀ t ∈ R0.1, t.1 < n0)
    (hC : ∀ (v : Nat → Int) (lv : List (Nat × Value)) (st : List Value) (ws : va_W), ra_g b0 ad0 cT v u.2.1 lv st ws → (∀ i, i < np → v i = vE i) → 0 ≤ ra_ev v u.2.2 → ra_ev v u.2.2 < ra_ev v0 R0 → ra_W p l e R s m args below meth c Q nL A D cl u.1 lv st ws u.2.1.2.2.2.2.1 u.2.1.2.2.2.2.2) : ra_ok p l e R s m args below meth c Q nL A D cl b0 ad0 cT n0 v0 (pc, a) := by
  obtain ⟨env, lv, st, aw, ce, sl⟩ := a
  unfold ra_arr at h
  simp only [Bool.and_eq_true, beq_iff_eq] at h
  obtain ⟨c1, c2, c3, c4, c5, c6, c7, c8, c9, c10⟩ := h
  intro hn v lvv stv ws hg hv
  have hN := hg.1
  have hst := hg.2.2.1
  have hlv := hg.2.1
  dsimp only at hn hN hst hlv
  have hμl := ra_mok_len c6
  split at c10
  · cases c10
  · rename_i rn hrn
    rw [Bool.and_eq_true] at c10
    obtain ⟨d1, d2⟩ := c10
    split at d1
    · cases d1
    · rename_i b1 hb1
      split at d2
      · cases d2
      · rename_i b2 hb2
        have e1 := ra_lb_ok hN _ _ _ _ hb1
        have e2 := ra_lb_ok hN _ _ _ _ hb2
        have e3 := ra_leb_le d1
        have e4 := ra_leb_le d2
        rw [ra_ev_neg] at e2
        have e5 : ra_ev (ra_vI v μ) u.2.2 = ra_ev v rn := ra_sub1_ok (ts := u.2.2.1) (k := u.2.2.2) hrn
        have e6 : ra_ev v R0 = ra_ev v0 R0 := by
          have key : ∀ (ts : List (Nat × Int)) (k : Int), (∀ t ∈ ts, t.1 < n0) → ra_ev v (ts, k) = ra_ev v0 (ts, k) := by
            intro ts k
            induction ts with
            | nil => intro _; rfl
            | cons t ts ih =>
              intro ht
              have := ih (fun x hx => ht x (List.mem_cons_of_mem _ hx))
              simp only [ra_ev, List.foldr_cons] at this ⊢
              rw [this, hv t.1 (ht t List.mem_cons_self)]
          exact key R0.1 R0.2 hR0
        have e7 : ra_ev v (R0.1, R0.2) = ra_ev v R0 := rfl
        have e8 : ra_ev v (rn.1, rn.2) = ra_ev v rn := rfl
        rw [e7, e6, e8] at e2
        rw [e8] at e1
        obtain ⟨lvu, l1, l2⟩ := ra_lvs hN hlv c7
        intro H locs ls hP hD hS hl
        show W p l e R s m args below meth c H locs ce sl Q (F0 m pc ls stv)
        rw [← c1, c2, c3]
        refine hC (ra_vI v μ) lvu stv ws ⟨ra_cN_map hN c4 c6, ?_, ?_, ?_, hg.2.2.2.2⟩ (fun i hi => ?_) (by rw [e5]; omega) (by rw [e5]; omega) H locs ls hP hD hS ⟨hl.1, hl.2.1, fun q hq => hl.2.2 q (l2 q hq)⟩
        · rw [← hμl]
          exact l1
        · rw [← hμl]
          exact ra_b2_ok (R := ra_cV env.length v (ws.map Prod.fst) b0) (R' := ra_cV μ.length (ra_vI v μ) (ws.map Prod.fst) b0) (fun a b c q1 q2 => ra_en_id hN q1 q2) c8 hst
        · rw [← hμl]
          exact ra_b2_ok (R := fun (c : ra_C) (x : Nat × va_E) => ra_cC env.length v (ws.map Prod.fst) b0 cT c x.2) (R' := fun (c : ra_C) (x : Nat × va_E) => ra_cC μ.length (ra_vI v μ) (ws.map Prod.fst) b0 cT c x.2) (fun a b c q1 q2 => ra_enC_id hN q1 q2) c9 hg.2.2.2.1
        · have := ra_idn_ok c5 i hi
          simp only [ra_vI, this]
          rw [Nat.zero_add, hv i (by omega), hEv i hi]
          omega
end
end
