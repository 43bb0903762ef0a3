noncomputable section
/-! texts that are there from the start: their objects, their bytes, two static fields -/
abbrev ra_Sx : Type := List (String × Nat × String × Nat × List Int32)
def rs_S (SS : ra_Sx × (Nat → Nat)) (A : Nat → Prop) (U : State) : Prop :=
  (∀ (i : Nat) (q : String × Nat × String × Nat × List Int32), SS.1[i]? = some q → vk_R q.1 q.2.1 q.2.2.1 (SS.2 i) U) ∧ vk_S SS.1.length (SS.1.map (fun q => q.2.2.2.1)) (SS.1.map (fun q => q.2.2.2.2)) SS.2 (fun i => SS.2 (100 + i)) A U U.heap ∧ va_Z "java/lang/String" "COMPACT_STRINGS" "Z" (.int 1) A U U.heap ∧ (va_Z "jdk/internal/util/Preconditions" "SIOOBE_FORMATTER" "Ljava/util/function/BiFunction;" .null A U U.heap ∨ va_Z "jdk/internal/util/Preconditions" "SIOOBE_FORMATTER" "Ljava/util/function/BiFunction;" (.ref (SS.2 200)) A U U.heap)
theorem rs_S_warm {SS : ra_Sx × (Nat → Nat)} {A B : Nat → Prop} {s U : State} {H : Heap} {locs : List Loc} (h : rs_S SS A s) (hW : s.WarmedH U.vm) (hS : va_S A s.heap H locs) (hU : U.heap = H) (hAB : ∀ q, B q → A q) : rs_S SS B U := by
  obtain ⟨h1, h2, h3, h4⟩ := h
  refine ⟨fun i q hq => vk_R.warm hW (h1 i q hq), ?_, ?_, ?_⟩
  · rw [hU]
    exact ((h2.kept hS.2.1).moved hW.alike).narrow hAB
  · rw [hU]
    exact ((h3.kept hS.2.1).moved hW.alike).narrow hAB
  · rw [hU]
    rcases h4 with h4 | h4
    · exact Or.inl (((h4.kept hS.2.1).moved hW.alike).narrow hAB)
    · exact Or.inr (((h4.kept hS.2.1).moved hW.alike).narrow hAB)
section
variable {p : Program} {l : Launch} {e : Env} {R : Room} {s : State} {m : MethodId} {args : Array Value} {below : List Frame} {meth : Method} {c : Code} {Q : State → Prop}
variable {cc : ByteArray} {own : String} {nL : Nat} {A : Nat → Prop} {D : va_G} {cl : List vw_C} {tys : List (ClassId × FieldType)} {Ts : List Cond} {b0 : Nat → Nat} {ad0 : List Nat} {cT : Nat → ClassId} {n0 : Nat} {v0 : Nat → Int}
variable {sc : String}
variable {nw : List (String × Nat × MethodName × String)} {SS : ra_Sx × (Nat → Nat)}
def rb_Pc (sc : String) (nw : List (String × Nat × MethodName × String)) (SS : ra_Sx × (Nat → Nat)) (D : va_G) (cl : List vw_C) (tys : List (ClassId × FieldType)) (av : List Value) (ws : va_W) (sz : Nat) : Array Value → State → Prop := va_Pc av (fun U => U.heap.size = sz ∧ va_P D cl ws U.heap ∧ va_K D cl tys U ∧ va_D (fun _ => True) ws ∧ ra_Ex sc nw U ∧ rs_S SS (va_A ws sz) U)
theorem rb_blind {av : List Value} {ws : va_W} {sz : Nat} : FrameBlind (rb_Pc sc nw SS D cl tys av ws sz) := fun a U g mk q => by
  obtain ⟨q0, q1, qP, qK, qD, qE, qS⟩ := q
  refine ⟨q0, q1, qP, va_K.moved (u := U) (U := U.calling g mk a) (Vm.Alike.refl U.vm) qK, qD, ⟨va_AO.moved (u := U) (U := U.calling g mk a) (Vm.Alike.refl U.vm) qE.1, fun z hz => va_Nw.same (u := U) (U := U.calling g mk a) rfl rfl (qE.2 z hz)⟩, ?_⟩
  obtain ⟨h1, h2, h3, h4⟩ := qS
  refine ⟨fun i q hq => vk_R.same (u := U) rfl (h1 i q hq), vk_S.moved (u := U) (Vm.Alike.refl U.vm) h2, va_Z.moved (u := U) (Vm.Alike.refl U.vm) h3, ?_⟩
  rcases h4 with h4 | h4
  · exact Or.inl (va_Z.moved (u := U) (Vm.Alike.refl U.vm) h4)
  · exact Or.inr (va_Z.moved (u := U) (Vm.Alike.refl U.vm) h4)
/-- tables: texts by their entries; fields value, coder; static fields; calls -/
abbrev ra_Tb : Type := List (Nat × Nat) × List Nat × List Nat × List (Nat × Nat) × List (Nat × Nat)
def rs_okT (Ts : List Cond) (own : String) (sx : ra_Sx) (MT : List ra_M) (tb : ra_Tb) : Prop :=
  (∀ x ∈ tb.1, ∃ q, sx[x.2]? = some q ∧ q.1 = own ∧ q.2.1 = x.1) ∧ (∀ j ∈ tb.2.1, Cond.fieldLink own j "java/lang/String" "value" "[B" ∈ Ts) ∧ (∀ j ∈ tb.2.2.1, Cond.fieldLink own j "java/lang/String" "coder" "B" ∈ Ts) ∧
  (∀ x ∈ tb.2.2.2.1, (x.2 = 0 ∧ Cond.fieldLink own x.1 "java/lang/String" "COMPACT_STRINGS" "Z" ∈ Ts) ∨ (x.2 = 1 ∧ Cond.fieldLink own x.1 "jdk/internal/util/Preconditions" "SIOOBE_FORMATTER" "Ljava/util/function/BiFunction;" ∈ Ts)) ∧
  (∀ x ∈ tb.2.2.2.2, ∃ mm : ra_M, MT[x.2]? = some mm ∧ Cond.code mm.1 mm.2.1 mm.2.2.1 mm.2.2.2.1 ∈ Ts ∧ Cond.initialized mm.1.cls ∈ Ts ∧ (mm.1.cls ≠ "java/lang/invoke/MethodHandle" ∧ mm.1.cls ≠ "java/lang/invoke/VarHandle" ∧ (parseMethodDescriptor mm.1.desc).map (fun d => d.parameters.length) = some mm.2.2.2.2.1) ∧ Cond.methodLink own x.1 mm.1 ∈ Ts ∧ Cond.instanceMethod mm.1 ∈ Ts ∧ Cond.selects mm.1.cls mm.1 mm.1 ∈ Ts ∧ mm.1.cls = "java/lang/String")
/-- which text a code names, which text's bytes -/
def rs_sk (sx : ra_Sx) (k : Nat) : Option (Nat × (String × Nat × String × Nat × List Int32)) := match Nat.ble 1000 k with
  | false => none
  | true => match sx[k - 1000]? with
    | some q => some (k - 1000, q)
    | none => none
def rs_bk (sx : ra_Sx) (k : Nat) : Option (Nat × (String × Nat × String × Nat × List Int32)) := match Nat.ble 1100 k with
  | false => none
  | true => match sx[k - 1100]? with
    | some q => some (k - 1100, q)
    | none => none
theorem rs_sk_ok {sx : ra_Sx} {k : Nat} {r : Nat × (String × Nat × String × Nat × List Int32)} (h : rs_sk sx k = some r) : k = 1000 + r.1 ∧ sx[r.1]? = some r.2 := by
  unfold rs_sk at h
  split at h
  · cases h
  · rename_i hk
    have hk := Nat.le_of_ble_eq_true hk
    split at h
    · rename_i q hq
      have e := Option.some.inj h
      subst e
      exact ⟨by dsimp only; omega, hq⟩
    · cases h
theorem rs_bk_ok {sx : ra_Sx} {k : Nat} {r : Nat × (String × Nat × String × Nat × List Int32)} (h : rs_bk sx k = some r) : k = 1100 + r.1 ∧ sx[r.1]? = some r.2 := by
  unfold rs_bk at h
  split at h
  · cases h
  · rename_i hk
    have hk := Nat.le_of_ble_eq_true hk
    split at h
    · rename_i q hq
      have e := Option.some.inj h
      subst e
      exact ⟨by dsimp only; omega, hq⟩
    · cases h
def rb_str (sx : ra_Sx) (tb : ra_Tb) (i : Instr) (n pc : Nat) (a : ra_S) (F : rb_D) : Option (List rb_T) := match a with
  | (env, lv, st, aw, ce, sl) => match i with
    | .ldc j => match ra_nf tb.1 j with
      | some k => ra_gd (n == 2) (some [(pc + 2, (env, lv, .inr (.inr (.inl (1000 + k))) :: st, aw, ce, sl), F)])
      | none => none
    | .getstatic j => match ra_nf tb.2.2.2.1 j with
      | some 0 => ra_gd (n == 3) (some [(pc + 3, (env, lv, .inl (0, 1) :: st, aw, ce, sl), F)])
      | some 1 => ra_gd (n == 3) (some [(pc + 3, (env, lv, .inr (.inr (.inl 0)) :: st, aw, ce, sl), F), (pc + 3, (env, lv, .inr (.inr (.inl 1200)) :: st, aw, ce, sl), F)])
      | _ => none
    | .getfield j => match st with
      | .inr (.inr (.inl k)) :: st => match rs_sk sx k with
        | some r => match tb.2.1.contains j, tb.2.2.1.contains j with
          | true, _ => ra_gd (n == 3) (some [(pc + 3, (env, lv, .inr (.inr (.inl (1100 + r.1))) :: st, aw, ce, sl), F)])
          | false, true => ra_gd (n == 3) (some [(pc + 3, (env, lv, .inl (0, 0) :: st, aw, ce, sl), F)])
          | _, _ => none
        | none => none
      | _ => none
    | .arraylength => match st with
      | .inr (.inr (.inl k)) :: st => match rs_bk sx k with
        | some r => ra_gd (n == 1 && Nat.blt r.2.2.2.2.1 2147483648) (some [(pc + 1, (env, lv, .inl (0, (r.2.2.2.2.1 : Int)) :: st, aw, ce, sl), F)])
        | none => none
      | _ => none
    | .baload => match st with
      | .inl q :: .inr (.inr (.inl k)) :: st => match rs_bk sx k with
        | some r => ra_gd (n == 1 && (ra_leb 0 (ra_rg env q).1 && (ra_leb ((ra_rg env q).2 + 1) r.2.2.2.2.1 && r.2.2.2.2.2.all (fun b => ra_leb 0 b.toInt && ra_leb b.toInt 127)))) (some [(pc + 1, (env ++ [(0, 127)], lv, .inl (env.length, 0) :: st, aw, ce, sl), F)])
        | none => none
      | _ => none
    | _ => none
theorem rs_get {SS : ra_Sx × (Nat → Nat)} {U : State} {H : Heap} (h : vk_S SS.1.length (SS.1.map (fun q => q.2.2.2.1)) (SS.1.map (fun q => q.2.2.2.2)) SS.2 (fun i => SS.2 (100 + i)) A U H) {i : Nat} {q : String × Nat × String × Nat × List Int32} (hq : SS.1[i]? = some q) : va_OF "java/lang/String" "coder" "B" (.int 0) (SS.2 i) A U H ∧ va_OF "java/lang/String" "value" "[B" (.ref (SS.2 (100 + i))) (SS.2 i) A U H ∧ va_T .byte (SS.2 (100 + i)) q.2.2.2.1 (fun j => .int (q.2.2.2.2.getD j 0)) A U H := by
  have hl : i < SS.1.length := (List.getElem?_eq_some_iff.mp hq).1
  obtain ⟨-, h2, h3, h4⟩ := h.1 i hl
  have e1 : (SS.1.map (fun q => q.2.2.2.1)).getD i 0 = q.2.2.2.1 := by
    rw [List.getD_eq_getElem?_getD, List.getElem?_map, hq]
    rfl
  have e2 : (SS.1.map (fun q => q.2.2.2.2)).getD i [] = q.2.2.2.2 := by
    rw [List.getD_eq_getElem?_getD, List.getElem?_map, hq]
    rfl
  rw [e1, e2] at h4
  exact ⟨h2, h3, h4⟩
set_option maxHeartbeats 1000000 in
theorem rb_str_ok {MT : List ra_M} {tb : ra_Tb} {i : Instr} {n pc : Nat} {a : ra_S} {F : rb_D} {out : List rb_T} (h : rb_str SS.1 tb i n pc a F = some out) (X : ra_X p s m args c cc own nL A D cl (ra_T sc cT) Ts) (hSx : rs_S SS A s) (hTb : rs_okT Ts own SS.1 MT tb) (hb0 : ∀ j, b0 (1000 + j) = SS.2 j) (hdg : decode cc pc = .ok (i, n)) (hs : ∀ x ∈ out, rb_ok p l e R s m args below meth c Q nL A D cl b0 ad0 cT n0 v0 x) : rb_ok p l e R s m args below meth c Q nL A D cl b0 ad0 cT n0 v0 (pc, a, F) := by
  obtain ⟨env, lv, st, aw, ce, sl⟩ := a
  intro hn v lvv stv ws hg hv hdb hdv
  have hst := hg.2.2.1
  have hN := hg.1
  dsimp only at hn hst hN hdb hdv
  obtain ⟨hx, hb, hml, hown, hts, hKK, hA⟩ := id X
  obtain ⟨s1, s2, s3, s4⟩ := id hSx
  unfold rb_str at h
  dsimp only at h
  split at h
  · split at h
    · rename_i j k hk
      have hq1 := ra_gd_ok h; clear h; obtain ⟨h2, h⟩ := hq1
      rw [beq_iff_eq] at h2
      subst h2
      cases h
      obtain ⟨q, q1, q2, q3⟩ := hTb.1 _ (ra_nf_mem hk)
      dsimp only at q1 q2 q3
      intro H locs ls hP hD hS hl
      have hZ := s1 k q q1
      rw [q2, q3] at hZ
      refine va_ldcS hx hb hown hZ hdg ?_
      refine hs _ (List.mem_singleton.mpr rfl) hn v lvv (.ref (SS.2 k) :: stv) ws ?_ hv hdb hdv H locs ls hP hD hS hl
      exact ra_g_st (st' := _) (stv' := _) (ce' := ce) (sl' := sl) hg ⟨Or.inr (Or.inr ⟨by omega, by rw [hb0]⟩), hst⟩
    · cases h
  · split at h
    · rename_i j hk
      have hq1 := ra_gd_ok h; clear h; obtain ⟨h2, h⟩ := hq1
      rw [beq_iff_eq] at h2
      subst h2
      cases h
      have hl0 := hTb.2.2.2.1 _ (ra_nf_mem hk)
      rcases hl0 with ⟨-, hl0⟩ | ⟨hl0, -⟩
      · intro H locs ls hP hD hS hl
        refine va_gets hx hb s3 hS hown (hts _ hl0) (fun _ z => z) hdg ?_
        refine hs _ (List.mem_singleton.mpr rfl) hn v lvv (.int 1 :: stv) ws ?_ hv hdb hdv H locs ls hP hD hS hl
        exact ra_g_st (st' := _) (stv' := _) (ce' := ce) (sl' := sl) hg ⟨⟨hN.1, 1, rfl, by show (1 : Int32).toInt = v 0 + 1; rw [hN.2.1]; rfl⟩, hst⟩
      · cases hl0
    · rename_i j hk
      have hq1 := ra_gd_ok h; clear h; obtain ⟨h2, h⟩ := hq1
      rw [beq_iff_eq] at h2
      subst h2
      cases h
      have hl0 := hTb.2.2.2.1 _ (ra_nf_mem hk)
      rcases hl0 with ⟨hl0, -⟩ | ⟨-, hl0⟩
      · cases hl0
      · intro H locs ls hP hD hS hl
        rcases s4 with s4 | s4
        · refine va_gets hx hb s4 hS hown (hts _ hl0) (fun _ z => z) hdg ?_
          refine hs _ (List.mem_cons_self) hn v lvv (.null :: stv) ws ?_ hv hdb hdv H locs ls hP hD hS hl
          exact ra_g_st (st' := _) (stv' := _) (ce' := ce) (sl' := sl) hg ⟨Or.inl ⟨rfl, rfl⟩, hst⟩
        · refine va_gets hx hb s4 hS hown (hts _ hl0) (fun _ z => z) hdg ?_
          refine hs _ (List.mem_cons_of_mem _ (List.mem_singleton.mpr rfl)) hn v lvv (.ref (SS.2 200) :: stv) ws ?_ hv hdb hdv H locs ls hP hD hS hl
          exact ra_g_st (st' := _) (stv' := _) (ce' := ce) (sl' := sl) hg ⟨Or.inr (Or.inr ⟨by omega, by rw [show (1200 : Nat) = 1000 + 200 from rfl, hb0]⟩), hst⟩
    · cases h
  · rename_i j
    split at h
    · rename_i k st2
      split at h
      · rename_i r hr
        obtain ⟨r1, r2⟩ := rs_sk_ok hr
        obtain ⟨x0, stv2, rfl, g2, g6⟩ := ra_a2_cons hst
        have ex : x0 = .ref (SS.2 r.1) := by
          rcases g2 with ⟨z, -⟩ | ⟨z, -⟩ | ⟨-, z⟩
          · omega
          · omega
          · rw [z, r1, hb0]
        subst ex
        obtain ⟨t1, t2, t3⟩ := rs_get s2 r2
        split at h
        · rename_i hc
          have hq1 := ra_gd_ok h; clear h; obtain ⟨h2, h⟩ := hq1
          rw [beq_iff_eq] at h2
          subst h2
          cases h
          have hc := hTb.2.1 j (by simpa using hc)
          intro H locs ls hP hD hS hl
          refine vk_getf hx hb t2 hS hown (hts _ hc) (fun _ z => z) hdg ?_
          refine hs _ (List.mem_singleton.mpr rfl) hn v lvv (.ref (SS.2 (100 + r.1)) :: stv2) ws ?_ hv hdb hdv H locs ls hP hD hS hl
          exact ra_g_st (st' := _) (stv' := _) (ce' := ce) (sl' := sl) hg ⟨Or.inr (Or.inr ⟨by omega, by rw [show 1100 + r.1 = 1000 + (100 + r.1) by omega, hb0]⟩), g6⟩
        · rename_i hc
          have hq1 := ra_gd_ok h; clear h; obtain ⟨h2, h⟩ := hq1
          rw [beq_iff_eq] at h2
          subst h2
          cases h
          have hc := hTb.2.2.1 j (by simpa using hc)
          intro H locs ls hP hD hS hl
          refine vk_getf hx hb t1 hS hown (hts _ hc) (fun _ z => z) hdg ?_
          refine hs _ (List.mem_singleton.mpr rfl) hn v lvv (.int 0 :: stv2) ws ?_ hv hdb hdv H locs ls hP hD hS hl
          exact ra_g_st (st' := _) (stv' := _) (ce' := ce) (sl' := sl) hg ⟨⟨hN.1, 0, rfl, by show (0 : Int32).toInt = v 0 + 0; rw [hN.2.1]; rfl⟩, g6⟩
        · cases h
      · cases h
    · cases h
  · split at h
    · rename_i k st2
      split at h
      · rename_i r hr
        obtain ⟨r1, r2⟩ := rs_bk_ok hr
        have hq1 := ra_gd_ok h; clear h; obtain ⟨h2, h⟩ := hq1
        rw [Bool.and_eq_true, beq_iff_eq] at h2
        obtain ⟨h2, h3⟩ := h2
        have h3 : r.2.2.2.2.1 < 2147483648 := Nat.le_of_ble_eq_true h3
        subst h2
        cases h
        obtain ⟨x0, stv2, rfl, g2, g6⟩ := ra_a2_cons hst
        have ex : x0 = .ref (SS.2 (100 + r.1)) := by
          rcases g2 with ⟨z, -⟩ | ⟨z, -⟩ | ⟨-, z⟩
          · omega
          · omega
          · rw [z, r1, show 1100 + r.1 = 1000 + (100 + r.1) by omega, hb0]
        subst ex
        obtain ⟨t1, t2, t3⟩ := rs_get s2 r2
        intro H locs ls hP hD hS hl
        refine va_tlen hx hb t3 hS (v := nI r.2.2.2.2.1) rfl hdg ?_
        refine hs _ (List.mem_singleton.mpr rfl) hn v lvv (.int (nI r.2.2.2.2.1) :: stv2) ws ?_ hv hdb hdv H locs ls hP hD hS hl
        exact ra_g_st (st' := _) (stv' := _) (ce' := ce) (sl' := sl) hg ⟨⟨hN.1, nI r.2.2.2.2.1, rfl, by show (nI r.2.2.2.2.1).toInt = v 0 + (r.2.2.2.2.1 : Int); rw [hN.2.1, nI_toInt (by omega)]; omega⟩, g6⟩
      · cases h
    · cases h
  · split at h
    · rename_i q k st2
      split at h
      · rename_i r hr
        obtain ⟨r1, r2⟩ := rs_bk_ok hr
        have hq1 := ra_gd_ok h; clear h; obtain ⟨h2, h⟩ := hq1
        simp only [Bool.and_eq_true, beq_iff_eq] at h2
        obtain ⟨h2, h3, h4, h5⟩ := h2
        have h3 := ra_leb_le h3
        have h4 := ra_leb_le h4
        subst h2
        cases h
        obtain ⟨x1, stv1, rfl, g1, g5⟩ := ra_a2_cons hst
        obtain ⟨x0, stv2, rfl, g2, g6⟩ := ra_a2_cons g5
        obtain ⟨k1, y, rfl, k2⟩ := g1
        have ex : x0 = .ref (SS.2 (100 + r.1)) := by
          rcases g2 with ⟨z, -⟩ | ⟨z, -⟩ | ⟨-, z⟩
          · omega
          · omega
          · rw [z, r1, show 1100 + r.1 = 1000 + (100 + r.1) by omega, hb0]
        subst ex
        obtain ⟨t1, t2, t3⟩ := rs_get s2 r2
        have hr2 := ra_rg_ok hN k2
        have hy0 : ¬ y < 0 := by
          intro z
          have := Int32.lt_iff_toInt_lt.mp z
          simp at this
          omega
        have hyn : (y.toNatClampNeg : Int) = y.toInt := by
          show ((y.toInt.toNat : Nat) : Int) = y.toInt
          omega
        have hin : vp_in y r.2.2.2.2.1 := by
          intro z
          rcases z with z | z
          · exact hy0 z
          · omega
        have hbd : 0 ≤ (r.2.2.2.2.2.getD y.toNatClampNeg 0).toInt ∧ (r.2.2.2.2.2.getD y.toNatClampNeg 0).toInt ≤ 127 := by
          rw [List.getD_eq_getElem?_getD]
          cases hz : r.2.2.2.2.2[y.toNatClampNeg]? with
          | none => exact ⟨by decide, by decide⟩
          | some b =>
            have := List.all_eq_true.mp h5 b (List.mem_of_getElem? hz)
            rw [Bool.and_eq_true] at this
            exact ⟨ra_leb_le this.1, ra_leb_le this.2⟩
        obtain ⟨v', n1, n2, n3⟩ := ra_fresh (b0 := b0) hN hbd.1 hbd.2
        have hl : env.length ≤ (env ++ [((0 : Int), (127 : Int))]).length := by simp
        intro H locs ls hP hD hS hlv
        refine va_tb hx hb t3 hS hin (v := .int (r.2.2.2.2.2.getD y.toNatClampNeg 0)) rfl hdg ?_
        have hg1 := ra_g_st (st' := st2) (stv' := stv2) (ce' := ce) (sl' := sl) hg g6
        have hg2 := ra_g_ext hg1 hl n1 n2
        exact hs _ (List.mem_singleton.mpr rfl) (Nat.le_trans hn hl) v' lvv (.int (r.2.2.2.2.2.getD y.toNatClampNeg 0) :: stv2) ws ⟨hg2.1, hg2.2.1, ⟨n3 _, hg2.2.2.1⟩, hg2.2.2.2⟩ (fun i hi => by rw [n1 i (by omega)]; exact hv i hi) (rb_db_mono hl hdb) (rb_dv_ext hdb n1 hdv) H locs ls hP hD hS hlv
      · cases h
    · cases h
  · cases h
end
end
