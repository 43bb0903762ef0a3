noncomputable section
/-! stores into arrays, arrays of longs and of cells -/
section
variable {p : Program} {l : Launch} {e : Env} {R : Room} {s : State} {m : MethodId} {args : Array Value} {below : List Frame} {meth : Method} {c : Code} {Q : State → Prop}
variable {cc : ByteArray} {own : String} {nL : Nat} {A : Nat → Prop} {D : va_G} {cl : List vw_C} {tys : List (ClassId × FieldType)} {Ts : List Cond} {b0 : Nat → Nat} {ad0 : List Nat} {cT : Nat → ClassId} {n0 : Nat} {v0 : Nat → Int}
variable {sc : String}

def ra_nar (env : ra_N) (t : Nat) (q : Nat × Int) : Bool := match t with
  | 0 => true
  | 1 => let r := ra_rg env q; ra_leb (-128) r.1 && ra_leb r.2 127
  | 2 => let r := ra_rg env q; ra_leb 0 r.1 && ra_leb r.2 1
  | _ => false
theorem ra_i8 {y : Int32} (h1 : -128 ≤ y.toInt) (h2 : y.toInt ≤ 127) : y.toInt8.toInt32 = y := by
  apply Int32.toInt_inj.mp
  rw [Int8.toInt_toInt32]
  have : y.toInt8 = Int8.ofInt y.toInt := by
    rw [← Int8.toInt_inj, Int8.toInt_ofInt, Int32.toInt_toInt8]
  rw [this, Int8.toInt_ofInt, Int.bmod_def]
  have e8 : ((Int8.size : Nat) : Int) = 256 := rfl
  rw [e8]
  split <;> omega
theorem ra_nar_ok {v : Nat → Int} {env : ra_N} (hN : ra_cN v env) {t : Nat} {q : Nat × Int} {y : Int32} (h : y.toInt = v q.1 + q.2) (hn : ra_nar env t q = true) : vp_nar (ra_ty t) y = y := by
  have h1 := ra_rg_ok hN h
  unfold ra_nar at hn
  split at hn
  · rfl
  · dsimp only at hn
    rw [Bool.and_eq_true] at hn
    have g1 := ra_leb_le hn.1
    have g2 := ra_leb_le hn.2
    show vp_nar .byte y = y
    rw [vp_nar_byte]
    exact ra_i8 (by omega) (by omega)
  · dsimp only at hn
    rw [Bool.and_eq_true] at hn
    have g1 := ra_leb_le hn.1
    have g2 := ra_leb_le hn.2
    rcases ra_01 (y := y) (by omega) (by omega) with rfl | rfl <;> decide
  · cases hn
theorem ra_astW (X : ra_X p s m args c cc own nL A D cl (ra_T sc cT) Ts) {b t pc : Nat} (ht : t < 3) (hbt : ((b == 0) == (t == 0)) = true) (hdg : decode cc pc = .ok (if b = 0 then .iastore else .bastore, 1)) {ws : va_W} {i : Nat} {q : Nat × va_E} {n : Nat} {f : Nat → Int32} (hw : ws[i]? = some q) (he : q.2 = .inl (cT t, n, .inl f)) {y z : Int32} (hz : vp_nar (ra_ty t) z = z) (hin : vp_in y n) {lv : List (Nat × Value)} {st : List Value} {ce sl : Nat} (k : ra_W p l e R s m args below meth c Q nL A D cl (pc + 1) lv st (ws.set i (q.1, .inl (cT t, n, .inl (upd f y.toNatClampNeg z)))) ce sl) : ra_W p l e R s m args below meth c Q nL A D cl pc lv (.int z :: .int y :: .ref q.1 :: st) ws ce sl := by
  intro H locs ls hP hD hS hl
  have k := fun H1 locs1 hP1 hD1 hS1 => k H1 locs1 ls hP1 hD1 hS1 hl
  obtain ⟨hx, hb, -, -, -, hKK, -⟩ := X
  have hw' : ws[i]? = some (q.1, .inl (cT t, n, .inl f)) := by rw [hw, ← he]
  rcases (show t = 0 ∨ t = 1 ∨ t = 2 by omega) with rfl | rfl | rfl
  · have : b = 0 := by simpa using hbt
    subst this
    exact va_iast hx hb hKK hP hD hS i 0 hw' rfl hin hdg k
  · have : b ≠ 0 := by simpa using hbt
    rw [if_neg this] at hdg
    exact va_bast hx hb hKK hP hD hS i 1 hw' rfl hin hdg (by rw [show vp_nar .byte z = z from hz]; exact k)
  · have : b ≠ 0 := by simpa using hbt
    rw [if_neg this] at hdg
    exact va_zast hx hb hKK hP hD hS i 2 hw' rfl hin hdg (by rw [show vp_nar .boolean z = z from hz]; exact k)
def ra_ast (b n pc : Nat) (a : ra_S) : Option (List (Nat × ra_S)) := match a with
  | (env, lv, st, aw, ce, sl) => ra_gd (n == 1) (match st with
    | .inl x :: .inl q :: .inr (.inl i) :: st => match ra_nth aw i with
      | some (.inr (.inl o)) => ra_gd (Nat.blt o.1 3 && ((b == 0) == (o.1 == 0) && ra_nar env o.1 x)) (match ra_wre env o.2 q x with
        | some es => some [(pc + 1, (env, lv, st, ra_st aw (.inr (.inl (o.1, es))) i, ce, sl))]
        | none => none)
      | some (.inr (.inr (.inl o))) => ra_gd (Nat.blt o.1 3 && ((b == 0) == (o.1 == 0) && (ra_nar env o.1 x && ra_ix env q o.2.1))) (let r := ra_rg env x; some [(pc + 1, (env, lv, st, aw.set i (.inr (.inr (.inl (o.1, o.2.1, ra_min o.2.2.1 r.1, ra_max o.2.2.2 r.2)))), ce, sl))])
      | _ => none
    | _ => none)
theorem ra_ast_ok {b n pc : Nat} {a : ra_S} {out : List (Nat × ra_S)} (h : ra_ast b n pc a = some out) (X : ra_X p s m args c cc own nL A D cl (ra_T sc cT) Ts) (hdg : decode cc pc = .ok (if b = 0 then .iastore else .bastore, n)) (hs : ∀ x ∈ out, ra_ok p l e R s m args below meth c Q nL A D cl b0 ad0 cT n0 v0 x) : ra_ok p l e R s m args below meth c Q nL A D cl b0 ad0 cT n0 v0 (pc, a) := by
  obtain ⟨env, lv, st, aw, ce, sl⟩ := a
  intro hn v lvv stv ws hg hv
  have hst := hg.2.2.1
  have hN := hg.1
  dsimp only at hn hst hN
  obtain ⟨hx, hb, hml, hown, hts, hKK, hA⟩ := id X
  unfold ra_ast at h
  simp only [ra_nth_eq, ra_st_eq] at h
  try dsimp only at h
  have hq0 := ra_gd_ok h; clear h; obtain ⟨h1, h⟩ := hq0
  rw [beq_iff_eq] at h1
  subst h1
  split at h
  · split at h
    · rename_i o ho
      have hq1 := ra_gd_ok h; clear h; obtain ⟨h2, h⟩ := hq1
      rw [Bool.and_eq_true, Bool.and_eq_true] at h2
      have ht := Nat.le_of_ble_eq_true h2.1
      split at h
      · rename_i es hes
        cases h
        obtain ⟨x0, stv1, rfl, g2, g4⟩ := ra_a2_cons hst
        obtain ⟨x1, stv2, rfl, g5, g6⟩ := ra_a2_cons g4
        obtain ⟨x2, stv3, rfl, g7, g8⟩ := ra_a2_cons g6
        obtain ⟨k1, z, rfl, k2⟩ := g2
        obtain ⟨k3, y, rfl, k4⟩ := g5
        obtain ⟨q, w1, rfl, w2⟩ := ra_cell hg ho g7
        rcases w2 with ⟨h0, f, e1, e2⟩ | ⟨h0, -⟩
        · obtain ⟨r1, r2, r3⟩ := ra_wre_ok hN k3 k4 k1 k2 e2 hes
          refine ra_astW X ht h2.2.1 hdg w1 e1 (ra_nar_ok hN k2 h2.2.2) r1 ?_
          exact hs _ (List.mem_singleton.mpr rfl) hn v _ _ _ (ra_g_set hg w1 (Or.inl ⟨h0, _, by rw [r2], r3⟩) g8) hv
        · omega
      · cases h
    · rename_i o ho
      have hq1 := ra_gd_ok h; clear h; obtain ⟨h2, h⟩ := hq1
      rw [Bool.and_eq_true, Bool.and_eq_true, Bool.and_eq_true] at h2
      have ht := Nat.le_of_ble_eq_true h2.1
      cases h
      obtain ⟨x0, stv1, rfl, g2, g4⟩ := ra_a2_cons hst
      obtain ⟨x1, stv2, rfl, g5, g6⟩ := ra_a2_cons g4
      obtain ⟨x2, stv3, rfl, g7, g8⟩ := ra_a2_cons g6
      obtain ⟨k1, z, rfl, k2⟩ := g2
      obtain ⟨k3, y, rfl, k4⟩ := g5
      obtain ⟨q, w1, rfl, w2⟩ := ra_cell hg ho g7
      obtain ⟨i1, i2, i3, -⟩ := ra_ix_ok hN k4 h2.2.2.2
      have hz := ra_rg_ok hN k2
      rcases w2 with ⟨h0, f, e1, e2⟩ | ⟨h0, -⟩
      · refine ra_astW X ht h2.2.1 hdg w1 e1 (ra_nar_ok hN k2 h2.2.2.1) i1 ?_
        refine hs _ (List.mem_singleton.mpr rfl) hn v _ _ _ (ra_g_set hg w1 (Or.inl ⟨h0, _, rfl, fun j hj => ?_⟩) g8) hv
        dsimp only
        have m1 := fun a b => ra_min_le a b
        have m2 := fun a b => ra_max_le a b
        have m3 := m1 o.2.2.1
        have m4 := m2 o.2.2.2
        unfold upd
        split
        · exact ⟨Int.le_trans (m3 _).2 hz.1, Int.le_trans hz.2 (m4 _).2⟩
        · have := e2 j hj
          exact ⟨Int.le_trans (m3 _).1 this.1, Int.le_trans this.2 (m4 _).1⟩
      · omega
    · cases h
  · cases h
def ra_lald (n pc : Nat) (a : ra_S) : Option (List (Nat × ra_S)) := match a with
  | (env, lv, st, aw, ce, sl) => ra_gd (n == 1) (match st with
    | .inl q :: .inr (.inl i) :: st => match ra_nth aw i with
      | some (.inr (.inr (.inl o))) => ra_gd (o.1 == 3 && ra_ix env q o.2.1) (some [(pc + 1, (env, lv, .inr (.inr (.inl 1)) :: st, aw, ce, sl))])
      | _ => none
    | _ => none)
theorem ra_lald_ok {n pc : Nat} {a : ra_S} {out : List (Nat × ra_S)} (h : ra_lald n pc a = some out) (X : ra_X p s m args c cc own nL A D cl (ra_T sc cT) Ts) (hdg : decode cc pc = .ok (.laload, n)) (hs : ∀ x ∈ out, ra_ok p l e R s m args below meth c Q nL A D cl b0 ad0 cT n0 v0 x) : ra_ok p l e R s m args below meth c Q nL A D cl b0 ad0 cT n0 v0 (pc, a) := by
  obtain ⟨env, lv, st, aw, ce, sl⟩ := a
  intro hn v lvv stv ws hg hv
  have hst := hg.2.2.1
  have hN := hg.1
  dsimp only at hn hst hN
  obtain ⟨hx, hb, hml, hown, hts, hKK, hA⟩ := id X
  unfold ra_lald at h
  simp only [ra_nth_eq] at h
  try dsimp only at h
  have hq0 := ra_gd_ok h; clear h; obtain ⟨h1, h⟩ := hq0
  rw [beq_iff_eq] at h1
  subst h1
  split at h
  · split at h
    · rename_i o ho
      have hq1 := ra_gd_ok h; clear h; obtain ⟨h2, h⟩ := hq1
      rw [Bool.and_eq_true, beq_iff_eq] at h2
      cases h
      obtain ⟨x0, stv1, rfl, g2, g4⟩ := ra_a2_cons hst
      obtain ⟨x1, stv2, rfl, g5, g6⟩ := ra_a2_cons g4
      obtain ⟨k1, y, rfl, k2⟩ := g2
      obtain ⟨q, w1, rfl, w2⟩ := ra_cell hg ho g5
      obtain ⟨i1, i2, i3, -⟩ := ra_ix_ok hN k2 h2.2
      rcases w2 with ⟨h0, -⟩ | ⟨h0, f, e1⟩
      · omega
      · intro H locs ls hP hD hS hl
        refine va_lald hx hb hKK hP _ 3 (by rw [w1, ← e1]) rfl i1 hdg ?_
        exact hs _ (List.mem_singleton.mpr rfl) hn v _ _ ws (ra_g_st hg (ra_a2_mk (ra_cV_long _) g6)) hv H locs ls hP hD hS hl
    · cases h
  · cases h
def ra_last (n pc : Nat) (a : ra_S) : Option (List (Nat × ra_S)) := match a with
  | (env, lv, st, aw, ce, sl) => ra_gd (n == 1) (match st with
    | .inr (.inr (.inl 1)) :: .inl q :: .inr (.inl i) :: st => match ra_nth aw i with
      | some (.inr (.inr (.inl o))) => ra_gd (o.1 == 3 && ra_ix env q o.2.1) (some [(pc + 1, (env, lv, st, aw, ce, sl))])
      | _ => none
    | _ => none)
theorem ra_last_ok {n pc : Nat} {a : ra_S} {out : List (Nat × ra_S)} (h : ra_last n pc a = some out) (X : ra_X p s m args c cc own nL A D cl (ra_T sc cT) Ts) (hdg : decode cc pc = .ok (.lastore, n)) (hs : ∀ x ∈ out, ra_ok p l e R s m args below meth c Q nL A D cl b0 ad0 cT n0 v0 x) : ra_ok p l e R s m args below meth c Q nL A D cl b0 ad0 cT n0 v0 (pc, a) := by
  obtain ⟨env, lv, st, aw, ce, sl⟩ := a
  intro hn v lvv stv ws hg hv
  have hst := hg.2.2.1
  have hN := hg.1
  dsimp only at hn hst hN
  obtain ⟨hx, hb, hml, hown, hts, hKK, hA⟩ := id X
  unfold ra_last at h
  simp only [ra_nth_eq] at h
  try dsimp only at h
  have hq0 := ra_gd_ok h; clear h; obtain ⟨h1, h⟩ := hq0
  rw [beq_iff_eq] at h1
  subst h1
  split at h
  · split at h
    · rename_i o ho
      have hq1 := ra_gd_ok h; clear h; obtain ⟨h2, h⟩ := hq1
      rw [Bool.and_eq_true, beq_iff_eq] at h2
      cases h
      obtain ⟨x0, stv1, rfl, g2, g4⟩ := ra_a2_cons hst
      obtain ⟨x1, stv2, rfl, g5, g6⟩ := ra_a2_cons g4
      obtain ⟨x2, stv3, rfl, g7, g8⟩ := ra_a2_cons g6
      obtain ⟨z, rfl⟩ := ra_longV g2
      obtain ⟨k1, y, rfl, k2⟩ := g5
      obtain ⟨q, w1, rfl, w2⟩ := ra_cell hg ho g7
      obtain ⟨i1, i2, i3, -⟩ := ra_ix_ok hN k2 h2.2
      rcases w2 with ⟨h0, -⟩ | ⟨h0, f, e1⟩
      · omega
      · intro H locs ls hP hD hS hl
        refine va_last hx hb hKK hP hD hS _ 3 (by rw [w1, ← e1]) rfl i1 hdg (fun H1 locs1 hP1 hD1 hS1 => ?_)
        have hg2 := ra_g_set (st' := _) (stv' := stv3) (ce' := ce) (sl' := sl) hg w1 (c' := .inr (.inr (.inl o))) (e' := .inl (cT 3, o.2.1, .inr (.inl (vp_updL f y.toNatClampNeg z)))) (Or.inr ⟨h0, _, rfl⟩) g8
        rw [ra_setself ho] at hg2
        exact hs _ (List.mem_singleton.mpr rfl) hn v _ _ _ hg2 hv H1 locs1 ls hP1 hD1 hS1 hl
    · cases h
  · cases h
/-- one of some cells -/
def ra_alds (pc : Nat) (q : Nat × Int) (lv : List (Nat × ra_V)) (st : List ra_V) (aw : List ra_C) (ce sl : Nat) (env : ra_N) : Nat → List ra_E → Option (List (Nat × ra_S))
  | _, [] => some []
  | k, e :: es => match ra_alds pc q lv st aw ce sl env (k + 1) es with
    | none => none
    | some r => match ra_cmpT 2 env q (0, (k : Int)) with
      | [] => some r
      | x :: xs => match e with
        | .inl (.inr (.inl j)) => some (ra_bs (pc + 1) (x :: xs) lv (.inr (.inl j) :: st) aw ce sl ++ r)
        | _ => none
theorem ra_alds_ok {pc : Nat} {q : Nat × Int} {lv : List (Nat × ra_V)} {st : List ra_V} {aw : List ra_C} {ce sl : Nat} {env : ra_N} : ∀ {es : List ra_E} {k : Nat} {r : List (Nat × ra_S)}, ra_alds pc q lv st aw ce sl env k es = some r → ∀ (j : Nat) (x : ra_E), es[j]? = some x → ra_cmpT 2 env q (0, ((k + j : Nat) : Int)) ≠ [] → ∃ i, x = .inl (.inr (.inl i)) ∧ ∀ y ∈ ra_bs (pc + 1) (ra_cmpT 2 env q (0, ((k + j : Nat) : Int))) lv (.inr (.inl i) :: st) aw ce sl, y ∈ r
  | [], _, _, _, j, x, h, _ => by simp at h
  | e :: es, k, r, h, j, x, hx, hne => by
    unfold ra_alds at h
    split at h
    · cases h
    · rename_i r' hr
      split at h
      · rename_i hc
        cases h
        cases j with
        | zero => exact absurd hc hne
        | succ j =>
          have := ra_alds_ok hr j x (by simpa using hx) (by rw [show k + 1 + j = k + (j + 1) by omega]; exact hne)
          rw [show k + 1 + j = k + (j + 1) by omega] at this
          exact this
      · rename_i c cs hc
        split at h
        · rename_i i
          cases h
          cases j with
          | zero =>
            simp at hx
            subst hx
            refine ⟨i, rfl, fun y hy => List.mem_append_left _ ?_⟩
            rw [← hc]
            exact hy
          | succ j =>
            obtain ⟨i2, h2, h3⟩ := ra_alds_ok hr j x (by simpa using hx) (by rw [show k + 1 + j = k + (j + 1) by omega]; exact hne)
            rw [show k + 1 + j = k + (j + 1) by omega] at h3
            exact ⟨i2, h2, fun y hy => List.mem_append_right _ (h3 y hy)⟩
        · cases h
def ra_aald (n pc : Nat) (a : ra_S) : Option (List (Nat × ra_S)) := match a with
  | (env, lv, st, aw, ce, sl) => ra_gd (n == 1) (match st with
    | .inl q :: .inr (.inl i) :: st => match ra_nth aw i with
      | some (.inr (.inl o)) => ra_gd (o.1 == 4 && (ra_ix env q o.2.length && Nat.blt o.2.length 2147483648)) (ra_alds pc q lv st aw ce sl env 0 o.2)
      | _ => none
    | _ => none)
theorem ra_aald_ok {n pc : Nat} {a : ra_S} {out : List (Nat × ra_S)} (h : ra_aald n pc a = some out) (X : ra_X p s m args c cc own nL A D cl (ra_T sc cT) Ts) (hdg : decode cc pc = .ok (.aaload, n)) (hs : ∀ x ∈ out, ra_ok p l e R s m args below meth c Q nL A D cl b0 ad0 cT n0 v0 x) : ra_ok p l e R s m args below meth c Q nL A D cl b0 ad0 cT n0 v0 (pc, a) := by
  obtain ⟨env, lv, st, aw, ce, sl⟩ := a
  intro hn v lvv stv ws hg hv
  have hst := hg.2.2.1
  have hN := hg.1
  dsimp only at hn hst hN
  obtain ⟨hx, hb, hml, hown, hts, hKK, hA⟩ := id X
  unfold ra_aald at h
  simp only [ra_nth_eq] at h
  try dsimp only at h
  have hq0 := ra_gd_ok h; clear h; obtain ⟨h1, h⟩ := hq0
  rw [beq_iff_eq] at h1
  subst h1
  split at h
  · split at h
    · rename_i o ho
      have hq1 := ra_gd_ok h; clear h; obtain ⟨h2, h⟩ := hq1
      rw [Bool.and_eq_true, Bool.and_eq_true, beq_iff_eq] at h2
      obtain ⟨x0, stv1, rfl, g2, g4⟩ := ra_a2_cons hst
      obtain ⟨x1, stv2, rfl, g5, g6⟩ := ra_a2_cons g4
      obtain ⟨k1, y, rfl, k2⟩ := g2
      obtain ⟨q, w1, rfl, w2⟩ := ra_cell hg ho g5
      obtain ⟨i1, i2, i3, -⟩ := ra_ix_ok hN k2 h2.2.1
      rcases w2 with ⟨h0, -⟩ | ⟨h0, f, e1, e2⟩
      · omega
      · have hex : o.2[y.toNatClampNeg]? = some o.2[y.toNatClampNeg] := List.getElem?_eq_getElem i3
        have hc := ra_cmpT_ok (qy := (0, ((y.toNatClampNeg : Nat) : Int))) (y := y) hN 2 k1 hN.1 k2 (by show _ = v 0 + _; rw [hN.2.1]; omega) rfl
        have hall := ra_alds_ok h y.toNatClampNeg _ hex
        rw [Nat.zero_add] at hall
        obtain ⟨e, c1, c2⟩ := hc
        obtain ⟨j, hj1, hj2⟩ := hall (fun hq => by rw [hq] at c1; cases c1)
        have he := e2 _ _ hex
        rw [hj1] at he
        obtain ⟨r, r1, r2⟩ := he
        intro H locs ls hP hD hS hl
        refine va_aldq hx hb hKK hP _ 4 (by rw [w1, ← e1]) rfl i1 hdg ?_
        rw [r2]
        have hrv : ra_cV env.length v (ws.map Prod.fst) b0 (.inr (.inl j)) (.ref r) := ⟨r, r1, rfl⟩
        exact ra_bs_ok hg (ra_a2_mk hrv g6) hn hv ⟨e, c1, c2⟩ (fun z hz => hs z (hj2 z hz)) H locs ls hP hD hS hl
    · cases h
  · cases h
end
end
