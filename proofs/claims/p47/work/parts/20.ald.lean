noncomputable section
/-! array instructions -/
section
variable {p : Program} {l : Launch} {e : Env} {R : Room} {s : State} {m : MethodId} {args : Array Value} {below : List Frame} {meth : Method} {c : Code} {Q : State → Prop}
variable {cc : ByteArray} {own : String} {nL : Nat} {A : Nat → Prop} {D : va_G} {cl : List vw_C} {tys : List (ClassId × FieldType)} {Ts : List Cond} {b0 : Nat → Nat} {ad0 : List Nat} {cT : Nat → ClassId} {n0 : Nat} {v0 : Nat → Int}
variable {sc : String}

/-- the law's own script: its length is symbol 1, the place it is at symbol 2, the six ints from there on sb, sb + 1 .. -/
def ra_scr (s : State) (A : Nat → Prop) (b0 : Nat → Nat) (sb n0 : Nat) (v0 : Nat → Int) : Prop := ∃ (L : Nat) (xs : Nat → Int32), va_X (b0 2) L xs s s.heap ∧ b0 2 < s.heap.size ∧ ¬ A (b0 2) ∧ L < 2147483648 ∧ 3 ≤ n0 ∧ v0 1 = L ∧ (0 < sb → sb + 6 ≤ n0 ∧ 0 ≤ v0 2 ∧ v0 2 + 6 ≤ L ∧ ∀ j, j < 6 → v0 (sb + j) = (xs ((v0 2).toNat + j)).toInt)
theorem ra_nI {L : Nat} (h : L < 2147483648) : (Int32.ofNat L).toInt = (L : Int) := nI_toInt (n := L) h
def ra_ty (t : Nat) : FieldType := match t with
  | 0 => .int
  | 1 => .byte
  | _ => .boolean
def ra_alen (hs : Bool) (n pc : Nat) (a : ra_S) : Option (List (Nat × ra_S)) := match a with
  | (env, lv, st, aw, ce, sl) => ra_gd (n == 1) (match st with
    | .inr (.inl i) :: st => match ra_nth aw i with
      | some (.inr (.inl o)) => ra_gd (Nat.blt o.2.length 2147483648) (some [(pc + 1, (env, lv, .inl (0, o.2.length) :: st, aw, ce, sl))])
      | some (.inr (.inr (.inl o))) => ra_gd (Nat.blt o.2.1 2147483648) (some [(pc + 1, (env, lv, .inl (0, o.2.1) :: st, aw, ce, sl))])
      | _ => none
    | .inr (.inr (.inl 2)) :: st => ra_gd (hs && Nat.blt 1 env.length) (some [(pc + 1, (env, lv, .inl (1, 0) :: st, aw, ce, sl))])
    | _ => none)
theorem ra_tyT {t : Nat} (h : t < 3) : (ra_T sc cT)[t]? = some (cT t, ra_ty t) := by
  rcases (show t = 0 ∨ t = 1 ∨ t = 2 by omega) with rfl | rfl | rfl <;> rfl
theorem ra_alen_ok {hs0 : Bool} {sb n pc : Nat} {a : ra_S} {out : List (Nat × ra_S)} (h : ra_alen hs0 n pc a = some out) (X : ra_X p s m args c cc own nL A D cl (ra_T sc cT) Ts) (hsc : hs0 = true → ra_scr s A b0 sb n0 v0) (hdg : decode cc pc = .ok (.arraylength, n)) (hs : ∀ x ∈ out, ra_ok p l e R s m args below meth c Q nL A D cl b0 ad0 cT n0 v0 x) : ra_ok p l e R s m args below meth c Q nL A D cl b0 ad0 cT n0 v0 (pc, a) := by
  obtain ⟨env, lv, st, aw, ce, sl⟩ := a
  intro hn v lvv stv ws hg hv
  have hst := hg.2.2.1
  have hN := hg.1
  dsimp only at hn hst hN
  obtain ⟨hx, hb, hml, hown, hts, hKK, hA⟩ := id X
  unfold ra_alen at h
  simp only [ra_nth_eq] at h
  try dsimp only at h
  have hq0 := ra_gd_ok h; clear h; obtain ⟨h1, h⟩ := hq0
  rw [beq_iff_eq] at h1
  subst h1
  split at h
  · split at h
    · rename_i o ho
      have hq1 := ra_gd_ok h; clear h; obtain ⟨h2, h⟩ := hq1
      have h2 := Nat.le_of_ble_eq_true h2
      cases h
      obtain ⟨x0, stv1, rfl, g2, g4⟩ := ra_a2_cons hst
      obtain ⟨q, w1, rfl, w2⟩ := ra_cell hg ho g2
      have kk := hs _ (List.mem_singleton.mpr rfl) hn v _ (.int (Int32.ofNat o.2.length) :: stv1) ws (ra_g_st hg (ra_a2_mk (ra_cV_const hN (ra_nI h2)) g4)) hv
      intro H locs ls hP hD hS hl
      rcases w2 with ⟨h0, f, e1, e2⟩ | ⟨h0, f, e1, e2⟩
      · exact va_alen hx hb hKK hP _ o.1 (by rw [w1, ← e1]) (ra_tyT h0) rfl hdg (kk H locs ls hP hD hS hl)
      · exact va_alen hx hb hKK hP _ 4 (by rw [w1, ← e1]) rfl rfl hdg (kk H locs ls hP hD hS hl)
    · rename_i o ho
      have hq1 := ra_gd_ok h; clear h; obtain ⟨h2, h⟩ := hq1
      have h2 := Nat.le_of_ble_eq_true h2
      cases h
      obtain ⟨x0, stv1, rfl, g2, g4⟩ := ra_a2_cons hst
      obtain ⟨q, w1, rfl, w2⟩ := ra_cell hg ho g2
      have kk := hs _ (List.mem_singleton.mpr rfl) hn v _ (.int (Int32.ofNat o.2.1) :: stv1) ws (ra_g_st hg (ra_a2_mk (ra_cV_const hN (ra_nI h2)) g4)) hv
      intro H locs ls hP hD hS hl
      rcases w2 with ⟨h0, f, e1, e2⟩ | ⟨h0, f, e1⟩
      · exact va_alen hx hb hKK hP _ o.1 (by rw [w1, ← e1]) (ra_tyT h0) rfl hdg (kk H locs ls hP hD hS hl)
      · exact va_alen hx hb hKK hP _ 3 (by rw [w1, ← e1]) rfl rfl hdg (kk H locs ls hP hD hS hl)
    · cases h
  · have hq1 := ra_gd_ok h; clear h; obtain ⟨h2, h⟩ := hq1
    rw [Bool.and_eq_true] at h2
    cases h
    obtain ⟨x0, stv1, rfl, g2, g4⟩ := ra_a2_cons hst
    have e0 := ra_scrV (Nat.le_refl 2) g2
    subst e0
    obtain ⟨L, xs, k1, k2, k3, k4, k5, k6, -⟩ := hsc h2.1
    intro H locs ls hP hD hS hl
    refine va_slen hx hb k1 k2 k3 hS hdg ?_
    exact hs _ (List.mem_singleton.mpr rfl) hn v _ _ ws (ra_g_st hg (ra_a2_mk ⟨Nat.le_of_ble_eq_true h2.2, _, rfl, by rw [ra_nI k4, hv 1 (by omega), k6]; dsimp only; omega⟩ g4)) hv H locs ls hP hD hS hl
  · cases h
/-- 0: ints; 1: bytes, booleans -/
def ra_ald (hs : Bool) (sb b n pc : Nat) (a : ra_S) : Option (List (Nat × ra_S)) := match a with
  | (env, lv, st, aw, ce, sl) => ra_gd (n == 1) (match st with
    | .inl q :: .inr (.inl i) :: st => match ra_nth aw i with
      | some (.inr (.inl o)) => ra_gd (Nat.blt o.1 3 && (b == 0) == (o.1 == 0)) (match ra_rde env o.2 q with
        | some r => some [(pc + 1, (r.1, lv, r.2.1 :: st, ra_st aw (.inr (.inl (o.1, r.2.2))) i, ce, sl))]
        | none => none)
      | some (.inr (.inr (.inl o))) => ra_gd (Nat.blt o.1 3 && ((b == 0) == (o.1 == 0) && ra_ix env q o.2.1)) (some [(pc + 1, (ra_ap env [(o.2.2.1, o.2.2.2)], lv, .inl (ra_ln env, 0) :: st, aw, ce, sl))])
      | _ => none
    | .inl q :: .inr (.inr (.inl 2)) :: st => ra_gd (hs && (b == 0 && (q.1 == 2 && (ra_leb 0 q.2 && (Nat.blt q.2.toNat 6 && Nat.blt 0 sb))))) (some [(pc + 1, (env, lv, .inl (sb + q.2.toNat, 0) :: st, aw, ce, sl))])
    | _ => none)
theorem ra_aldW (X : ra_X p s m args c cc own nL A D cl (ra_T sc cT) Ts) {b t pc : Nat} (ht : t < 3) (hbt : ((b == 0) == (t == 0)) = true) (hdg : decode cc pc = .ok (if b = 0 then .iaload else .baload, 1)) {ws : va_W} {i : Nat} {q : Nat × va_E} {n : Nat} {f : Nat → Int32} (hw : ws[i]? = some q) (he : q.2 = .inl (cT t, n, .inl f)) {y : Int32} (hin : vp_in y n) {lv : List (Nat × Value)} {st : List Value} {ce sl : Nat} (k : ra_W p l e R s m args below meth c Q nL A D cl (pc + 1) lv (.int (f y.toNatClampNeg) :: st) ws ce sl) : ra_W p l e R s m args below meth c Q nL A D cl pc lv (.int y :: .ref q.1 :: st) ws ce sl := by
  intro H locs ls hP hD hS hl
  have k := k H locs ls hP hD hS hl
  obtain ⟨hx, hb, -, -, -, hKK, -⟩ := X
  have hw' : ws[i]? = some (q.1, .inl (cT t, n, .inl f)) := by rw [hw, ← he]
  rcases (show t = 0 ∨ t = 1 ∨ t = 2 by omega) with rfl | rfl | rfl
  · have : b = 0 := by simpa using hbt
    subst this
    exact va_iald hx hb hKK hP i 0 hw' rfl hin hdg k
  · have : b ≠ 0 := by simpa using hbt
    rw [if_neg this] at hdg
    exact va_bald hx hb hKK hP i 1 hw' rfl hin hdg k
  · have : b ≠ 0 := by simpa using hbt
    rw [if_neg this] at hdg
    exact va_zald hx hb hKK hP i 2 hw' rfl hin hdg k
theorem ra_setself {α : Type} {l : List α} {i : Nat} {a : α} (h : l[i]? = some a) : l.set i a = l := by
  apply List.ext_getElem?
  intro j
  rw [List.getElem?_set]
  split
  · rename_i hj
    subst hj
    rw [h]
    try rw [if_pos (List.getElem?_eq_some_iff.mp h).1]
  · rfl
theorem ra_ald_ok {hs0 : Bool} {sb b n pc : Nat} {a : ra_S} {out : List (Nat × ra_S)} (h : ra_ald hs0 sb b n pc a = some out) (X : ra_X p s m args c cc own nL A D cl (ra_T sc cT) Ts) (hsc : hs0 = true → ra_scr s A b0 sb n0 v0) (hdg : decode cc pc = .ok (if b = 0 then .iaload else .baload, n)) (hs : ∀ x ∈ out, ra_ok p l e R s m args below meth c Q nL A D cl b0 ad0 cT n0 v0 x) : ra_ok p l e R s m args below meth c Q nL A D cl b0 ad0 cT n0 v0 (pc, a) := by
  obtain ⟨env, lv, st, aw, ce, sl⟩ := a
  intro hn v lvv stv ws hg hv
  have hst := hg.2.2.1
  have hN := hg.1
  dsimp only at hn hst hN
  obtain ⟨hx, hb, hml, hown, hts, hKK, hA⟩ := id X
  unfold ra_ald at h
  simp only [ra_nth_eq, ra_st_eq, ra_ap_eq, ra_ln_eq] at h
  try dsimp only at h
  have hq0 := ra_gd_ok h; clear h; obtain ⟨h1, h⟩ := hq0
  rw [beq_iff_eq] at h1
  subst h1
  split at h
  · split at h
    · rename_i o ho
      have hq1 := ra_gd_ok h; clear h; obtain ⟨h2, h⟩ := hq1
      rw [Bool.and_eq_true] at h2
      have ht := Nat.le_of_ble_eq_true h2.1
      split at h
      · rename_i r hr
        cases h
        obtain ⟨x0, stv1, rfl, g2, g4⟩ := ra_a2_cons hst
        obtain ⟨x1, stv2, rfl, g5, g6⟩ := ra_a2_cons g4
        obtain ⟨k1, y, rfl, k2⟩ := g2
        obtain ⟨q, w1, rfl, w2⟩ := ra_cell hg ho g5
        rcases w2 with ⟨h0, f, e1, e2⟩ | ⟨h0, -⟩
        · obtain ⟨r1, r2, v', r3, r4, r5, r6, r7⟩ := ra_rde_ok hN k1 k2 e2 hr
          refine ra_aldW X ht h2.2 hdg w1 e1 r1 ?_
          have hg1 := ra_g_ext (ra_g_st (st' := _) (stv' := stv2) (ce' := ce) (sl' := sl) hg g6) r2 r3 r4
          have hg2 := ra_g_set (st' := r.2.1 :: _) (stv' := .int (f y.toNatClampNeg) :: stv2) (ce' := ce) (sl' := sl) hg1 w1 (c' := .inr (.inl (o.1, r.2.2))) (e' := q.2) (Or.inl ⟨h0, f, by rw [e1, r6], r7⟩) (ra_a2_mk r5 hg1.2.2.1)
          rw [ra_setself w1] at hg2
          exact hs _ (List.mem_singleton.mpr rfl) (by show n0 ≤ r.1.length; omega) v' _ _ ws hg2 (fun i hi => by rw [r3 i (by omega)]; exact hv i hi)
        · omega
      · cases h
    · rename_i o ho
      have hq1 := ra_gd_ok h; clear h; obtain ⟨h2, h⟩ := hq1
      rw [Bool.and_eq_true, Bool.and_eq_true] at h2
      have ht := Nat.le_of_ble_eq_true h2.1
      cases h
      obtain ⟨x0, stv1, rfl, g2, g4⟩ := ra_a2_cons hst
      obtain ⟨x1, stv2, rfl, g5, g6⟩ := ra_a2_cons g4
      obtain ⟨k1, y, rfl, k2⟩ := g2
      obtain ⟨q, w1, rfl, w2⟩ := ra_cell hg ho g5
      obtain ⟨i1, i2, i3, -⟩ := ra_ix_ok hN k2 h2.2.2
      rcases w2 with ⟨h0, f, e1, e2⟩ | ⟨h0, -⟩
      · refine ra_aldW X ht h2.2.1 hdg w1 e1 i1 ?_
        have hz := e2 _ i3
        obtain ⟨v', n1, n2, n3⟩ := ra_fresh (b0 := b0) hN hz.1 hz.2
        have hg1 := ra_g_ext (ra_g_st (st' := _) (stv' := stv2) (ce' := ce) (sl' := sl) hg g6) (env' := env ++ [(o.2.2.1, o.2.2.2)]) (by simp) n1 n2
        exact hs _ (List.mem_singleton.mpr rfl) (by show n0 ≤ (env ++ [(o.2.2.1, o.2.2.2)]).length; simp; omega) v' _ _ ws (ra_g_st hg1 (ra_a2_mk (n3 _) hg1.2.2.1)) (fun i hi => by rw [n1 i (by omega)]; exact hv i hi)
      · omega
    · cases h
  · rename_i q0 st1
    have hq1 := ra_gd_ok h; clear h; obtain ⟨h2, h⟩ := hq1
    rw [Bool.and_eq_true, Bool.and_eq_true, Bool.and_eq_true, Bool.and_eq_true, Bool.and_eq_true] at h2
    obtain ⟨h2, h3, h4, h5, h6, h7⟩ := h2
    rw [beq_iff_eq] at h3 h4
    have h5 := ra_leb_le h5
    have h6 := Nat.le_of_ble_eq_true h6
    cases h
    subst h3
    obtain ⟨x0, stv1, rfl, g2, g4⟩ := ra_a2_cons hst
    obtain ⟨x1, stv2, rfl, g5, g6⟩ := ra_a2_cons g4
    obtain ⟨k1, y, rfl, k2⟩ := g2
    have e0 := ra_scrV (Nat.le_refl 2) g5
    subst e0
    obtain ⟨L, xs, m1, m2, m3, m4, m5, m7, mw⟩ := hsc h2
    obtain ⟨m6, m8, m9, m10⟩ := mw (Nat.le_of_ble_eq_true h7)
    rw [h4, hv 2 (by omega)] at k2
    have hc : y.toNatClampNeg = (v0 2).toNat + q0.2.toNat := by rw [ra_clamp]; omega
    intro H locs ls hP hD hS hl
    refine va_sld hx hb m1 m2 m3 hS (vp_in_iff.mpr ⟨by omega, by omega⟩) hdg ?_
    refine hs _ (List.mem_singleton.mpr rfl) hn v _ _ ws (ra_g_st hg (ra_a2_mk ⟨by dsimp only; omega, _, rfl, ?_⟩ g6)) hv H locs ls hP hD hS hl
    rw [hc, hv _ (by dsimp only; omega), m10 _ (by omega)]
    dsimp only
    omega
  · cases h
end
end
