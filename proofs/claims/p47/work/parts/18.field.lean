noncomputable section
/-! fields -/
section
variable {p : Program} {l : Launch} {e : Env} {R : Room} {s : State} {m : MethodId} {args : Array Value} {below : List Frame} {meth : Method} {c : Code} {Q : State → Prop}
variable {cc : ByteArray} {own : String} {nL : Nat} {A : Nat → Prop} {D : va_G} {cl : List vw_C} {tys : List (ClassId × FieldType)} {Ts : List Cond} {b0 : Nat → Nat} {ad0 : List Nat} {cT : Nat → ClassId} {n0 : Nat} {v0 : Nat → Int}

def ra_ff (fl : List (Nat × Nat × Nat)) (j : Nat) : Option (Nat × Nat) := match fl with
  | [] => none
  | q :: fl => if q.1 = j then some q.2 else ra_ff fl j
theorem ra_ff_mem : ∀ {fl : List (Nat × Nat × Nat)} {j : Nat} {r : Nat × Nat}, ra_ff fl j = some r → (j, r) ∈ fl
  | [], _, _, h => by simp [ra_ff] at h
  | q :: fl, j, r, h => by
    unfold ra_ff at h
    split at h
    · rename_i hq
      cases h
      exact List.mem_cons.mpr (Or.inl (by rw [← hq]))
    · exact List.mem_cons_of_mem _ (ra_ff_mem h)
def ra_okF (Ts : List Cond) (own : String) (cl : List vw_C) (fl : List (Nat × Nat × Nat)) : Prop := ∀ e ∈ fl, ∃ r : vw_C, cl[e.2.1]? = some r ∧ e.2.2 < r.2.2 ∧ Cond.fieldLink own e.1 (r.2.1 e.2.2).1 (r.2.1 e.2.2).2.1 (r.2.1 e.2.2).2.2.1 ∈ Ts
def ra_okC (Ts : List Cond) (cl : List vw_C) (tyv : Nat → Nat → FieldType) : Prop := ∀ (ci : Nat) (r : vw_C), cl[ci]? = some r → (∀ w ∈ u_ws r.1 r.2.1 r.2.2, w ∈ Ts) ∧ (∀ k, k < r.2.2 → parseFieldDescriptor (r.2.1 k).2.2.1 = some (tyv ci k)) ∧ ∀ a, a < r.2.2 → ∀ b, b < r.2.2 → a ≠ b → (r.2.1 a).2.1 ≠ (r.2.1 b).2.1
def ra_fit (env : ra_N) (ty : FieldType) (a : ra_V) : Bool := match ty with
  | .int => match a with
    | .inl _ => true
    | _ => false
  | .boolean => match a with
    | .inl q => let r := ra_rg env q; ra_leb 0 r.1 && ra_leb r.2 1
    | _ => false
  | .long => match a with
    | .inr (.inr (.inl k)) => k == 1
    | .inr (.inr (.inr _)) => true
    | _ => false
  | .object _ => match a with
    | .inr (.inl _) => true
    | .inr (.inr (.inl k)) => k == 0 || Nat.ble 2 k
    | _ => false
  | .array _ => match a with
    | .inr (.inl _) => true
    | .inr (.inr (.inl k)) => k == 0 || Nat.ble 2 k
    | _ => false
  | _ => false
theorem ra_01 {y : Int32} (h1 : 0 ≤ y.toInt) (h2 : y.toInt ≤ 1) : y = 0 ∨ y = 1 := by
  have : y.toInt = 0 ∨ y.toInt = 1 := by omega
  rcases this with h | h
  · exact Or.inl (Int32.toInt_inj.mp (by rw [h]; rfl))
  · exact Or.inr (Int32.toInt_inj.mp (by rw [h]; rfl))
theorem ra_fit_ok {v : Nat → Int} {env : ra_N} {ads : List Nat} (hN : ra_cN v env) {ty : FieldType} {a : ra_V} {x : Value} (hc : ra_cV env.length v ads b0 a x) (h : ra_fit env ty a = true) : narrow ty x = x ∧ fits ty x = true := by
  unfold ra_fit at h
  split at h
  · split at h
    · obtain ⟨_, y, rfl, _⟩ := hc
      exact ⟨rfl, rfl⟩
    · cases h
  · split at h
    · obtain ⟨_, y, rfl, k2⟩ := hc
      have h1 := ra_rg_ok hN k2
      dsimp only at h
      rw [Bool.and_eq_true] at h
      have g1 := ra_leb_le h.1
      have g2 := ra_leb_le h.2
      rcases ra_01 (y := y) (by omega) (by omega) with rfl | rfl <;> exact ⟨by decide, by decide⟩
    · cases h
  · split at h
    · rw [beq_iff_eq] at h
      subst h
      obtain ⟨y, rfl⟩ := ra_longV hc
      exact ⟨rfl, rfl⟩
    · obtain ⟨_, y, rfl, _⟩ := hc
      exact ⟨rfl, rfl⟩
    · cases h
  · split at h
    · obtain ⟨r, _, rfl⟩ := hc
      exact ⟨rfl, rfl⟩
    · rcases hc with ⟨_, rfl⟩ | ⟨h1, _⟩ | ⟨h1, rfl⟩
      · exact ⟨rfl, rfl⟩
      · subst h1
        cases h
      · exact ⟨rfl, rfl⟩
    · cases h
  · split at h
    · obtain ⟨r, _, rfl⟩ := hc
      exact ⟨rfl, rfl⟩
    · rcases hc with ⟨_, rfl⟩ | ⟨h1, _⟩ | ⟨h1, rfl⟩
      · exact ⟨rfl, rfl⟩
      · subst h1
        cases h
      · exact ⟨rfl, rfl⟩
    · cases h
  · cases h
/-- a place's cell -/
theorem ra_cell {v : Nat → Int} {env : ra_N} {lv : List (Nat × ra_V)} {st : List ra_V} {aw : List ra_C} {ce sl : Nat} {lvv : List (Nat × Value)} {stv : List Value} {ws : va_W} (hg : ra_g b0 ad0 cT v (env, lv, st, aw, ce, sl) lvv stv ws) {i : Nat} {cel : ra_C} (h : aw[i]? = some cel) {x : Value} (hx : ra_cV env.length v (ws.map Prod.fst) b0 (.inr (.inl i)) x) : ∃ q, ws[i]? = some q ∧ x = .ref q.1 ∧ ra_cC env.length v (ws.map Prod.fst) b0 cT cel q.2 := by
  obtain ⟨q, h1, h2⟩ := ra_a2_get hg.2.2.2.1 h
  obtain ⟨r, h3, rfl⟩ := hx
  rw [List.getElem?_map, h1] at h3
  cases h3
  exact ⟨q, h1, rfl, h2⟩
theorem ra_ads_set {ws : va_W} {i : Nat} {q : Nat × va_E} (h : ws[i]? = some q) (e' : va_E) : (ws.set i (q.1, e')).map Prod.fst = ws.map Prod.fst := by
  apply List.ext_getElem?
  intro j
  rw [List.getElem?_map, List.getElem?_map, List.getElem?_set]
  split
  · rename_i hj
    subst hj
    have hl := (List.getElem?_eq_some_iff.mp h).1
    rw [if_pos hl, h]
    rfl
  · rfl
theorem ra_g_set {v : Nat → Int} {env : ra_N} {lv : List (Nat × ra_V)} {st st' : List ra_V} {aw : List ra_C} {ce sl ce' sl' : Nat} {lvv : List (Nat × Value)} {stv stv' : List Value} {ws : va_W} (hg : ra_g b0 ad0 cT v (env, lv, st, aw, ce, sl) lvv stv ws) {i : Nat} {q : Nat × va_E} (hq : ws[i]? = some q) {c' : ra_C} {e' : va_E} (hc : ra_cC env.length v (ws.map Prod.fst) b0 cT c' e') (hs : ra_a2 (ra_cV env.length v (ws.map Prod.fst) b0) st' stv') : ra_g b0 ad0 cT v (env, lv, st', aw.set i c', ce', sl') lvv stv' (ws.set i (q.1, e')) := by
  unfold ra_g ra_pf
  dsimp only
  rw [ra_ads_set hq e']
  exact ⟨hg.1, hg.2.1, hs, ra_a2_set hg.2.2.2.1 i hc, hg.2.2.2.2⟩
def ra_getf (fl : List (Nat × Nat × Nat)) (j n pc : Nat) (a : ra_S) : Option (List (Nat × ra_S)) := match a with
  | (env, lv, st, aw, ce, sl) => ra_gd (n == 3) (match st with
    | .inr (.inl i) :: st => match ra_nth aw i with
      | some (.inl o) => match ra_ff fl j with
        | some r => ra_gd (r.1 == o.1) (match ra_nth o.2 r.2 with
          | some x => some [(pc + 3, (env, lv, x :: st, aw, ce, sl))]
          | none => none)
        | none => none
      | _ => none
    | _ => none)
theorem ra_getf_ok {fl : List (Nat × Nat × Nat)} {tyv : Nat → Nat → FieldType} {j n pc : Nat} {a : ra_S} {out : List (Nat × ra_S)} (h : ra_getf fl j n pc a = some out) (X : ra_X p s m args c cc own nL A D cl tys Ts) (hF : ra_okF Ts own cl fl) (hC : ra_okC Ts cl tyv) (hdg : decode cc pc = .ok (.getfield j, n)) (hs : ∀ x ∈ out, ra_ok p l e R s m args below meth c Q nL A D cl b0 ad0 cT n0 v0 x) : ra_ok p l e R s m args below meth c Q nL A D cl b0 ad0 cT n0 v0 (pc, a) := by
  obtain ⟨env, lv, st, aw, ce, sl⟩ := a
  intro hn v lvv stv ws hg hv
  have hst := hg.2.2.1
  dsimp only at hn hst
  obtain ⟨hx, hb, hml, hown, hts, hKK, hA⟩ := id X
  unfold ra_getf at h
  simp only [ra_nth_eq] at h
  try dsimp only at h
  have hq0 := ra_gd_ok h; clear h; obtain ⟨h1, h⟩ := hq0
  rw [beq_iff_eq] at h1
  subst h1
  split at h
  · split at h
    · rename_i o ho
      split at h
      · rename_i r hr
        have hq1 := ra_gd_ok h; clear h; obtain ⟨h2, h⟩ := hq1
        rw [beq_iff_eq] at h2
        split at h
        · rename_i x hxx
          cases h
          obtain ⟨x0, stv1, rfl, g2, g4⟩ := ra_a2_cons hst
          obtain ⟨q, w1, rfl, w2⟩ := ra_cell hg ho g2
          obtain ⟨fs, e1, e2⟩ := w2
          obtain ⟨y, y1, y2⟩ := ra_a2_get e2 hxx
          obtain ⟨rc, c1, c2, c3⟩ := hF _ (ra_ff_mem hr)
          dsimp only at c1 c2 c3
          obtain ⟨k1, k2, k3⟩ := hC _ _ c1
          intro H locs ls hP hD hS hl
          refine va_get (v := y) (fs := fs) (ci := r.1) (C := rc.1) (T := rc.2.1) (N := rc.2.2) hx hb hts k1 hown hKK hP _ (by rw [w1, h2, ← e1]) c1 r.2 c2 (hts _ c3) (fun _ z => z) y1 hdg ?_
          exact hs _ (List.mem_singleton.mpr rfl) hn v _ _ ws (ra_g_st hg (ra_a2_mk y2 g4)) hv H locs ls hP hD hS hl
        · cases h
      · cases h
    · cases h
  · cases h
def ra_putf (fl : List (Nat × Nat × Nat)) (cl : List vw_C) (tyv : Nat → Nat → FieldType) (ini : Option Nat) (j n pc : Nat) (a : ra_S) : Option (List (Nat × ra_S)) := match a with
  | (env, lv, st, aw, ce, sl) => ra_gd (n == 3) (match st with
    | x :: .inr (.inl i) :: st => match ra_nth aw i with
      | some (.inl o) => match ra_ff fl j with
        | some r => match ra_nth cl r.1 with
          | some rc => ra_gd (r.1 == o.1 && (Nat.blt r.2 o.2.length && (ra_fit env (tyv r.1 r.2) x && (!(rc.2.1 r.2).2.2.2 || ini == some r.1)))) (some [(pc + 3, (env, lv, st, ra_st aw (.inl (o.1, ra_st o.2 x r.2)) i, ce, sl))])
          | none => none
        | none => none
      | _ => none
    | _ => none)
theorem ra_putf_ok {fl : List (Nat × Nat × Nat)} {tyv : Nat → Nat → FieldType} {ini : Option Nat} {j n pc : Nat} {a : ra_S} {out : List (Nat × ra_S)} (h : ra_putf fl cl tyv ini j n pc a = some out) (X : ra_X p s m args c cc own nL A D cl tys Ts) (hF : ra_okF Ts own cl fl) (hC : ra_okC Ts cl tyv) (hI : ∀ ci, ini = some ci → meth.name = "<init>" ∧ ∀ (rc : vw_C) (k : Nat), cl[ci]? = some rc → k < rc.2.2 → (rc.2.1 k).1 = own) (hdg : decode cc pc = .ok (.putfield j, n)) (hs : ∀ x ∈ out, ra_ok p l e R s m args below meth c Q nL A D cl b0 ad0 cT n0 v0 x) : ra_ok p l e R s m args below meth c Q nL A D cl b0 ad0 cT n0 v0 (pc, a) := by
  obtain ⟨env, lv, st, aw, ce, sl⟩ := a
  intro hn v lvv stv ws hg hv
  have hst := hg.2.2.1
  have hN := hg.1
  dsimp only at hn hst hN
  obtain ⟨hx, hb, hml, hown, hts, hKK, hA⟩ := id X
  unfold ra_putf at h
  simp only [ra_nth_eq, ra_st_eq] at h
  try dsimp only at h
  have hq0 := ra_gd_ok h; clear h; obtain ⟨h1, h⟩ := hq0
  rw [beq_iff_eq] at h1
  subst h1
  split at h
  · rename_i xv i st1
    split at h
    · rename_i o ho
      split at h
      · rename_i r hr
        split at h
        · rename_i rc hrc
          have hq1 := ra_gd_ok h; clear h; obtain ⟨h2, h⟩ := hq1
          rw [Bool.and_eq_true, Bool.and_eq_true, Bool.and_eq_true, beq_iff_eq] at h2
          obtain ⟨h2, h3, h4, h5⟩ := h2
          have h3 := Nat.le_of_ble_eq_true h3
          cases h
          obtain ⟨x0, stv1, rfl, g2, g4⟩ := ra_a2_cons hst
          obtain ⟨x1, stv2, rfl, g5, g6⟩ := ra_a2_cons g4
          obtain ⟨q, w1, rfl, w2⟩ := ra_cell hg ho g5
          obtain ⟨fs, e1, e2⟩ := w2
          obtain ⟨rc', c1, c2, c3⟩ := hF _ (ra_ff_mem hr)
          dsimp only at c1 c2 c3
          have : rc' = rc := Option.some.inj (c1.symm.trans hrc)
          subst this
          obtain ⟨k1, k2, k3⟩ := hC _ _ c1
          obtain ⟨f1, f2⟩ := ra_fit_ok hN g2 h4
          have hl2 : r.2 < fs.length := by rw [← ra_a2_len e2]; exact h3
          intro H locs ls hP hD hS hl
          have kk : ∀ (H1 : Heap) (locs1 : List Loc), va_P D cl (ws.set _ (q.1, .inr (r.1, fs.set r.2 x0))) H1 → va_D A (ws.set _ (q.1, .inr (r.1, fs.set r.2 x0))) → va_S A s.heap H1 locs1 → W p l e R s m args below meth c H1 locs1 ce sl Q (F0 m (pc + 3) ls stv2) := fun H1 locs1 hP1 hD1 hS1 => hs _ (List.mem_singleton.mpr rfl) hn v _ _ _ (ra_g_set hg w1 ⟨fs.set r.2 x0, by rw [h2], ra_a2_set e2 r.2 g2⟩ g6) hv H1 locs1 ls hP1 hD1 hS1 hl
          have hw : ws[i]? = some (q.1, .inr (r.1, fs)) := by rw [w1, h2, ← e1]
          cases hfin : (rc'.2.1 r.2).2.2.2 with
          | false => exact va_put (ty := tyv r.1 r.2) (v := x0) (fs := fs) (ci := r.1) (C := rc'.1) (T := rc'.2.1) (N := rc'.2.2) hx hb hts k1 (tyv r.1) k2 k3 hown hKK hP hD hS _ hw c1 r.2 c2 (hts _ c3) (fun _ z => z) hfin (k2 _ c2) f1 f2 hl2 hdg kk
          | true =>
            rw [hfin] at h5
            have h5 : ini = some r.1 := by simpa using h5
            obtain ⟨i1, i2⟩ := hI _ h5
            exact va_putF (ty := tyv r.1 r.2) (v := x0) (fs := fs) (ci := r.1) (C := rc'.1) (T := rc'.2.1) (N := rc'.2.2) hx hb hts k1 (tyv r.1) k2 k3 hown hKK hP hD hS _ hw c1 r.2 c2 (hts _ c3) (fun _ z => z) hfin i1 (i2 _ _ c1 c2) (k2 _ c2) f1 f2 hl2 hdg kk
        · cases h
      · cases h
    · cases h
  · cases h
end
end
