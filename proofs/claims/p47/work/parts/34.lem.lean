noncomputable section
/-! what is so may be said otherwise: a state by others, at the same heap -/
section
variable {p : Program} {l : Launch} {e : Env} {R : Room} {s : State} {m : MethodId} {args : Array Value} {below : List Frame} {meth : Method} {c : Code} {Q : State → Prop}
variable {nL : Nat} {A : Nat → Prop} {D : va_G} {cl : List vw_C} {b0 : Nat → Nat} {ad0 : List Nat} {cT : Nat → ClassId} {n0 : Nat} {v0 : Nat → Int}
abbrev rb_O : Type := List (ra_S × rb_D)
def rb_alt (b0 : Nat → Nat) (ad0 : List Nat) (cT : Nat → ClassId) (a : ra_S) (F : rb_D) (outs : rb_O) : Prop := ∀ (v : Nat → Int) (lv : List (Nat × Value)) (st : List Value) (ws : va_W), ra_g b0 ad0 cT v a lv st ws → rb_db a.1.length F = true → rb_dv v F → ∃ o ∈ outs, o.1.2.2.2.2 = a.2.2.2.2 ∧ a.1.length ≤ o.1.1.length ∧ ∃ v' : Nat → Int, (∀ i, i < a.1.length → v' i = v i) ∧ ra_g b0 ad0 cT v' o.1 lv st ws ∧ rb_db o.1.1.length o.2 = true ∧ rb_dv v' o.2
theorem rb_alt_ok {a : ra_S} {F : rb_D} {outs : rb_O} {pc : Nat} (h : rb_alt b0 ad0 cT a F outs) (hs : ∀ o ∈ outs, rb_ok p l e R s m args below meth c Q nL A D cl b0 ad0 cT n0 v0 (pc, o.1, o.2)) : rb_ok p l e R s m args below meth c Q nL A D cl b0 ad0 cT n0 v0 (pc, a, F) := by
  intro hn v lv st ws hg hv hdb hdv
  have hn : n0 ≤ a.1.length := hn
  obtain ⟨o, h1, h2, h3, v', h4, h5, h6, h7⟩ := h v lv st ws hg hdb hdv
  have := hs o h1 (Nat.le_trans hn h3) v' lv st ws h5 (fun i hi => by rw [h4 i (Nat.lt_of_lt_of_le hi hn)]; exact hv i hi) h6 h7
  dsimp only at this ⊢
  rw [h2] at this
  exact this
def rb_envs (a : ra_S) (F : rb_D) (es : List ra_N) : rb_O := es.map (fun e => ((e, a.2), F))
theorem rb_envs_ok {a : ra_S} {F : rb_D} {es : List ra_N} (h : ∀ v, ra_cN v a.1 → rb_dv v F → ∃ e ∈ es, ra_cN v e ∧ e.length = a.1.length) : rb_alt b0 ad0 cT a F (rb_envs a F es) := by
  intro v lv st ws hg hdb hdv
  obtain ⟨e, h1, h2, h3⟩ := h v hg.1 hdv
  obtain ⟨env, alv, ast, aw, ce, sl⟩ := a
  refine ⟨_, List.mem_map.mpr ⟨e, h1, rfl⟩, rfl, Nat.le_of_eq h3.symm, v, fun _ _ => rfl, ra_g_ext hg (Nat.le_of_eq h3.symm) (fun _ _ => rfl) h2, ?_, hdv⟩
  show rb_db e.length F = true
  rw [h3]
  exact hdb
theorem rb_recell {v v' : Nat → Int} {env env' : ra_N} {lv : List (Nat × ra_V)} {st : List ra_V} {aw : List ra_C} {ce sl : Nat} {lvv : List (Nat × Value)} {stv : List Value} {ws : va_W} (hg : ra_g b0 ad0 cT v (env, lv, st, aw, ce, sl) lvv stv ws) (hn : env.length ≤ env'.length) (hv : ∀ i, i < env.length → v' i = v i) (hN : ra_cN v' env') {i : Nat} {c c' : ra_C} (hc : aw[i]? = some c) (h : ∀ x, ra_cC env.length v (ws.map Prod.fst) b0 cT c x → ra_cC env'.length v' (ws.map Prod.fst) b0 cT c' x) : ra_g b0 ad0 cT v' (env', lv, st, aw.set i c', ce, sl) lvv stv ws := by
  have hg1 := ra_g_ext hg hn hv hN
  obtain ⟨q, w1, w2⟩ := ra_a2_get hg.2.2.2.1 hc
  have hg2 := ra_g_set (st' := st) (stv' := stv) (ce' := ce) (sl' := sl) hg1 w1 (c' := c') (e' := q.2) (h _ w2) hg1.2.2.1
  rw [ra_setself w1] at hg2
  exact hg2
/-- all values of a symbol -/
def rb_cst (env : ra_N) (i : Nat) : Nat → Int → List ra_N
  | 0, _ => []
  | n + 1, j => (match ra_meet env i j j with
    | some e => [e]
    | none => []) ++ rb_cst env i n (j + 1)
theorem rb_cst_ok {v : Nat → Int} {env : ra_N} (hN : ra_cN v env) {i : Nat} (hi : i < env.length) : ∀ {n : Nat} {j : Int}, j ≤ v i → v i < j + n → ∃ e ∈ rb_cst env i n j, ra_cN v e ∧ e.length = env.length
  | 0, j, h1, h2 => by omega
  | n + 1, j, h1, h2 => by
    by_cases h : v i = j
    · obtain ⟨e, e1, e2, e3⟩ := ra_meet_ok hN hi (lo := j) (hi := j) (by omega) (by omega)
      exact ⟨e, List.mem_append_left _ (by rw [e1]; exact List.mem_singleton.mpr rfl), e2, e3⟩
    · obtain ⟨e, e1, e2⟩ := rb_cst_ok hN hi (n := n) (j := j + 1) (by omega) (by omega)
      exact ⟨e, List.mem_append_right _ e1, e2⟩
def rb_oe (o : Option ra_N) : List ra_N := match o with
  | some e => [e]
  | none => []
theorem rb_oe_in {o : Option ra_N} {e : ra_N} (h : o = some e) : e ∈ rb_oe o := by
  rw [h]
  exact List.mem_singleton.mpr rfl
/-- elements by symbols -/
def rb_mat : ra_N → List ra_E → ra_N × List ra_E
  | env, [] => (env, [])
  | env, .inl a :: es => let r := rb_mat env es; (r.1, .inl a :: r.2)
  | env, .inr q :: es => let r := rb_mat (env ++ [q]) es; (r.1, .inl (.inl (env.length, 0)) :: r.2)
theorem rb_mat_ok {ads : List Nat} : ∀ {es : List ra_E} {env : ra_N} {v : Nat → Int} {f : Nat → Int32}, ra_cN v env → (∀ (j : Nat) (x : ra_E), es[j]? = some x → ra_cE env.length v ads b0 x (.int (f j))) → env.length ≤ (rb_mat env es).1.length ∧ (rb_mat env es).2.length = es.length ∧ ∃ v' : Nat → Int, (∀ i, i < env.length → v' i = v i) ∧ ra_cN v' (rb_mat env es).1 ∧ ∀ (j : Nat) (x : ra_E), (rb_mat env es).2[j]? = some x → ra_cE (rb_mat env es).1.length v' ads b0 x (.int (f j))
  | [], env, v, f, hN, h => ⟨Nat.le_refl _, rfl, v, fun _ _ => rfl, hN, fun j x hx => by simp [rb_mat] at hx⟩
  | .inl a :: es, env, v, f, hN, h => by
    obtain ⟨h1, h2, v', h3, h4, h5⟩ := rb_mat_ok (es := es) (f := fun j => f (j + 1)) hN (fun j x hx => h (j + 1) x (by simpa using hx))
    refine ⟨h1, by simp [rb_mat, h2], v', h3, h4, fun j x hx => ?_⟩
    cases j with
    | zero =>
      simp [rb_mat] at hx
      subst hx
      exact ra_cE_ext (a := .inl a) h1 h3 (fun _ _ z => z) (h 0 _ (by simp))
    | succ j => exact h5 j x (by simpa [rb_mat] using hx)
  | .inr q :: es, env, v, f, hN, h => by
    obtain ⟨y, y1, y2, y3⟩ := h 0 (.inr q) (by simp)
    cases y1
    obtain ⟨v1, n1, n2, n3⟩ := ra_fresh (b0 := b0) hN y2 y3
    obtain ⟨h1, h2, v', h3, h4, h5⟩ := rb_mat_ok (es := es) (env := env ++ [q]) (v := v1) (f := fun j => f (j + 1)) n2 (fun j x hx => ra_cE_ext (by simp) n1 (fun _ _ z => z) (h (j + 1) x (by simpa using hx)))
    have hl : env.length ≤ (env ++ [q]).length := by simp
    refine ⟨Nat.le_trans hl h1, by simp [rb_mat, h2], v', fun i hi => by rw [h3 i (by simp; omega)]; exact n1 i hi, h4, fun j x hx => ?_⟩
    cases j with
    | zero =>
      simp [rb_mat] at hx
      subst hx
      exact ra_cE_ext (a := .inl (.inl (env.length, 0))) h1 h3 (fun _ _ z => z) (n3 ads)
    | succ j => exact h5 j x (by simpa [rb_mat] using hx)
/-- 1 .. 12: splitting, tightening, elements and fields by symbols, sayings left out, other words for a cell -/
def rb_lem1 (n : Nat) (d : List (Nat × Int)) (is : List Nat) (hf : List rb_H) (a : ra_S) (F : rb_D) : Option rb_O := match n with
  | 1 => match d with
    | [q] => ra_gd (Nat.blt q.1 a.1.length) (some (rb_envs a F (rb_oe (ra_mU a.1 q.1 q.2) ++ rb_oe (ra_mL a.1 q.1 (q.2 + 1)))))
    | _ => none
  | 2 => match d with
    | [q] => ra_gd (Nat.blt q.1 a.1.length) (let r := ra_rg a.1 (q.1, 0); some (rb_envs a F (rb_cst a.1 q.1 (r.2 - r.1 + 1).toNat r.1)))
    | _ => none
  | 3 => match d, hf with
    | [q], [h] => ra_gd (Nat.blt q.1 a.1.length && rb_far a.1 F h ([(q.1, -1)], q.2)) (some (rb_envs a F (rb_oe (ra_mU a.1 q.1 q.2))))
    | _, _ => none
  | 4 => match d, hf with
    | [q], [h] => ra_gd (Nat.blt q.1 a.1.length && rb_far a.1 F h ([(q.1, 1)], - q.2)) (some (rb_envs a F (rb_oe (ra_mL a.1 q.1 q.2))))
    | _, _ => none
  | 5 => match hf with
    | [h] => ra_gd (rb_far a.1 F h ([], -1)) (some [])
    | _ => none
  | 6 => match is with
    | [i] => match a with
      | (env, lv, st, aw, ce, sl) => match aw[i]? with
        | some (.inr (.inl o)) => ra_gd (Nat.blt o.1 3) (let r := rb_mat env o.2; some [((r.1, lv, st, aw.set i (.inr (.inl (o.1, r.2))), ce, sl), F)])
        | _ => none
    | _ => none
  | 7 => match is with
    | [i, k] => match a with
      | (env, lv, st, aw, ce, sl) => match aw[i]? with
        | some (.inl o) => match o.2[k]? with
          | some (.inr (.inr (.inl 1))) => some [((env ++ [(-9223372036854775808, 9223372036854775807)], lv, st, aw.set i (.inl (o.1, o.2.set k (.inr (.inr (.inr env.length))))), ce, sl), F)]
          | _ => none
        | _ => none
    | _ => none
  | 8 => some [(a, is.filterMap (fun i => F[i]?))]
  | 9 => match is with
    | [i] => match a with
      | (env, lv, st, aw, ce, sl) => match aw[i]? with
        | some (.inr (.inr (.inl o))) => ra_gd (Nat.blt o.1 3) (some [((env, lv, st, aw.set i (.inr (.inl (o.1, List.replicate o.2.1 (.inr (o.2.2.1, o.2.2.2))))), ce, sl), F)])
        | _ => none
    | _ => none
  | 10 => match is with
    | [i] => match a with
      | (env, lv, st, aw, ce, sl) => match aw[i]? with
        | some (.inr (.inr (.inl o))) => ra_gd (Nat.blt o.1 3) (some [((env, lv, st, aw.set i (.inr (.inr (.inr (o.1, o.2.1, [2], [(0, o.2.2.1), (0, o.2.2.2)])))), ce, sl), F)])
        | _ => none
    | _ => none
  | 11 => match is, d with
    | [i], [q] => match a with
      | (env, lv, st, aw, ce, sl) => match aw[i]? with
        | some (.inr (.inr (.inr o))) => ra_gd (Nat.blt q.1 env.length && ra_leb 0 (ra_rg env q).1) (some [((env ++ [(ra_lo, ra_hi)], lv, st, aw.set i (.inr (.inr (.inr (o.1, o.2.1, 0 :: o.2.2.1, q :: (env.length, 0) :: o.2.2.2)))), ce, sl), F)])
        | _ => none
    | _, _ => none
  | 12 => match is with
    | [i] => match a with
      | (env, lv, st, aw, ce, sl) => match aw[i]? with
        | some (.inr (.inr (.inr o))) => match rb_bb o.2.2.1 o.2.2.2 with
          | some r => some [((env, lv, st, aw.set i (.inr (.inr (.inl (o.1, o.2.1, r.1, r.2)))), ce, sl), F)]
          | none => none
        | _ => none
    | _ => none
  | _ => none
theorem rb_ev1 (v : Nat → Int) (i : Nat) (k m : Int) : ra_ev v ([(i, k)], m) = k * v i + m := by simp [ra_ev]
set_option maxHeartbeats 1000000 in
theorem rb_lem1_ok {n : Nat} {d : List (Nat × Int)} {is : List Nat} {hf : List rb_H} {a : ra_S} {F : rb_D} {outs : rb_O} (h : rb_lem1 n d is hf a F = some outs) : rb_alt b0 ad0 cT a F outs := by
  unfold rb_lem1 at h
  split at h
  · split at h
    · rename_i q
      have hq0 := ra_gd_ok h; clear h; obtain ⟨h1, h⟩ := hq0
      have h1 : q.1 < a.1.length := Nat.le_of_ble_eq_true h1
      cases h
      refine rb_envs_ok (fun v hN _ => ?_)
      by_cases hq : v q.1 ≤ q.2
      · obtain ⟨e, e1, e2⟩ := ra_mU_ok hN h1 hq
        exact ⟨e, List.mem_append_left _ (rb_oe_in e1), e2⟩
      · obtain ⟨e, e1, e2⟩ := ra_mL_ok hN h1 (lo := q.2 + 1) (by omega)
        exact ⟨e, List.mem_append_right _ (rb_oe_in e1), e2⟩
    · cases h
  · split at h
    · rename_i q
      have hq0 := ra_gd_ok h; clear h; obtain ⟨h1, h⟩ := hq0
      have h1 : q.1 < a.1.length := Nat.le_of_ble_eq_true h1
      cases h
      refine rb_envs_ok (fun v hN _ => ?_)
      have hr := rb_rgI (q := (q.1, 0)) hN h1
      dsimp only at hr
      exact rb_cst_ok hN h1 (by omega) (by omega)
    · cases h
  · split at h
    · rename_i q hh
      have hq0 := ra_gd_ok h; clear h; obtain ⟨h1, h⟩ := hq0
      rw [Bool.and_eq_true] at h1
      have h2 : q.1 < a.1.length := Nat.le_of_ble_eq_true h1.1
      cases h
      refine rb_envs_ok (fun v hN hF => ?_)
      have h3 := rb_far_ok hN hF h1.2
      rw [rb_ev1] at h3
      obtain ⟨e, e1, e2⟩ := ra_mU_ok hN h2 (hi := q.2) (by omega)
      exact ⟨e, rb_oe_in e1, e2⟩
    · cases h
  · split at h
    · rename_i q hh
      have hq0 := ra_gd_ok h; clear h; obtain ⟨h1, h⟩ := hq0
      rw [Bool.and_eq_true] at h1
      have h2 : q.1 < a.1.length := Nat.le_of_ble_eq_true h1.1
      cases h
      refine rb_envs_ok (fun v hN hF => ?_)
      have h3 := rb_far_ok hN hF h1.2
      rw [rb_ev1] at h3
      obtain ⟨e, e1, e2⟩ := ra_mL_ok hN h2 (lo := q.2) (by omega)
      exact ⟨e, rb_oe_in e1, e2⟩
    · cases h
  · split at h
    · have hq0 := ra_gd_ok h; clear h; obtain ⟨h1, h⟩ := hq0
      cases h
      intro v lv st ws hg hdb hdv
      have h3 := rb_far_ok hg.1 hdv h1
      simp [ra_ev] at h3
    · cases h
  · split at h
    · rename_i i
      split at h
      rename_i env lv st aw ce sl
      split at h
      · rename_i o ho
        have hq0 := ra_gd_ok h; clear h; obtain ⟨h1, h⟩ := hq0
        have h1 : o.1 < 3 := Nat.le_of_ble_eq_true h1
        cases h
        intro v lvv stv ws hg hdb hdv
        dsimp only at hdb
        obtain ⟨q, w1, w2⟩ := ra_a2_get hg.2.2.2.1 ho
        rcases w2 with ⟨h0, f, e1, e2⟩ | ⟨h0, -⟩
        · obtain ⟨m1, m2, v', m3, m4, m5⟩ := rb_mat_ok (b0 := b0) (ads := ws.map Prod.fst) (es := o.2) hg.1 e2
          refine ⟨_, List.mem_singleton.mpr rfl, rfl, m1, v', m3, ?_, rb_db_mono m1 hdb, rb_dv_ext hdb m3 hdv⟩
          have hg1 := ra_g_ext hg m1 m3 m4
          have hg2 := ra_g_set (st' := st) (stv' := stv) (ce' := ce) (sl' := sl) hg1 w1 (c' := .inr (.inl (o.1, (rb_mat env o.2).2))) (e' := q.2) (Or.inl ⟨h0, f, by rw [e1, m2], m5⟩) hg1.2.2.1
          rw [ra_setself w1] at hg2
          exact hg2
        · omega
      · cases h
    · cases h
  · split at h
    · rename_i i k
      split at h
      rename_i env lv st aw ce sl
      split at h
      · rename_i o ho
        split at h
        · rename_i hk
          cases h
          intro v lvv stv ws hg hdb hdv
          dsimp only at hdb
          obtain ⟨q, w1, w2⟩ := ra_a2_get hg.2.2.2.1 ho
          obtain ⟨fs, f1, f2⟩ := w2
          obtain ⟨x, x1, x2⟩ := ra_a2_get f2 hk
          obtain ⟨y, rfl⟩ := ra_longV x2
          have hy1 := Int64.le_toInt y
          have hy2 := Int64.toInt_lt y
          have hN' := ra_cN_fr (z := y.toInt) (lo := -9223372036854775808) (hi := 9223372036854775807) hg.1 (by omega) (by omega)
          have n1 : ∀ i, i < env.length → (if i = env.length then y.toInt else v i) = v i := fun i hi => if_neg (by omega)
          have hl : env.length ≤ (env ++ [((-9223372036854775808 : Int), (9223372036854775807 : Int))]).length := by simp
          refine ⟨_, List.mem_singleton.mpr rfl, rfl, hl, _, n1, ?_, rb_db_mono hl hdb, rb_dv_ext hdb n1 hdv⟩
          have hg1 := ra_g_ext hg hl n1 hN'
          have hset : fs.set k (.long y) = fs := ra_setself x1
          have f2' := ra_a2_set (ra_a2_mono (fun a b z => ra_cV_ext hl n1 (fun _ _ z => z) z) f2) k (a := (.inr (.inr (.inr env.length)) : ra_V)) (b := .long y) ⟨by simp, y, rfl, by show y.toInt = (if env.length = env.length then y.toInt else v env.length); rw [if_pos rfl]⟩
          rw [hset] at f2'
          have hg2 := ra_g_set (st' := st) (stv' := stv) (ce' := ce) (sl' := sl) hg1 w1 (c' := .inl (o.1, o.2.set k (.inr (.inr (.inr env.length))))) (e' := q.2) ⟨fs, f1, f2'⟩ hg1.2.2.1
          rw [ra_setself w1] at hg2
          exact hg2
        · cases h
      · cases h
    · cases h
  · cases h
    intro v lv st ws hg hdb hdv
    have hm : ∀ x, x ∈ is.filterMap (fun i => F[i]?) → x ∈ F := fun x hx => by
      obtain ⟨i, -, hi⟩ := List.mem_filterMap.mp hx
      exact List.mem_of_getElem? hi
    exact ⟨_, List.mem_singleton.mpr rfl, rfl, Nat.le_refl _, v, fun _ _ => rfl, hg, List.all_eq_true.mpr (fun x hx => List.all_eq_true.mp hdb x (hm x hx)), fun x hx => hdv x (hm x hx)⟩
  · split at h
    · rename_i i
      split at h
      rename_i env lv st aw ce sl
      split at h
      · rename_i o ho
        have hq0 := ra_gd_ok h; clear h; obtain ⟨h1, h⟩ := hq0
        have h1 : o.1 < 3 := Nat.le_of_ble_eq_true h1
        cases h
        intro v lvv stv ws hg hdb hdv
        refine ⟨_, List.mem_singleton.mpr rfl, rfl, Nat.le_refl _, v, fun _ _ => rfl, rb_recell hg (Nat.le_refl _) (fun _ _ => rfl) hg.1 ho (fun x hx => ?_), hdb, hdv⟩
        rcases hx with ⟨h0, f, e1, e2⟩ | ⟨h0, -⟩
        · refine Or.inl ⟨h0, f, by rw [e1, List.length_replicate], fun j x hx => ?_⟩
          rw [List.getElem?_replicate] at hx
          split at hx
          · rename_i hj
            cases hx
            have := e2 j hj
            exact ⟨f j, rfl, this.1, this.2⟩
          · cases hx
        · omega
      · cases h
    · cases h
  · split at h
    · rename_i i
      split at h
      rename_i env lv st aw ce sl
      split at h
      · rename_i o ho
        have hq0 := ra_gd_ok h; clear h; obtain ⟨h1, h⟩ := hq0
        have h1 : o.1 < 3 := Nat.le_of_ble_eq_true h1
        cases h
        intro v lvv stv ws hg hdb hdv
        refine ⟨_, List.mem_singleton.mpr rfl, rfl, Nat.le_refl _, v, fun _ _ => rfl, rb_recell hg (Nat.le_refl _) (fun _ _ => rfl) hg.1 ho (fun x hx => ?_), hdb, hdv⟩
        rcases hx with ⟨h0, f, e1, e2⟩ | ⟨h0, -⟩
        · have hz := hg.1.2.1
          have hl := hg.1.1
          refine ⟨h0, fun q hq => ?_, f, e1, ?_⟩
          · rcases List.mem_cons.mp hq with e | hq
            · rw [e]; exact hl
            · rw [List.mem_singleton.mp hq]; exact hl
          · show ∀ j, j < o.2.1 → v 0 + o.2.2.1 ≤ _ ∧ _ ≤ v 0 + o.2.2.2
            intro j hj
            have := e2 j hj
            rw [hz]
            omega
        · omega
      · cases h
    · cases h
  · split at h
    · rename_i i q
      split at h
      rename_i env lv st aw ce sl
      split at h
      · rename_i o ho
        have hq0 := ra_gd_ok h; clear h; obtain ⟨h1, h⟩ := hq0
        rw [Bool.and_eq_true] at h1
        have h2 : q.1 < env.length := Nat.le_of_ble_eq_true h1.1
        have h3 := ra_leb_le h1.2
        cases h
        intro v lvv stv ws hg hdb hdv
        dsimp only at hdb
        have hN : ra_cN v env := hg.1
        have hr := rb_rgI hN (q := q) h2
        obtain ⟨qc, w1, w2⟩ := ra_a2_get hg.2.2.2.1 ho
        obtain ⟨o1, o2, f, e1, e2⟩ := w2
        have o2 : ∀ q ∈ o.2.2.2, q.1 < env.length := o2
        obtain ⟨v', n1, n2, n3⟩ := ra_fresh (b0 := b0) (env := env) (lo := ra_lo) (hi := ra_hi) hg.1 (ra_i32 (f (v q.1 + q.2).toNat)).1 (ra_i32 (f (v q.1 + q.2).toNat)).2
        obtain ⟨n4, z, n5, n6⟩ := n3 []
        cases n5
        have hl : env.length ≤ (env ++ [(ra_lo, ra_hi)]).length := by simp
        have hg1 := ra_g_ext hg hl n1 n2
        refine ⟨_, List.mem_singleton.mpr rfl, rfl, hl, v', n1, ?_, rb_db_mono hl hdb, rb_dv_ext hdb n1 hdv⟩
        have hg2 := ra_g_set (st' := st) (stv' := stv) (ce' := ce) (sl' := sl) hg1 w1 (c' := .inr (.inr (.inr (o.1, o.2.1, 0 :: o.2.2.1, q :: (env.length, 0) :: o.2.2.2)))) (e' := qc.2) ?_ hg1.2.2.1
        · rw [ra_setself w1] at hg2
          exact hg2
        · refine ⟨o1, fun z hz => ?_, f, e1, ?_⟩
          · rcases List.mem_cons.mp hz with e | hz
            · rw [e]; simp; omega
            rcases List.mem_cons.mp hz with e | hz
            · rw [e]; simp
            · have := o2 z hz
              simp
              omega
          · have em : o.2.2.2.map (fun q => v' q.1 + q.2) = o.2.2.2.map (fun q => v q.1 + q.2) := List.map_congr_left (fun z hz => by rw [n1 _ (o2 z hz)])
            rw [List.map_cons, List.map_cons, em, n1 _ h2]
            exact ⟨by omega, n6, e2⟩
      · cases h
    · cases h
  · split at h
    · rename_i i
      split at h
      rename_i env lv st aw ce sl
      split at h
      · rename_i o ho
        split at h
        · rename_i r hr
          cases h
          intro v lvv stv ws hg hdb hdv
          refine ⟨_, List.mem_singleton.mpr rfl, rfl, Nat.le_refl _, v, fun _ _ => rfl, rb_recell hg (Nat.le_refl _) (fun _ _ => rfl) hg.1 ho (fun x hx => ?_), hdb, hdv⟩
          obtain ⟨o1, o2, f, e1, e2⟩ := hx
          exact Or.inl ⟨o1, f, e1, fun j hj => rb_bb_ok hg.1.2.1 hr e2 j hj⟩
        · cases h
      · cases h
    · cases h
  · cases h
end
end
