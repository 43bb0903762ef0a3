noncomputable section
/-! arrays of which something is said; longs by symbols -/
section
variable {p : Program} {l : Launch} {e : Env} {R : Room} {s : State} {m : MethodId} {args : Array Value} {below : List Frame} {meth : Method} {c : Code} {Q : State → Prop}
variable {cc : ByteArray} {own : String} {nL : Nat} {A : Nat → Prop} {D : va_G} {cl : List vw_C} {tys : List (ClassId × FieldType)} {Ts : List Cond} {b0 : Nat → Nat} {ad0 : List Nat} {cT : Nat → ClassId} {n0 : Nat} {v0 : Nat → Int}
variable {sc : String}
def rb_mf (q : Nat × Int) : List Nat → List (Nat × Int) → Option (Nat × Int)
  | 0 :: t, i :: x :: u => if i.1 == q.1 && ra_eqb i.2 q.2 then some x else rb_mf q t u
  | _, _ => none
theorem rb_mf_ok {v : Nat → Int} {q x : Nat × Int} {n : Nat} {f : Nat → Int} : ∀ {pid : List Nat} {ps : List (Nat × Int)}, rb_mf q pid ps = some x → ra_phi pid (ps.map (fun q => v q.1 + q.2)) n f → x ∈ ps ∧ f (v q.1 + q.2).toNat = v x.1 + x.2
  | [], _, h, _ => by simp [rb_mf] at h
  | k :: t, [], h, _ => by cases k <;> simp [rb_mf] at h
  | k :: t, [i], h, _ => by cases k <;> simp [rb_mf] at h
  | 0 :: t, i :: y :: u, h, hp => by
    have h : (if (i.1 == q.1 && ra_eqb i.2 q.2) = true then some y else rb_mf q t u) = some x := h
    split at h
    · rename_i hq
      cases h
      simp only [Bool.and_eq_true, beq_iff_eq] at hq
      have e := ra_eqb_eq hq.2
      refine ⟨List.mem_cons_of_mem _ List.mem_cons_self, ?_⟩
      rw [← hq.1, ← e]
      exact hp.2.1
    · have := rb_mf_ok h hp.2.2
      exact ⟨List.mem_cons_of_mem _ (List.mem_cons_of_mem _ this.1), this.2⟩
  | (k + 1) :: t, i :: y :: u, h, _ => by simp [rb_mf] at h
def rb_bb : List Nat → List (Nat × Int) → Option (Int × Int)
  | 0 :: t, _ :: _ :: u => rb_bb t u
  | 2 :: _, [lo, hi] => if lo.1 = 0 ∧ hi.1 = 0 then some (lo.2, hi.2) else none
  | _, _ => none
theorem rb_bb_ok {v : Nat → Int} (h0 : v 0 = 0) {b : Int × Int} {n : Nat} {f : Nat → Int} : ∀ {pid : List Nat} {ps : List (Nat × Int)}, rb_bb pid ps = some b → ra_phi pid (ps.map (fun q => v q.1 + q.2)) n f → ∀ j, j < n → b.1 ≤ f j ∧ f j ≤ b.2
  | [], _, h, _ => by simp [rb_bb] at h
  | 0 :: t, [], h, _ => by simp [rb_bb] at h
  | 0 :: t, [i], h, _ => by simp [rb_bb] at h
  | 0 :: t, i :: y :: u, h, hp => rb_bb_ok h0 (pid := t) (ps := u) (by simpa [rb_bb] using h) hp.2.2
  | 1 :: t, _, h, _ => by simp [rb_bb] at h
  | 2 :: t, [], h, _ => by simp [rb_bb] at h
  | 2 :: t, [i], h, _ => by simp [rb_bb] at h
  | 2 :: t, [lo, hi], h, hp => by
    have h : (if lo.1 = 0 ∧ hi.1 = 0 then some (lo.2, hi.2) else none) = some b := h
    split at h
    · rename_i hq
      cases h
      have hp : ∀ j, j < n → v lo.1 + lo.2 ≤ f j ∧ f j ≤ v hi.1 + hi.2 := hp
      rw [hq.1, hq.2, h0] at hp
      intro j hj
      have := hp j hj
      dsimp only
      omega
    · cases h
  | 2 :: t, _ :: _ :: _ :: _, h, _ => by simp [rb_bb] at h
  | (k + 3) :: t, _, h, _ => by simp [rb_bb] at h
def rb_mt (env : ra_N) (q : Nat × Int) (b : Option (Int × Int)) : List ra_N := match b with
  | none => [env]
  | some b => if q.1 = 0 then [env] else match ra_meet env q.1 (b.1 - q.2) (b.2 - q.2) with
    | none => []
    | some e => [e]
theorem rb_mt_ok {v : Nat → Int} {env : ra_N} (hN : ra_cN v env) {q : Nat × Int} (hq : q.1 < env.length) {b : Option (Int × Int)} (h : ∀ z, b = some z → z.1 ≤ v q.1 + q.2 ∧ v q.1 + q.2 ≤ z.2) : ∃ e ∈ rb_mt env q b, ra_cN v e ∧ e.length = env.length := by
  unfold rb_mt
  split
  · exact ⟨env, List.mem_singleton.mpr rfl, hN, rfl⟩
  · rename_i z
    split
    · exact ⟨env, List.mem_singleton.mpr rfl, hN, rfl⟩
    · have h1 := h z rfl
      obtain ⟨e, e1, e2, e3⟩ := ra_meet_ok hN hq (lo := z.1 - q.2) (hi := z.2 - q.2) (by omega) (by omega)
      rw [e1]
      exact ⟨e, List.mem_singleton.mpr rfl, e2, e3⟩
def rb_old (b n pc : Nat) (a : ra_S) (F : rb_D) : Option (List rb_T) := match a with
  | (env, lv, st, aw, ce, sl) => ra_gd (n == 1) (match st with
    | .inl q :: .inr (.inl i) :: st => match ra_nth aw i with
      | some (.inr (.inr (.inr o))) => ra_gd ((b == 0) == (o.1 == 0) && ra_ix env q o.2.1) (match rb_mf q o.2.2.1 o.2.2.2 with
        | some x => some ((rb_mt env x (rb_bb o.2.2.1 o.2.2.2)).map (fun e => (pc + 1, (e, lv, .inl x :: st, aw, ce, sl), F)))
        | none => let r := (match rb_bb o.2.2.1 o.2.2.2 with
          | some z => z
          | none => (ra_lo, ra_hi))
          some [(pc + 1, (ra_ap env [r], lv, .inl (ra_ln env, 0) :: st, ra_st aw (.inr (.inr (.inr (o.1, o.2.1, 0 :: o.2.2.1, q :: (ra_ln env, 0) :: o.2.2.2)))) i, ce, sl), F)])
      | _ => none
    | _ => none)
theorem rb_old_ok {b n pc : Nat} {a : ra_S} {F : rb_D} {out : List rb_T} (h : rb_old b n pc a F = some out) (X : ra_X p s m args c cc own nL A D cl (ra_T sc cT) Ts) (hdg : decode cc pc = .ok (if b = 0 then .iaload else .baload, n)) (hs : ∀ x ∈ out, rb_ok p l e R s m args below meth c Q nL A D cl b0 ad0 cT n0 v0 x) : rb_ok p l e R s m args below meth c Q nL A D cl b0 ad0 cT n0 v0 (pc, a, F) := by
  obtain ⟨env, lv, st, aw, ce, sl⟩ := a
  intro hn v lvv stv ws hg hv hdb hdv
  have hst := hg.2.2.1
  have hN := hg.1
  dsimp only at hn hst hN hdb hdv
  unfold rb_old at h
  simp only [ra_nth_eq, ra_st_eq, ra_ap_eq, ra_ln_eq] at h
  try dsimp only at h
  have hq0 := ra_gd_ok h; clear h; obtain ⟨h1, h⟩ := hq0
  rw [beq_iff_eq] at h1
  subst h1
  split at h
  · rename_i q i st1
    split at h
    · rename_i o ho
      have hq1 := ra_gd_ok h; clear h; obtain ⟨h2, h⟩ := hq1
      rw [Bool.and_eq_true] at h2
      obtain ⟨x0, stv1, rfl, g2, g4⟩ := ra_a2_cons hst
      obtain ⟨x1, stv2, rfl, g5, g6⟩ := ra_a2_cons g4
      obtain ⟨k1, y, rfl, k2⟩ := g2
      obtain ⟨qc, w1, rfl, w2⟩ := ra_cell hg ho g5
      obtain ⟨i1, i2, i3, -⟩ := ra_ix_ok hN k2 h2.2
      obtain ⟨o1, o2, f, e1, e2⟩ := w2
      have hy : y.toNatClampNeg = (v q.1 + q.2).toNat := by rw [ra_clamp, k2]
      refine ra_aldW X o1 h2.1 hdg w1 e1 i1 ?_
      split at h
      · rename_i x hx
        cases h
        have hm := rb_mf_ok hx e2
        rw [← hy] at hm
        have hxl := o2 x hm.1
        obtain ⟨e', z1, z2, z3⟩ := rb_mt_ok hN hxl (b := rb_bb o.2.2.1 o.2.2.2) (fun z hz => by
          have := rb_bb_ok hN.2.1 hz e2 _ i3
          rw [hm.2] at this
          exact this)
        have hg' := ra_g_ext (ra_g_st (st' := .inl x :: st1) (stv' := .int (f y.toNatClampNeg) :: stv2) (ce' := ce) (sl' := sl) hg (ra_a2_mk ⟨hxl, _, rfl, hm.2⟩ g6)) (Nat.le_of_eq z3.symm) (fun _ _ => rfl) z2
        exact hs _ (List.mem_map.mpr ⟨e', z1, rfl⟩) (by show n0 ≤ e'.length; omega) v _ _ ws hg' hv (by show rb_db e'.length F = true; rw [z3]; exact hdb) hdv
      · rename_i hx
        cases h
        obtain ⟨r, hr⟩ : ∃ r, r = (match rb_bb o.2.2.1 o.2.2.2 with
          | some z => z
          | none => (ra_lo, ra_hi)) := ⟨_, rfl⟩
        rw [← hr] at hs
        have hb : r.1 ≤ (f y.toNatClampNeg).toInt ∧ (f y.toNatClampNeg).toInt ≤ r.2 := by
          rw [hr]
          split
          · rename_i z hz
            exact rb_bb_ok hN.2.1 hz e2 _ i3
          · exact ra_i32 _
        obtain ⟨v', n1, n2, n3⟩ := ra_fresh (b0 := b0) (env := env) (lo := r.1) (hi := r.2) hN hb.1 hb.2
        have n3' := n3 []
        obtain ⟨n4, z, n5, n6⟩ := n3'
        cases n5
        have hg1 := ra_g_ext (ra_g_st (st' := st1) (stv' := stv2) (ce' := ce) (sl' := sl) hg g6) (env' := env ++ [r]) (by simp) n1 n2
        have hg2 := ra_g_set (st' := .inl (env.length, 0) :: st1) (stv' := .int (f y.toNatClampNeg) :: stv2) (ce' := ce) (sl' := sl) hg1 w1 (c' := .inr (.inr (.inr (o.1, o.2.1, 0 :: o.2.2.1, q :: (env.length, 0) :: o.2.2.2)))) (e' := qc.2) ?_ (ra_a2_mk (n3 _) hg1.2.2.1)
        · rw [ra_setself w1] at hg2
          exact hs _ (List.mem_singleton.mpr rfl) (by show n0 ≤ (env ++ [r]).length; simp; omega) v' _ _ ws hg2 (fun i hi => by rw [n1 i (by omega)]; exact hv i hi) (rb_db_mono (by simp) hdb) (rb_dv_ext hdb n1 hdv)
        · refine ⟨o1, fun z hz => ?_, f, e1, ?_⟩
          · rcases List.mem_cons.mp hz with e | hz
            · rw [e]; simp; omega
            rcases List.mem_cons.mp hz with e | hz
            · rw [e]; simp
            · have := o2 z hz
              simp
              omega
          · have em : o.2.2.2.map (fun q => v' q.1 + q.2) = o.2.2.2.map (fun q => v q.1 + q.2) := List.map_congr_left (fun z hz => by rw [n1 _ (o2 z hz)])
            rw [List.map_cons, List.map_cons, em, n1 _ k1]
            refine ⟨by omega, ?_, e2⟩
            rw [← hy]
            exact n6
    · cases h
  · cases h
def rb_ost (b n pc : Nat) (a : ra_S) (F : rb_D) : Option (List rb_T) := match a with
  | (env, lv, st, aw, ce, sl) => ra_gd (n == 1) (match st with
    | .inl x :: .inl q :: .inr (.inl i) :: st => match ra_nth aw i with
      | some (.inr (.inr (.inr o))) => ra_gd ((b == 0) == (o.1 == 0) && (ra_nar env o.1 x && ra_ix env q o.2.1)) (some [(pc + 1, (env, lv, st, aw.set i (.inr (.inr (.inr (o.1, o.2.1, 1 :: o.2.2.1, q :: x :: o.2.2.2)))), ce, sl), F)])
      | _ => none
    | _ => none)
theorem rb_ost_ok {b n pc : Nat} {a : ra_S} {F : rb_D} {out : List rb_T} (h : rb_ost b n pc a F = some out) (X : ra_X p s m args c cc own nL A D cl (ra_T sc cT) Ts) (hdg : decode cc pc = .ok (if b = 0 then .iastore else .bastore, n)) (hs : ∀ x ∈ out, rb_ok p l e R s m args below meth c Q nL A D cl b0 ad0 cT n0 v0 x) : rb_ok p l e R s m args below meth c Q nL A D cl b0 ad0 cT n0 v0 (pc, a, F) := by
  obtain ⟨env, lv, st, aw, ce, sl⟩ := a
  intro hn v lvv stv ws hg hv hdb hdv
  have hst := hg.2.2.1
  have hN := hg.1
  dsimp only at hn hst hN hdb hdv
  unfold rb_ost at h
  simp only [ra_nth_eq] at h
  try dsimp only at h
  have hq0 := ra_gd_ok h; clear h; obtain ⟨h1, h⟩ := hq0
  rw [beq_iff_eq] at h1
  subst h1
  split at h
  · rename_i x q i st1
    split at h
    · rename_i o ho
      have hq1 := ra_gd_ok h; clear h; obtain ⟨h2, h⟩ := hq1
      rw [Bool.and_eq_true, Bool.and_eq_true] at h2
      cases h
      obtain ⟨x0, stv1, rfl, g2, g4⟩ := ra_a2_cons hst
      obtain ⟨x1, stv2, rfl, g5, g6⟩ := ra_a2_cons g4
      obtain ⟨x2, stv3, rfl, g7, g8⟩ := ra_a2_cons g6
      obtain ⟨k1, z, rfl, k2⟩ := g2
      obtain ⟨k3, y, rfl, k4⟩ := g5
      obtain ⟨qc, w1, rfl, w2⟩ := ra_cell hg ho g7
      obtain ⟨i1, i2, i3, -⟩ := ra_ix_ok hN k4 h2.2.2
      obtain ⟨o1, o2, f, e1, e2⟩ := w2
      have hy : y.toNatClampNeg = (v q.1 + q.2).toNat := by rw [ra_clamp, k4]
      refine ra_astW X o1 h2.1 hdg w1 e1 (ra_nar_ok hN k2 h2.2.1) i1 ?_
      refine hs _ (List.mem_singleton.mpr rfl) hn v _ _ _ (ra_g_set hg w1 (c' := .inr (.inr (.inr (o.1, o.2.1, 1 :: o.2.2.1, q :: x :: o.2.2.2)))) (e' := .inl (cT o.1, o.2.1, .inl (upd f y.toNatClampNeg z))) ⟨o1, fun w hw => ?_, _, rfl, ?_⟩ g8) hv hdb hdv
      · rcases List.mem_cons.mp hw with e | hw
        · rw [e]; exact k3
        rcases List.mem_cons.mp hw with e | hw
        · rw [e]; exact k1
        · exact o2 w hw
      · rw [List.map_cons, List.map_cons]
        refine ⟨by omega, fun j => (f j).toInt, ?_, e2⟩
        funext j
        show (upd f y.toNatClampNeg z j).toInt = ra_upi _ _ _ j
        unfold upd ra_upi
        rw [← hy]
        split
        · exact k2
        · rfl
    · cases h
  · cases h
/-- comparisons of numbers that aren't ints -/
theorem rb_rgI {v : Nat → Int} {env : ra_N} (hN : ra_cN v env) {q : Nat × Int} (hq : q.1 < env.length) : (ra_rg env q).1 ≤ v q.1 + q.2 ∧ v q.1 + q.2 ≤ (ra_rg env q).2 := by
  have hr : env[q.1]? = some env[q.1] := List.getElem?_eq_getElem hq
  have hb := hN.2.2 _ _ hr
  unfold ra_rg
  rw [ra_nth_eq]
  rw [hr]
  dsimp only
  omega
theorem rb_leI {v : Nat → Int} {env : ra_N} (hN : ra_cN v env) {qx qy : Nat × Int} {d : Int} (hx : qx.1 < env.length) (hy : qy.1 < env.length) (h : v qx.1 + qx.2 + d ≤ v qy.1 + qy.2) : ∃ e ∈ ra_le d env qx qy, ra_cN v e ∧ e.length = env.length := by
  unfold ra_le
  split
  · rename_i h0
    rw [h0] at h
    rw [if_pos (ra_leb_of (by omega))]
    exact ⟨env, List.mem_singleton.mpr rfl, hN, rfl⟩
  · have h1 := rb_rgI hN hy
    have s1 : ∃ e, (if qx.1 = 0 then (if ra_leb (qx.2 + d) (ra_rg env qy).2 then some env else none) else ra_mU env qx.1 ((ra_rg env qy).2 - d - qx.2)) = some e ∧ ra_cN v e ∧ e.length = env.length := by
      split
      · rename_i h0
        rw [h0, hN.2.1] at h
        rw [if_pos (ra_leb_of (by omega))]
        exact ⟨env, rfl, hN, rfl⟩
      · exact ra_mU_ok hN hx (by omega)
    obtain ⟨e, e1, e2, e3⟩ := s1
    rw [e1]
    dsimp only
    have h2 := rb_rgI e2 (q := qx) (by omega)
    have s2 : ∃ f, (if qy.1 = 0 then some e else ra_mL e qy.1 ((ra_rg e qx).1 + d - qy.2)) = some f ∧ ra_cN v f ∧ f.length = e.length := by
      split
      · exact ⟨e, rfl, e2, rfl⟩
      · exact ra_mL_ok e2 (by omega) (by omega)
    obtain ⟨f, f1, f2, f3⟩ := s2
    rw [f1]
    exact ⟨f, List.mem_singleton.mpr rfl, f2, by omega⟩
def rb_okL (Ts : List Cond) (own : String) (lt : List (Nat × Int)) : Prop := ∀ q ∈ lt, ∃ v : Int64, v.toInt = q.2 ∧ Cond.constantLong own q.1 v ∈ Ts
/-- 1: any long, 2: a long by its symbol -/
def rb_isl (a : ra_V) : Bool := match a with
  | .inr (.inr (.inl k)) => k == 1
  | .inr (.inr (.inr _)) => true
  | _ => false
theorem rb_isl_ok {n : Nat} {v : Nat → Int} {ads : List Nat} {a : ra_V} {x : Value} (h : rb_isl a = true) (hc : ra_cV n v ads b0 a x) : ∃ y : Int64, x = .long y := by
  rcases a with q | i | k | k
  · cases h
  · cases h
  · have : k = 1 := by simpa [rb_isl] using h
    subst this
    exact ra_longV hc
  · obtain ⟨_, y, h, _⟩ := hc
    exact ⟨y, h⟩
def rb_lng (lt : List (Nat × Int)) (nL : Nat) (i : Instr) (n pc : Nat) (a : ra_S) (F : rb_D) : Option (List rb_T) := match a with
  | (env, lv, st, aw, ce, sl) => match i with
    | .ldc2_w j => ra_gd (n == 3) (match ra_kf lt j with
      | some k => some [(pc + 3, (env ++ [(k, k)], lv, .inr (.inr (.inr env.length)) :: st, aw, ce, sl), F)]
      | none => none)
    | .lload_n k => ra_gd (n == 1) (match ra_lf lv k with
      | some x => ra_gd (rb_isl x) (some [(pc + 1, (env, lv, x :: st, aw, ce, sl), F)])
      | _ => none)
    | .lstore_n k => ra_gd (n == 1 && Nat.blt (k.val + 1) nL) (match st with
      | x :: st => ra_gd (rb_isl x) (some [(pc + 1, (env, ra_s2 lv k x, st, aw, ce, sl), F)])
      | _ => none)
    | .lcmp => ra_gd (n == 1) (match st with
      | .inr (.inr (.inr y)) :: .inr (.inr (.inr x)) :: st => some ((ra_le 1 env (x, 0) (y, 0)).map (fun e => (pc + 1, (e, lv, .inl (0, -1) :: st, aw, ce, sl), F)) ++ ((ra_le 1 env (y, 0) (x, 0)).map (fun e => (pc + 1, (e, lv, .inl (0, 1) :: st, aw, ce, sl), F)) ++ ((ra_le 0 env (x, 0) (y, 0)).flatMap (fun e => ra_le 0 e (y, 0) (x, 0))).map (fun e => (pc + 1, (e, lv, .inl (0, 0) :: st, aw, ce, sl), F))))
      | y :: x :: st => ra_gd (rb_isl x && rb_isl y) (some [(pc + 1, (env ++ [(ra_lo, ra_hi)], lv, .inl (env.length, 0) :: st, aw, ce, sl), F)])
      | _ => none)
    | _ => none
theorem rb_lcmp (x y : Int64) : (x.toInt < y.toInt ∧ lg_cmp x y = -1) ∨ (y.toInt < x.toInt ∧ lg_cmp x y = 1) ∨ (x.toInt = y.toInt ∧ lg_cmp x y = 0) := by
  unfold lg_cmp
  rcases Int.lt_trichotomy x.toInt y.toInt with h | h | h
  · have h1 : x < y := Int64.lt_iff_toInt_lt.mpr h
    have h2 : ¬ y < x := fun q => by have := Int64.lt_iff_toInt_lt.mp q; omega
    have h3 : ¬ x = y := fun q => by rw [q] at h; omega
    refine Or.inl ⟨h, ?_⟩
    simp_all
  · have h1 : x = y := Int64.toInt_inj.mp h
    refine Or.inr (Or.inr ⟨h, ?_⟩)
    subst h1
    have h2 : ¬ x < x := fun q => by have := Int64.lt_iff_toInt_lt.mp q; omega
    simp_all
  · have h1 : y < x := Int64.lt_iff_toInt_lt.mpr h
    have h2 : ¬ x < y := fun q => by have := Int64.lt_iff_toInt_lt.mp q; omega
    have h3 : ¬ x = y := fun q => by rw [q] at h; omega
    refine Or.inr (Or.inl ⟨h, ?_⟩)
    simp_all
theorem rb_lng_ok {lt : List (Nat × Int)} {i : Instr} {n pc : Nat} {a : ra_S} {F : rb_D} {out : List rb_T} (h : rb_lng lt nL i n pc a F = some out) (X : ra_X p s m args c cc own nL A D cl tys Ts) (hL : rb_okL Ts own lt) (hdg : decode cc pc = .ok (i, n)) (hs : ∀ x ∈ out, rb_ok p l e R s m args below meth c Q nL A D cl b0 ad0 cT n0 v0 x) : rb_ok p l e R s m args below meth c Q nL A D cl b0 ad0 cT n0 v0 (pc, a, F) := by
  obtain ⟨env, lv, st, aw, ce, sl⟩ := a
  intro hn v lvv stv ws hg hv hdb hdv
  have hst := hg.2.2.1
  have hlv := hg.2.1
  have hN := hg.1
  dsimp only at hn hst hlv hN hdb hdv
  obtain ⟨hx, hb, hml, hown, hts, hKK, hA⟩ := id X
  unfold rb_lng at h
  dsimp only at h
  split at h
  · have hq0 := ra_gd_ok h; clear h; obtain ⟨h1, h⟩ := hq0
    rw [beq_iff_eq] at h1
    subst h1
    split at h
    · rename_i k hk
      cases h
      obtain ⟨w, hw, hm⟩ := hL _ (ra_kf_mem hk)
      have hw : w.toInt = k := hw
      have hN' := ra_cN_fr (z := k) hN (Int.le_refl k) (Int.le_refl k)
      have n1 : ∀ i, i < env.length → (if i = env.length then k else v i) = v i := fun i hi => if_neg (by omega)
      have hg1 := ra_g_ext hg (env' := env ++ [(k, k)]) (by simp) n1 hN'
      intro H locs ls hP hD hS hl
      refine lv_ldc2 hx hb hown (hts _ hm) hdg ?_
      exact hs _ (List.mem_singleton.mpr rfl) (by show n0 ≤ (env ++ [(k, k)]).length; simp; omega) _ _ _ ws (ra_g_st hg1 (ra_a2_mk ⟨by simp, w, rfl, by show w.toInt = (if env.length = env.length then k else v env.length); rw [if_pos rfl]; exact hw⟩ hg1.2.2.1)) (fun i hi => by rw [n1 i (by omega)]; exact hv i hi) (rb_db_mono (by simp) hdb) (rb_dv_ext hdb n1 hdv) H locs ls hP hD hS hl
    · cases h
  · have hq0 := ra_gd_ok h; clear h; obtain ⟨h1, h⟩ := hq0
    rw [beq_iff_eq] at h1
    subst h1
    split at h
    · rename_i x hq
      have hq1 := ra_gd_ok h; clear h; obtain ⟨h2, h⟩ := hq1
      cases h
      obtain ⟨k, xv, g1, g2⟩ := ra_lf_ok hq hlv
      have g3 := g2
      obtain ⟨y, rfl⟩ := rb_isl_ok h2 g2
      intro H locs ls hP hD hS hl
      refine lv_lload_n hx hb hdg rfl (lv_at hl k g1) ?_
      exact hs _ (List.mem_singleton.mpr rfl) hn v _ _ ws (ra_g_st hg (ra_a2_mk g3 hst)) hv hdb hdv H locs ls hP hD hS hl
    · cases h
  · have hq0 := ra_gd_ok h; clear h; obtain ⟨h1, h⟩ := hq0
    simp only [Bool.and_eq_true, beq_iff_eq] at h1
    obtain ⟨h1, h2⟩ := h1
    subst h1
    split at h
    · have hq1 := ra_gd_ok h; clear h; obtain ⟨h3, h⟩ := hq1
      cases h
      obtain ⟨x, stv1, rfl, g2, g4⟩ := ra_a2_cons hst
      have g3 := g2
      obtain ⟨y, rfl⟩ := rb_isl_ok h3 g2
      intro H locs ls hP hD hS hl
      refine lv_lstore_n hx hb hdg rfl hl (Nat.le_of_ble_eq_true h2) rfl (fun ls hl => ?_)
      exact hs _ (List.mem_singleton.mpr rfl) hn v _ _ ws ⟨hN, ra_s2_ok hlv g3, g4, hg.2.2.2⟩ hv hdb hdv H locs ls hP hD hS hl
    · cases h
  · have hq0 := ra_gd_ok h; clear h; obtain ⟨h1, h⟩ := hq0
    rw [beq_iff_eq] at h1
    subst h1
    split at h
    · rename_i y x st1
      cases h
      obtain ⟨x0, stv1, rfl, g2, g4⟩ := ra_a2_cons hst
      obtain ⟨x1, stv2, rfl, g5, g6⟩ := ra_a2_cons g4
      obtain ⟨k1, yv, rfl, k2⟩ := g2
      obtain ⟨k3, xv, rfl, k4⟩ := g5
      intro H locs ls hP hD hS hl
      refine W.lcmp hx hb hdg ?_
      have fin : ∀ (es : List ra_N) (k : Int) (r : Int32), r.toInt = k → (∃ e ∈ es, ra_cN v e ∧ e.length = env.length) → (∀ x ∈ es.map (fun e => ((pc + 1, (e, lv, (.inl (0, k) : ra_V) :: st1, aw, ce, sl), F) : rb_T)), rb_ok p l e R s m args below meth c Q nL A D cl b0 ad0 cT n0 v0 x) → W p l e R s m args below meth c H locs ce sl Q (F0 m (pc + 1) ls (.int r :: stv2)) := by
        intro es k r hr he hh
        obtain ⟨f, h1, h2, h3⟩ := he
        have hg' := ra_g_ext (ra_g_st (st' := .inl (0, k) :: st1) (stv' := .int r :: stv2) (ce' := ce) (sl' := sl) hg (ra_a2_mk (ra_cV_const hN hr) g6)) (Nat.le_of_eq h3.symm) (fun _ _ => rfl) h2
        exact hh _ (List.mem_map.mpr ⟨f, h1, rfl⟩) (by show n0 ≤ f.length; omega) v _ _ ws hg' hv (by show rb_db f.length F = true; rw [h3]; exact hdb) hdv H locs ls hP hD hS hl
      rcases rb_lcmp xv yv with ⟨c1, c2⟩ | ⟨c1, c2⟩ | ⟨c1, c2⟩
      · rw [c2]
        exact fin _ (-1) _ rfl (rb_leI (qx := (x, 0)) (qy := (y, 0)) (d := 1) hN k3 k1 (by dsimp only; omega)) (fun z hz => hs z (List.mem_append_left _ hz))
      · rw [c2]
        exact fin _ 1 _ rfl (rb_leI (qx := (y, 0)) (qy := (x, 0)) (d := 1) hN k1 k3 (by dsimp only; omega)) (fun z hz => hs z (List.mem_append_right _ (List.mem_append_left _ hz)))
      · rw [c2]
        refine fin _ 0 _ rfl ?_ (fun z hz => hs z (List.mem_append_right _ (List.mem_append_right _ hz)))
        obtain ⟨e1, a1, a2, a3⟩ := rb_leI (qx := (x, 0)) (qy := (y, 0)) (d := 0) hN k3 k1 (by dsimp only; omega)
        obtain ⟨e2, b1, b2, b3⟩ := rb_leI (qx := (y, 0)) (qy := (x, 0)) (d := 0) (env := e1) a2 (by dsimp only; omega) (by dsimp only; omega) (by dsimp only; omega)
        exact ⟨e2, List.mem_flatMap.mpr ⟨e1, a1, b1⟩, b2, by omega⟩
    · have hq1 := ra_gd_ok h; clear h; obtain ⟨h2, h⟩ := hq1
      rw [Bool.and_eq_true] at h2
      cases h
      obtain ⟨x0, stv1, rfl, g2, g4⟩ := ra_a2_cons hst
      obtain ⟨x1, stv2, rfl, g5, g6⟩ := ra_a2_cons g4
      obtain ⟨yv, rfl⟩ := rb_isl_ok h2.2 g2
      obtain ⟨xv, rfl⟩ := rb_isl_ok h2.1 g5
      obtain ⟨v', n1, n2, n3⟩ := ra_fresh (b0 := b0) hN (ra_i32 (lg_cmp xv yv)).1 (ra_i32 (lg_cmp xv yv)).2
      have hg1 := ra_g_ext (ra_g_st (st' := _) (stv' := stv2) (ce' := ce) (sl' := sl) hg g6) (env' := env ++ [(ra_lo, ra_hi)]) (by simp) n1 n2
      intro H locs ls hP hD hS hl
      refine W.lcmp hx hb hdg ?_
      exact hs _ (List.mem_singleton.mpr rfl) (by show n0 ≤ (env ++ [(ra_lo, ra_hi)]).length; simp; omega) v' _ _ ws (ra_g_st hg1 (ra_a2_mk (n3 _) hg1.2.2.1)) (fun i hi => by rw [n1 i (by omega)]; exact hv i hi) (rb_db_mono (by simp) hdb) (rb_dv_ext hdb n1 hdv) H locs ls hP hD hS hl
    · cases h
  · cases h
end
end
