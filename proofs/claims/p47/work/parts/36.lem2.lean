noncomputable section
/-! the pile's and the signs' steps -/
section
variable {b0 : Nat → Nat} {ad0 : List Nat} {cT : Nat → ClassId}
def rc_eq (a b : Nat × Int) : Bool := a.1 == b.1 && ra_eqb a.2 b.2
theorem rc_eq_ok {a b : Nat × Int} (h : rc_eq a b = true) : a = b := by
  unfold rc_eq at h
  rw [Bool.and_eq_true, beq_iff_eq] at h
  have := ra_eqb_eq h.2
  exact Prod.ext h.1 this
def rb_mn (env : ra_N) (q : Nat × Int) (lo hi : Int) : Option ra_N := if q.1 = 0 then (if ra_leb lo q.2 && ra_leb q.2 hi then some env else none) else ra_meet env q.1 (lo - q.2) (hi - q.2)
theorem rb_mn_ok {v : Nat → Int} {env : ra_N} (hN : ra_cN v env) {q : Nat × Int} (hq : q.1 < env.length) {lo hi : Int} (h1 : lo ≤ v q.1 + q.2) (h2 : v q.1 + q.2 ≤ hi) : ∃ e, rb_mn env q lo hi = some e ∧ ra_cN v e ∧ e.length = env.length := by
  unfold rb_mn
  split
  · rename_i h0
    rw [h0, hN.2.1] at h1 h2
    rw [if_pos (by rw [ra_leb_of (by omega), ra_leb_of (by omega)]; rfl)]
    exact ⟨env, rfl, hN, rfl⟩
  · exact ra_meet_ok hN hq (by omega) (by omega)
def rb_ml (env : ra_N) (q : Nat × Int) (lo : Int) : Option ra_N := rb_mn env q lo (ra_rg env q).2
theorem rb_ml_ok {v : Nat → Int} {env : ra_N} (hN : ra_cN v env) {q : Nat × Int} (hq : q.1 < env.length) {lo : Int} (h1 : lo ≤ v q.1 + q.2) : ∃ e, rb_ml env q lo = some e ∧ ra_cN v e ∧ e.length = env.length := rb_mn_ok hN hq h1 (rb_rgI hN hq).2
def rb_m2 (o : Option ra_N) (g : ra_N → Option ra_N) : List ra_N := match o with
  | none => []
  | some e => rb_oe (g e)
theorem rb_m2_in {o : Option ra_N} {g : ra_N → Option ra_N} {e f : ra_N} (h : o = some e) (h2 : g e = some f) : f ∈ rb_m2 o g := by
  rw [h]
  exact rb_oe_in h2
theorem rc_g2 {v v' : Nat → Int} {env env' : ra_N} {lv : List (Nat × ra_V)} {st : List ra_V} {aw : List ra_C} {ce sl : Nat} {lvv : List (Nat × Value)} {stv : List Value} {ws : va_W} (hg : ra_g b0 ad0 cT v (env, lv, st, aw, ce, sl) lvv stv ws) (hn : env.length ≤ env'.length) (hv : ∀ i, i < env.length → v' i = v i) (hN : ra_cN v' env') {i j : Nat} {q1 q2 : Nat × va_E} {c1 c2 : ra_C} (w1 : ws[i]? = some q1) (w2 : ws[j]? = some q2) (k1 : ra_cC env'.length v' (ws.map Prod.fst) b0 cT c1 q1.2) (k2 : ra_cC env'.length v' (ws.map Prod.fst) b0 cT c2 q2.2) : ra_g b0 ad0 cT v' (env', lv, st, (aw.set i c1).set j c2, ce, sl) lvv stv ws := by
  have hg1 := ra_g_ext hg hn hv hN
  have hg2 := ra_g_set (st' := st) (stv' := stv) (ce' := ce) (sl' := sl) hg1 w1 (c' := c1) (e' := q1.2) k1 hg1.2.2.1
  rw [ra_setself w1] at hg2
  have hg3 := ra_g_set (st' := st) (stv' := stv) (ce' := ce) (sl' := sl) hg2 w2 (c' := c2) (e' := q2.2) k2 hg2.2.2.1
  rw [ra_setself w2] at hg3
  exact hg3
theorem rc_g1 {v v' : Nat → Int} {env env' : ra_N} {lv : List (Nat × ra_V)} {st : List ra_V} {aw : List ra_C} {ce sl : Nat} {lvv : List (Nat × Value)} {stv : List Value} {ws : va_W} (hg : ra_g b0 ad0 cT v (env, lv, st, aw, ce, sl) lvv stv ws) (hn : env.length ≤ env'.length) (hv : ∀ i, i < env.length → v' i = v i) (hN : ra_cN v' env') {i : Nat} {q1 : Nat × va_E} {c1 : ra_C} (w1 : ws[i]? = some q1) (k1 : ra_cC env'.length v' (ws.map Prod.fst) b0 cT c1 q1.2) : ra_g b0 ad0 cT v' (env', lv, st, aw.set i c1, ce, sl) lvv stv ws := by
  have hg1 := ra_g_ext hg hn hv hN
  have hg2 := ra_g_set (st' := st) (stv' := stv) (ce' := ce) (sl' := sl) hg1 w1 (c' := c1) (e' := q1.2) k1 hg1.2.2.1
  rw [ra_setself w1] at hg2
  exact hg2
def rc_o (c : Option ra_C) : Option ra_O := match c with
  | some (.inr (.inr (.inr o))) => some o
  | _ => none
theorem rc_o_ok {c : Option ra_C} {o : ra_O} (h : rc_o c = some o) : c = some (.inr (.inr (.inr o))) := by
  unfold rc_o at h
  split at h
  · cases h; rfl
  · cases h
def rc_v (v : Nat → Int) (n : Nat) (X Y : Int) : Nat → Int := fun i => if i = n then X else if i = n + 1 then Y else v i
theorem rc_v_lt {v : Nat → Int} {n : Nat} {X Y : Int} {i : Nat} (h : i < n) : rc_v v n X Y i = v i := by
  unfold rc_v
  rw [if_neg (by omega), if_neg (by omega)]
theorem rc_v_x {v : Nat → Int} {n : Nat} {X Y : Int} : rc_v v n X Y n = X := if_pos rfl
theorem rc_v_y {v : Nat → Int} {n : Nat} {X Y : Int} : rc_v v n X Y (n + 1) = Y := by
  unfold rc_v
  rw [if_neg (by omega), if_pos rfl]
theorem rc_v_N {v : Nat → Int} {e : ra_N} (hN : ra_cN v e) {X Y : Int} {xb yb : Int × Int} (h1 : xb.1 ≤ X) (h2 : X ≤ xb.2) (h3 : yb.1 ≤ Y) (h4 : Y ≤ yb.2) : ra_cN (rc_v v e.length X Y) (e ++ [xb, yb]) := by
  obtain ⟨a, b, c⟩ := hN
  refine ⟨by simp, by rw [rc_v_lt a]; exact b, fun i q hq => ?_⟩
  rcases Nat.lt_or_ge i e.length with h | h
  · rw [rc_v_lt h]
    rw [List.getElem?_append_left h] at hq
    exact c i q hq
  · rw [List.getElem?_append_right h] at hq
    obtain ⟨k, hk⟩ : ∃ k, i - e.length = k := ⟨_, rfl⟩
    rw [hk] at hq
    match k, hq with
    | 0, hq =>
      simp at hq
      subst hq
      have : i = e.length := by omega
      rw [this, rc_v_x]
      exact ⟨h1, h2⟩
    | 1, hq =>
      simp at hq
      subst hq
      have : i = e.length + 1 := by omega
      rw [this, rc_v_y]
      exact ⟨h3, h4⟩
    | k + 2, hq => simp at hq
/-- what is said of a cell, known places left out -/
def rc_st : List Nat → List (Nat × Int) → List Nat × List (Nat × Int)
  | 0 :: t, _ :: _ :: u => rc_st t u
  | t, u => (t, u)
theorem rc_st_ok {v : Nat → Int} {n : Nat} {f : Nat → Int} : ∀ {t : List Nat} {u : List (Nat × Int)}, ra_phi t (u.map (fun q => v q.1 + q.2)) n f → ra_phi (rc_st t u).1 ((rc_st t u).2.map (fun q => v q.1 + q.2)) n f ∧ ∀ q ∈ (rc_st t u).2, q ∈ u
  | [], u, h => ⟨h, fun q hq => hq⟩
  | 0 :: t, [], h => ⟨h, fun q hq => hq⟩
  | 0 :: t, [a], h => ⟨h, fun q hq => hq⟩
  | 0 :: t, a :: b :: u, h => by
    have := rc_st_ok (t := t) (u := u) h.2.2
    exact ⟨this.1, fun q hq => List.mem_cons_of_mem _ (List.mem_cons_of_mem _ (this.2 q hq))⟩
  | (k + 1) :: t, u, h => ⟨h, fun q hq => hq⟩
abbrev rc_oc (o : ra_O) (pid : List Nat) (ps : List (Nat × Int)) : ra_C := .inr (.inr (.inr (o.1, o.2.1, pid, ps)))
/-- begin a pile -/
def rc_20 (i j : Nat) (a : ra_S) (F : rb_D) : Option rb_O := match rc_o (a.2.2.2.1[i]?), rc_o (a.2.2.2.1[j]?) with
  | some o, some u => match o.2.2.1, o.2.2.2 with
    | 1 :: _, q :: x :: _ => ra_gd (rc_eq q (0, 0) && rc_eq x (0, 8)) (some [((a.1, a.2.1, a.2.2.1, (a.2.2.2.1.set i (rc_oc o [3] [(0, 1), (0, 0), (0, 0), (0, 0)])).set j (rc_oc u [4] [(0, 1), (0, 0)]), a.2.2.2.2), F)])
    | _, _ => none
  | _, _ => none
theorem rc_all0 {n : Nat} (h : 0 < n) {ps : List (Nat × Int)} (h2 : ps.all (fun q => q.1 == 0) = true) : ∀ q ∈ ps, q.1 < n := fun q hq => by
  have := List.all_eq_true.mp h2 q hq
  rw [beq_iff_eq] at this
  omega
theorem rc_20_ok {i j : Nat} {a : ra_S} {F : rb_D} {outs : rb_O} (h : rc_20 i j a F = some outs) : rb_alt b0 ad0 cT a F outs := by
  obtain ⟨env, lv, st, aw, ce, sl⟩ := a
  unfold rc_20 at h
  dsimp only at h
  split at h
  · rename_i o u ho hu
    have ho := rc_o_ok ho
    have hu := rc_o_ok hu
    split at h
    · rename_i t q x r hp hs
      have hq0 := ra_gd_ok h; clear h; obtain ⟨h1, h⟩ := hq0
      rw [Bool.and_eq_true] at h1
      have e1 := rc_eq_ok h1.1
      have e2 := rc_eq_ok h1.2
      cases h
      intro v lvv stv ws hg hdb hdv
      have hN : ra_cN v env := hg.1
      obtain ⟨q1, w1, o1, o2, f, f1, f2⟩ := ra_a2_get hg.2.2.2.1 ho
      obtain ⟨q2, w2, u1, u2, g, g1, g2⟩ := ra_a2_get hg.2.2.2.1 hu
      rw [hp, hs, e1, e2] at f2
      obtain ⟨-, f0, f3, -⟩ := f2
      have f8 : (f 0).toInt = 8 := by
        have : (fun j => (f j).toInt) 0 = 8 := by
          rw [f3]
          show ra_upi f0 (v 0 + 0).toNat (v 0 + 8) 0 = 8
          rw [hN.2.1]
          rfl
        exact this
      refine ⟨_, List.mem_singleton.mpr rfl, rfl, Nat.le_refl _, v, fun _ _ => rfl, rc_g2 hg (Nat.le_refl _) (fun _ _ => rfl) hN w1 w2 ⟨o1, rc_all0 hN.1 rfl, f, f1, ?_⟩ ⟨u1, rc_all0 hN.1 rfl, g, g1, ?_⟩, hdb, hdv⟩
      · show ra_base 1 [v 0 + 1, v 0 + 0, v 0 + 0, v 0 + 0] _ _
        rw [hN.2.1]
        exact rc_init f8
      · show ra_base 2 [v 0 + 1, v 0 + 0] _ _
        rw [hN.2.1]
        exact rc_initQ
    · cases h
  · cases h
/-- what lies on top -/
def rc_21a (env : ra_N) (p r w : Nat × Int) : List (List ra_N × (Int × Int) × (Int × Int)) :=
  [(rb_oe (rb_mn env p 1 1), (8, 8), (ra_lo, ra_hi)),
   (rb_m2 (rb_ml env p 2) (fun e => rb_ml e w 1), (3, 3), (126, 126)),
   (rb_m2 (rb_ml env p 2) (fun e => rb_ml e w 1), (7, 7), (126, 126)),
   (rb_m2 (rb_ml env p 2) (fun e => rb_ml e r 1), (1, 2), (37, 62)),
   (rb_m2 (rb_ml env p 2) (fun e => rb_ml e r 1), (1, 2), (124, 124)),
   (rb_m2 (rb_ml env p 2) (fun e => rb_ml e r 1), (4, 6), (37, 62)),
   (rb_m2 (rb_ml env p 2) (fun e => rb_ml e r 1), (4, 6), (124, 124))]
def rc_21 (i j : Nat) (a : ra_S) (F : rb_D) : Option rb_O := match rc_o (a.2.2.2.1[i]?), rc_o (a.2.2.2.1[j]?) with
  | some o, some u => match o.2.2.1, o.2.2.2, u.2.2.1, u.2.2.2 with
    | [3], [p, r, w, G], [4], [p', G'] => ra_gd (rc_eq p' p && rc_eq G' G) (some ((rc_21a a.1 p r w).flatMap (fun z => z.1.map (fun e => ((e ++ [z.2.1, z.2.2], a.2.1, a.2.2.1, (a.2.2.2.1.set i (rc_oc o [0, 3] [(p.1, p.2 - 1), (a.1.length, 0), p, r, w, G])).set j (rc_oc u [0, 4] [(p.1, p.2 - 1), (a.1.length + 1, 0), p, G]), a.2.2.2.2), F)))))
    | _, _, _, _ => none
  | _, _ => none
set_option maxHeartbeats 1000000 in
theorem rc_21_ok {i j : Nat} {a : ra_S} {F : rb_D} {outs : rb_O} (h : rc_21 i j a F = some outs) : rb_alt b0 ad0 cT a F outs := by
  obtain ⟨env, lv, st, aw, ce, sl⟩ := a
  unfold rc_21 at h
  dsimp only at h
  split at h
  · rename_i o u ho hu
    have ho := rc_o_ok ho
    have hu := rc_o_ok hu
    split at h
    · rename_i p r w G p' G' hp1 hp2 hp3 hp4
      have hq0 := ra_gd_ok h; clear h; obtain ⟨h1, h⟩ := hq0
      rw [Bool.and_eq_true] at h1
      have e1 := rc_eq_ok h1.1
      have e2 := rc_eq_ok h1.2
      subst e1
      subst e2
      cases h
      intro v lvv stv ws hg hdb hdv
      have hN : ra_cN v env := hg.1
      obtain ⟨q1, w1, o1, o2, f, f1, f2⟩ := ra_a2_get hg.2.2.2.1 ho
      obtain ⟨q2, w2, u1, u2, g, g1, g2⟩ := ra_a2_get hg.2.2.2.1 hu
      rw [hp1, hp2] at f2
      rw [hp3, hp4] at g2
      rw [hp2] at o2
      have lp : p'.1 < env.length := o2 p' (by simp)
      have lr : r.1 < env.length := o2 r (by simp)
      have lw : w.1 < env.length := o2 w (by simp)
      have lG : G'.1 < env.length := o2 G' (by simp)
      have f2 : ra_base 1 [v p'.1 + p'.2, v r.1 + r.2, v w.1 + w.2, v G'.1 + G'.2] o.2.1 (fun j => (f j).toInt) := f2
      have g2 : ra_base 2 [v p'.1 + p'.2, v G'.1 + G'.2] u.2.1 (fun j => (g j).toInt) := g2
      have htop := rc_top f2 g2
      have hp1 : 1 ≤ v p'.1 + p'.2 := f2.1
      have fin : ∀ (z : List ra_N × (Int × Int) × (Int × Int)) (e : ra_N), z ∈ rc_21a env p' r w → e ∈ z.1 → ra_cN v e → e.length = env.length → z.2.1.1 ≤ (f (v p'.1 + p'.2 - 1).toNat).toInt → (f (v p'.1 + p'.2 - 1).toNat).toInt ≤ z.2.1.2 → z.2.2.1 ≤ (g (v p'.1 + p'.2 - 1).toNat).toInt → (g (v p'.1 + p'.2 - 1).toNat).toInt ≤ z.2.2.2 → ∃ o_1 ∈ (rc_21a env p' r w).flatMap (fun z => z.1.map (fun e => (((e ++ [z.2.1, z.2.2], lv, st, (aw.set i (rc_oc o [0, 3] [(p'.1, p'.2 - 1), (env.length, 0), p', r, w, G'])).set j (rc_oc u [0, 4] [(p'.1, p'.2 - 1), (env.length + 1, 0), p', G']), ce, sl), F) : ra_S × rb_D))), o_1.1.2.2.2.2 = (ce, sl) ∧ env.length ≤ o_1.1.1.length ∧ ∃ v' : Nat → Int, (∀ i, i < env.length → v' i = v i) ∧ ra_g b0 ad0 cT v' o_1.1 lvv stv ws ∧ rb_db o_1.1.1.length o_1.2 = true ∧ rb_dv v' o_1.2 := by
        intro z e hz he hNe hl x1 x2 y1 y2
        have hv' : ∀ i, i < env.length → rc_v v env.length (f (v p'.1 + p'.2 - 1).toNat).toInt (g (v p'.1 + p'.2 - 1).toNat).toInt i = v i := fun i hi => rc_v_lt hi
        have hle : env.length ≤ (e ++ [z.2.1, z.2.2]).length := by simp; omega
        have hN' := rc_v_N hNe x1 x2 y1 y2
        rw [hl] at hN'
        refine ⟨_, List.mem_flatMap.mpr ⟨z, hz, List.mem_map.mpr ⟨e, he, rfl⟩⟩, rfl, hle, _, hv', rc_g2 hg hle hv' hN' w1 w2 ⟨o1, fun q hq => ?_, f, f1, ?_⟩ ⟨u1, fun q hq => ?_, g, g1, ?_⟩, rb_db_mono hle hdb, rb_dv_ext hdb hv' hdv⟩
        · simp only [List.mem_cons, List.not_mem_nil, or_false] at hq
          simp only [List.length_append, List.length_cons, List.length_nil]
          rcases hq with rfl | rfl | rfl | rfl | rfl | rfl <;> (try dsimp only) <;> omega
        · have ea : ∀ (t : Nat × Int), t.1 < env.length → rc_v v env.length (f (v p'.1 + p'.2 - 1).toNat).toInt (g (v p'.1 + p'.2 - 1).toNat).toInt t.1 = v t.1 := fun t ht => rc_v_lt ht
          simp only [List.map_cons, List.map_nil]
          rw [ea p' lp, ea r lr, ea w lw, ea G' lG, rc_v_x]
          refine ⟨by omega, ?_, f2⟩
          rw [Int.add_zero, show v p'.1 + (p'.2 - 1) = v p'.1 + p'.2 - 1 by omega]
        · simp only [List.mem_cons, List.not_mem_nil, or_false] at hq
          simp only [List.length_append, List.length_cons, List.length_nil]
          rcases hq with rfl | rfl | rfl | rfl <;> (try dsimp only) <;> omega
        · have ea : ∀ (t : Nat × Int), t.1 < env.length → rc_v v env.length (f (v p'.1 + p'.2 - 1).toNat).toInt (g (v p'.1 + p'.2 - 1).toNat).toInt t.1 = v t.1 := fun t ht => rc_v_lt ht
          simp only [List.map_cons, List.map_nil]
          rw [ea p' lp, ea G' lG, rc_v_y]
          refine ⟨by omega, ?_, g2⟩
          rw [Int.add_zero, show v p'.1 + (p'.2 - 1) = v p'.1 + p'.2 - 1 by omega]
      have gI := ra_i32 (g (v p'.1 + p'.2 - 1).toNat)
      have two : ∀ (q : Nat × Int), q.1 < env.length → 2 ≤ v p'.1 + p'.2 → 1 ≤ v q.1 + q.2 → ∃ e ∈ rb_m2 (rb_ml env p' 2) (fun e => rb_ml e q 1), ra_cN v e ∧ e.length = env.length := by
        intro q hq z1 z2
        obtain ⟨ea, a1, a2, a3⟩ := rb_ml_ok hN lp z1
        obtain ⟨eb, b1, b2, b3⟩ := rb_ml_ok a2 (q := q) (by omega) z2
        exact ⟨eb, rb_m2_in a1 b1, b2, by omega⟩
      rcases htop with ⟨t1, t2⟩ | ⟨t1, t2, t3, t4⟩ | ⟨t1, t2, t3, t4⟩
      · obtain ⟨ea, a1, a2, a3⟩ := rb_mn_ok hN lp (lo := 1) (hi := 1) (by omega) (by omega)
        exact fin (rb_oe (rb_mn env p' 1 1), (8, 8), (ra_lo, ra_hi)) ea (by simp [rc_21a]) (rb_oe_in a1) a2 a3 (by dsimp only; omega) (by dsimp only; omega) gI.1 gI.2
      · obtain ⟨ea, a1, a2, a3⟩ := two w lw t1 t2
        rcases t3 with t3 | t3
        · exact fin (rb_m2 (rb_ml env p' 2) (fun e => rb_ml e w 1), (3, 3), (126, 126)) ea (by simp [rc_21a]) a1 a2 a3 (by dsimp only; omega) (by dsimp only; omega) (by dsimp only; omega) (by dsimp only; omega)
        · exact fin (rb_m2 (rb_ml env p' 2) (fun e => rb_ml e w 1), (7, 7), (126, 126)) ea (by simp [rc_21a]) a1 a2 a3 (by dsimp only; omega) (by dsimp only; omega) (by dsimp only; omega) (by dsimp only; omega)
      · obtain ⟨ea, a1, a2, a3⟩ := two r lr t1 t2
        unfold ra_isO at t4
        rcases t3 with t3 | t3
        · rcases t4 with t4 | t4
          · exact fin (rb_m2 (rb_ml env p' 2) (fun e => rb_ml e r 1), (1, 2), (37, 62)) ea (by simp [rc_21a]) a1 a2 a3 (by dsimp only; omega) (by dsimp only; omega) (by dsimp only; omega) (by dsimp only; omega)
          · exact fin (rb_m2 (rb_ml env p' 2) (fun e => rb_ml e r 1), (1, 2), (124, 124)) ea (by simp [rc_21a]) a1 a2 a3 (by dsimp only; omega) (by dsimp only; omega) (by dsimp only; omega) (by dsimp only; omega)
        · rcases t4 with t4 | t4
          · exact fin (rb_m2 (rb_ml env p' 2) (fun e => rb_ml e r 1), (4, 6), (37, 62)) ea (by simp [rc_21a]) a1 a2 a3 (by dsimp only; omega) (by dsimp only; omega) (by dsimp only; omega) (by dsimp only; omega)
          · exact fin (rb_m2 (rb_ml env p' 2) (fun e => rb_ml e r 1), (4, 6), (124, 124)) ea (by simp [rc_21a]) a1 a2 a3 (by dsimp only; omega) (by dsimp only; omega) (by dsimp only; omega) (by dsimp only; omega)
    · cases h
  · cases h
end
end
