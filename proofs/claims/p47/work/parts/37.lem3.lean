noncomputable section
/-! the pile's and the signs' steps, further -/
section
variable {b0 : Nat → Nat} {ad0 : List Nat} {cT : Nat → ClassId}
def rc_m1 (q : Nat × Int) : Nat × Int := (q.1, q.2 - 1)
def rc_p1 (q : Nat × Int) : Nat × Int := (q.1, q.2 + 1)
/-- the top is taken off -/
def rc_22 (i j : Nat) (a : ra_S) (F : rb_D) : Option rb_O := match rc_o (a.2.2.2.1[i]?), rc_o (a.2.2.2.1[j]?) with
  | some o, some u => match o.2.2.1, o.2.2.2, u.2.2.1, u.2.2.2 with
    | [0, 3], [q, x, p, r, w, G], [0, 4], [q', y, p', G'] => ra_gd (rc_eq p' p && (rc_eq G' G && (rc_eq q (rc_m1 p) && (rc_eq q' (rc_m1 p) && ra_leb 2 (ra_rg a.1 p).1)))) (match rc_knd a.1 x with
      | some 0 => some [((a.1, a.2.1, a.2.2.1, (a.2.2.2.1.set i (rc_oc o [0, 3] [q, x, rc_m1 p, r, rc_m1 w, G])).set j (rc_oc u [0, 4] [q, y, rc_m1 p, G]), a.2.2.2.2), F)]
      | some 1 => some [((a.1, a.2.1, a.2.2.1, (a.2.2.2.1.set i (rc_oc o [0, 3] [q, x, rc_m1 p, rc_m1 r, w, G])).set j (rc_oc u [0, 4] [q, y, rc_m1 p, G]), a.2.2.2.2), F)]
      | _ => none)
    | _, _, _, _ => none
  | _, _ => none
theorem rc_m1_v {v : Nat → Int} {q : Nat × Int} : v (rc_m1 q).1 + (rc_m1 q).2 = v q.1 + q.2 - 1 := by
  show v q.1 + (q.2 - 1) = _
  omega
theorem rc_p1_v {v : Nat → Int} {q : Nat × Int} : v (rc_p1 q).1 + (rc_p1 q).2 = v q.1 + q.2 + 1 := by
  show v q.1 + (q.2 + 1) = _
  omega
set_option maxHeartbeats 1000000 in
theorem rc_22_ok {i j : Nat} {a : ra_S} {F : rb_D} {outs : rb_O} (h : rc_22 i j a F = some outs) : rb_alt b0 ad0 cT a F outs := by
  obtain ⟨env, lv, st, aw, ce, sl⟩ := a
  unfold rc_22 at h
  dsimp only at h
  split at h
  · rename_i o u ho hu
    have ho := rc_o_ok ho
    have hu := rc_o_ok hu
    split at h
    · rename_i q x p r w G q' y p' G' hp1 hp2 hp3 hp4
      have hq0 := ra_gd_ok h; clear h; obtain ⟨h1, h⟩ := hq0
      rw [Bool.and_eq_true, Bool.and_eq_true, Bool.and_eq_true, Bool.and_eq_true] at h1
      obtain ⟨e1, e2, e3, e4, h5⟩ := h1
      have e1 := rc_eq_ok e1
      have e2 := rc_eq_ok e2
      have e3 := rc_eq_ok e3
      have e4 := rc_eq_ok e4
      have h5 := ra_leb_le h5
      subst e1
      subst e2
      have goal : ∀ (v : Nat → Int) (lvv : List (Nat × Value)) (stv : List Value) (ws : va_W), ra_g b0 ad0 cT v (env, lv, st, aw, ce, sl) lvv stv ws → ∀ (r' w' : Nat × Int), r'.1 = r.1 → w'.1 = w.1 → (∀ (f : Nat → Int32), rc_P (v p'.1 + p'.2) (v r.1 + r.2) (v w.1 + w.2) (v G'.1 + G'.2) o.2.1 (fun j => (f j).toInt) → 2 ≤ v p'.1 + p'.2 → (f (v p'.1 + p'.2 - 1).toNat).toInt = v x.1 + x.2 → rc_P (v p'.1 + p'.2 - 1) (v r'.1 + r'.2) (v w'.1 + w'.2) (v G'.1 + G'.2) o.2.1 (fun j => (f j).toInt)) → ra_g b0 ad0 cT v (env, lv, st, (aw.set i (rc_oc o [0, 3] [q, x, rc_m1 p', r', w', G'])).set j (rc_oc u [0, 4] [q, y, rc_m1 p', G']), ce, sl) lvv stv ws := by
        intro v lvv stv ws hg r' w' hr' hw' hk
        have hN : ra_cN v env := hg.1
        obtain ⟨q1, w1, o1, o2, f, f1, f2⟩ := ra_a2_get hg.2.2.2.1 ho
        obtain ⟨q2, w2, u1, u2, g, g1, g2⟩ := ra_a2_get hg.2.2.2.1 hu
        rw [hp1, hp2] at f2
        rw [hp3, hp4] at g2
        rw [hp2] at o2
        rw [hp4] at u2
        have o2 : ∀ z ∈ [q, x, p', r, w, G'], z.1 < env.length := o2
        have u2 : ∀ z ∈ [q', y, p', G'], z.1 < env.length := u2
        have lq : q.1 < env.length := o2 q (by simp)
        have lx : x.1 < env.length := o2 x (by simp)
        have lp : p'.1 < env.length := o2 p' (by simp)
        have lr : r.1 < env.length := o2 r (by simp)
        have lw : w.1 < env.length := o2 w (by simp)
        have lG : G'.1 < env.length := o2 G' (by simp)
        have ly : y.1 < env.length := u2 y (by simp)
        have hp := rb_rgI hN lp
        obtain ⟨m0, m1, m2⟩ := f2
        obtain ⟨n0, n1, n2⟩ := g2
        have m2 : rc_P (v p'.1 + p'.2) (v r.1 + r.2) (v w.1 + w.2) (v G'.1 + G'.2) o.2.1 (fun j => (f j).toInt) := m2
        have n2 : rc_Q (v p'.1 + p'.2) (v G'.1 + G'.2) u.2.1 (fun j => (g j).toInt) := n2
        have m0 : 0 ≤ v q.1 + q.2 := m0
        have m1 : (f (v q.1 + q.2).toNat).toInt = v x.1 + x.2 := m1
        have n0 : 0 ≤ v q'.1 + q'.2 := n0
        have n1 : (g (v q'.1 + q'.2).toNat).toInt = v y.1 + y.2 := n1
        rw [e3, rc_m1_v] at m0 m1
        rw [e4, rc_m1_v] at n0 n1
        have hp : (ra_rg env p').1 ≤ v p'.1 + p'.2 := hp.1
        refine rc_g2 hg (Nat.le_refl _) (fun _ _ => rfl) hN w1 w2 ⟨o1, fun z hz => ?_, f, f1, ?_⟩ ⟨u1, fun z hz => ?_, g, g1, ?_⟩
        · simp only [List.mem_cons, List.not_mem_nil, or_false] at hz
          show z.1 < env.length
          rcases hz with rfl | rfl | rfl | rfl | rfl | rfl
          · exact lq
          · exact lx
          · exact lp
          · rw [hr']; exact lr
          · rw [hw']; exact lw
          · exact lG
        · simp only [List.map_cons, List.map_nil, rc_m1_v]
          refine ⟨by rw [e3, rc_m1_v]; exact m0, by rw [e3, rc_m1_v]; exact m1, hk f m2 (by omega) m1⟩
        · simp only [List.mem_cons, List.not_mem_nil, or_false] at hz
          show z.1 < env.length
          rcases hz with rfl | rfl | rfl | rfl
          · exact lq
          · exact ly
          · exact lp
          · exact lG
        · simp only [List.map_cons, List.map_nil, rc_m1_v]
          refine ⟨by rw [e3, rc_m1_v]; exact n0, by rw [e3, rc_m1_v]; exact n1, rc_popQ n2 (by omega)⟩
      split at h
      · rename_i hk
        cases h
        intro v lvv stv ws hg hdb hdv
        have lx : x.1 < env.length := by
          obtain ⟨q1, w1, o1, o2, -⟩ := ra_a2_get hg.2.2.2.1 ho
          rw [hp2] at o2
          exact o2 x (by simp)
        refine ⟨_, List.mem_singleton.mpr rfl, rfl, Nat.le_refl _, v, fun _ _ => rfl, goal v lvv stv ws hg r (rc_m1 w) rfl rfl (fun f m2 m3 m4 => ?_), hdb, hdv⟩
        rw [rc_m1_v]
        rcases rc_knd_ok hg.1 lx hk with ⟨-, k2⟩ | ⟨k1, -⟩
        · exact (rc_pop m2 m3).1 (by rw [m4]; exact k2)
        · cases k1
      · rename_i hk
        cases h
        intro v lvv stv ws hg hdb hdv
        have lx : x.1 < env.length := by
          obtain ⟨q1, w1, o1, o2, -⟩ := ra_a2_get hg.2.2.2.1 ho
          rw [hp2] at o2
          exact o2 x (by simp)
        refine ⟨_, List.mem_singleton.mpr rfl, rfl, Nat.le_refl _, v, fun _ _ => rfl, goal v lvv stv ws hg (rc_m1 r) w rfl rfl (fun f m2 m3 m4 => ?_), hdb, hdv⟩
        rw [rc_m1_v]
        rcases rc_knd_ok hg.1 lx hk with ⟨k1, -⟩ | ⟨-, k2⟩
        · cases k1
        · exact (rc_pop m2 m3).2 (by rw [m4]; exact k2)
      · cases h
    · cases h
  · cases h
/-- something is laid on -/
def rc_23 (i j : Nat) (a : ra_S) (F : rb_D) : Option rb_O := match rc_o (a.2.2.2.1[i]?), rc_o (a.2.2.2.1[j]?) with
  | some o, some u => match o.2.2.1, o.2.2.2, u.2.2.1, u.2.2.2 with
    | [1, 3], [q, x, p, r, w, G], [1, 4], [q', y, p', G'] => ra_gd (rc_eq p' p && (rc_eq G' G && (rc_eq q p && (rc_eq q' p && ra_leb (ra_rg a.1 p).2 99)))) (match rc_knd a.1 x, rc_cls a.1 y with
      | some 0, some 1 => some [((a.1 ++ [(0, 1267650600228229401496703205376)], a.2.1, a.2.2.1, (a.2.2.2.1.set i (rc_oc o [3] [rc_p1 p, r, rc_p1 w, (a.1.length, 0)])).set j (rc_oc u [4] [rc_p1 p, (a.1.length, 0)]), a.2.2.2.2), F)]
      | some 1, some 2 => some [((a.1 ++ [(0, 1267650600228229401496703205376)], a.2.1, a.2.2.1, (a.2.2.2.1.set i (rc_oc o [3] [rc_p1 p, rc_p1 r, w, (a.1.length, 0)])).set j (rc_oc u [4] [rc_p1 p, (a.1.length, 0)]), a.2.2.2.2), F)]
      | _, _ => none)
    | _, _, _, _ => none
  | _, _ => none
set_option maxHeartbeats 1000000 in
theorem rc_23_ok {i j : Nat} {a : ra_S} {F : rb_D} {outs : rb_O} (h : rc_23 i j a F = some outs) : rb_alt b0 ad0 cT a F outs := by
  obtain ⟨env, lv, st, aw, ce, sl⟩ := a
  unfold rc_23 at h
  dsimp only at h
  split at h
  · rename_i o u ho hu
    have ho := rc_o_ok ho
    have hu := rc_o_ok hu
    split at h
    · rename_i q x p r w G q' y p' G' hp1 hp2 hp3 hp4
      have hq0 := ra_gd_ok h; clear h; obtain ⟨h1, h⟩ := hq0
      rw [Bool.and_eq_true, Bool.and_eq_true, Bool.and_eq_true, Bool.and_eq_true] at h1
      obtain ⟨e1, e2, e3, e4, h5⟩ := h1
      have e1 := rc_eq_ok e1
      have e2 := rc_eq_ok e2
      have e3 := rc_eq_ok e3
      have e4 := rc_eq_ok e4
      have h5 := ra_leb_le h5
      subst e1
      subst e2
      subst e3
      subst e4
      have goal : ∀ (b : Bool) (v : Nat → Int) (lvv : List (Nat × Value)) (stv : List Value) (ws : va_W), ra_g b0 ad0 cT v (env, lv, st, aw, ce, sl) lvv stv ws → rb_db env.length F = true → rb_dv v F → (if b then v x.1 + x.2 = 3 ∨ v x.1 + x.2 = 7 else (1 ≤ v x.1 + x.2 ∧ v x.1 + x.2 ≤ 2) ∨ (4 ≤ v x.1 + x.2 ∧ v x.1 + x.2 ≤ 6)) → (if b then v y.1 + y.2 = 126 else ra_isO (v y.1 + y.2)) → env.length ≤ (env ++ [((0 : Int), (1267650600228229401496703205376 : Int))]).length ∧ ∃ v' : Nat → Int, (∀ i, i < env.length → v' i = v i) ∧ ra_g b0 ad0 cT v' (env ++ [(0, 1267650600228229401496703205376)], lv, st, (aw.set i (rc_oc o [3] [rc_p1 q', if b then r else rc_p1 r, if b then rc_p1 w else w, (env.length, 0)])).set j (rc_oc u [4] [rc_p1 q', (env.length, 0)]), ce, sl) lvv stv ws ∧ rb_db (env ++ [((0 : Int), (1267650600228229401496703205376 : Int))]).length F = true ∧ rb_dv v' F := by
        intro b v lvv stv ws hg hdb hdv hx hy
        have hN : ra_cN v env := hg.1
        obtain ⟨q1, w1, o1, o2, f, f1, f2⟩ := ra_a2_get hg.2.2.2.1 ho
        obtain ⟨q2, w2, u1, u2, g, g1, g2⟩ := ra_a2_get hg.2.2.2.1 hu
        rw [hp1, hp2] at f2
        rw [hp3, hp4] at g2
        rw [hp2] at o2
        have o2 : ∀ z ∈ [q', x, q', r, w, G'], z.1 < env.length := o2
        have lp : q'.1 < env.length := o2 q' (by simp)
        have lr : r.1 < env.length := o2 r (by simp)
        have lw : w.1 < env.length := o2 w (by simp)
        have hp := rb_rgI hN lp
        obtain ⟨m0, f0, m1, m2⟩ := f2
        obtain ⟨-, g0, n1, n2⟩ := g2
        have m2 : rc_P (v q'.1 + q'.2) (v r.1 + r.2) (v w.1 + w.2) (v G'.1 + G'.2) o.2.1 f0 := m2
        have n2 : rc_Q (v q'.1 + q'.2) (v G'.1 + G'.2) u.2.1 g0 := n2
        obtain ⟨H, H1, H2, H3, H4⟩ := rc_push m2 n2 (by omega) b hx hy
        rw [← m1] at H3
        rw [← n1] at H4
        have hl : env.length ≤ (env ++ [((0 : Int), (1267650600228229401496703205376 : Int))]).length := by simp
        obtain ⟨v', nv, nh, hN'⟩ : ∃ v' : Nat → Int, (∀ i, i < env.length → v' i = v i) ∧ v' env.length = H ∧ ra_cN v' (env ++ [(0, 1267650600228229401496703205376)]) := ⟨fun i => if i = env.length then H else v i, fun i hi => if_neg (by omega), if_pos rfl, ra_cN_fr hN H1 H2⟩
        refine ⟨hl, _, nv, rc_g2 hg hl nv hN' w1 w2 ⟨o1, fun z hz => ?_, f, f1, ?_⟩ ⟨u1, fun z hz => ?_, g, g1, ?_⟩, rb_db_mono hl hdb, rb_dv_ext hdb nv hdv⟩
        · simp only [List.mem_cons, List.not_mem_nil, or_false] at hz
          simp only [List.length_append, List.length_cons, List.length_nil]
          rcases hz with rfl | rfl | rfl | rfl
          · show q'.1 < _; omega
          · cases b
            · show r.1 < _; omega
            · show r.1 < _; omega
          · cases b
            · show w.1 < _; omega
            · show w.1 < _; omega
          · show env.length < _; omega
        · simp only [List.map_cons, List.map_nil, rc_p1_v]
          rw [nv _ lp, nh, Int.add_zero]
          cases b
          · simp only [Bool.false_eq_true, if_false, rc_p1_v] at H3 ⊢
            rw [nv _ lr, nv _ lw]
            exact H3
          · simp only [if_true, rc_p1_v] at H3 ⊢
            rw [nv _ lr, nv _ lw]
            exact H3
        · simp only [List.mem_cons, List.not_mem_nil, or_false] at hz
          simp only [List.length_append, List.length_cons, List.length_nil]
          rcases hz with rfl | rfl
          · show q'.1 < _; omega
          · show env.length < _; omega
        · simp only [List.map_cons, List.map_nil, rc_p1_v]
          rw [nv _ lp, nh, Int.add_zero]
          exact H4
      have lxy : ∀ {v : Nat → Int} {lvv : List (Nat × Value)} {stv : List Value} {ws : va_W}, ra_g b0 ad0 cT v (env, lv, st, aw, ce, sl) lvv stv ws → x.1 < env.length ∧ y.1 < env.length := by
        intro v lvv stv ws hg
        obtain ⟨q1, w1, o1, o2, -⟩ := ra_a2_get hg.2.2.2.1 ho
        obtain ⟨q2, w2, u1, u2, -⟩ := ra_a2_get hg.2.2.2.1 hu
        rw [hp2] at o2
        rw [hp4] at u2
        exact ⟨o2 x (by simp), u2 y (by simp)⟩
      split at h
      · rename_i hk hc
        cases h
        intro v lvv stv ws hg hdb hdv
        have hl := lxy hg
        refine ⟨_, List.mem_singleton.mpr rfl, rfl, goal true v lvv stv ws hg hdb hdv ?_ ?_⟩
        · rcases rc_knd_ok hg.1 hl.1 hk with ⟨-, k2⟩ | ⟨k1, -⟩
          · exact k2
          · cases k1
        · rcases rc_cls_ok hg.1 hl.2 hc with ⟨k1, -⟩ | ⟨-, k2⟩ | ⟨k1, -⟩
          · cases k1
          · exact k2
          · cases k1
      · rename_i hk hc
        cases h
        intro v lvv stv ws hg hdb hdv
        have hl := lxy hg
        refine ⟨_, List.mem_singleton.mpr rfl, rfl, goal false v lvv stv ws hg hdb hdv ?_ ?_⟩
        · rcases rc_knd_ok hg.1 hl.1 hk with ⟨k1, -⟩ | ⟨-, k2⟩
          · cases k1
          · exact k2
        · rcases rc_cls_ok hg.1 hl.2 hc with ⟨k1, -⟩ | ⟨k1, -⟩ | ⟨-, k2⟩
          · cases k1
          · cases k1
          · exact k2
      · cases h
    · cases h
  · cases h
/-- a place below the top -/
def rc_24 (i : Nat) (hf : List rb_H) (a : ra_S) (F : rb_D) : Option rb_O := match rc_o (a.2.2.2.1[i]?) with
  | some o => match o.2.2.1, o.2.2.2 with
    | 0 :: t, k :: x :: u => match (rc_st t u).1, (rc_st t u).2, hf with
      | [3], [p, _, _, _], [h] => ra_gd (rb_far a.1 F h (rb_df p k (-1))) (some (rb_envs a F (rb_m2 (rb_mn a.1 k 0 0) (fun e => rb_mn e x 8 8) ++ rb_m2 (rb_ml a.1 k 1) (fun e => rb_mn e x 1 7))))
      | _, _, _ => none
    | _, _ => none
  | none => none
theorem rc_24_ok {i : Nat} {hf : List rb_H} {a : ra_S} {F : rb_D} {outs : rb_O} (h : rc_24 i hf a F = some outs) : rb_alt b0 ad0 cT a F outs := by
  obtain ⟨env, lv, st, aw, ce, sl⟩ := a
  unfold rc_24 at h
  dsimp only at h
  split at h
  · rename_i o ho
    have ho := rc_o_ok ho
    split at h
    · rename_i t k x u hp hs
      split at h
      · rename_i p z1 z2 z3 hh hp1 hp2
        have hq0 := ra_gd_ok h; clear h; obtain ⟨h1, h⟩ := hq0
        cases h
        intro v lvv stv ws hg hdb hdv
        have hN : ra_cN v env := hg.1
        obtain ⟨q1, w1, o1, o2, f, f1, f2⟩ := ra_a2_get hg.2.2.2.1 ho
        rw [hp, hs] at f2
        rw [hs] at o2
        have lk : k.1 < env.length := o2 k (by simp)
        have lx : x.1 < env.length := o2 x (by simp)
        obtain ⟨m0, m1, m2⟩ := f2
        have m3 := (rc_st_ok m2).1
        rw [hp1, hp2] at m3
        have m3 : rc_P (v p.1 + p.2) (v z1.1 + z1.2) (v z2.1 + z2.2) (v z3.1 + z3.2) o.2.1 (fun j => (f j).toInt) := m3
        have hF := rb_far_ok hN hdv h1
        rw [rb_df_ev] at hF
        have m0 : 0 ≤ v k.1 + k.2 := m0
        have hb := rc_below m3 m0 (by omega)
        have m1 : (f (v k.1 + k.2).toNat).toInt = v x.1 + x.2 := m1
        have alt := rb_envs_ok (b0 := b0) (ad0 := ad0) (cT := cT) (a := (env, lv, st, aw, ce, sl)) (F := F) (es := rb_m2 (rb_mn env k 0 0) (fun e => rb_mn e x 8 8) ++ rb_m2 (rb_ml env k 1) (fun e => rb_mn e x 1 7))
        have hex : ∃ e ∈ rb_m2 (rb_mn env k 0 0) (fun e => rb_mn e x 8 8) ++ rb_m2 (rb_ml env k 1) (fun e => rb_mn e x 1 7), ra_cN v e ∧ e.length = env.length := by
          rcases hb with ⟨c1, c2⟩ | ⟨c1, c2, c3⟩
          · have c2 : (f (v k.1 + k.2).toNat).toInt = 8 := c2
            obtain ⟨ea, a1, a2, a3⟩ := rb_mn_ok hN lk (lo := 0) (hi := 0) (by omega) (by omega)
            obtain ⟨eb, b1, b2, b3⟩ := rb_mn_ok a2 (q := x) (lo := 8) (hi := 8) (by omega) (by omega) (by omega)
            exact ⟨eb, List.mem_append_left _ (rb_m2_in a1 b1), b2, by omega⟩
          · have c2 : 1 ≤ (f (v k.1 + k.2).toNat).toInt := c2
            have c3 : (f (v k.1 + k.2).toNat).toInt ≤ 7 := c3
            obtain ⟨ea, a1, a2, a3⟩ := rb_ml_ok hN lk c1
            obtain ⟨eb, b1, b2, b3⟩ := rb_mn_ok a2 (q := x) (lo := 1) (hi := 7) (by omega) (by omega) (by omega)
            exact ⟨eb, List.mem_append_right _ (rb_m2_in a1 b1), b2, by omega⟩
        obtain ⟨e, e1, e2, e3⟩ := hex
        refine ⟨_, List.mem_map.mpr ⟨e, e1, rfl⟩, rfl, Nat.le_of_eq e3.symm, v, fun _ _ => rfl, ra_g_ext hg (Nat.le_of_eq e3.symm) (fun _ _ => rfl) e2, ?_, hdv⟩
        show rb_db e.length F = true
        rw [e3]
        exact hdb
      · cases h
    · cases h
  · cases h
def rc_l3 (p r w : Nat × Int) (s : Int) : ra_L := ([(p.1, s), (r.1, -s), (w.1, -s)], s * (p.2 - 1 - r.2 - w.2))
theorem rc_l3_ev {v : Nat → Int} {p r w : Nat × Int} {s : Int} : ra_ev v (rc_l3 p r w s) = s * (v p.1 + p.2 - 1 - (v r.1 + r.2) - (v w.1 + w.2)) := by
  simp only [rc_l3, ra_ev, List.foldr_cons, List.foldr_nil, Int.mul_sub, Int.mul_add, Int.neg_mul]
  omega
/-- how high it is -/
def rc_25 (i : Nat) (a : ra_S) (F : rb_D) : Option rb_O := match rc_o (a.2.2.2.1[i]?) with
  | some o => match (rc_st o.2.2.1 o.2.2.2).1, (rc_st o.2.2.1 o.2.2.2).2 with
    | [3], [p, r, w, _] => some [(a, F ++ [rc_l3 p r w 1, rc_l3 p r w (-1)])]
    | _, _ => none
  | none => none
theorem rc_25_ok {i : Nat} {a : ra_S} {F : rb_D} {outs : rb_O} (h : rc_25 i a F = some outs) : rb_alt b0 ad0 cT a F outs := by
  obtain ⟨env, lv, st, aw, ce, sl⟩ := a
  unfold rc_25 at h
  dsimp only at h
  split at h
  · rename_i o ho
    have ho := rc_o_ok ho
    split at h
    · rename_i p r w z3 hp1 hp2
      cases h
      intro v lvv stv ws hg hdb hdv
      have hN : ra_cN v env := hg.1
      obtain ⟨q1, w1, o1, o2, f, f1, f2⟩ := ra_a2_get hg.2.2.2.1 ho
      obtain ⟨m3, m4⟩ := rc_st_ok f2
      rw [hp1, hp2] at m3
      rw [hp2] at m4
      have lp : p.1 < env.length := o2 p (m4 p (by simp))
      have lr : r.1 < env.length := o2 r (m4 r (by simp))
      have lw : w.1 < env.length := o2 w (m4 w (by simp))
      have m3 : rc_P (v p.1 + p.2) (v r.1 + r.2) (v w.1 + w.2) (v z3.1 + z3.2) o.2.1 (fun j => (f j).toInt) := m3
      have hl := rc_lin m3
      have hb : ∀ s, rb_lb env.length (rc_l3 p r w s) = true := fun s => by
        simp only [rb_lb, rc_l3, List.all_cons, List.all_nil, Bool.and_true, Bool.and_eq_true]
        exact ⟨Nat.ble_eq_true_of_le lp, Nat.ble_eq_true_of_le lr, Nat.ble_eq_true_of_le lw⟩
      exact ⟨_, List.mem_singleton.mpr rfl, rfl, Nat.le_refl _, v, fun _ _ => rfl, hg, rb_db_app hdb (rb_db_cons (hb _) (rb_db_cons (hb _) rfl)), rb_dv_app hdv (rb_dv_cons (by rw [rc_l3_ev]; omega) (rb_dv_cons (by rw [rc_l3_ev]; omega) rb_dv_nil))⟩
    · cases h
  · cases h
end
end
