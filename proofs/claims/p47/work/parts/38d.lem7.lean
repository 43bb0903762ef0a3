noncomputable section
/-! what fits: the ends; the dispatch of all lemma steps -/
section
variable {b0 : Nat → Nat} {ad0 : List Nat} {cT : Nat → ClassId}
/-- whether it fits is known -/
theorem rd_kn {a : ra_S} {F : rb_D} {i : Nat} {o : ra_O} (ho : a.2.2.2.1[i]? = some (.inr (.inr (.inr o)))) {w k1 lo hi t u s p m c dq kq : Nat × Int} {g : List (Nat × Int)} {r : Int} (h1 : (rc_st o.2.2.1 o.2.2.2).1 = [11]) (h2 : (rc_st o.2.2.1 o.2.2.2).2 = w :: k1 :: lo :: hi :: t :: u :: s :: p :: m :: c :: dq :: kq :: g)
    (h : ∀ (v : Nat → Int) (lvv : List (Nat × Value)) (stv : List Value) (ws : va_W), ra_g b0 ad0 cT v a lvv stv ws → rb_dv v F → ∀ f : Nat → Int, ra_phi o.2.2.1 (o.2.2.2.map (fun q => v q.1 + q.2)) o.2.1 f → 0 ≤ v k1.1 + k1.2 → (∀ j : Nat, (j : Int) < v k1.1 + k1.2 → rd_ok1 f (v t.1 + t.2) (v u.1 + u.2) (v s.1 + s.2) (v p.1 + p.2) (v m.1 + m.2) (v c.1 + c.2) (v kq.1 + kq.2) (v w.1 + w.2) j) → (r = 1 ∧ rd_fit f (v t.1 + t.2) (v u.1 + u.2) (v s.1 + s.2) (v p.1 + p.2) (v m.1 + m.2) (v c.1 + c.2) (v kq.1 + kq.2) (v w.1 + w.2) (v dq.1 + dq.2)) ∨ (r = 0 ∧ ¬ rd_fit f (v t.1 + t.2) (v u.1 + u.2) (v s.1 + s.2) (v p.1 + p.2) (v m.1 + m.2) (v c.1 + c.2) (v kq.1 + kq.2) (v w.1 + w.2) (v dq.1 + dq.2))) :
    rb_alt b0 ad0 cT a F [((a.1, a.2.1, a.2.2.1, a.2.2.2.1.set i (rc_oc o [12] (w :: (0, r) :: lo :: hi :: t :: u :: s :: p :: m :: c :: dq :: kq :: g)), a.2.2.2.2), F)] := by
  intro v lvv stv ws hg hdb hdv
  obtain ⟨q1, w1, o1, o2, f, f1, f2⟩ := ra_a2_get hg.2.2.2.1 ho
  obtain ⟨m1, m2⟩ := rc_st_ok f2
  rw [h1, h2] at m1
  rw [h2] at m2
  obtain ⟨b1, b2, b3, b4, b5⟩ := m1
  have b1 : 0 ≤ v w.1 + w.2 := b1
  have b3 : 0 ≤ v k1.1 + k1.2 := b3
  have hk := h v lvv stv ws hg hdv _ f2 b3 b5
  have hz := hg.1.2.1
  have hp := hg.1.1
  obtain ⟨env, lv, st, aw, ce, sl⟩ := a
  have o3 : ∀ q ∈ w :: k1 :: lo :: hi :: t :: u :: s :: p :: m :: c :: dq :: kq :: g, q.1 < env.length := fun q hq => o2 q (m2 q hq)
  refine ⟨_, List.mem_singleton.mpr rfl, rfl, Nat.le_refl _, v, fun _ _ => rfl, rc_g1 hg (Nat.le_refl _) (fun _ _ => rfl) hg.1 w1 ⟨o1, fun q hq => ?_, f, f1, ?_⟩, hdb, hdv⟩
  · rcases List.mem_cons.mp hq with e | hq
    · rw [e]; exact o3 w (by simp)
    · rcases List.mem_cons.mp hq with e | hq
      · rw [e]; exact hp
      · exact o3 q (List.mem_cons_of_mem _ (List.mem_cons_of_mem _ hq))
  · refine ⟨b1, b2, b4, ?_⟩
    show ∀ x, (g.map (fun q => v q.1 + q.2))[(v w.1 + w.2).toNat]? = some x → x = v 0 + r
    intro x hx
    have b6 := b4.2 (v w.1 + w.2).toNat x hx
    have ew : (((v w.1 + w.2).toNat : Nat) : Int) = v w.1 + w.2 := by omega
    rw [ew] at b6
    rw [hz, Int.zero_add]
    rcases b6 with ⟨x1, x2⟩ | ⟨x1, x2⟩
    · rcases hk with ⟨y1, -⟩ | ⟨-, y2⟩
      · rw [x1, y1]
      · exact absurd x2 y2
    · rcases hk with ⟨-, y2⟩ | ⟨y1, -⟩
      · exact absurd y2 x2
      · rw [x1, y1]
def rd_63 (i : Nat) (hf : List rb_H) (a : ra_S) (F : rb_D) : Option rb_O := match rc_o (a.2.2.2.1[i]?) with
  | some o => match (rc_st o.2.2.1 o.2.2.2).1, (rc_st o.2.2.1 o.2.2.2).2, hf with
    | [11], w :: k1 :: lo :: hi :: t :: u :: s :: p :: m :: c :: dq :: kq :: g, [h] => ra_gd (rb_far a.1 F h (rb_df k1 dq 0)) (some [((a.1, a.2.1, a.2.2.1, a.2.2.2.1.set i (rc_oc o [12] (w :: (0, 1) :: lo :: hi :: t :: u :: s :: p :: m :: c :: dq :: kq :: g)), a.2.2.2.2), F)])
    | _, _, _ => none
  | none => none
theorem rd_63_ok {i : Nat} {hf : List rb_H} {a : ra_S} {F : rb_D} {outs : rb_O} (h : rd_63 i hf a F = some outs) : rb_alt b0 ad0 cT a F outs := by
  unfold rd_63 at h
  split at h
  · rename_i o ho
    have ho := rc_o_ok ho
    split at h
    · rename_i w k1 lo hi t u s p m c dq kq g hh hp hs
      have hq0 := ra_gd_ok h; clear h; obtain ⟨h1, h⟩ := hq0
      cases h
      refine rd_kn ho hp hs (fun v lvv stv ws hg hdv f hf h0 hall => ?_)
      have d := rb_far_ok hg.1 hdv h1
      rw [rb_df_ev] at d
      exact Or.inl ⟨rfl, fun n hn => hall n (by omega)⟩
    · cases h
  · cases h
def rd_64 (i w2 jt ju : Nat) (js : List Nat) (hf : List rb_H) (a : ra_S) (F : rb_D) : Option rb_O := match rc_o (a.2.2.2.1[i]?) with
  | some o => match (rc_st o.2.2.1 o.2.2.2).1, (rc_st o.2.2.1 o.2.2.2).2, hf with
    | [11], w :: k1 :: lo :: hi :: t :: u :: s :: p :: m :: c :: dq :: kq :: g, h0 :: h1 :: h2 :: hs => match rd_is a F o w k1 s p m c js hs, rd_me a.1 a.2.2.2.1 jt k1 t, rd_me a.1 a.2.2.2.1 ju k1 u with
      | some b, some xt, some xu => ra_gd (b.1 != b.2 && (rb_far a.1 F h0 (rb_df dq k1 (-1)) && (rb_far a.1 F h1 (rb_df kq xt 0) && (match w2 with
        | 0 => rb_far a.1 F h2 ([(xu.1, -1)], -1 - xu.2)
        | _ => rb_far a.1 F h2 (rb_df xu kq (-1)))))) (some [((a.1, a.2.1, a.2.2.1, a.2.2.2.1.set i (rc_oc o [12] (w :: (0, 0) :: lo :: hi :: t :: u :: s :: p :: m :: c :: dq :: kq :: g)), a.2.2.2.2), F)])
      | _, _, _ => none
    | _, _, _ => none
  | none => none
theorem rd_64_ok {i w2 jt ju : Nat} {js : List Nat} {hf : List rb_H} {a : ra_S} {F : rb_D} {outs : rb_O} (h : rd_64 i w2 jt ju js hf a F = some outs) : rb_alt b0 ad0 cT a F outs := by
  unfold rd_64 at h
  split at h
  · rename_i o ho
    have ho := rc_o_ok ho
    split at h
    · rename_i w k1 lo hi t u s p m c dq kq g h0 h1 h2 hs hp hss
      split at h
      · rename_i b xt xu e1 e2 e3
        have hq0 := ra_gd_ok h; clear h; obtain ⟨g1, h⟩ := hq0
        simp only [Bool.and_eq_true, bne_iff_ne, ne_eq] at g1
        obtain ⟨c1, c2, c3, c4⟩ := g1
        cases h
        refine rd_kn ho hp hss (fun v lvv stv ws hg hdv f hf h0 hall => ?_)
        have hN := hg.1
        have d2 := rb_far_ok hN hdv c2
        have d3 := rb_far_ok hN hdv c3
        rw [rb_df_ev] at d2 d3
        have y := rd_is_ok e1 hg hdv hf
        have yt := (rd_me_ok hg e2).2
        have yu := (rd_me_ok hg e3).2
        have hu : v xu.1 + xu.2 < 0 ∨ v kq.1 + kq.2 < v xu.1 + xu.2 := by
          split at c4
          · have d4 := rb_far_ok hN hdv c4
            rw [rb_ev1] at d4
            exact Or.inl (by omega)
          · have d4 := rb_far_ok hN hdv c4
            rw [rb_df_ev] at d4
            exact Or.inr (by omega)
        refine Or.inr ⟨rfl, fun hfit => ?_⟩
        have := hfit (v k1.1 + k1.2).toNat (by omega)
        rcases this with z | z | z
        · rw [yt] at z
          omega
        · rw [yu] at z
          omega
        · rw [y.1, y.2] at z
          apply c1
          revert z
          cases b.1 <;> cases b.2 <;> simp
      · cases h
    · cases h
  · cases h
def rd_65 (i : Nat) (a : ra_S) (F : rb_D) : Option rb_O := match rc_o (a.2.2.2.1[i]?) with
  | some o => match (rc_st o.2.2.1 o.2.2.2).1, (rc_st o.2.2.1 o.2.2.2).2 with
    | [12], w :: r :: ps => match (ps.drop 10)[(ra_rg a.1 w).1.toNat]? with
      | some g => ra_gd (ra_eqb (ra_rg a.1 w).1 (ra_rg a.1 w).2 && ra_eqb (ra_rg a.1 r).1 (ra_rg a.1 r).2) (some ((rb_oe (rb_mn a.1 g (ra_rg a.1 r).1 (ra_rg a.1 r).1)).map (fun e => ((e, a.2.1, a.2.2.1, a.2.2.2.1.set i (rc_oc o [10] ps), a.2.2.2.2), F))))
      | none => none
    | _, _ => none
  | none => none
theorem rd_65_ok {i : Nat} {a : ra_S} {F : rb_D} {outs : rb_O} (h : rd_65 i a F = some outs) : rb_alt b0 ad0 cT a F outs := by
  unfold rd_65 at h
  split at h
  · rename_i o ho
    have ho := rc_o_ok ho
    split at h
    · rename_i w r ps hp hs
      split at h
      · rename_i g hgg
        have hq0 := ra_gd_ok h; clear h; obtain ⟨g1, h⟩ := hq0
        rw [Bool.and_eq_true] at g1
        have c1 := ra_eqb_eq g1.1
        have c2 := ra_eqb_eq g1.2
        cases h
        intro v lvv stv ws hg hdb hdv
        have hN : ra_cN v a.1 := hg.1
        obtain ⟨q1, w1, o1, o2, f, f1, f2⟩ := ra_a2_get hg.2.2.2.1 ho
        obtain ⟨m1, m2⟩ := rc_st_ok f2
        rw [hp, hs] at m1
        rw [hs] at m2
        obtain ⟨b1, b2, b3, b4⟩ := m1
        have b1 : 0 ≤ v w.1 + w.2 := b1
        have b4 : ∀ x, ((ps.map (fun q => v q.1 + q.2)).drop 10)[(v w.1 + w.2).toNat]? = some x → x = v r.1 + r.2 := b4
        have lw : w.1 < a.1.length := o2 w (m2 w (by simp))
        have lr : r.1 < a.1.length := o2 r (m2 r (by simp))
        have lps : ∀ q ∈ ps, q.1 < a.1.length := fun q hq => o2 q (m2 q (by simp [hq]))
        have lg : g.1 < a.1.length := lps g (List.mem_of_mem_drop (List.mem_of_getElem? hgg))
        have r1 := rb_rgI hN lw
        have r2 := rb_rgI hN lr
        have ew : v w.1 + w.2 = (ra_rg a.1 w).1 := by omega
        have b5 := b4 (v g.1 + g.2) (by rw [ew, ← List.map_drop, List.getElem?_map, hgg]; rfl)
        obtain ⟨e, e1, e2, e3⟩ := rb_mn_ok hN lg (lo := (ra_rg a.1 r).1) (hi := (ra_rg a.1 r).1) (by omega) (by omega)
        obtain ⟨env, lv, st, aw, ce, sl⟩ := a
        have e3 : e.length = env.length := e3
        refine ⟨_, List.mem_map.mpr ⟨e, rb_oe_in e1, rfl⟩, rfl, Nat.le_of_eq e3.symm, v, fun _ _ => rfl, rc_g1 hg (Nat.le_of_eq e3.symm) (fun _ _ => rfl) e2 w1 ⟨o1, fun q hq => ?_, f, f1, b3⟩, ?_, hdv⟩
        · have := lps q hq
          dsimp only at this
          omega
        · show rb_db e.length F = true
          rw [e3]
          exact hdb
      · cases h
    · cases h
  · cases h
/-- bounds alone -/
def rd_bd (pid : List Nat) (ps : List (Nat × Int)) : Option (Int × Int) := match pid, ps with
  | [9], [_, lo, hi] => ra_gd (Nat.beq lo.1 0 && Nat.beq hi.1 0) (some (lo.2, hi.2))
  | [10], lo :: hi :: _ => ra_gd (Nat.beq lo.1 0 && Nat.beq hi.1 0) (some (lo.2, hi.2))
  | [11], _ :: _ :: lo :: hi :: _ => ra_gd (Nat.beq lo.1 0 && Nat.beq hi.1 0) (some (lo.2, hi.2))
  | [12], _ :: _ :: lo :: hi :: _ => ra_gd (Nat.beq lo.1 0 && Nat.beq hi.1 0) (some (lo.2, hi.2))
  | _, _ => none
theorem rd_b8b {lo hi : Int} {ps : List Int} {n : Nat} {f : Nat → Int} (h : rd_b8 (lo :: hi :: ps) n f) : ∀ j, j < n → lo ≤ f j ∧ f j ≤ hi := by
  unfold rd_b8 at h
  split at h
  · rename_i e
    injection e with e1 e2
    injection e2 with e2 e3
    subst e1 e2
    exact h.1
  · exact h.elim
theorem rd_bd_ok {v : Nat → Int} (h0 : v 0 = 0) {pid : List Nat} {ps : List (Nat × Int)} {b : Int × Int} (h : rd_bd pid ps = some b) {n : Nat} {f : Nat → Int} (hf : ra_phi pid (ps.map (fun q => v q.1 + q.2)) n f) : ∀ j, j < n → b.1 ≤ f j ∧ f j ≤ b.2 := by
  have z : ∀ {lo hi : Nat × Int}, (Nat.beq lo.1 0 && Nat.beq hi.1 0) = true → v lo.1 + lo.2 = lo.2 ∧ v hi.1 + hi.2 = hi.2 := by
    intro lo hi hh
    rw [Bool.and_eq_true] at hh
    rw [Nat.eq_of_beq_eq_true hh.1, Nat.eq_of_beq_eq_true hh.2, h0]
    omega
  unfold rd_bd at h
  split at h
  · rename_i c lo hi
    have hq0 := ra_gd_ok h; clear h; obtain ⟨g1, h⟩ := hq0
    cases h
    obtain ⟨z1, z2⟩ := z g1
    intro j hj
    have hf : rd_bd [9] [c, lo, hi] = rd_bd [9] [c, lo, hi] ∧ (0 ≤ v c.1 + c.2 ∧ ∀ j, j < n → f j = rd_dig (v c.1 + c.2).toNat j ∧ v lo.1 + lo.2 ≤ f j ∧ f j ≤ v hi.1 + hi.2) := ⟨rfl, hf⟩
    have := (hf.2.2 j hj).2
    rw [z1, z2] at this
    exact this
  · rename_i lo hi u
    have hq0 := ra_gd_ok h; clear h; obtain ⟨g1, h⟩ := hq0
    cases h
    obtain ⟨z1, z2⟩ := z g1
    have hf : rd_b8 ((v lo.1 + lo.2) :: (v hi.1 + hi.2) :: u.map (fun q => v q.1 + q.2)) n f := hf
    rw [z1, z2] at hf
    exact rd_b8b hf
  · rename_i c d lo hi u
    have hq0 := ra_gd_ok h; clear h; obtain ⟨g1, h⟩ := hq0
    cases h
    obtain ⟨z1, z2⟩ := z g1
    obtain ⟨-, -, -, hf, -⟩ := hf
    have hf : rd_b8 ((v lo.1 + lo.2) :: (v hi.1 + hi.2) :: u.map (fun q => v q.1 + q.2)) n f := hf
    rw [z1, z2] at hf
    exact rd_b8b hf
  · rename_i c d lo hi u
    have hq0 := ra_gd_ok h; clear h; obtain ⟨g1, h⟩ := hq0
    cases h
    obtain ⟨z1, z2⟩ := z g1
    obtain ⟨-, -, hf, -⟩ := hf
    have hf : rd_b8 ((v lo.1 + lo.2) :: (v hi.1 + hi.2) :: u.map (fun q => v q.1 + q.2)) n f := hf
    rw [z1, z2] at hf
    exact rd_b8b hf
  · cases h
def rd_66 (i : Nat) (a : ra_S) (F : rb_D) : Option rb_O := match rc_o (a.2.2.2.1[i]?) with
  | some o => match rd_bd (rc_st o.2.2.1 o.2.2.2).1 (rc_st o.2.2.1 o.2.2.2).2 with
    | some b => some [((a.1, a.2.1, a.2.2.1, a.2.2.2.1.set i (.inr (.inr (.inl (o.1, o.2.1, b.1, b.2)))), a.2.2.2.2), F)]
    | none => none
  | none => none
theorem rd_66_ok {i : Nat} {a : ra_S} {F : rb_D} {outs : rb_O} (h : rd_66 i a F = some outs) : rb_alt b0 ad0 cT a F outs := by
  obtain ⟨env, lv, st, aw, ce, sl⟩ := a
  unfold rd_66 at h
  dsimp only at h
  split at h
  · rename_i o ho
    have ho := rc_o_ok ho
    split at h
    · rename_i b hb
      cases h
      intro v lvv stv ws hg hdb hdv
      have hN : ra_cN v env := hg.1
      refine ⟨_, List.mem_singleton.mpr rfl, rfl, Nat.le_refl _, v, fun _ _ => rfl, rb_recell hg (Nat.le_refl _) (fun _ _ => rfl) hg.1 ho (fun x hx => ?_), hdb, hdv⟩
      obtain ⟨o1, o2, f, f1, f2⟩ := hx
      exact Or.inl ⟨o1, f, f1, rd_bd_ok hN.2.1 hb (rc_st_ok f2).1⟩
    · cases h
  · cases h
def rd_68 (i : Nat) (a : ra_S) (F : rb_D) : Option rb_O := match rc_o (a.2.2.2.1[i]?) with
  | some o => match o.2.2.1, o.2.2.2, rd_bd (rc_st o.2.2.1 o.2.2.2).1 (rc_st o.2.2.1 o.2.2.2).2 with
    | 0 :: _, z :: x :: _, some b => ra_gd (ra_leb ((ra_rg a.1 z).2 + 1) o.2.1) (some (rb_envs a F (rb_oe (rb_mn a.1 x b.1 b.2))))
    | _, _, _ => none
  | none => none
theorem rd_68_ok {i : Nat} {a : ra_S} {F : rb_D} {outs : rb_O} (h : rd_68 i a F = some outs) : rb_alt b0 ad0 cT a F outs := by
  unfold rd_68 at h
  split at h
  · rename_i o ho
    have ho := rc_o_ok ho
    split at h
    · rename_i t z x u b hp hs hb
      have hq0 := ra_gd_ok h; clear h; obtain ⟨h1, h⟩ := hq0
      have h1 := ra_leb_le h1
      cases h
      intro v lvv stv ws hg hdb hdv
      have hN : ra_cN v a.1 := hg.1
      obtain ⟨q1, w1, o1, o2, f, f1, f2⟩ := ra_a2_get hg.2.2.2.1 ho
      have hbb := rd_bd_ok hN.2.1 hb (rc_st_ok f2).1
      rw [hp, hs] at f2
      rw [hs] at o2
      have lz : z.1 < a.1.length := o2 z (by simp)
      have lx : x.1 < a.1.length := o2 x (by simp)
      obtain ⟨m0, m1, -⟩ := f2
      have m0 : 0 ≤ v z.1 + z.2 := m0
      have m1 : (f (v z.1 + z.2).toNat).toInt = v x.1 + x.2 := m1
      have hr := rb_rgI hN lz
      have := hbb (v z.1 + z.2).toNat (by omega)
      rw [m1] at this
      obtain ⟨e, e1, e2, e3⟩ := rb_mn_ok hN lx this.1 this.2
      obtain ⟨env, lv, st, aw, ce, sl⟩ := a
      refine ⟨_, List.mem_map.mpr ⟨e, rb_oe_in e1, rfl⟩, rfl, Nat.le_of_eq e3.symm, v, fun _ _ => rfl, ra_g_ext hg (Nat.le_of_eq e3.symm) (fun _ _ => rfl) e2, ?_, hdv⟩
      show rb_db e.length F = true
      rw [e3]
      exact hdb
    · cases h
  · cases h
/-- for each whether it fits, by a number of its own -/
def rd_67 (i : Nat) (d : List (Nat × Int)) (a : ra_S) (F : rb_D) : Option rb_O := match a, d with
  | (env, lv, st, aw, ce, sl), [t, u, s, p, m, c, dq, kq] => match aw[i]? with
    | some (.inr (.inr (.inl o))) => ra_gd (Nat.blt o.1 3 && [t, u, s, p, m, c, dq, kq].all (fun q => Nat.blt q.1 env.length)) (some [((env ++ List.replicate 100 (0, 1), lv, st, aw.set i (.inr (.inr (.inr (o.1, o.2.1, [10], (0, o.2.2.1) :: (0, o.2.2.2) :: t :: u :: s :: p :: m :: c :: dq :: kq :: (List.range 100).map (fun j => (env.length + j, 0)))))), ce, sl), F)])
    | _ => none
  | _, _ => none
theorem rd_67_ok {i : Nat} {d : List (Nat × Int)} {a : ra_S} {F : rb_D} {outs : rb_O} (h : rd_67 i d a F = some outs) : rb_alt b0 ad0 cT a F outs := by
  unfold rd_67 at h
  split at h
  · rename_i env lv st aw ce sl t u s p m c dq kq
    split at h
    · rename_i o ho
      have hq0 := ra_gd_ok h; clear h; obtain ⟨h1, h⟩ := hq0
      rw [Bool.and_eq_true] at h1
      have k1 : o.1 < 3 := Nat.le_of_ble_eq_true h1.1
      have k2 : ∀ q ∈ [t, u, s, p, m, c, dq, kq], q.1 < env.length := fun q hq => Nat.le_of_ble_eq_true (List.all_eq_true.mp h1.2 q hq)
      cases h
      intro v lvv stv ws hg hdb hdv
      have hN : ra_cN v env := hg.1
      obtain ⟨q1, w1, w2⟩ := ra_a2_get hg.2.2.2.1 ho
      rcases w2 with ⟨h0, f, e1, e2⟩ | ⟨h0, -⟩
      · have hex : ∀ w : Nat, ∃ x : Int, (x = 1 ∧ rd_fit (fun j => (f j).toInt) (v t.1 + t.2) (v u.1 + u.2) (v s.1 + s.2) (v p.1 + p.2) (v m.1 + m.2) (v c.1 + c.2) (v kq.1 + kq.2) w (v dq.1 + dq.2)) ∨ (x = 0 ∧ ¬ rd_fit (fun j => (f j).toInt) (v t.1 + t.2) (v u.1 + u.2) (v s.1 + s.2) (v p.1 + p.2) (v m.1 + m.2) (v c.1 + c.2) (v kq.1 + kq.2) w (v dq.1 + dq.2)) := fun w => by
          by_cases hc : rd_fit (fun j => (f j).toInt) (v t.1 + t.2) (v u.1 + u.2) (v s.1 + s.2) (v p.1 + p.2) (v m.1 + m.2) (v c.1 + c.2) (v kq.1 + kq.2) w (v dq.1 + dq.2)
          · exact ⟨1, Or.inl ⟨rfl, hc⟩⟩
          · exact ⟨0, Or.inr ⟨rfl, hc⟩⟩
        obtain ⟨gv, hgv⟩ := Classical.axiomOfChoice hex
        have hg01 : ∀ w, 0 ≤ gv w ∧ gv w ≤ 1 := fun w => by
          rcases hgv w with ⟨q, -⟩ | ⟨q, -⟩ <;> omega
        obtain ⟨v', hv'⟩ : ∃ v' : Nat → Int, v' = fun j => if j < env.length then v j else gv (j - env.length) := ⟨_, rfl⟩
        have n1 : ∀ i, i < env.length → v' i = v i := fun i hi => by rw [hv']; exact if_pos hi
        have n2 : ∀ j, v' (env.length + j) = gv j := fun j => by
          rw [hv']
          show (if env.length + j < env.length then v (env.length + j) else gv (env.length + j - env.length)) = gv j
          rw [if_neg (by omega), Nat.add_sub_cancel_left]
        have hl : env.length ≤ (env ++ List.replicate 100 ((0 : Int), (1 : Int))).length := by simp
        have hN' : ra_cN v' (env ++ List.replicate 100 ((0 : Int), (1 : Int))) := by
          obtain ⟨n3, n4, n5⟩ := hN
          refine ⟨by simp, by rw [n1 0 n3]; exact n4, fun i q hq => ?_⟩
          rcases Nat.lt_or_ge i env.length with hi | hi
          · rw [List.getElem?_append_left hi] at hq
            rw [n1 i hi]
            exact n5 i q hq
          · rw [List.getElem?_append_right hi, List.getElem?_replicate] at hq
            split at hq
            · cases hq
              have e : i = env.length + (i - env.length) := by omega
              rw [e, n2]
              exact hg01 _
            · cases hq
        have hz := hN.2.1
        have hp := hN.1
        refine ⟨_, List.mem_singleton.mpr rfl, rfl, hl, v', n1, rc_g1 hg hl n1 hN' w1 ⟨h0, fun q hq => ?_, f, e1, ?_⟩, rb_db_mono hl hdb, rb_dv_ext hdb n1 hdv⟩
        · have hlen : (env ++ List.replicate 100 ((0 : Int), (1 : Int))).length = env.length + 100 := by simp
          rw [hlen]
          rcases List.mem_cons.mp hq with e | hq
          · rw [e]; dsimp only; omega
          · rcases List.mem_cons.mp hq with e | hq
            · rw [e]; dsimp only; omega
            · have hq2 : q ∈ [t, u, s, p, m, c, dq, kq] ++ (List.range 100).map (fun j => (env.length + j, (0 : Int))) := hq
              rcases List.mem_append.mp hq2 with hq2 | hq2
              · have := k2 q hq2
                omega
              · obtain ⟨j, hj, rfl⟩ := List.mem_map.mp hq2
                have := List.mem_range.mp hj
                dsimp only
                omega
        · have kt := n1 _ (k2 t (by simp))
          have ku := n1 _ (k2 u (by simp))
          have ks := n1 _ (k2 s (by simp))
          have kp := n1 _ (k2 p (by simp))
          have km := n1 _ (k2 m (by simp))
          have kc := n1 _ (k2 c (by simp))
          have kd := n1 _ (k2 dq (by simp))
          have kk := n1 _ (k2 kq (by simp))
          have k0 := n1 0 hp
          show rd_b8 ((v' 0 + o.2.2.1) :: (v' 0 + o.2.2.2) :: (v' t.1 + t.2) :: (v' u.1 + u.2) :: (v' s.1 + s.2) :: (v' p.1 + p.2) :: (v' m.1 + m.2) :: (v' c.1 + c.2) :: (v' dq.1 + dq.2) :: (v' kq.1 + kq.2) :: ((List.range 100).map (fun j => (env.length + j, (0 : Int)))).map (fun q => v' q.1 + q.2)) o.2.1 (fun j => (f j).toInt)
          rw [kt, ku, ks, kp, km, kc, kd, kk, k0, hz]
          refine ⟨fun j hj => ?_, fun w x hx => ?_⟩
          · have := e2 j hj
            show 0 + o.2.2.1 ≤ (f j).toInt ∧ (f j).toInt ≤ 0 + o.2.2.2
            omega
          · have hw : w < 100 := by
              have := (List.getElem?_eq_some_iff.mp hx).1
              simpa using this
            rw [List.getElem?_map, List.getElem?_map, List.getElem?_range hw] at hx
            simp only [Option.map_some, Option.some.injEq] at hx
            rw [n2, Int.add_zero] at hx
            rw [← hx]
            exact hgv w
      · omega
    · cases h
  · cases h
def rd_lem (n : Nat) (d : List (Nat × Int)) (is : List Nat) (hf : List rb_H) (a : ra_S) (F : rb_D) : Option rb_O := match n with
  | 13 => match is with
    | [i] => rd_13 i a F
    | _ => none
  | 50 => match is with
    | [i] => rd_50 i a F
    | _ => none
  | 51 => match is, d with
    | [i, k], [z] => rd_51 i k z hf a F
    | _, _ => none
  | 52 => rd_52 is d hf a F
  | 53 => match is with
    | [i] => rd_53 i a F
    | _ => none
  | 60 => match is with
    | [i] => rd_60 i a F
    | _ => none
  | 61 => match is, d with
    | [i], [q] => rd_61 i q a F
    | _, _ => none
  | 62 => match is with
    | [i, j] => rd_62 i j hf a F
    | _ => none
  | 63 => match is with
    | [i] => rd_63 i hf a F
    | _ => none
  | 64 => match is with
    | i :: w2 :: jt :: ju :: js => rd_64 i w2 jt ju js hf a F
    | _ => none
  | 65 => match is with
    | [i] => rd_65 i a F
    | _ => none
  | 66 => match is with
    | [i] => rd_66 i a F
    | _ => none
  | 67 => match is with
    | [i] => rd_67 i d a F
    | _ => none
  | 68 => match is with
    | [i] => rd_68 i a F
    | _ => none
  | 69 => match is with
    | [i, j] => rd_69 i j hf a F
    | _ => none
  | 70 => match is with
    | i :: js => rd_70 i js hf a F
    | _ => none
  | _ => none
theorem rd_lem_ok {n : Nat} {d : List (Nat × Int)} {is : List Nat} {hf : List rb_H} {a : ra_S} {F : rb_D} {outs : rb_O} (h : rd_lem n d is hf a F = some outs) : rb_alt b0 ad0 cT a F outs := by
  unfold rd_lem at h
  split at h
  · split at h
    · exact rd_13_ok h
    · cases h
  · split at h
    · exact rd_50_ok h
    · cases h
  · split at h
    · exact rd_51_ok h
    · cases h
  · exact rd_52_ok h
  · split at h
    · exact rd_53_ok h
    · cases h
  · split at h
    · exact rd_60_ok h
    · cases h
  · split at h
    · exact rd_61_ok h
    · cases h
  · split at h
    · exact rd_62_ok h
    · cases h
  · split at h
    · exact rd_63_ok h
    · cases h
  · split at h
    · exact rd_64_ok h
    · cases h
  · split at h
    · exact rd_65_ok h
    · cases h
  · split at h
    · exact rd_66_ok h
    · cases h
  · split at h
    · exact rd_67_ok h
    · cases h
  · split at h
    · exact rd_68_ok h
    · cases h
  · split at h
    · exact rd_69_ok h
    · cases h
  · split at h
    · exact rd_70_ok h
    · cases h
  · cases h
def rb_lem (n : Nat) (d : List (Nat × Int)) (is : List Nat) (hf : List rb_H) (a : ra_S) (F : rb_D) : Option rb_O := match Nat.ble 50 n || Nat.beq n 13 with
  | true => rd_lem n d is hf a F
  | false => rb_lem0 n d is hf a F
theorem rb_lem_ok {n : Nat} {d : List (Nat × Int)} {is : List Nat} {hf : List rb_H} {a : ra_S} {F : rb_D} {outs : rb_O} (h : rb_lem n d is hf a F = some outs) : rb_alt b0 ad0 cT a F outs := by
  unfold rb_lem at h
  split at h
  · exact rd_lem_ok h
  · exact rb_lem0_ok h
end
end
