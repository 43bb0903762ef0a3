noncomputable section
/-! what fits, step by step -/
section
variable {b0 : Nat → Nat} {ad0 : List Nat} {cT : Nat → ClassId}
theorem rd_b80 {ps : List Int} {n : Nat} {f : Nat → Int} {w : Int} (h : rd_b8 ps n f) : rd_b9 ps w 0 f := by
  unfold rd_b8 at h
  split at h
  · exact fun j hj => absurd hj (by omega)
  · exact h.elim
def rd_61 (i : Nat) (q : Nat × Int) (a : ra_S) (F : rb_D) : Option rb_O := match rc_o (a.2.2.2.1[i]?) with
  | some o => match o.2.2.1 with
    | [10] => ra_gd (Nat.blt q.1 a.1.length && (ra_leb 0 (ra_rg a.1 q).1 && ra_leb (ra_rg a.1 q).2 99)) (some [((a.1, a.2.1, a.2.2.1, a.2.2.2.1.set i (rc_oc o [11] (q :: (0, 0) :: o.2.2.2)), a.2.2.2.2), F)])
    | _ => none
  | none => none
theorem rd_61_ok {i : Nat} {q : Nat × Int} {a : ra_S} {F : rb_D} {outs : rb_O} (h : rd_61 i q a F = some outs) : rb_alt b0 ad0 cT a F outs := by
  unfold rd_61 at h
  split at h
  · rename_i o ho
    have ho := rc_o_ok ho
    split at h
    · rename_i hp
      have hq0 := ra_gd_ok h; clear h; obtain ⟨h1, h⟩ := hq0
      simp only [Bool.and_eq_true] at h1
      obtain ⟨c1, c2, c3⟩ := h1
      have c1 : q.1 < a.1.length := Nat.le_of_ble_eq_true c1
      have c2 := ra_leb_le c2
      have c3 := ra_leb_le c3
      cases h
      refine rc_alt1 ho (fun v hN hF hbd f hf => ?_)
      rw [hp] at hf
      have hf : rd_b8 (o.2.2.2.map (fun q => v q.1 + q.2)) o.2.1 f := hf
      have hr := rb_rgI hN c1
      refine ⟨fun t ht => ?_, ?_⟩
      · rcases List.mem_cons.mp ht with e | ht
        · rw [e]; exact c1
        · rcases List.mem_cons.mp ht with e | ht
          · rw [e]; exact hN.1
          · exact hbd t ht
      · show 0 ≤ v q.1 + q.2 ∧ v q.1 + q.2 ≤ 99 ∧ 0 ≤ v 0 + 0 ∧ rd_b8 (o.2.2.2.map (fun q => v q.1 + q.2)) o.2.1 f ∧ rd_b9 (o.2.2.2.map (fun q => v q.1 + q.2)) (v q.1 + q.2) (v 0 + 0) f
        rw [hN.2.1]
        exact ⟨by omega, by omega, by omega, hf, rd_b80 hf⟩
    · cases h
  · cases h
/-- what was read of a coded row -/
def rd_me (env : ra_N) (aw : List ra_C) (j : Nat) (k c : Nat × Int) : Option (Nat × Int) := match rc_o (aw[j]?) with
  | some o => match o.2.2.1, o.2.2.2 with
    | 0 :: _, z :: x :: _ => match (rc_st o.2.2.1 o.2.2.2).1, (rc_st o.2.2.1 o.2.2.2).2 with
      | [9], [c', _, _] => ra_gd (rc_eq z k && (rc_eq c' c && ra_leb ((ra_rg env k).2 + 1) o.2.1)) (some x)
      | _, _ => none
    | _, _ => none
  | none => none
theorem rd_me_ok {a : ra_S} {v : Nat → Int} {lvv : List (Nat × Value)} {stv : List Value} {ws : va_W} (hg : ra_g b0 ad0 cT v a lvv stv ws) {j : Nat} {k c x : Nat × Int} (h : rd_me a.1 a.2.2.2.1 j k c = some x) : x.1 < a.1.length ∧ rd_dig (v c.1 + c.2).toNat (v k.1 + k.2).toNat = v x.1 + x.2 := by
  unfold rd_me at h
  split at h
  · rename_i o ho
    have ho := rc_o_ok ho
    split at h
    · rename_i t z y u hp hs
      split at h
      · rename_i c' lo hi s1 s2
        have hq0 := ra_gd_ok h; clear h; obtain ⟨h1, h⟩ := hq0
        simp only [Bool.and_eq_true] at h1
        obtain ⟨c1, c2, c3⟩ := h1
        have c1 := rc_eq_ok c1
        have c2 := rc_eq_ok c2
        have c3 := ra_leb_le c3
        cases h
        subst c1 c2
        have hN : ra_cN v a.1 := hg.1
        obtain ⟨q1, w1, o1, o2, f, f1, f2⟩ := ra_a2_get hg.2.2.2.1 ho
        have m := (rc_st_ok f2).1
        rw [s1, s2] at m
        have m : ra_base 7 [v c'.1 + c'.2, v lo.1 + lo.2, v hi.1 + hi.2] o.2.1 (fun j => (f j).toInt) := m
        rw [hp, hs] at f2
        rw [hs] at o2
        have lz : z.1 < a.1.length := o2 z (by simp)
        obtain ⟨m0, m1, -⟩ := f2
        have m0 : 0 ≤ v z.1 + z.2 := m0
        have m1 : (f (v z.1 + z.2).toNat).toInt = v x.1 + x.2 := m1
        have hr := rb_rgI hN lz
        have := (m.2 (v z.1 + z.2).toNat (by omega)).1
        refine ⟨o2 x (by simp), ?_⟩
        rw [← this]
        exact m1
      · cases h
    · cases h
  · cases h
/-- one more is so -/
theorem rd_nx {a : ra_S} {F : rb_D} {i : Nat} {o : ra_O} (ho : a.2.2.2.1[i]? = some (.inr (.inr (.inr o)))) {w k1 lo hi t u s p m c dq kq : Nat × Int} {g : List (Nat × Int)} (h1 : (rc_st o.2.2.1 o.2.2.2).1 = [11]) (h2 : (rc_st o.2.2.1 o.2.2.2).2 = w :: k1 :: lo :: hi :: t :: u :: s :: p :: m :: c :: dq :: kq :: g)
    (h : ∀ (v : Nat → Int) (lvv : List (Nat × Value)) (stv : List Value) (ws : va_W), ra_g b0 ad0 cT v a lvv stv ws → rb_dv v F → ∀ f : Nat → Int, ra_phi o.2.2.1 (o.2.2.2.map (fun q => v q.1 + q.2)) o.2.1 f → rd_ok1 f (v t.1 + t.2) (v u.1 + u.2) (v s.1 + s.2) (v p.1 + p.2) (v m.1 + m.2) (v c.1 + c.2) (v kq.1 + kq.2) (v w.1 + w.2) (v k1.1 + k1.2).toNat) :
    rb_alt b0 ad0 cT a F [((a.1, a.2.1, a.2.2.1, a.2.2.2.1.set i (rc_oc o [11] (w :: rc_p1 k1 :: lo :: hi :: t :: u :: s :: p :: m :: c :: dq :: kq :: g)), a.2.2.2.2), F)] := by
  intro v lvv stv ws hg hdb hdv
  obtain ⟨q1, w1, o1, o2, f, f1, f2⟩ := ra_a2_get hg.2.2.2.1 ho
  have hok := h v lvv stv ws hg hdv _ f2
  obtain ⟨m1, m2⟩ := rc_st_ok f2
  rw [h1, h2] at m1
  rw [h2] at m2
  obtain ⟨b1, b2, b3, b4, b5⟩ := m1
  have b3 : 0 ≤ v k1.1 + k1.2 := b3
  have b5 : ∀ j : Nat, (j : Int) < v k1.1 + k1.2 → rd_ok1 (fun j => (f j).toInt) (v t.1 + t.2) (v u.1 + u.2) (v s.1 + s.2) (v p.1 + p.2) (v m.1 + m.2) (v c.1 + c.2) (v kq.1 + kq.2) (v w.1 + w.2) j := b5
  obtain ⟨env, lv, st, aw, ce, sl⟩ := a
  have o3 : ∀ q ∈ w :: k1 :: lo :: hi :: t :: u :: s :: p :: m :: c :: dq :: kq :: g, q.1 < env.length := fun q hq => o2 q (m2 q hq)
  refine ⟨_, List.mem_singleton.mpr rfl, rfl, Nat.le_refl _, v, fun _ _ => rfl, rc_g1 hg (Nat.le_refl _) (fun _ _ => rfl) hg.1 w1 ⟨o1, fun q hq => ?_, f, f1, ?_⟩, hdb, hdv⟩
  · rcases List.mem_cons.mp hq with e | hq
    · rw [e]; exact o3 w (by simp)
    · rcases List.mem_cons.mp hq with e | hq
      · rw [e]; exact o3 k1 (by simp)
      · exact o3 q (List.mem_cons_of_mem _ (List.mem_cons_of_mem _ hq))
  · refine ⟨b1, b2, ?_, b4, ?_⟩
    · show 0 ≤ v (rc_p1 k1).1 + (rc_p1 k1).2
      rw [rc_p1_v]
      omega
    · show ∀ j : Nat, (j : Int) < v (rc_p1 k1).1 + (rc_p1 k1).2 → rd_ok1 (fun j => (f j).toInt) (v t.1 + t.2) (v u.1 + u.2) (v s.1 + s.2) (v p.1 + p.2) (v m.1 + m.2) (v c.1 + c.2) (v kq.1 + kq.2) (v w.1 + w.2) j
      rw [rc_p1_v]
      intro j hj
      by_cases hj2 : (j : Int) < v k1.1 + k1.2
      · exact b5 j hj2
      · have e : j = (v k1.1 + k1.2).toNat := by omega
        rw [e]
        exact hok
abbrev rd_w11 (a : ra_S) (i : Nat) (o : ra_O) (F : rb_D) (ps : List (Nat × Int)) : rb_O := [((a.1, a.2.1, a.2.2.1, a.2.2.2.1.set i (rc_oc o [11] ps), a.2.2.2.2), F)]
def rd_62 (i j : Nat) (hf : List rb_H) (a : ra_S) (F : rb_D) : Option rb_O := match rc_o (a.2.2.2.1[i]?) with
  | some o => match (rc_st o.2.2.1 o.2.2.2).1, (rc_st o.2.2.1 o.2.2.2).2, hf with
    | [11], w :: k1 :: lo :: hi :: t :: u :: s :: p :: m :: c :: dq :: kq :: g, [h] => match rd_me a.1 a.2.2.2.1 j k1 t with
      | some x => ra_gd (rb_far a.1 F h (rb_df x kq (-1))) (some (rd_w11 a i o F (w :: rc_p1 k1 :: lo :: hi :: t :: u :: s :: p :: m :: c :: dq :: kq :: g)))
      | none => none
    | _, _, _ => none
  | none => none
theorem rd_62_ok {i j : Nat} {hf : List rb_H} {a : ra_S} {F : rb_D} {outs : rb_O} (h : rd_62 i j hf a F = some outs) : rb_alt b0 ad0 cT a F outs := by
  unfold rd_62 at h
  split at h
  · rename_i o ho
    have ho := rc_o_ok ho
    split at h
    · rename_i w k1 lo hi t u s p m c dq kq g hh hp hs
      split at h
      · rename_i x hx
        have hq0 := ra_gd_ok h; clear h; obtain ⟨h1, h⟩ := hq0
        cases h
        refine rd_nx ho hp hs (fun v lvv stv ws hg hdv f hf => ?_)
        have e := (rd_me_ok hg hx).2
        have d := rb_far_ok hg.1 hdv h1
        rw [rb_df_ev] at d
        exact Or.inl (by rw [e]; omega)
      · cases h
    · cases h
  · cases h
def rd_69 (i j : Nat) (hf : List rb_H) (a : ra_S) (F : rb_D) : Option rb_O := match rc_o (a.2.2.2.1[i]?) with
  | some o => match (rc_st o.2.2.1 o.2.2.2).1, (rc_st o.2.2.1 o.2.2.2).2, hf with
    | [11], w :: k1 :: lo :: hi :: t :: u :: s :: p :: m :: c :: dq :: kq :: g, [h, h2] => match rd_me a.1 a.2.2.2.1 j k1 u with
      | some x => ra_gd (rb_far a.1 F h ([(x.1, 1)], x.2) && rb_far a.1 F h2 (rb_df kq x 0)) (some (rd_w11 a i o F (w :: rc_p1 k1 :: lo :: hi :: t :: u :: s :: p :: m :: c :: dq :: kq :: g)))
      | none => none
    | _, _, _ => none
  | none => none
theorem rd_69_ok {i j : Nat} {hf : List rb_H} {a : ra_S} {F : rb_D} {outs : rb_O} (h : rd_69 i j hf a F = some outs) : rb_alt b0 ad0 cT a F outs := by
  unfold rd_69 at h
  split at h
  · rename_i o ho
    have ho := rc_o_ok ho
    split at h
    · rename_i w k1 lo hi t u s p m c dq kq g hh hh2 hp hs
      split at h
      · rename_i x hx
        have hq0 := ra_gd_ok h; clear h; obtain ⟨h1, h⟩ := hq0
        rw [Bool.and_eq_true] at h1
        cases h
        refine rd_nx ho hp hs (fun v lvv stv ws hg hdv f hf => ?_)
        have e := (rd_me_ok hg hx).2
        have d := rb_far_ok hg.1 hdv h1.1
        have d2 := rb_far_ok hg.1 hdv h1.2
        rw [rb_df_ev] at d2
        rw [rb_ev1] at d
        exact Or.inr (Or.inl (by rw [e]; omega))
      · cases h
    · cases h
  · cases h
def rd_wx (z w s p : Nat × Int) : ra_L := ([(z.1, 1), (w.1, -120), (s.1, -12), (p.1, -1)], z.2 - 120 * w.2 - 12 * s.2 - p.2)
def rd_xw (z w s p : Nat × Int) : ra_L := ([(z.1, -1), (w.1, 120), (s.1, 12), (p.1, 1)], -(z.2 - 120 * w.2 - 12 * s.2 - p.2))
theorem rd_wx_ev (v : Nat → Int) (z w s p : Nat × Int) : ra_ev v (rd_wx z w s p) = (v z.1 + z.2) - 120 * (v w.1 + w.2) - 12 * (v s.1 + s.2) - (v p.1 + p.2) := by
  simp only [rd_wx, ra_ev, List.foldr_cons, List.foldr_nil]
  omega
theorem rd_xw_ev (v : Nat → Int) (z w s p : Nat × Int) : ra_ev v (rd_xw z w s p) = 120 * (v w.1 + w.2) + 12 * (v s.1 + s.2) + (v p.1 + p.2) - (v z.1 + z.2) := by
  simp only [rd_xw, ra_ev, List.foldr_cons, List.foldr_nil]
  omega
/-- is it so by the water that was read: what was read, and whether it is as much -/
def rd_is (a : ra_S) (F : rb_D) (o : ra_O) (w k1 s p m c : Nat × Int) (js : List Nat) (hf : List rb_H) : Option (Bool × Bool) := match o.2.2.1, o.2.2.2, js, hf with
  | 0 :: _, z :: y :: _, [j1, j2, j3, j4], [h1, h2, h3] => match rd_me a.1 a.2.2.2.1 j1 k1 s, rd_me a.1 a.2.2.2.1 j2 k1 p, rd_me a.1 a.2.2.2.1 j3 k1 m, rd_me a.1 a.2.2.2.1 j4 k1 c with
    | some xs, some xp, some xm, some xc => ra_gd (rb_far a.1 F h1 (rd_wx z w xs xp) && rb_far a.1 F h2 (rd_xw z w xs xp)) (match rb_far a.1 F h3 (rb_df y xm 0), rc_eq ((ra_rg a.1 xc).1.toNat, (ra_rg a.1 xc).2) (1, 1), rc_eq ((ra_rg a.1 xc).2.toNat, (ra_rg a.1 xc).1) (0, 0) with
      | true, true, _ => some (true, true)
      | true, false, true => some (true, false)
      | false, true, _ => ra_gd (rb_far a.1 F h3 (rb_df xm y (-1))) (some (false, true))
      | false, false, true => ra_gd (rb_far a.1 F h3 (rb_df xm y (-1))) (some (false, false))
      | _, _, _ => none)
    | _, _, _, _ => none
  | _, _, _, _ => none
theorem rd_is_ok {a : ra_S} {F : rb_D} {o : ra_O} {w k1 s p m c : Nat × Int} {js : List Nat} {hf : List rb_H} {b : Bool × Bool} (h : rd_is a F o w k1 s p m c js hf = some b) {v : Nat → Int} {lvv : List (Nat × Value)} {stv : List Value} {ws : va_W} (hg : ra_g b0 ad0 cT v a lvv stv ws) (hdv : rb_dv v F) {f : Nat → Int} (hf : ra_phi o.2.2.1 (o.2.2.2.map (fun q => v q.1 + q.2)) o.2.1 f) :
    (if rd_dig (v m.1 + m.2).toNat (v k1.1 + k1.2).toNat ≤ f (120 * (v w.1 + w.2) + 12 * rd_dig (v s.1 + s.2).toNat (v k1.1 + k1.2).toNat + rd_dig (v p.1 + p.2).toNat (v k1.1 + k1.2).toNat).toNat then (1 : Int) else 0) = (if b.1 then 1 else 0) ∧ rd_dig (v c.1 + c.2).toNat (v k1.1 + k1.2).toNat = (if b.2 then 1 else 0) := by
  have hN : ra_cN v a.1 := hg.1
  unfold rd_is at h
  split at h
  · rename_i t z y u j1 j2 j3 j4 h1 h2 h3 hp hs
    rw [hp, hs] at hf
    obtain ⟨m0, m1, -⟩ := hf
    have m1 : f (v z.1 + z.2).toNat = v y.1 + y.2 := m1
    split at h
    · rename_i xs xp xm xc e1 e2 e3 e4
      have hq0 := ra_gd_ok h; clear h; obtain ⟨g1, h⟩ := hq0
      rw [Bool.and_eq_true] at g1
      have d1 := rb_far_ok hN hdv g1.1
      have d2 := rb_far_ok hN hdv g1.2
      rw [rd_wx_ev] at d1
      rw [rd_xw_ev] at d2
      have k1 := (rd_me_ok hg e1).2
      have k2 := (rd_me_ok hg e2).2
      have k3 := (rd_me_ok hg e3).2
      have k4 := rd_me_ok hg e4
      have hr := rb_rgI hN k4.1
      rw [k1, k2, k3, k4.2]
      have ei : 120 * (v w.1 + w.2) + 12 * (v xs.1 + xs.2) + (v xp.1 + xp.2) = v z.1 + z.2 := by omega
      rw [ei, m1]
      have one : ∀ {x : Bool}, rc_eq ((ra_rg a.1 xc).1.toNat, (ra_rg a.1 xc).2) (1, 1) = true → x = true → v xc.1 + xc.2 = (if x then 1 else 0) := by
        intro x hx hx2
        have := rc_eq_ok hx
        injection this with q1 q2
        rw [hx2, if_pos rfl]
        omega
      have zero : ∀ {x : Bool}, rc_eq ((ra_rg a.1 xc).2.toNat, (ra_rg a.1 xc).1) (0, 0) = true → x = false → v xc.1 + xc.2 = (if x then 1 else 0) := by
        intro x hx hx2
        have := rc_eq_ok hx
        injection this with q1 q2
        rw [hx2, if_neg (by decide)]
        omega
      split at h
      · rename_i q1 q2
        cases h
        have d3 := rb_far_ok hN hdv q1
        rw [rb_df_ev] at d3
        exact ⟨by rw [if_pos (by omega)]; rfl, one q2 rfl⟩
      · rename_i q1 q2 q3
        cases h
        have d3 := rb_far_ok hN hdv q1
        rw [rb_df_ev] at d3
        exact ⟨by rw [if_pos (by omega)]; rfl, zero q3 rfl⟩
      · rename_i q1 q2
        have hq0 := ra_gd_ok h; clear h; obtain ⟨g2, h⟩ := hq0
        cases h
        have d3 := rb_far_ok hN hdv g2
        rw [rb_df_ev] at d3
        exact ⟨by rw [if_neg (by omega)]; rfl, one q2 rfl⟩
      · rename_i q1 q2 q3
        have hq0 := ra_gd_ok h; clear h; obtain ⟨g2, h⟩ := hq0
        cases h
        have d3 := rb_far_ok hN hdv g2
        rw [rb_df_ev] at d3
        exact ⟨by rw [if_neg (by omega)]; rfl, zero q3 rfl⟩
      · cases h
    · cases h
  · cases h
def rd_70 (i : Nat) (js : List Nat) (hf : List rb_H) (a : ra_S) (F : rb_D) : Option rb_O := match rc_o (a.2.2.2.1[i]?) with
  | some o => match (rc_st o.2.2.1 o.2.2.2).1, (rc_st o.2.2.1 o.2.2.2).2 with
    | [11], w :: k1 :: lo :: hi :: t :: u :: s :: p :: m :: c :: dq :: kq :: g => match rd_is a F o w k1 s p m c js hf with
      | some b => ra_gd (b.1 == b.2) (some (rd_w11 a i o F (w :: rc_p1 k1 :: lo :: hi :: t :: u :: s :: p :: m :: c :: dq :: kq :: g)))
      | none => none
    | _, _ => none
  | none => none
theorem rd_70_ok {i : Nat} {js : List Nat} {hf : List rb_H} {a : ra_S} {F : rb_D} {outs : rb_O} (h : rd_70 i js hf a F = some outs) : rb_alt b0 ad0 cT a F outs := by
  unfold rd_70 at h
  split at h
  · rename_i o ho
    have ho := rc_o_ok ho
    split at h
    · rename_i w k1 lo hi t u s p m c dq kq g hp hs
      split at h
      · rename_i b hb
        have hq0 := ra_gd_ok h; clear h; obtain ⟨h1, h⟩ := hq0
        rw [beq_iff_eq] at h1
        cases h
        refine rd_nx ho hp hs (fun v lvv stv ws hg hdv f hf => ?_)
        have e := rd_is_ok hb hg hdv hf
        exact Or.inr (Or.inr (by rw [e.1, e.2, h1]))
      · cases h
    · cases h
  · cases h
end
end
