noncomputable section
/-! signs that are written and worked off -/
section
variable {b0 : Nat → Nat} {ad0 : List Nat} {cT : Nat → ClassId}
/-- a cell in other words -/
theorem rc_alt1 {a : ra_S} {F : rb_D} {i : Nat} {o : ra_O} (ho : a.2.2.2.1[i]? = some (.inr (.inr (.inr o)))) {pid : List Nat} {ps : List (Nat × Int)} (h : ∀ v, ra_cN v a.1 → rb_dv v F → (∀ q ∈ o.2.2.2, q.1 < a.1.length) → ∀ f : Nat → Int, ra_phi o.2.2.1 (o.2.2.2.map (fun q => v q.1 + q.2)) o.2.1 f → (∀ q ∈ ps, q.1 < a.1.length) ∧ ra_phi pid (ps.map (fun q => v q.1 + q.2)) o.2.1 f) : rb_alt b0 ad0 cT a F [((a.1, a.2.1, a.2.2.1, a.2.2.2.1.set i (rc_oc o pid ps), a.2.2.2.2), F)] := by
  obtain ⟨env, lv, st, aw, ce, sl⟩ := a
  intro v lvv stv ws hg hdb hdv
  obtain ⟨q1, w1, o1, o2, f, f1, f2⟩ := ra_a2_get hg.2.2.2.1 ho
  have h1 := h v hg.1 hdv o2 _ f2
  exact ⟨_, List.mem_singleton.mpr rfl, rfl, Nat.le_refl _, v, fun _ _ => rfl, rc_g1 hg (Nat.le_refl _) (fun _ _ => rfl) hg.1 w1 ⟨o1, h1.1, f, f1, h1.2⟩, hdb, hdv⟩
def rc_30 (i wh : Nat) (z : Nat × Int) (a : ra_S) (F : rb_D) : Option rb_O := match rc_o (a.2.2.2.1[i]?) with
  | some o => match o.2.2.1, o.2.2.2 with
    | [5], [q, b, c, d] => ra_gd (Nat.blt z.1 a.1.length) (match wh with
      | 0 => ra_gd (ra_leb 0 (ra_rg a.1 z).1) (some [((a.1, a.2.1, a.2.2.1, a.2.2.2.1.set i (rc_oc o [6] [z, z, (0, 0), c, d, (0, 0)]), a.2.2.2.2), F)])
      | _ => ra_gd (ra_leb 560 (ra_rg a.1 z).1) (some [((a.1, a.2.1, a.2.2.1, a.2.2.2.1.set i (rc_oc o [6] [z, z, (0, 0), q, b, (0, 1)]), a.2.2.2.2), F)]))
    | _, _ => none
  | none => none
theorem rc_wf0 {f : Nat → Int} {a : Nat} {z : Int} : ra_wf f a (z - z).toNat := by
  rw [Int.sub_self]
  intro j hj
  exact absurd hj (Nat.not_lt_zero _)
theorem rc_dp0 {f : Nat → Int} {a : Nat} {z : Int} : ra_dp f a (z - z).toNat = 0 := by
  rw [Int.sub_self]
  rfl
theorem rc_30_ok {i wh : Nat} {z : Nat × Int} {a : ra_S} {F : rb_D} {outs : rb_O} (h : rc_30 i wh z a F = some outs) : rb_alt b0 ad0 cT a F outs := by
  unfold rc_30 at h
  split at h
  · rename_i o ho
    have ho := rc_o_ok ho
    split at h
    · rename_i q b c d hp hs
      have hq0 := ra_gd_ok h; clear h; obtain ⟨h1, h⟩ := hq0
      have h1 : z.1 < a.1.length := Nat.le_of_ble_eq_true h1
      split at h
      · have hq1 := ra_gd_ok h; clear h; obtain ⟨h2, h⟩ := hq1
        have h2 := ra_leb_le h2
        cases h
        refine rc_alt1 ho (fun v hN hF hb f hf => ?_)
        rw [hs] at hb hf
        rw [hp] at hf
        have hf : ra_base 3 [v q.1 + q.2, v b.1 + b.2, v c.1 + c.2, v d.1 + d.2] o.2.1 f := hf
        obtain ⟨f1, f2, f3, f4, f5, f6⟩ := hf
        have hr := rb_rgI hN h1
        have h0 := hN.1
        refine ⟨fun t ht => ?_, ?_⟩
        · simp only [List.mem_cons, List.not_mem_nil, or_false] at ht
          rcases ht with rfl | rfl | rfl | rfl | rfl | rfl
          · exact h1
          · exact h1
          · exact h0
          · exact hb _ (by simp)
          · exact hb _ (by simp)
          · exact h0
        · show ra_base 4 [v z.1 + z.2, v z.1 + z.2, v 0 + 0, v c.1 + c.2, v d.1 + d.2, v 0 + 0] o.2.1 f
          rw [hN.2.1]
          exact ⟨by omega, Int.le_refl _, f3, Or.inl ⟨rfl, f4⟩, rc_wf0, rc_dp0, f6⟩
      · have hq1 := ra_gd_ok h; clear h; obtain ⟨h2, h⟩ := hq1
        have h2 := ra_leb_le h2
        cases h
        refine rc_alt1 ho (fun v hN hF hb f hf => ?_)
        rw [hs] at hb hf
        rw [hp] at hf
        have hf : ra_base 3 [v q.1 + q.2, v b.1 + b.2, v c.1 + c.2, v d.1 + d.2] o.2.1 f := hf
        obtain ⟨f1, f2, f3, f4, f5, f6⟩ := hf
        have hr := rb_rgI hN h1
        have h0 := hN.1
        refine ⟨fun t ht => ?_, ?_⟩
        · simp only [List.mem_cons, List.not_mem_nil, or_false] at ht
          rcases ht with rfl | rfl | rfl | rfl | rfl | rfl
          · exact h1
          · exact h1
          · exact h0
          · exact hb _ (by simp)
          · exact hb _ (by simp)
          · exact h0
        · show ra_base 4 [v z.1 + z.2, v z.1 + z.2, v 0 + 0, v q.1 + q.2, v b.1 + b.2, v 0 + 1] o.2.1 f
          rw [hN.2.1]
          exact ⟨by omega, Int.le_refl _, f1, Or.inr ⟨rfl, by omega, f2⟩, rc_wf0, rc_dp0, f5⟩
    · cases h
  · cases h
def rc_31 (i : Nat) (a : ra_S) (F : rb_D) : Option rb_O := match rc_o (a.2.2.2.1[i]?) with
  | some o => match (rc_st o.2.2.1 o.2.2.2).1, (rc_st o.2.2.1 o.2.2.2).2 with
    | [6], [q, b, _, c, d, w] => match rc_eq w (0, 0) with
      | true => ra_gd (ra_leb (ra_rg a.1 b).2 560) (some [((a.1, a.2.1, a.2.2.1, a.2.2.2.1.set i (rc_oc o [5] [q, b, c, d]), a.2.2.2.2), F)])
      | false => ra_gd (rc_eq w (0, 1)) (some [((a.1, a.2.1, a.2.2.1, a.2.2.2.1.set i (rc_oc o [5] [c, d, q, b]), a.2.2.2.2), F)])
    | [7], [q, b, _, _, c, d, w] => match rc_eq w (0, 0) with
      | true => some [((a.1, a.2.1, a.2.2.1, a.2.2.2.1.set i (rc_oc o [5] [q, b, c, d]), a.2.2.2.2), F)]
      | false => ra_gd (rc_eq w (0, 1)) (some [((a.1, a.2.1, a.2.2.1, a.2.2.2.1.set i (rc_oc o [5] [c, d, q, b]), a.2.2.2.2), F)])
    | _, _ => none
  | none => none
theorem rc_31_ok {i : Nat} {a : ra_S} {F : rb_D} {outs : rb_O} (h : rc_31 i a F = some outs) : rb_alt b0 ad0 cT a F outs := by
  unfold rc_31 at h
  split at h
  · rename_i o ho
    have ho := rc_o_ok ho
    split at h
    · rename_i q b e c d w hp hs
      split at h
      · rename_i hw
        have hw := rc_eq_ok hw
        have hq1 := ra_gd_ok h; clear h; obtain ⟨h2, h⟩ := hq1
        have h2 := ra_leb_le h2
        cases h
        refine rc_alt1 ho (fun v hN hF hb f hf => ?_)
        obtain ⟨m3, m4⟩ := rc_st_ok hf
        rw [hp, hs] at m3
        rw [hs] at m4
        have m3 : ra_base 4 [v q.1 + q.2, v b.1 + b.2, v e.1 + e.2, v c.1 + c.2, v d.1 + d.2, v w.1 + w.2] o.2.1 f := m3
        obtain ⟨f1, f2, f3, f4, f5, f6, f7⟩ := m3
        rw [hw, hN.2.1] at f4
        have hr := rb_rgI hN (hb b (m4 b (by simp)))
        refine ⟨fun t ht => ?_, ?_⟩
        · simp only [List.mem_cons, List.not_mem_nil, or_false] at ht
          rcases ht with rfl | rfl | rfl | rfl <;> exact hb _ (m4 _ (by simp))
        · show ra_base 3 [v q.1 + q.2, v b.1 + b.2, v c.1 + c.2, v d.1 + d.2] o.2.1 f
          refine ⟨f1, by omega, f3, ?_, f5, f7⟩
          rcases f4 with ⟨-, f4⟩ | ⟨f4, -⟩
          · exact f4
          · omega
      · have hq1 := ra_gd_ok h; clear h; obtain ⟨hw, h⟩ := hq1
        have hw := rc_eq_ok hw
        cases h
        refine rc_alt1 ho (fun v hN hF hb f hf => ?_)
        obtain ⟨m3, m4⟩ := rc_st_ok hf
        rw [hp, hs] at m3
        rw [hs] at m4
        have m3 : ra_base 4 [v q.1 + q.2, v b.1 + b.2, v e.1 + e.2, v c.1 + c.2, v d.1 + d.2, v w.1 + w.2] o.2.1 f := m3
        obtain ⟨f1, f2, f3, f4, f5, f6, f7⟩ := m3
        rw [hw, hN.2.1] at f4
        refine ⟨fun t ht => ?_, ?_⟩
        · simp only [List.mem_cons, List.not_mem_nil, or_false] at ht
          rcases ht with rfl | rfl | rfl | rfl <;> exact hb _ (m4 _ (by simp))
        · show ra_base 3 [v c.1 + c.2, v d.1 + d.2, v q.1 + q.2, v b.1 + b.2] o.2.1 f
          rcases f4 with ⟨f4, -⟩ | ⟨-, f8, f9⟩
          · omega
          · exact ⟨f3, f9, f1, Or.inr f8, f7, f5⟩
    · rename_i q b k e c d w hp hs
      split at h
      · rename_i hw
        have hw := rc_eq_ok hw
        cases h
        refine rc_alt1 ho (fun v hN hF hb f hf => ?_)
        obtain ⟨m3, m4⟩ := rc_st_ok hf
        rw [hp, hs] at m3
        rw [hs] at m4
        have m3 : ra_base 5 [v q.1 + q.2, v b.1 + b.2, v k.1 + k.2, v e.1 + e.2, v c.1 + c.2, v d.1 + d.2, v w.1 + w.2] o.2.1 f := m3
        obtain ⟨f1, f2, f3, f4, f5, f6, f7⟩ := m3
        rw [hw, hN.2.1] at f4
        refine ⟨fun t ht => ?_, ?_⟩
        · simp only [List.mem_cons, List.not_mem_nil, or_false] at ht
          rcases ht with rfl | rfl | rfl | rfl <;> exact hb _ (m4 _ (by simp))
        · show ra_base 3 [v q.1 + q.2, v b.1 + b.2, v c.1 + c.2, v d.1 + d.2] o.2.1 f
          rcases f4 with ⟨-, f8, f9⟩ | ⟨f4, -⟩
          · exact ⟨f1, f8, f3, f9, f5, f7⟩
          · omega
      · have hq1 := ra_gd_ok h; clear h; obtain ⟨hw, h⟩ := hq1
        have hw := rc_eq_ok hw
        cases h
        refine rc_alt1 ho (fun v hN hF hb f hf => ?_)
        obtain ⟨m3, m4⟩ := rc_st_ok hf
        rw [hp, hs] at m3
        rw [hs] at m4
        have m3 : ra_base 5 [v q.1 + q.2, v b.1 + b.2, v k.1 + k.2, v e.1 + e.2, v c.1 + c.2, v d.1 + d.2, v w.1 + w.2] o.2.1 f := m3
        obtain ⟨f1, f2, f3, f4, f5, f6, f7⟩ := m3
        rw [hw, hN.2.1] at f4
        refine ⟨fun t ht => ?_, ?_⟩
        · simp only [List.mem_cons, List.not_mem_nil, or_false] at ht
          rcases ht with rfl | rfl | rfl | rfl <;> exact hb _ (m4 _ (by simp))
        · show ra_base 3 [v c.1 + c.2, v d.1 + d.2, v q.1 + q.2, v b.1 + b.2] o.2.1 f
          rcases f4 with ⟨f4, -⟩ | ⟨-, f8, f9⟩
          · omega
          · exact ⟨f3, f9, f1, f8, f7, f5⟩
    · cases h
  · cases h
/-- a sign is written -/
def rc_32a (env : ra_N) (x e : Nat × Int) : Option Nat := match rc_cls env x with
  | some 0 => ra_gd (ra_leb (ra_rg env e).2 29) (some 0)
  | some 1 => ra_gd (ra_leb 1 (ra_rg env e).1) (some 1)
  | some 2 => ra_gd (ra_leb 2 (ra_rg env e).1) (some 2)
  | _ => none
theorem rc_32a_ok {v : Nat → Int} {env : ra_N} (hN : ra_cN v env) {x e : Nat × Int} (hx : x.1 < env.length) (he : e.1 < env.length) {k : Nat} (h : rc_32a env x e = some k) : (k = 0 ∧ ra_isL (v x.1 + x.2) ∧ v e.1 + e.2 ≤ 29) ∨ (k = 1 ∧ v x.1 + x.2 = 126 ∧ 1 ≤ v e.1 + e.2) ∨ (k = 2 ∧ ra_isO (v x.1 + x.2) ∧ 2 ≤ v e.1 + e.2) := by
  have hr := rb_rgI hN he
  unfold rc_32a at h
  split at h
  · rename_i hc
    obtain ⟨h1, h⟩ := ra_gd_ok h
    have := ra_leb_le h1
    cases h
    rcases rc_cls_ok hN hx hc with ⟨-, c⟩ | ⟨c, -⟩ | ⟨c, -⟩
    · exact Or.inl ⟨rfl, c, by omega⟩
    · cases c
    · cases c
  · rename_i hc
    obtain ⟨h1, h⟩ := ra_gd_ok h
    have := ra_leb_le h1
    cases h
    rcases rc_cls_ok hN hx hc with ⟨c, -⟩ | ⟨-, c⟩ | ⟨c, -⟩
    · cases c
    · exact Or.inr (Or.inl ⟨rfl, c, by omega⟩)
    · cases c
  · rename_i hc
    obtain ⟨h1, h⟩ := ra_gd_ok h
    have := ra_leb_le h1
    cases h
    rcases rc_cls_ok hN hx hc with ⟨c, -⟩ | ⟨c, -⟩ | ⟨-, c⟩
    · cases c
    · cases c
    · exact Or.inr (Or.inr ⟨rfl, c, by omega⟩)
  · cases h
def rc_32 (i : Nat) (a : ra_S) (F : rb_D) : Option rb_O := match rc_o (a.2.2.2.1[i]?) with
  | some o => match o.2.2.1, o.2.2.2 with
    | [1, 6], [z, x, q, b, e, c, d, w] => match rc_32a a.1 x e with
      | some k => ra_gd (rc_eq z b && ((rc_eq w (0, 0) && ra_leb (ra_rg a.1 b).2 559) || rc_eq w (0, 1))) (some [((a.1, a.2.1, a.2.2.1, a.2.2.2.1.set i (rc_oc o [6] [q, rc_p1 b, (e.1, e.2 + rc_dl k), c, d, w]), a.2.2.2.2), F)])
      | none => none
    | _, _ => none
  | none => none
theorem rc_32_ok {i : Nat} {a : ra_S} {F : rb_D} {outs : rb_O} (h : rc_32 i a F = some outs) : rb_alt b0 ad0 cT a F outs := by
  unfold rc_32 at h
  split at h
  · rename_i o ho
    have ho := rc_o_ok ho
    split at h
    · rename_i z x q b e c d w hp hs
      split at h
      · rename_i k hk
        have hq1 := ra_gd_ok h; clear h; obtain ⟨h1, h⟩ := hq1
        rw [Bool.and_eq_true, Bool.or_eq_true, Bool.and_eq_true] at h1
        have e1 := rc_eq_ok h1.1
        subst e1
        cases h
        refine rc_alt1 ho (fun v hN hF hb f hf => ?_)
        rw [hp, hs] at hf
        rw [hs] at hb
        have lz : z.1 < a.1.length := hb z (by simp)
        have lx : x.1 < a.1.length := hb x (by simp)
        have lq : q.1 < a.1.length := hb q (by simp)
        have le : e.1 < a.1.length := hb e (by simp)
        have lc : c.1 < a.1.length := hb c (by simp)
        have ld : d.1 < a.1.length := hb d (by simp)
        have lw : w.1 < a.1.length := hb w (by simp)
        have hr := rb_rgI hN lz
        have hk := rc_32a_ok hN lx le hk
        obtain ⟨m0, f0, m1, m2⟩ := hf
        have m0 : 0 ≤ v z.1 + z.2 := m0
        have m1 : f = ra_upi f0 (v z.1 + z.2).toNat (v x.1 + x.2) := m1
        have m2 : ra_base 4 [v q.1 + q.2, v z.1 + z.2, v e.1 + e.2, v c.1 + c.2, v d.1 + d.2, v w.1 + w.2] o.2.1 f0 := m2
        obtain ⟨f1, f2, f3, f4, f5, f6, f7⟩ := m2
        have hput := rc_put f5 f6 hk
        have ea : (v q.1 + q.2).toNat + (v z.1 + z.2 - (v q.1 + q.2)).toNat = (v z.1 + z.2).toNat := by omega
        have eb : (v z.1 + z.2 + 1 - (v q.1 + q.2)).toNat = (v z.1 + z.2 - (v q.1 + q.2)).toNat + 1 := by omega
        rw [ea, ← m1, ← eb] at hput
        have hoth : ra_wf f (v c.1 + c.2).toNat (v d.1 + d.2 - (v c.1 + c.2)).toNat := by
          refine rc_wf_congr (fun j hj => ?_) f7
          rw [m1]
          unfold ra_upi
          rw [if_neg ?_]
          rcases f4 with ⟨g1, g2⟩ | ⟨g1, g2, g3⟩
          · rcases h1.2 with k1 | k1
            · have := ra_leb_le k1.2
              omega
            · have := rc_eq_ok k1
              rw [this, hN.2.1] at g1
              dsimp only at g1
              omega
          · omega
        refine ⟨fun t ht => ?_, ?_⟩
        · simp only [List.mem_cons, List.not_mem_nil, or_false] at ht
          rcases ht with rfl | rfl | rfl | rfl | rfl | rfl
          · exact lq
          · exact lz
          · exact le
          · exact lc
          · exact ld
          · exact lw
        · simp only [List.map_cons, List.map_nil, rc_p1_v]
          show ra_base 4 [v q.1 + q.2, v z.1 + z.2 + 1, v e.1 + (e.2 + rc_dl k), v c.1 + c.2, v d.1 + d.2, v w.1 + w.2] o.2.1 f
          exact ⟨f1, by omega, f3, f4, hput.1, by rw [hput.2]; omega, hoth⟩
      · cases h
    · cases h
  · cases h
def rc_33 (i wh : Nat) (a : ra_S) (F : rb_D) : Option rb_O := match rc_o (a.2.2.2.1[i]?) with
  | some o => match o.2.2.1, o.2.2.2 with
    | [5], [q, b, c, d] => match wh with
      | 0 => some [((a.1, a.2.1, a.2.2.1, a.2.2.2.1.set i (rc_oc o [7] [q, b, q, (0, 0), c, d, (0, 0)]), a.2.2.2.2), F)]
      | _ => some [((a.1, a.2.1, a.2.2.1, a.2.2.2.1.set i (rc_oc o [7] [c, d, c, (0, 0), q, b, (0, 1)]), a.2.2.2.2), F)]
    | _, _ => none
  | none => none
theorem rc_33_ok {i wh : Nat} {a : ra_S} {F : rb_D} {outs : rb_O} (h : rc_33 i wh a F = some outs) : rb_alt b0 ad0 cT a F outs := by
  unfold rc_33 at h
  split at h
  · rename_i o ho
    have ho := rc_o_ok ho
    split at h
    · rename_i q b c d hp hs
      split at h
      · cases h
        refine rc_alt1 ho (fun v hN hF hb f hf => ?_)
        rw [hs] at hb hf
        rw [hp] at hf
        have hf : ra_base 3 [v q.1 + q.2, v b.1 + b.2, v c.1 + c.2, v d.1 + d.2] o.2.1 f := hf
        obtain ⟨f1, f2, f3, f4, f5, f6⟩ := hf
        have h0 := hN.1
        refine ⟨fun t ht => ?_, ?_⟩
        · simp only [List.mem_cons, List.not_mem_nil, or_false] at ht
          rcases ht with rfl | rfl | rfl | rfl | rfl | rfl | rfl
          all_goals first | exact h0 | exact hb _ (by simp)
        · show ra_base 5 [v q.1 + q.2, v b.1 + b.2, v q.1 + q.2, v 0 + 0, v c.1 + c.2, v d.1 + d.2, v 0 + 0] o.2.1 f
          rw [hN.2.1]
          exact ⟨f1, Int.le_refl _, f3, Or.inl ⟨rfl, f2, f4⟩, f5, rc_dp0, f6⟩
      · cases h
        refine rc_alt1 ho (fun v hN hF hb f hf => ?_)
        rw [hs] at hb hf
        rw [hp] at hf
        have hf : ra_base 3 [v q.1 + q.2, v b.1 + b.2, v c.1 + c.2, v d.1 + d.2] o.2.1 f := hf
        obtain ⟨f1, f2, f3, f4, f5, f6⟩ := hf
        have h0 := hN.1
        refine ⟨fun t ht => ?_, ?_⟩
        · simp only [List.mem_cons, List.not_mem_nil, or_false] at ht
          rcases ht with rfl | rfl | rfl | rfl | rfl | rfl | rfl
          all_goals first | exact h0 | exact hb _ (by simp)
        · show ra_base 5 [v c.1 + c.2, v d.1 + d.2, v c.1 + c.2, v 0 + 0, v q.1 + q.2, v b.1 + b.2, v 0 + 1] o.2.1 f
          rw [hN.2.1]
          exact ⟨f3, Int.le_refl _, f1, Or.inr ⟨rfl, f4, f2⟩, f6, rc_dp0, f5⟩
    · cases h
  · cases h
/-- a sign is worked off -/
def rb_mu (env : ra_N) (q : Nat × Int) (hi : Int) : Option ra_N := rb_mn env q (ra_rg env q).1 hi
theorem rb_mu_ok {v : Nat → Int} {env : ra_N} (hN : ra_cN v env) {q : Nat × Int} (hq : q.1 < env.length) {hi : Int} (h1 : v q.1 + q.2 ≤ hi) : ∃ e, rb_mu env q hi = some e ∧ ra_cN v e ∧ e.length = env.length := rb_mn_ok hN hq (rb_rgI hN hq).1 h1
def rc_34a (env : ra_N) (x e : Nat × Int) : List (Int × List ra_N) :=
  [(1, rb_m2 (rb_mn env x 97 122) (fun n => rb_mu n e 29)), (0, rb_m2 (rb_mn env x 126 126) (fun n => rb_ml n e 1)), (-1, rb_m2 (rb_mn env x 37 62) (fun n => rb_ml n e 2)), (-1, rb_m2 (rb_mn env x 124 124) (fun n => rb_ml n e 2))]
def rc_34 (i : Nat) (hf : List rb_H) (a : ra_S) (F : rb_D) : Option rb_O := match rc_o (a.2.2.2.1[i]?) with
  | some o => match o.2.2.1, o.2.2.2, hf with
    | [0, 7], [z, x, q, b, k, e, c, d, w], [h] => ra_gd (rc_eq z k && rb_far a.1 F h (rb_df b k (-1))) (some ((rc_34a a.1 x e).flatMap (fun t => t.2.map (fun n => ((n, a.2.1, a.2.2.1, a.2.2.2.1.set i (rc_oc o [7] [q, b, rc_p1 k, (e.1, e.2 + t.1), c, d, w]), a.2.2.2.2), F)))))
    | _, _, _ => none
  | none => none
set_option maxHeartbeats 1000000 in
theorem rc_34_ok {i : Nat} {hf : List rb_H} {a : ra_S} {F : rb_D} {outs : rb_O} (h : rc_34 i hf a F = some outs) : rb_alt b0 ad0 cT a F outs := by
  obtain ⟨env, lv, st, aw, ce, sl⟩ := a
  unfold rc_34 at h
  dsimp only at h
  split at h
  · rename_i o ho
    have ho := rc_o_ok ho
    split at h
    · rename_i z x q b k e c d w hh hp hs
      have hq1 := ra_gd_ok h; clear h; obtain ⟨h1, h⟩ := hq1
      rw [Bool.and_eq_true] at h1
      have e1 := rc_eq_ok h1.1
      subst e1
      cases h
      intro v lvv stv ws hg hdb hdv
      have hN : ra_cN v env := hg.1
      obtain ⟨q1, w1, o1, o2, f, f1, f2⟩ := ra_a2_get hg.2.2.2.1 ho
      rw [hp, hs] at f2
      rw [hs] at o2
      have o2 : ∀ t ∈ [z, x, q, b, z, e, c, d, w], t.1 < env.length := o2
      have lz : z.1 < env.length := o2 z (by simp)
      have lx : x.1 < env.length := o2 x (by simp)
      have lq : q.1 < env.length := o2 q (by simp)
      have lb : b.1 < env.length := o2 b (by simp)
      have le : e.1 < env.length := o2 e (by simp)
      have lc : c.1 < env.length := o2 c (by simp)
      have ld : d.1 < env.length := o2 d (by simp)
      have lw : w.1 < env.length := o2 w (by simp)
      obtain ⟨m0, m1, m2⟩ := f2
      have m0 : 0 ≤ v z.1 + z.2 := m0
      have m1 : (f (v z.1 + z.2).toNat).toInt = v x.1 + x.2 := m1
      have m2 : ra_base 5 [v q.1 + q.2, v b.1 + b.2, v z.1 + z.2, v e.1 + e.2, v c.1 + c.2, v d.1 + d.2, v w.1 + w.2] o.2.1 (fun j => (f j).toInt) := m2
      obtain ⟨g1, g2, g3, g4, g5, g6, g7⟩ := m2
      have hF := rb_far_ok hN hdv h1.2
      rw [rb_df_ev] at hF
      have ea : (v q.1 + q.2).toNat + (v z.1 + z.2 - (v q.1 + q.2)).toNat = (v z.1 + z.2).toNat := by omega
      have eb : (v z.1 + z.2 + 1 - (v q.1 + q.2)).toNat = (v z.1 + z.2 - (v q.1 + q.2)).toNat + 1 := by omega
      have hgo := rc_go g5 (j := (v z.1 + z.2 - (v q.1 + q.2)).toNat) (by omega) g6
      rw [ea, ← eb] at hgo
      rw [m1] at hgo
      have fin : ∀ (t : Int × List ra_N) (n : ra_N), t ∈ rc_34a env x e → n ∈ t.2 → ra_cN v n → n.length = env.length → ra_dp (fun j => (f j).toInt) (v q.1 + q.2).toNat (v z.1 + z.2 + 1 - (v q.1 + q.2)).toNat = v e.1 + e.2 + t.1 → ∃ o_1 ∈ (rc_34a env x e).flatMap (fun t => t.2.map (fun n => (((n, lv, st, aw.set i (rc_oc o [7] [q, b, rc_p1 z, (e.1, e.2 + t.1), c, d, w]), ce, sl), F) : ra_S × rb_D))), o_1.1.2.2.2.2 = (ce, sl) ∧ env.length ≤ o_1.1.1.length ∧ ∃ v' : Nat → Int, (∀ i, i < env.length → v' i = v i) ∧ ra_g b0 ad0 cT v' o_1.1 lvv stv ws ∧ rb_db o_1.1.1.length o_1.2 = true ∧ rb_dv v' o_1.2 := by
        intro t n ht hn hNn hl hd
        refine ⟨_, List.mem_flatMap.mpr ⟨t, ht, List.mem_map.mpr ⟨n, hn, rfl⟩⟩, rfl, Nat.le_of_eq hl.symm, v, fun _ _ => rfl, rc_g1 hg (Nat.le_of_eq hl.symm) (fun _ _ => rfl) hNn w1 ⟨o1, fun y hy => ?_, f, f1, ?_⟩, rb_db_mono (Nat.le_of_eq hl.symm) hdb, hdv⟩
        · simp only [List.mem_cons, List.not_mem_nil, or_false] at hy
          rw [hl]
          rcases hy with rfl | rfl | rfl | rfl | rfl | rfl | rfl
          · exact lq
          · exact lb
          · exact lz
          · exact le
          · exact lc
          · exact ld
          · exact lw
        · simp only [List.map_cons, List.map_nil, rc_p1_v]
          show ra_base 5 [v q.1 + q.2, v b.1 + b.2, v z.1 + z.2 + 1, v e.1 + (e.2 + t.1), v c.1 + c.2, v d.1 + d.2, v w.1 + w.2] o.2.1 (fun j => (f j).toInt)
          exact ⟨g1, by omega, g3, g4, g5, by rw [hd]; omega, g7⟩
      rcases hgo with ⟨c1, c2, c3⟩ | ⟨c1, c2, c3⟩ | ⟨c1, c2, c3⟩
      · unfold ra_isL at c1
        obtain ⟨na, a1, a2, a3⟩ := rb_mn_ok hN lx (lo := 97) (hi := 122) c1.1 c1.2
        obtain ⟨nb, b1, b2, b3⟩ := rb_mu_ok a2 (q := e) (by omega) c2
        exact fin (1, rb_m2 (rb_mn env x 97 122) (fun n => rb_mu n e 29)) nb (by simp [rc_34a]) (rb_m2_in a1 b1) b2 (by omega) c3
      · obtain ⟨na, a1, a2, a3⟩ := rb_mn_ok hN lx (lo := 126) (hi := 126) (by omega) (by omega)
        obtain ⟨nb, b1, b2, b3⟩ := rb_ml_ok a2 (q := e) (by omega) c2
        exact fin (0, rb_m2 (rb_mn env x 126 126) (fun n => rb_ml n e 1)) nb (by simp [rc_34a]) (rb_m2_in a1 b1) b2 (by omega) (by rw [c3]; dsimp only; omega)
      · unfold ra_isO at c1
        rcases c1 with c1 | c1
        · obtain ⟨na, a1, a2, a3⟩ := rb_mn_ok hN lx (lo := 37) (hi := 62) c1.1 c1.2
          obtain ⟨nb, b1, b2, b3⟩ := rb_ml_ok a2 (q := e) (by omega) c2
          exact fin (-1, rb_m2 (rb_mn env x 37 62) (fun n => rb_ml n e 2)) nb (by simp [rc_34a]) (rb_m2_in a1 b1) b2 (by omega) (by rw [c3]; dsimp only; omega)
        · obtain ⟨na, a1, a2, a3⟩ := rb_mn_ok hN lx (lo := 124) (hi := 124) (by omega) (by omega)
          obtain ⟨nb, b1, b2, b3⟩ := rb_ml_ok a2 (q := e) (by omega) c2
          exact fin (-1, rb_m2 (rb_mn env x 124 124) (fun n => rb_ml n e 2)) nb (by simp [rc_34a]) (rb_m2_in a1 b1) b2 (by omega) (by rw [c3]; dsimp only; omega)
    · cases h
  · cases h
/-- no sign yet -/
def rc_36 (i : Nat) (a : ra_S) (F : rb_D) : Option rb_O := match a with
  | (env, lv, st, aw, ce, sl) => match aw[i]? with
    | some (.inr (.inr (.inl o))) => ra_gd (Nat.blt o.1 3) (some [((env, lv, st, aw.set i (.inr (.inr (.inr (o.1, o.2.1, [5], [(0, 0), (0, 0), (0, 0), (0, 0)])))), ce, sl), F)])
    | _ => none
theorem rc_36_ok {i : Nat} {a : ra_S} {F : rb_D} {outs : rb_O} (h : rc_36 i a F = some outs) : rb_alt b0 ad0 cT a F outs := by
  obtain ⟨env, lv, st, aw, ce, sl⟩ := a
  unfold rc_36 at h
  dsimp only at h
  split at h
  · rename_i o ho
    have hq0 := ra_gd_ok h; clear h; obtain ⟨h1, h⟩ := hq0
    have h1 : o.1 < 3 := Nat.le_of_ble_eq_true h1
    cases h
    intro v lvv stv ws hg hdb hdv
    have hN : ra_cN v env := hg.1
    refine ⟨_, List.mem_singleton.mpr rfl, rfl, Nat.le_refl _, v, fun _ _ => rfl, rb_recell hg (Nat.le_refl _) (fun _ _ => rfl) hN ho (fun x hx => ?_), hdb, hdv⟩
    rcases hx with ⟨h0, f, e1, e2⟩ | ⟨h0, -⟩
    · refine ⟨h0, rc_all0 hN.1 rfl, f, e1, ?_⟩
      show ra_base 3 [v 0 + 0, v 0 + 0, v 0 + 0, v 0 + 0] o.2.1 _
      rw [hN.2.1]
      exact ⟨by decide, by decide, by decide, Or.inl (by decide), fun j hj => by simp at hj, fun j hj => by simp at hj⟩
    · omega
  · cases h
def rb_lem0 (n : Nat) (d : List (Nat × Int)) (is : List Nat) (hf : List rb_H) (a : ra_S) (F : rb_D) : Option rb_O := match Nat.ble n 12 with
  | true => rb_lem1 n d is hf a F
  | false => match is with
    | [i] => match n with
      | 24 => rc_24 i hf a F
      | 25 => rc_25 i a F
      | 31 => rc_31 i a F
      | 32 => rc_32 i a F
      | 34 => rc_34 i hf a F
      | 36 => rc_36 i a F
      | _ => none
    | [i, j] => match n with
      | 20 => rc_20 i j a F
      | 21 => rc_21 i j a F
      | 22 => rc_22 i j a F
      | 23 => rc_23 i j a F
      | 30 => match d with
        | [z] => rc_30 i j z a F
        | _ => none
      | 33 => rc_33 i j a F
      | _ => none
    | _ => none
theorem rb_lem0_ok {n : Nat} {d : List (Nat × Int)} {is : List Nat} {hf : List rb_H} {a : ra_S} {F : rb_D} {outs : rb_O} (h : rb_lem0 n d is hf a F = some outs) : rb_alt b0 ad0 cT a F outs := by
  unfold rb_lem0 at h
  split at h
  · exact rb_lem1_ok h
  · split at h
    · split at h
      · exact rc_24_ok h
      · exact rc_25_ok h
      · exact rc_31_ok h
      · exact rc_32_ok h
      · exact rc_34_ok h
      · exact rc_36_ok h
      · cases h
    · split at h
      · exact rc_20_ok h
      · exact rc_21_ok h
      · exact rc_22_ok h
      · exact rc_23_ok h
      · split at h
        · exact rc_30_ok h
        · cases h
      · exact rc_33_ok h
      · cases h
    · cases h
end
end
