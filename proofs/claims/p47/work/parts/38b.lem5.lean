noncomputable section
/-! rows of a table by columns; rows by a code; what fits -/
section
variable {b0 : Nat → Nat} {ad0 : List Nat} {cT : Nat → ClassId}
/-- any numbers -/
def rd_13 (i : Nat) (a : ra_S) (F : rb_D) : Option rb_O := match rc_o (a.2.2.2.1[i]?) with
  | some o => some [((a.1, a.2.1, a.2.2.1, a.2.2.2.1.set i (.inr (.inr (.inl (o.1, o.2.1, ra_lo, ra_hi)))), a.2.2.2.2), F)]
  | none => none
theorem rd_13_ok {i : Nat} {a : ra_S} {F : rb_D} {outs : rb_O} (h : rd_13 i a F = some outs) : rb_alt b0 ad0 cT a F outs := by
  obtain ⟨env, lv, st, aw, ce, sl⟩ := a
  unfold rd_13 at h
  dsimp only at h
  split at h
  · rename_i o ho
    have ho := rc_o_ok ho
    cases h
    intro v lvv stv ws hg hdb hdv
    refine ⟨_, List.mem_singleton.mpr rfl, rfl, Nat.le_refl _, v, fun _ _ => rfl, rb_recell hg (Nat.le_refl _) (fun _ _ => rfl) hg.1 ho (fun x hx => ?_), hdb, hdv⟩
    obtain ⟨o1, o2, f, f1, f2⟩ := hx
    exact Or.inl ⟨o1, f, f1, fun j _ => ra_i32 (f j)⟩
  · cases h
/-- columns 12 to 16 hold -1 to 11 -/
def rd_50 (i : Nat) (a : ra_S) (F : rb_D) : Option rb_O := match a with
  | (env, lv, st, aw, ce, sl) => match aw[i]? with
    | some (.inr (.inr (.inl o))) => ra_gd (Nat.blt o.1 3 && (ra_leb (-1) o.2.2.1 && ra_leb o.2.2.2 11)) (some [((env, lv, st, aw.set i (.inr (.inr (.inr (o.1, o.2.1, [8], [])))), ce, sl), F)])
    | _ => none
theorem rd_50_ok {i : Nat} {a : ra_S} {F : rb_D} {outs : rb_O} (h : rd_50 i a F = some outs) : rb_alt b0 ad0 cT a F outs := by
  obtain ⟨env, lv, st, aw, ce, sl⟩ := a
  unfold rd_50 at h
  dsimp only at h
  split at h
  · rename_i o ho
    have hq0 := ra_gd_ok h; clear h; obtain ⟨h1, h⟩ := hq0
    rw [Bool.and_eq_true, Bool.and_eq_true] at h1
    have k1 : o.1 < 3 := Nat.le_of_ble_eq_true h1.1
    have k2 := ra_leb_le h1.2.1
    have k3 := ra_leb_le h1.2.2
    cases h
    intro v lvv stv ws hg hdb hdv
    refine ⟨_, List.mem_singleton.mpr rfl, rfl, Nat.le_refl _, v, fun _ _ => rfl, rb_recell hg (Nat.le_refl _) (fun _ _ => rfl) hg.1 ho (fun x hx => ?_), hdb, hdv⟩
    rcases hx with ⟨h0, f, e1, e2⟩ | ⟨h0, -⟩
    · refine ⟨h0, fun q hq => absurd hq List.not_mem_nil, f, e1, ?_⟩
      show ∀ j, j < o.2.1 → 12 ≤ j % 29 → j % 29 ≤ 16 → -1 ≤ (f j).toInt ∧ (f j).toInt ≤ 11
      intro j hj _ _
      have := e2 j hj
      omega
    · omega
  · cases h
def rd_ix (q z : Nat × Int) (k : Nat) : ra_L := ([(q.1, 1), (z.1, -29)], q.2 - 29 * z.2 - (k : Int))
def rd_xi (q z : Nat × Int) (k : Nat) : ra_L := ([(q.1, -1), (z.1, 29)], 29 * z.2 + (k : Int) - q.2)
theorem rd_ix_ev (v : Nat → Int) (q z : Nat × Int) (k : Nat) : ra_ev v (rd_ix q z k) = (v q.1 + q.2) - 29 * (v z.1 + z.2) - k := by
  simp only [rd_ix, ra_ev, List.foldr_cons, List.foldr_nil]
  omega
theorem rd_xi_ev (v : Nat → Int) (q z : Nat × Int) (k : Nat) : ra_ev v (rd_xi q z k) = 29 * (v z.1 + z.2) + k - (v q.1 + q.2) := by
  simp only [rd_xi, ra_ev, List.foldr_cons, List.foldr_nil]
  omega
/-- a place read, of a known column -/
def rd_51 (i k : Nat) (z : Nat × Int) (hf : List rb_H) (a : ra_S) (F : rb_D) : Option rb_O := match rc_o (a.2.2.2.1[i]?) with
  | some o => match o.2.2.1, o.2.2.2, hf with
    | [0, 8], [q, x], [h1, h2] => ra_gd (Nat.ble 12 k && (Nat.ble k 16 && (ra_leb ((ra_rg a.1 q).2 + 1) o.2.1 && (rb_far a.1 F h1 (rd_ix q z k) && rb_far a.1 F h2 (rd_xi q z k))))) (some (rb_envs a F (rb_oe (rb_mn a.1 x (-1) 11))))
    | _, _, _ => none
  | none => none
theorem rd_51_ok {i k : Nat} {z : Nat × Int} {hf : List rb_H} {a : ra_S} {F : rb_D} {outs : rb_O} (h : rd_51 i k z hf a F = some outs) : rb_alt b0 ad0 cT a F outs := by
  unfold rd_51 at h
  split at h
  · rename_i o ho
    have ho := rc_o_ok ho
    split at h
    · rename_i q x g1 g2 hp hs
      have hq0 := ra_gd_ok h; clear h; obtain ⟨h1, h⟩ := hq0
      simp only [Bool.and_eq_true] at h1
      obtain ⟨c1, c2, c3, c4, c5⟩ := h1
      have c1 := Nat.le_of_ble_eq_true c1
      have c2 := Nat.le_of_ble_eq_true c2
      have c3 := ra_leb_le c3
      cases h
      intro v lvv stv ws hg hdb hdv
      have hN : ra_cN v a.1 := hg.1
      obtain ⟨q1, w1, o1, o2, f, f1, f2⟩ := ra_a2_get hg.2.2.2.1 ho
      rw [hp, hs] at f2
      rw [hs] at o2
      have lq : q.1 < a.1.length := o2 q (by simp)
      have lx : x.1 < a.1.length := o2 x (by simp)
      obtain ⟨m0, m1, m2⟩ := f2
      have m0 : 0 ≤ v q.1 + q.2 := m0
      have m1 : (f (v q.1 + q.2).toNat).toInt = v x.1 + x.2 := m1
      have m2 : ∀ j, j < o.2.1 → 12 ≤ j % 29 → j % 29 ≤ 16 → -1 ≤ (f j).toInt ∧ (f j).toInt ≤ 11 := m2
      have d1 := rb_far_ok hN hdv c4
      have d2 := rb_far_ok hN hdv c5
      rw [rd_ix_ev] at d1
      rw [rd_xi_ev] at d2
      have hr := rb_rgI hN lq
      have := m2 (v q.1 + q.2).toNat (by omega) (by omega) (by omega)
      rw [m1] at this
      obtain ⟨e, e1, e2, e3⟩ := rb_mn_ok hN lx this.1 this.2
      have key := rb_envs_ok (b0 := b0) (ad0 := ad0) (cT := cT) (a := a) (F := F) (es := rb_oe (rb_mn a.1 x (-1) 11))
      obtain ⟨env, lv, st, aw, ce, sl⟩ := a
      refine ⟨_, List.mem_map.mpr ⟨e, rb_oe_in e1, rfl⟩, rfl, Nat.le_of_eq e3.symm, v, fun _ _ => rfl, ra_g_ext hg (Nat.le_of_eq e3.symm) (fun _ _ => rfl) e2, ?_, hdv⟩
      show rb_db e.length F = true
      rw [e3]
      exact hdb
    · cases h
  · cases h
theorem rd_up {f g : Nat → Int} {n j : Nat} {x : Int} (hf : f = ra_upi g j x) (hg : ∀ j, j < n → 12 ≤ j % 29 → j % 29 ≤ 16 → -1 ≤ g j ∧ g j ≤ 11) (hx : 12 ≤ j % 29 → j % 29 ≤ 16 → -1 ≤ x ∧ x ≤ 11) : ∀ j, j < n → 12 ≤ j % 29 → j % 29 ≤ 16 → -1 ≤ f j ∧ f j ≤ 11 := by
  intro k hk h1 h2
  rw [hf]
  unfold ra_upi
  split
  · rename_i e
    exact hx (by omega) (by omega)
  · exact hg k hk h1 h2
/-- a place written that may be so -/
def rd_52 (is : List Nat) (d : List (Nat × Int)) (hf : List rb_H) (a : ra_S) (F : rb_D) : Option rb_O := match is with
  | [] => none
  | i :: is => match rc_o (a.2.2.2.1[i]?) with
    | some o => match o.2.2.1, o.2.2.2 with
      | 1 :: t, q :: x :: u => match (rc_st t u).1, (rc_st t u).2 with
        | [8], [] => match ra_leb (-1) (ra_rg a.1 x).1 && ra_leb (ra_rg a.1 x).2 11 with
          | true => some [((a.1, a.2.1, a.2.2.1, a.2.2.2.1.set i (rc_oc o [8] []), a.2.2.2.2), F)]
          | false => match is, d, hf with
            | [k], [z], [h1, h2] => ra_gd (Nat.blt k 29 && ((Nat.blt k 12 || Nat.blt 16 k) && (rb_far a.1 F h1 (rd_ix q z k) && rb_far a.1 F h2 (rd_xi q z k)))) (some [((a.1, a.2.1, a.2.2.1, a.2.2.2.1.set i (rc_oc o [8] []), a.2.2.2.2), F)])
            | _, _, _ => none
        | _, _ => none
      | _, _ => none
    | none => none
theorem rd_52_ok {is : List Nat} {d : List (Nat × Int)} {hf : List rb_H} {a : ra_S} {F : rb_D} {outs : rb_O} (h : rd_52 is d hf a F = some outs) : rb_alt b0 ad0 cT a F outs := by
  unfold rd_52 at h
  split at h
  · cases h
  · rename_i i is
    split at h
    · rename_i o ho
      have ho := rc_o_ok ho
      split at h
      · rename_i t q x u hp hs
        split at h
        · rename_i s1 s2
          split at h
          · rename_i hb
            rw [Bool.and_eq_true] at hb
            have k1 := ra_leb_le hb.1
            have k2 := ra_leb_le hb.2
            cases h
            refine rc_alt1 ho (fun v hN hF hbd f hf => ?_)
            rw [hs] at hbd hf
            rw [hp] at hf
            obtain ⟨m0, g, m1, m2⟩ := hf
            have m1 : f = ra_upi g (v q.1 + q.2).toNat (v x.1 + x.2) := m1
            have m2 := (rc_st_ok m2).1
            rw [s1, s2] at m2
            have hr := rb_rgI hN (hbd x (by simp))
            exact ⟨fun t ht => absurd ht List.not_mem_nil, rd_up m1 m2 (fun _ _ => by omega)⟩
          · split at h
            · rename_i k z g1 g2
              have hq0 := ra_gd_ok h; clear h; obtain ⟨h1, h⟩ := hq0
              simp only [Bool.and_eq_true, Bool.or_eq_true] at h1
              obtain ⟨c1, c2, c3, c4⟩ := h1
              have c1 : k < 29 := Nat.le_of_ble_eq_true c1
              cases h
              refine rc_alt1 ho (fun v hN hF hbd f hf => ?_)
              rw [hs] at hbd hf
              rw [hp] at hf
              obtain ⟨m0, g, m1, m2⟩ := hf
              have m0 : 0 ≤ v q.1 + q.2 := m0
              have m1 : f = ra_upi g (v q.1 + q.2).toNat (v x.1 + x.2) := m1
              have m2 := (rc_st_ok m2).1
              rw [s1, s2] at m2
              have d1 := rb_far_ok hN hF c3
              have d2 := rb_far_ok hN hF c4
              rw [rd_ix_ev] at d1
              rw [rd_xi_ev] at d2
              refine ⟨fun t ht => absurd ht List.not_mem_nil, rd_up m1 m2 (fun j1 j2 => ?_)⟩
              exfalso
              rcases c2 with c2 | c2
              · have c2 : k < 12 := Nat.le_of_ble_eq_true c2
                omega
              · have c2 : 16 < k := Nat.le_of_ble_eq_true c2
                omega
            · cases h
        · cases h
      · cases h
    · cases h
/-- a row is moved up by one -/
def rd_53 (i : Nat) (a : ra_S) (F : rb_D) : Option rb_O := match rc_o (a.2.2.2.1[i]?) with
  | some o => match o.2.2.1, o.2.2.2 with
    | [1, 0, 8], [q, x, q2, x2] => ra_gd (rc_eq x2 x && (rc_eq q2 (q.1, q.2 + 29) && (ra_leb ((ra_rg a.1 q2).2 + 1) o.2.1 && ra_leb 0 (ra_rg a.1 q).1))) (some [((a.1, a.2.1, a.2.2.1, a.2.2.2.1.set i (rc_oc o [8] []), a.2.2.2.2), F)])
    | _, _ => none
  | none => none
theorem rd_53_ok {i : Nat} {a : ra_S} {F : rb_D} {outs : rb_O} (h : rd_53 i a F = some outs) : rb_alt b0 ad0 cT a F outs := by
  unfold rd_53 at h
  split at h
  · rename_i o ho
    have ho := rc_o_ok ho
    split at h
    · rename_i q x q2 x2 hp hs
      have hq0 := ra_gd_ok h; clear h; obtain ⟨h1, h⟩ := hq0
      simp only [Bool.and_eq_true] at h1
      obtain ⟨c1, c2, c3, c4⟩ := h1
      have c1 := rc_eq_ok c1
      have c2 := rc_eq_ok c2
      have c3 := ra_leb_le c3
      have c4 := ra_leb_le c4
      cases h
      refine rc_alt1 ho (fun v hN hF hbd f hf => ?_)
      rw [hs] at hbd hf
      rw [hp] at hf
      obtain ⟨m0, g, m1, m3, m4, m2⟩ := hf
      have m0 : 0 ≤ v q.1 + q.2 := m0
      have m1 : f = ra_upi g (v q.1 + q.2).toNat (v x.1 + x.2) := m1
      have m4 : g (v q2.1 + q2.2).toNat = v x2.1 + x2.2 := m4
      have m2 : ∀ j, j < o.2.1 → 12 ≤ j % 29 → j % 29 ≤ 16 → -1 ≤ g j ∧ g j ≤ 11 := m2
      have hr := rb_rgI hN (hbd q2 (by simp))
      have e2 : v q2.1 + q2.2 = v q.1 + q.2 + 29 := by rw [c2]; dsimp only; omega
      refine ⟨fun t ht => absurd ht List.not_mem_nil, rd_up m1 m2 (fun j1 j2 => ?_)⟩
      have := m2 (v q2.1 + q2.2).toNat (by omega) (by omega) (by omega)
      rw [m4, c1] at this
      exact this
    · cases h
  · cases h
theorem rd_enc : ∀ (n : Nat) (f : Nat → Int), (∀ j, -2147483648 ≤ f j ∧ f j ≤ 2147483647) → ∃ c : Nat, c < 4294967296 ^ n ∧ ∀ j, j < n → f j = rd_dig c j
  | 0, f, _ => ⟨0, by simp, fun j hj => absurd hj (Nat.not_lt_zero _)⟩
  | n + 1, f, h => by
    obtain ⟨c, h1, h2⟩ := rd_enc n (fun j => f (j + 1)) (fun j => h (j + 1))
    have h0 := h 0
    obtain ⟨z, hz⟩ : ∃ z : Nat, (z : Int) = f 0 + 2147483648 := ⟨(f 0 + 2147483648).toNat, by omega⟩
    have hz2 : z < 4294967296 := by omega
    have e1 : (z + 4294967296 * c) % 4294967296 = z := by rw [Nat.add_mul_mod_self_left, Nat.mod_eq_of_lt hz2]
    have e2 : (z + 4294967296 * c) / 4294967296 = c := by rw [Nat.add_mul_div_left _ _ (by decide), Nat.div_eq_of_lt hz2, Nat.zero_add]
    refine ⟨z + 4294967296 * c, ?_, fun j hj => ?_⟩
    · rw [Nat.pow_succ, Nat.mul_comm]
      have : 4294967296 * (c + 1) ≤ 4294967296 * 4294967296 ^ n := Nat.mul_le_mul_left _ h1
      rw [Nat.mul_add] at this
      omega
    · cases j with
      | zero =>
        unfold rd_dig
        rw [e1]
        omega
      | succ j =>
        unfold rd_dig
        rw [e2]
        exact h2 j (by omega)
def rd_big : Int := 9745314011399999080353382387875188310876226857595007526867906457212948690766426102465615065882010259225304916231408668183459169865203094046577987296312653419531277699956473029870789655490053648352799593479218378873685597925394874945746363615468965612827738803104277547081828589991914110976
theorem rd_big_ok {c : Nat} (h : c < 4294967296 ^ 30) : (c : Int) ≤ rd_big := by
  have e : 4294967296 ^ 30 ≤ 9745314011399999080353382387875188310876226857595007526867906457212948690766426102465615065882010259225304916231408668183459169865203094046577987296312653419531277699956473029870789655490053648352799593479218378873685597925394874945746363615468965612827738803104277547081828589991914110976 := by decide +kernel
  have e2 : c ≤ 9745314011399999080353382387875188310876226857595007526867906457212948690766426102465615065882010259225304916231408668183459169865203094046577987296312653419531277699956473029870789655490053648352799593479218378873685597925394874945746363615468965612827738803104277547081828589991914110976 := Nat.le_trans (Nat.le_of_lt h) e
  unfold rd_big
  exact Int.ofNat_le.mpr e2
/-- a row by a code -/
def rd_60 (i : Nat) (a : ra_S) (F : rb_D) : Option rb_O := match a with
  | (env, lv, st, aw, ce, sl) => match aw[i]? with
    | some (.inr (.inr (.inl o))) => ra_gd (Nat.blt o.1 3 && Nat.beq o.2.1 30) (some [((env ++ [(0, rd_big)], lv, st, aw.set i (.inr (.inr (.inr (o.1, o.2.1, [9], [(env.length, 0), (0, o.2.2.1), (0, o.2.2.2)])))), ce, sl), F)])
    | _ => none
theorem rd_60_ok {i : Nat} {a : ra_S} {F : rb_D} {outs : rb_O} (h : rd_60 i a F = some outs) : rb_alt b0 ad0 cT a F outs := by
  obtain ⟨env, lv, st, aw, ce, sl⟩ := a
  unfold rd_60 at h
  dsimp only at h
  split at h
  · rename_i o ho
    have hq0 := ra_gd_ok h; clear h; obtain ⟨h1, h⟩ := hq0
    rw [Bool.and_eq_true] at h1
    have k1 : o.1 < 3 := Nat.le_of_ble_eq_true h1.1
    have k2 : o.2.1 = 30 := Nat.eq_of_beq_eq_true h1.2
    cases h
    intro v lvv stv ws hg hdb hdv
    have hN : ra_cN v env := hg.1
    obtain ⟨q1, w1, w2⟩ := ra_a2_get hg.2.2.2.1 ho
    rcases w2 with ⟨h0, f, e1, e2⟩ | ⟨h0, -⟩
    · obtain ⟨c, c1, c2⟩ := rd_enc 30 (fun j => (f j).toInt) (fun j => ra_i32 (f j))
      have hN' := ra_cN_fr (z := (c : Int)) (lo := 0) (hi := rd_big) hN (Int.natCast_nonneg _) (rd_big_ok c1)
      have n1 : ∀ i, i < env.length → (if i = env.length then (c : Int) else v i) = v i := fun i hi => if_neg (by omega)
      have hl : env.length ≤ (env ++ [((0 : Int), rd_big)]).length := by simp
      have hz := hN.2.1
      have hp := hN.1
      refine ⟨_, List.mem_singleton.mpr rfl, rfl, hl, _, n1, rc_g1 hg hl n1 hN' w1 ⟨h0, fun q hq => ?_, f, e1, ?_⟩, rb_db_mono hl hdb, rb_dv_ext hdb n1 hdv⟩
      · simp only [List.mem_cons, List.not_mem_nil, or_false] at hq
        simp only [List.length_append, List.length_singleton]
        rcases hq with rfl | rfl | rfl
        · dsimp only; omega
        · dsimp only; omega
        · dsimp only; omega
      · show ra_base 7 [(if env.length = env.length then (c : Int) else v env.length) + 0, (if 0 = env.length then (c : Int) else v 0) + o.2.2.1, (if 0 = env.length then (c : Int) else v 0) + o.2.2.2] o.2.1 (fun j => (f j).toInt)
        rw [if_pos rfl, if_neg (by omega), hz]
        refine ⟨by omega, fun j hj => ?_⟩
        have e3 := e2 j hj
        rw [k2] at hj
        have e4 := c2 j hj
        have e5 : ((c : Int) + 0).toNat = c := by omega
        rw [e5]
        have e6 : (f j).toInt = rd_dig c j := e4
        exact ⟨e6, by show 0 + o.2.2.1 ≤ (f j).toInt; omega, by show (f j).toInt ≤ 0 + o.2.2.2; omega⟩
    · omega
  · cases h
end
end
