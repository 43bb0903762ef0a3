noncomputable section
/-! the steps without the heap are the machine's -/
section
variable {p : Program} {l : Launch} {e : Env} {R : Room} {s : State} {m : MethodId} {args : Array Value} {below : List Frame} {meth : Method} {c : Code} {Q : State → Prop}
variable {cc : ByteArray} {own : String} {nL : Nat} {A : Nat → Prop} {D : va_G} {cl : List vw_C} {tys : List (ClassId × FieldType)} {Ts : List Cond} {b0 : Nat → Nat} {ad0 : List Nat} {cT : Nat → ClassId} {n0 : Nat} {v0 : Nat → Int}

theorem ra_resV {v : Nat → Int} {env : ra_N} {r : ra_N × (Nat × Int)} {y : Int32} (h : ra_res v env r y.toInt) : env.length ≤ r.1.length ∧ ∃ v' : Nat → Int, (∀ i, i < env.length → v' i = v i) ∧ ra_cN v' r.1 ∧ ∀ ads : List Nat, ra_cV r.1.length v' ads b0 (.inl r.2) (.int y) := by
  obtain ⟨h1, h2, v', h3, h4, h5⟩ := h
  exact ⟨h1, v', h3, h4, fun ads => ⟨h2, y, rfl, h5⟩⟩
theorem ra_a2_mk {α β : Type} {R : α → β → Prop} {a : α} {b : β} {as : List α} {bs : List β} (h : R a b) (h2 : ra_a2 R as bs) : ra_a2 R (a :: as) (b :: bs) := ⟨h, h2⟩
theorem ra_cV_long {n : Nat} {v : Nat → Int} {ads : List Nat} (y : Int64) : ra_cV n v ads b0 (.inr (.inr (.inl 1))) (.long y) := Or.inr (Or.inl ⟨rfl, y, rfl⟩)
theorem ra_longV {n : Nat} {v : Nat → Int} {ads : List Nat} {x : Value} (h : ra_cV n v ads b0 (.inr (.inr (.inl 1))) x) : ∃ y : Int64, x = .long y := by
  rcases h with ⟨h, -⟩ | ⟨-, h⟩ | ⟨h, -⟩
  · cases h
  · exact h
  · omega
theorem ra_scrV {n : Nat} {v : Nat → Int} {ads : List Nat} {z : Nat} (hz : 2 ≤ z) {x : Value} (h : ra_cV n v ads b0 (.inr (.inr (.inl z))) x) : x = .ref (b0 z) := by
  rcases h with ⟨h, -⟩ | ⟨h, -⟩ | ⟨-, h⟩
  · omega
  · omega
  · exact h
/-- a result comes on the stack -/
theorem ra_pushR {v : Nat → Int} {env : ra_N} {lv : List (Nat × ra_V)} {st st1 : List ra_V} {aw : List ra_C} {ce sl : Nat} {lvv : List (Nat × Value)} {stv stv1 : List Value} {ws : va_W} {r : ra_N × (Nat × Int)} {y : Int32} {pc : Nat} (h : ra_res v env r y.toInt) (hg : ra_g b0 ad0 cT v (env, lv, st1, aw, ce, sl) lvv stv1 ws) (hs : ra_a2 (ra_cV env.length v (ws.map Prod.fst) b0) st stv) (hn : n0 ≤ env.length) (hv : ∀ i, i < n0 → v i = v0 i)
    (k : ra_ok p l e R s m args below meth c Q nL A D cl b0 ad0 cT n0 v0 (pc, (r.1, lv, .inl r.2 :: st, aw, ce, sl))) : ra_W p l e R s m args below meth c Q nL A D cl pc lvv (.int y :: stv) ws ce sl := by
  obtain ⟨h1, v', h3, h4, h5⟩ := ra_resV (b0 := b0) h
  have hg' := ra_g_ext (ra_g_st (st' := st) (stv' := stv) (ce' := ce) (sl' := sl) hg hs) h1 h3 h4
  exact k (Nat.le_trans hn h1) v' _ _ ws ⟨hg'.1, hg'.2.1, ⟨h5 _, hg'.2.2.1⟩, hg'.2.2.2⟩ (fun i hi => by rw [h3 i (by omega)]; exact hv i hi)
theorem ra_cat1 {n : Nat} {v : Nat → Int} {ads : List Nat} {a : ra_V} {x : Value} (h : ra_cV n v ads b0 a x) (h2 : (!ra_two a) = true) : x.category = 1 := by
  have h1 := ra_two_ok h
  rcases lv_cat x with h3 | h3
  · exact h3
  · rw [h3] at h1
    rw [← h1] at h2
    cases h2
theorem ra_ne0 {v : Nat → Int} {env : ra_N} (hN : ra_cN v env) {q : Nat × Int} {y : Int32} (h : y.toInt = v q.1 + q.2) (hb : (let b := ra_rg env q; ra_leb 1 b.1 || ra_leb b.2 (-1)) = true) : ¬ y = 0 := by
  have h1 := ra_rg_ok hN h
  simp only [Bool.or_eq_true] at hb
  intro h0
  have h2 : y.toInt = 0 := by rw [h0]; rfl
  rcases hb with hb | hb
  · have := ra_leb_le hb
    omega
  · have := ra_leb_le hb
    omega
theorem ra_tg_ok {pc : Nat} {off : Int} (h : ra_leb 0 ((pc : Int) + off) = true) : (pc : Int) + off = (ra_tg pc off : Int) := by
  have := ra_leb_le h
  unfold ra_tg
  omega
set_option maxHeartbeats 4000000 in
theorem ra_p1_ok {kt : List (Nat × Int)} {kl : List Nat} {i : Instr} {n pc : Nat} {a : ra_S} {out : List (Nat × ra_S)} (h : ra_p1 kt kl nL i n pc a = some out) (X : ra_X p s m args c cc own nL A D cl tys Ts) (hK : ra_okK Ts own kt) (hL : ra_okL Ts own kl) (hdg : decode cc pc = .ok (i, n)) (hs : ∀ x ∈ out, ra_ok p l e R s m args below meth c Q nL A D cl b0 ad0 cT n0 v0 x) : ra_ok p l e R s m args below meth c Q nL A D cl b0 ad0 cT n0 v0 (pc, a) := by
  obtain ⟨env, lv, st, aw, ce, sl⟩ := a
  intro hn v lvv stv ws hg hv
  have hN := hg.1
  dsimp only at hn hN
  have hlv := hg.2.1
  have hst := hg.2.2.1
  dsimp only at hlv hst
  obtain ⟨hx, hb, hml, hown, hts, hKK, hA⟩ := id X
  unfold ra_p1 at h
  dsimp only at h
  split at h
  · have hq0 := ra_gd_ok h; clear h; obtain ⟨h1, h⟩ := hq0
    cases h
    simp only [beq_iff_eq] at h1
    subst h1
    intro H locs ls hP hD hS hl
    refine lv_iconst hx hb hdg rfl ?_
    exact hs _ (List.mem_singleton.mpr rfl) hn v _ _ ws (ra_g_st hg (ra_a2_mk (ra_cV_const hN rfl) hst)) hv H locs ls hP hD hS hl
  · have hq0 := ra_gd_ok h; clear h; obtain ⟨h1, h⟩ := hq0
    cases h
    simp only [beq_iff_eq] at h1
    subst h1
    intro H locs ls hP hD hS hl
    refine lv_bipush hx hb hdg rfl ?_
    exact hs _ (List.mem_singleton.mpr rfl) hn v _ _ ws (ra_g_st hg (ra_a2_mk (ra_cV_const hN rfl) hst)) hv H locs ls hP hD hS hl
  · have hq0 := ra_gd_ok h; clear h; obtain ⟨h1, h⟩ := hq0
    cases h
    simp only [beq_iff_eq] at h1
    subst h1
    intro H locs ls hP hD hS hl
    refine lv_sipush hx hb hdg rfl ?_
    exact hs _ (List.mem_singleton.mpr rfl) hn v _ _ ws (ra_g_st hg (ra_a2_mk (ra_cV_const hN rfl) hst)) hv H locs ls hP hD hS hl
  · have hq0 := ra_gd_ok h; clear h; obtain ⟨h1, h⟩ := hq0
    cases h
    simp only [beq_iff_eq] at h1
    subst h1
    intro H locs ls hP hD hS hl
    refine lv_lconst hx hb hdg rfl ?_
    exact hs _ (List.mem_singleton.mpr rfl) hn v _ _ ws (ra_g_st hg (ra_a2_mk (ra_cV_long _) hst)) hv H locs ls hP hD hS hl
  · have hq0 := ra_gd_ok h; clear h; obtain ⟨h1, h⟩ := hq0
    simp only [beq_iff_eq] at h1
    subst h1
    split at h
    · rename_i k hk
      cases h
      obtain ⟨w, hw, hm⟩ := hK _ (ra_kf_mem hk)
      intro H locs ls hP hD hS hl
      refine lv_ldc hx hb hown (hts _ hm) hdg ?_
      exact hs _ (List.mem_singleton.mpr rfl) hn v _ _ ws (ra_g_st hg (ra_a2_mk (ra_cV_const hN hw) hst)) hv H locs ls hP hD hS hl
    · cases h
  · have hq0 := ra_gd_ok h; clear h; obtain ⟨h1, h⟩ := hq0
    simp only [beq_iff_eq] at h1
    subst h1
    split at h
    · rename_i k hk
      cases h
      obtain ⟨w, hw, hm⟩ := hK _ (ra_kf_mem hk)
      intro H locs ls hP hD hS hl
      refine lv_ldcw hx hb hown (hts _ hm) hdg ?_
      exact hs _ (List.mem_singleton.mpr rfl) hn v _ _ ws (ra_g_st hg (ra_a2_mk (ra_cV_const hN hw) hst)) hv H locs ls hP hD hS hl
    · cases h
  · have hq0 := ra_gd_ok h; clear h; obtain ⟨h1, h⟩ := hq0
    cases h
    simp only [Bool.and_eq_true, beq_iff_eq, List.contains_iff_mem] at h1
    obtain ⟨h1, h2⟩ := h1
    subst h1
    obtain ⟨w, hm⟩ := hL _ h2
    intro H locs ls hP hD hS hl
    refine lv_ldc2 hx hb hown (hts _ hm) hdg ?_
    exact hs _ (List.mem_singleton.mpr rfl) hn v _ _ ws (ra_g_st hg (ra_a2_mk (ra_cV_long _) hst)) hv H locs ls hP hD hS hl
  · have hq0 := ra_gd_ok h; clear h; obtain ⟨h1, h⟩ := hq0
    simp only [beq_iff_eq] at h1
    subst h1
    split at h
    · rename_i q hq
      cases h
      obtain ⟨k, x, g1, g2⟩ := ra_lf_ok hq hlv
      have g3 := g2
      obtain ⟨_, y, rfl, _⟩ := g2
      intro H locs ls hP hD hS hl
      refine lv_iload_n hx hb hdg rfl (lv_at hl k g1) ?_
      exact hs _ (List.mem_singleton.mpr rfl) hn v _ _ ws (ra_g_st hg (ra_a2_mk g3 hst)) hv H locs ls hP hD hS hl
    · cases h
  · have hq0 := ra_gd_ok h; clear h; obtain ⟨h1, h⟩ := hq0
    simp only [beq_iff_eq] at h1
    subst h1
    split at h
    · rename_i q hq
      cases h
      obtain ⟨k, x, g1, g2⟩ := ra_lf_ok hq hlv
      have g3 := g2
      obtain ⟨_, y, rfl, _⟩ := g2
      intro H locs ls hP hD hS hl
      refine lv_iload hx hb hdg (lv_at hl k g1) ?_
      exact hs _ (List.mem_singleton.mpr rfl) hn v _ _ ws (ra_g_st hg (ra_a2_mk g3 hst)) hv H locs ls hP hD hS hl
    · cases h
  · have hq0 := ra_gd_ok h; clear h; obtain ⟨h1, h⟩ := hq0
    simp only [beq_iff_eq] at h1
    subst h1
    split at h
    · rename_i hq
      cases h
      obtain ⟨k, x, g1, g2⟩ := ra_lf_ok hq hlv
      have g3 := g2
      obtain ⟨y, rfl⟩ := ra_longV g2
      intro H locs ls hP hD hS hl
      refine lv_lload_n hx hb hdg rfl (lv_at hl k g1) ?_
      exact hs _ (List.mem_singleton.mpr rfl) hn v _ _ ws (ra_g_st hg (ra_a2_mk g3 hst)) hv H locs ls hP hD hS hl
    · cases h
  · have hq0 := ra_gd_ok h; clear h; obtain ⟨h1, h⟩ := hq0
    simp only [beq_iff_eq] at h1
    subst h1
    split at h
    · rename_i hq
      cases h
      obtain ⟨k, x, g1, g2⟩ := ra_lf_ok hq hlv
      have g3 := g2
      obtain ⟨y, rfl⟩ := ra_longV g2
      intro H locs ls hP hD hS hl
      refine lv_lload hx hb hdg (lv_at hl k g1) ?_
      exact hs _ (List.mem_singleton.mpr rfl) hn v _ _ ws (ra_g_st hg (ra_a2_mk g3 hst)) hv H locs ls hP hD hS hl
    · cases h
  · have hq0 := ra_gd_ok h; clear h; obtain ⟨h1, h⟩ := hq0
    simp only [beq_iff_eq] at h1
    subst h1
    split at h
    · rename_i q hq
      cases h
      obtain ⟨k, x, g1, g2⟩ := ra_lf_ok hq hlv
      have g3 := g2
      obtain ⟨r, _, rfl⟩ := g2
      intro H locs ls hP hD hS hl
      refine lv_aload_n hx hb hdg rfl (lv_at hl k g1) ?_
      exact hs _ (List.mem_singleton.mpr rfl) hn v _ _ ws (ra_g_st hg (ra_a2_mk g3 hst)) hv H locs ls hP hD hS hl
    · rename_i z hq
      have hq2 := ra_gd_ok h; clear h; obtain ⟨hz2, h⟩ := hq2
      have hz := Nat.le_of_ble_eq_true hz2
      cases h
      obtain ⟨k, x, g1, g2⟩ := ra_lf_ok hq hlv
      have g3 := g2
      have g4 := ra_scrV hz g2
      subst g4
      intro H locs ls hP hD hS hl
      refine lv_aload_n hx hb hdg rfl (lv_at hl k g1) ?_
      exact hs _ (List.mem_singleton.mpr rfl) hn v _ _ ws (ra_g_st hg (ra_a2_mk g3 hst)) hv H locs ls hP hD hS hl
    · cases h
  · have hq0 := ra_gd_ok h; clear h; obtain ⟨h1, h⟩ := hq0
    simp only [beq_iff_eq] at h1
    subst h1
    split at h
    · rename_i q hq
      cases h
      obtain ⟨k, x, g1, g2⟩ := ra_lf_ok hq hlv
      have g3 := g2
      obtain ⟨r, _, rfl⟩ := g2
      intro H locs ls hP hD hS hl
      refine lv_aload hx hb hdg (lv_at hl k g1) ?_
      exact hs _ (List.mem_singleton.mpr rfl) hn v _ _ ws (ra_g_st hg (ra_a2_mk g3 hst)) hv H locs ls hP hD hS hl
    · rename_i z hq
      have hq2 := ra_gd_ok h; clear h; obtain ⟨hz2, h⟩ := hq2
      have hz := Nat.le_of_ble_eq_true hz2
      cases h
      obtain ⟨k, x, g1, g2⟩ := ra_lf_ok hq hlv
      have g3 := g2
      have g4 := ra_scrV hz g2
      subst g4
      intro H locs ls hP hD hS hl
      refine lv_aload hx hb hdg (lv_at hl k g1) ?_
      exact hs _ (List.mem_singleton.mpr rfl) hn v _ _ ws (ra_g_st hg (ra_a2_mk g3 hst)) hv H locs ls hP hD hS hl
    · cases h
  · have hq0 := ra_gd_ok h; clear h; obtain ⟨h1, h⟩ := hq0
    simp only [Bool.and_eq_true, beq_iff_eq] at h1
    obtain ⟨h1, h2⟩ := h1
    subst h1
    split at h
    · cases h
      obtain ⟨x, stv1, rfl, g2, g4⟩ := ra_a2_cons hst
      have g3 := g2
      obtain ⟨_, y, rfl, _⟩ := g2
      intro H locs ls hP hD hS hl
      refine lv_istore_n hx hb hdg rfl hl (Nat.le_of_ble_eq_true h2) rfl (fun ls hl => ?_)
      exact hs _ (List.mem_singleton.mpr rfl) hn v _ _ ws ⟨hN, ra_s1_ok hlv g3, g4, hg.2.2.2⟩ hv H locs ls hP hD hS hl
    · cases h
  · have hq0 := ra_gd_ok h; clear h; obtain ⟨h1, h⟩ := hq0
    simp only [Bool.and_eq_true, beq_iff_eq] at h1
    obtain ⟨h1, h2⟩ := h1
    subst h1
    split at h
    · cases h
      obtain ⟨x, stv1, rfl, g2, g4⟩ := ra_a2_cons hst
      have g3 := g2
      obtain ⟨_, y, rfl, _⟩ := g2
      intro H locs ls hP hD hS hl
      refine lv_istore hx hb hdg hl (Nat.le_of_ble_eq_true h2) rfl (fun ls hl => ?_)
      exact hs _ (List.mem_singleton.mpr rfl) hn v _ _ ws ⟨hN, ra_s1_ok hlv g3, g4, hg.2.2.2⟩ hv H locs ls hP hD hS hl
    · cases h
  · have hq0 := ra_gd_ok h; clear h; obtain ⟨h1, h⟩ := hq0
    simp only [Bool.and_eq_true, beq_iff_eq] at h1
    obtain ⟨h1, h2⟩ := h1
    subst h1
    split at h
    · cases h
      obtain ⟨x, stv1, rfl, g2, g4⟩ := ra_a2_cons hst
      have g3 := g2
      obtain ⟨y, rfl⟩ := ra_longV g2
      intro H locs ls hP hD hS hl
      refine lv_lstore_n hx hb hdg rfl hl (Nat.le_of_ble_eq_true h2) rfl (fun ls hl => ?_)
      exact hs _ (List.mem_singleton.mpr rfl) hn v _ _ ws ⟨hN, ra_s2_ok hlv g3, g4, hg.2.2.2⟩ hv H locs ls hP hD hS hl
    · cases h
  · have hq0 := ra_gd_ok h; clear h; obtain ⟨h1, h⟩ := hq0
    simp only [Bool.and_eq_true, beq_iff_eq] at h1
    obtain ⟨h1, h2⟩ := h1
    subst h1
    split at h
    · cases h
      obtain ⟨x, stv1, rfl, g2, g4⟩ := ra_a2_cons hst
      have g3 := g2
      obtain ⟨y, rfl⟩ := ra_longV g2
      intro H locs ls hP hD hS hl
      refine lv_lstore hx hb hdg hl (Nat.le_of_ble_eq_true h2) rfl (fun ls hl => ?_)
      exact hs _ (List.mem_singleton.mpr rfl) hn v _ _ ws ⟨hN, ra_s2_ok hlv g3, g4, hg.2.2.2⟩ hv H locs ls hP hD hS hl
    · cases h
  · have hq0 := ra_gd_ok h; clear h; obtain ⟨h1, h⟩ := hq0
    simp only [Bool.and_eq_true, beq_iff_eq] at h1
    obtain ⟨h1, h2⟩ := h1
    subst h1
    split at h
    · cases h
      obtain ⟨x, stv1, rfl, g2, g4⟩ := ra_a2_cons hst
      have g3 := g2
      obtain ⟨r, _, rfl⟩ := g2
      intro H locs ls hP hD hS hl
      refine lv_astore_n hx hb hdg rfl hl (Nat.le_of_ble_eq_true h2) rfl (fun ls hl => ?_)
      exact hs _ (List.mem_singleton.mpr rfl) hn v _ _ ws ⟨hN, ra_s1_ok hlv g3, g4, hg.2.2.2⟩ hv H locs ls hP hD hS hl
    · rename_i z st1
      have hq2 := ra_gd_ok h; clear h; obtain ⟨hz2, h⟩ := hq2
      have hz := Nat.le_of_ble_eq_true hz2
      cases h
      obtain ⟨x, stv1, rfl, g2, g4⟩ := ra_a2_cons hst
      have g3 := g2
      have g5 := ra_scrV hz g2
      subst g5
      intro H locs ls hP hD hS hl
      refine lv_astore_n hx hb hdg rfl hl (Nat.le_of_ble_eq_true h2) rfl (fun ls hl => ?_)
      exact hs _ (List.mem_singleton.mpr rfl) hn v _ _ ws ⟨hN, ra_s1_ok hlv g3, g4, hg.2.2.2⟩ hv H locs ls hP hD hS hl
    · cases h
  · have hq0 := ra_gd_ok h; clear h; obtain ⟨h1, h⟩ := hq0
    simp only [Bool.and_eq_true, beq_iff_eq] at h1
    obtain ⟨h1, h2⟩ := h1
    subst h1
    split at h
    · cases h
      obtain ⟨x, stv1, rfl, g2, g4⟩ := ra_a2_cons hst
      have g3 := g2
      obtain ⟨r, _, rfl⟩ := g2
      intro H locs ls hP hD hS hl
      refine lv_astore hx hb hdg hl (Nat.le_of_ble_eq_true h2) rfl (fun ls hl => ?_)
      exact hs _ (List.mem_singleton.mpr rfl) hn v _ _ ws ⟨hN, ra_s1_ok hlv g3, g4, hg.2.2.2⟩ hv H locs ls hP hD hS hl
    · rename_i z st1
      have hq2 := ra_gd_ok h; clear h; obtain ⟨hz2, h⟩ := hq2
      have hz := Nat.le_of_ble_eq_true hz2
      cases h
      obtain ⟨x, stv1, rfl, g2, g4⟩ := ra_a2_cons hst
      have g3 := g2
      have g5 := ra_scrV hz g2
      subst g5
      intro H locs ls hP hD hS hl
      refine lv_astore hx hb hdg hl (Nat.le_of_ble_eq_true h2) rfl (fun ls hl => ?_)
      exact hs _ (List.mem_singleton.mpr rfl) hn v _ _ ws ⟨hN, ra_s1_ok hlv g3, g4, hg.2.2.2⟩ hv H locs ls hP hD hS hl
    · cases h
  · have hq0 := ra_gd_ok h; clear h; obtain ⟨h1, h⟩ := hq0
    simp only [Bool.and_eq_true, beq_iff_eq] at h1
    obtain ⟨h1, h2⟩ := h1
    subst h1
    split at h
    · rename_i k0 d x0 q hq
      cases h
      obtain ⟨k, x, g1, g2⟩ := ra_lf_ok hq hlv
      obtain ⟨g5, y, rfl, g6⟩ := g2
      have hr := ra_add_ok (qy := (0, (Int32.ofInt d).toInt)) (y := Int32.ofInt d) hN g5 hN.1 g6 (by show _ = v 0 + _; rw [hN.2.1]; omega)
      obtain ⟨r1, v', r3, r4, r5⟩ := ra_resV (b0 := b0) hr
      have hg' := ra_g_ext hg r1 r3 r4
      intro H locs ls hP hD hS hl
      refine lv_iinc hx hb hdg hl g1 rfl (Nat.le_of_ble_eq_true h2) rfl (fun ls hl => ?_)
      exact hs _ (List.mem_singleton.mpr rfl) (Nat.le_trans hn r1) v' _ _ ws ⟨r4, ra_s1_ok hg'.2.1 (r5 _), hg'.2.2.1, hg'.2.2.2⟩ (fun i hi => by rw [r3 i (by omega)]; exact hv i hi) H locs ls hP hD hS hl
    · cases h
  · have hq0 := ra_gd_ok h; clear h; obtain ⟨h1, h⟩ := hq0
    simp only [beq_iff_eq] at h1
    subst h1
    split at h
    · have hq1 := ra_gd_ok h; clear h; obtain ⟨h2, h⟩ := hq1
      cases h
      obtain ⟨x, stv1, rfl, g2, g4⟩ := ra_a2_cons hst
      obtain ⟨x2, stv2, rfl, g5, g6⟩ := ra_a2_cons g4
      obtain ⟨k1, y, rfl, k2⟩ := g2
      obtain ⟨k3, z, rfl, k4⟩ := g5
      have hne := ra_ne0 hN k2 h2
      have hr := ra_bin_ok ra_gdiv_ok hN k3 k1 k4 k2 trivial
      have kk := ra_pushR hr hg g6 hn hv (hs _ (List.mem_singleton.mpr rfl))
      intro H locs ls hP hD hS hl
      exact lv_idiv hx hb hdg hne (kk H locs ls hP hD hS hl)
    · cases h
  · have hq0 := ra_gd_ok h; clear h; obtain ⟨h1, h⟩ := hq0
    simp only [beq_iff_eq] at h1
    subst h1
    split at h
    · have hq1 := ra_gd_ok h; clear h; obtain ⟨h2, h⟩ := hq1
      cases h
      obtain ⟨x, stv1, rfl, g2, g4⟩ := ra_a2_cons hst
      obtain ⟨x2, stv2, rfl, g5, g6⟩ := ra_a2_cons g4
      obtain ⟨k1, y, rfl, k2⟩ := g2
      obtain ⟨k3, z, rfl, k4⟩ := g5
      have hne := ra_ne0 hN k2 h2
      have hr := ra_bin_ok ra_grem_ok hN k3 k1 k4 k2 trivial
      have kk := ra_pushR hr hg g6 hn hv (hs _ (List.mem_singleton.mpr rfl))
      intro H locs ls hP hD hS hl
      exact lv_irem hx hb hdg hne (kk H locs ls hP hD hS hl)
    · cases h
  · have hq0 := ra_gd_ok h; clear h; obtain ⟨h1, h⟩ := hq0
    simp only [beq_iff_eq] at h1
    subst h1
    split at h
    · cases h
      obtain ⟨x, stv1, rfl, g2, g4⟩ := ra_a2_cons hst
      obtain ⟨x2, stv2, rfl, g5, g6⟩ := ra_a2_cons g4
      obtain ⟨k1, y, rfl, k2⟩ := g2
      obtain ⟨z, rfl⟩ := ra_longV g5
      intro H locs ls hP hD hS hl
      refine lv_lshl hx hb hdg rfl ?_
      exact hs _ (List.mem_singleton.mpr rfl) hn v _ _ ws (ra_g_st hg (ra_a2_mk (ra_cV_long _) g6)) hv H locs ls hP hD hS hl
    · cases h
  · have hq0 := ra_gd_ok h; clear h; obtain ⟨h1, h⟩ := hq0
    simp only [beq_iff_eq] at h1
    subst h1
    split at h
    · cases h
      obtain ⟨x, stv1, rfl, g2, g4⟩ := ra_a2_cons hst
      obtain ⟨x2, stv2, rfl, g5, g6⟩ := ra_a2_cons g4
      obtain ⟨y, rfl⟩ := ra_longV g2
      obtain ⟨z, rfl⟩ := ra_longV g5
      have kk := ra_pushR (ra_fr_ok hN (ra_i32 (lg_cmp z y)).1 (ra_i32 (lg_cmp z y)).2) hg g6 hn hv (hs _ (List.mem_singleton.mpr rfl))
      intro H locs ls hP hD hS hl
      exact W.lcmp hx hb hdg (kk H locs ls hP hD hS hl)
    · cases h
  · have hq0 := ra_gd_ok h; clear h; obtain ⟨h1, h⟩ := hq0
    simp only [beq_iff_eq] at h1
    subst h1
    split at h
    · cases h
      obtain ⟨x, stv1, rfl, g2, g4⟩ := ra_a2_cons hst
      obtain ⟨k1, y, rfl, k2⟩ := g2
      intro H locs ls hP hD hS hl
      refine lv_i2l hx hb hdg rfl ?_
      exact hs _ (List.mem_singleton.mpr rfl) hn v _ _ ws (ra_g_st hg (ra_a2_mk (ra_cV_long _) g4)) hv H locs ls hP hD hS hl
    · cases h
  · have hq0 := ra_gd_ok h; clear h; obtain ⟨h1, h⟩ := hq0
    simp only [beq_iff_eq] at h1
    subst h1
    split at h
    · cases h
      obtain ⟨x, stv1, rfl, g2, g4⟩ := ra_a2_cons hst
      obtain ⟨y, rfl⟩ := ra_longV g2
      have kk := ra_pushR (ra_fr_ok hN (ra_i32 y.toInt32).1 (ra_i32 y.toInt32).2) hg g4 hn hv (hs _ (List.mem_singleton.mpr rfl))
      intro H locs ls hP hD hS hl
      exact lv_l2i hx hb hdg rfl (kk H locs ls hP hD hS hl)
    · cases h
  · have hq0 := ra_gd_ok h; clear h; obtain ⟨h1, h⟩ := hq0
    simp only [beq_iff_eq] at h1
    subst h1
    split at h
    · cases h
      obtain ⟨x, stv1, rfl, g2, g4⟩ := ra_a2_cons hst
      obtain ⟨k1, y, rfl, k2⟩ := g2
      have hr := ra_bin_ok ra_gi2b_ok (qy := (0, 0)) (y := 0) hN k1 hN.1 k2 (by show _ = v 0 + _; rw [hN.2.1]; rfl) trivial
      have kk := ra_pushR hr hg g4 hn hv (hs _ (List.mem_singleton.mpr rfl))
      intro H locs ls hP hD hS hl
      exact lv_i2b hx hb hdg rfl (kk H locs ls hP hD hS hl)
    · cases h
  · have hq0 := ra_gd_ok h; clear h; obtain ⟨h1, h⟩ := hq0
    simp only [beq_iff_eq] at h1
    subst h1
    split at h
    · cases h
      obtain ⟨x, stv1, rfl, g2, g4⟩ := ra_a2_cons hst
      obtain ⟨k1, y, rfl, k2⟩ := g2
      have hr := ra_bin_ok ra_gi2c_ok (qy := (0, 0)) (y := 0) hN k1 hN.1 k2 (by show _ = v 0 + _; rw [hN.2.1]; rfl) trivial
      have kk := ra_pushR hr hg g4 hn hv (hs _ (List.mem_singleton.mpr rfl))
      intro H locs ls hP hD hS hl
      exact lv_i2c hx hb hdg rfl (kk H locs ls hP hD hS hl)
    · cases h
  · have hq0 := ra_gd_ok h; clear h; obtain ⟨h1, h⟩ := hq0
    simp only [beq_iff_eq] at h1
    subst h1
    split at h
    · have hq1 := ra_gd_ok h; clear h; obtain ⟨h2, h⟩ := hq1
      cases h
      obtain ⟨x, stv1, rfl, g2, g4⟩ := ra_a2_cons hst
      intro H locs ls hP hD hS hl
      refine lv_dup hx hb hdg (ra_cat1 g2 h2) ?_
      exact hs _ (List.mem_singleton.mpr rfl) hn v _ _ ws (ra_g_st hg (ra_a2_mk g2 (ra_a2_mk g2 g4))) hv H locs ls hP hD hS hl
    · cases h
  · have hq0 := ra_gd_ok h; clear h; obtain ⟨h1, h⟩ := hq0
    simp only [beq_iff_eq] at h1
    subst h1
    split at h
    · have hq1 := ra_gd_ok h; clear h; obtain ⟨h2, h⟩ := hq1
      cases h
      rw [Bool.and_eq_true] at h2
      obtain ⟨x, stv1, rfl, g2, g4⟩ := ra_a2_cons hst
      obtain ⟨x2, stv2, rfl, g5, g6⟩ := ra_a2_cons g4
      intro H locs ls hP hD hS hl
      refine lv_dup2_11 hx hb hdg (ra_cat1 g2 h2.1) (ra_cat1 g5 h2.2) ?_
      exact hs _ (List.mem_singleton.mpr rfl) hn v _ _ ws (ra_g_st hg (ra_a2_mk g2 (ra_a2_mk g5 (ra_a2_mk g2 (ra_a2_mk g5 g6))))) hv H locs ls hP hD hS hl
    · cases h
  · have hq0 := ra_gd_ok h; clear h; obtain ⟨h1, h⟩ := hq0
    simp only [beq_iff_eq] at h1
    subst h1
    split at h
    · have hq1 := ra_gd_ok h; clear h; obtain ⟨h2, h⟩ := hq1
      cases h
      obtain ⟨x, stv1, rfl, g2, g4⟩ := ra_a2_cons hst
      intro H locs ls hP hD hS hl
      refine lv_pop hx hb hdg (ra_cat1 g2 h2) ?_
      exact hs _ (List.mem_singleton.mpr rfl) hn v _ _ ws (ra_g_st hg g4) hv H locs ls hP hD hS hl
    · cases h
  · have hq0 := ra_gd_ok h; clear h; obtain ⟨h1, h⟩ := hq0
    cases h
    simp only [Bool.and_eq_true, beq_iff_eq] at h1
    obtain ⟨h1, h2⟩ := h1
    subst h1
    intro H locs ls hP hD hS hl
    refine lv_goto hx hb hdg (ra_tg_ok h2) ?_
    exact hs _ (List.mem_singleton.mpr rfl) hn v _ _ ws hg hv H locs ls hP hD hS hl
  · split at h
    · rename_i op hop
      have hq0 := ra_gd_ok h; clear h; obtain ⟨h1, h⟩ := hq0
      simp only [beq_iff_eq] at h1
      subst h1
      split at h
      · cases h
        obtain ⟨x, stv1, rfl, g2, g4⟩ := ra_a2_cons hst
        obtain ⟨x2, stv2, rfl, g5, g6⟩ := ra_a2_cons g4
        obtain ⟨k1, y, rfl, k2⟩ := g2
        obtain ⟨k3, z, rfl, k4⟩ := g5
        exact ra_bopW hop X hdg (ra_pushR (ra_bop_ok hop hN k3 k1 k4 k2) hg g6 hn hv (hs _ (List.mem_singleton.mpr rfl)))
      · cases h
    · have hq0 := ra_gd_ok h; clear h; obtain ⟨h1, h⟩ := hq0
      simp only [Bool.and_eq_true, beq_iff_eq] at h1
      obtain ⟨h1, h2⟩ := h1
      subst h1
      split at h
      · cases h
        obtain ⟨x, stv1, rfl, g2, g4⟩ := ra_a2_cons hst
        obtain ⟨x2, stv2, rfl, g5, g6⟩ := ra_a2_cons g4
        obtain ⟨y, rfl⟩ := ra_longV g2
        obtain ⟨z, rfl⟩ := ra_longV g5
        intro H locs ls hP hD hS hl
        have kk : ∀ w : Int64, W p l e R s m args below meth c H locs ce sl Q (F0 m (pc + 1) ls (.long w :: stv2)) := fun w => hs _ (List.mem_singleton.mpr rfl) hn v _ _ ws (ra_g_st hg (ra_a2_mk (ra_cV_long _) g6)) hv H locs ls hP hD hS hl
        unfold ra_lop at h2
        split at h2
        · exact lv_ladd hx hb hdg (kk _)
        · exact lv_lsub hx hb hdg (kk _)
        · exact lv_lmul hx hb hdg (kk _)
        · exact lv_lor hx hb hdg (kk _)
        · exact lv_land hx hb hdg (kk _)
        · exact lv_lxor hx hb hdg (kk _)
        · cases h2
      · cases h
end
end
