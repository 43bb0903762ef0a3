noncomputable section
/-! steps that keep sayings, and that add some -/
section
variable {p : Program} {l : Launch} {e : Env} {R : Room} {s : State} {m : MethodId} {args : Array Value} {below : List Frame} {meth : Method} {c : Code} {Q : State → Prop}
variable {cc : ByteArray} {own : String} {nL : Nat} {A : Nat → Prop} {D : va_G} {cl : List vw_C} {tys : List (ClassId × FieldType)} {Ts : List Cond} {b0 : Nat → Nat} {ad0 : List Nat} {cT : Nat → ClassId} {n0 : Nat} {v0 : Nat → Int}
variable {sc : String}
variable {nw : List (String × Nat × MethodName × String)}
abbrev rb_T : Type := Nat × ra_S × rb_D
def rb_ok (p : Program) (l : Launch) (e : Env) (R : Room) (s : State) (m : MethodId) (args : Array Value) (below : List Frame) (meth : Method) (c : Code) (Q : State → Prop) (nL : Nat) (A : Nat → Prop) (D : va_G) (cl : List vw_C) (b0 : Nat → Nat) (ad0 : List Nat) (cT : Nat → ClassId) (n0 : Nat) (v0 : Nat → Int) (x : rb_T) : Prop :=
  n0 ≤ x.2.1.1.length → ∀ (v : Nat → Int) (lv : List (Nat × Value)) (st : List Value) (ws : va_W), ra_g b0 ad0 cT v x.2.1 lv st ws → (∀ i, i < n0 → v i = v0 i) → rb_db x.2.1.1.length x.2.2 = true → rb_dv v x.2.2 → ra_W p l e R s m args below meth c Q nL A D cl x.1 lv st ws x.2.1.2.2.2.2.1 x.2.1.2.2.2.2.2
theorem ra_scr_ext {sb n : Nat} {v : Nat → Int} (h : ra_scr s A b0 sb n0 v0) (hn : n0 ≤ n) (hv : ∀ i, i < n0 → v i = v0 i) : ra_scr s A b0 sb n v := by
  obtain ⟨L, xs, h1, h2, h3, h4, h5, h7, hw⟩ := h
  refine ⟨L, xs, h1, h2, h3, h4, by omega, by rw [hv 1 (by omega)]; exact h7, fun h0 => ?_⟩
  obtain ⟨h6, h8, h9, h10⟩ := hw h0
  refine ⟨by omega, by rw [hv 2 (by omega)]; exact h8, by rw [hv 2 (by omega)]; exact h9, fun j hj => ?_⟩
  rw [hv 2 (by omega), hv (sb + j) (by omega)]
  exact h10 j hj
set_option maxHeartbeats 1000000 in
theorem rb_one_ok {spl : Nat} {tyv : Nat → Nat → FieldType} {ini : Option Nat} {sci : Nat} {hs0 : Bool} {sb : Nat} {MT : List ra_M} {RC RS RF RL : Nat} {I : ra_I} {rt : Option FieldType} {mc ms : Nat} (X : ra_X p s m args c cc own nL A D cl (ra_T sc cT) Ts) (hEx : ra_Ex sc nw s) (hG : ∀ w ∈ Ts, goodWord w = true) (hI : ra_okI Ts own sc cl nw MT cc I) (hC : ra_okC Ts cl tyv) (hIn : ∀ ci, ini = some ci → meth.name = "<init>" ∧ ∀ (rc : vw_C) (k : Nat), cl[ci]? = some rc → k < rc.2.2 → (rc.2.1 k).1 = own) {rsc : vw_C} (hsci : cl[sci]? = some rsc) (hsn : rsc.1 = sc) (hsc : hs0 = true → ra_scr s A b0 sb n0 v0) (hAr : ra_okA Ts) (hRC : RC ≤ R.cells) (hRS : RS ≤ R.slots) (hRF : RF ≤ R.frames) (hRL : RL ≤ R.locals) (hLaw : hs0 = true → ∀ (pc : Nat) (lv : List (Nat × Value)) (ws : va_W) (ce sl : Nat), decode cc pc = .ok (.ireturn, 1) → ce ≤ mc → sl ≤ ms → ra_W p l e R s m args below meth c Q nL A D cl pc lv [.int 1] ws ce sl)
    {pc : Nat} {a : ra_S} {F : rb_D} {r : List (Nat × ra_S) × List ra_Hn} (h : ra_one spl nL cl tyv ini sci hs0 sb MT [] RC RS RF RL I rt 0 [] mc ms pc a [(0, [], [], [])] = some r) (hs : ∀ x ∈ r.1, rb_ok p l e R s m args below meth c Q nL A D cl b0 ad0 cT n0 v0 (x.1, x.2, F)) : rb_ok p l e R s m args below meth c Q nL A D cl b0 ad0 cT n0 v0 (pc, a, F) := by
  intro hn v lv st ws hg hv hb hd
  have hn : n0 ≤ a.1.length := hn
  have hpf := hg.2.2.2.2
  have hlen : ra_pf ad0 ws := hpf
  refine ra_one_ok (spl := spl) (n0 := a.1.length) (v0 := v) (K := []) (posts := []) (np := 0) (vE := v) (ws0 := ad0.map (fun q => (q, .inr (0, [])))) (tp := [(0, [], [], [])]) X hEx hG hI hC hIn hsci hsn (fun q => ra_scr_ext (hsc q) hn hv) hAr (fun k hk => nomatch hk) hRC hRS hRF hRL (Nat.zero_le _) (fun i hi => rfl) (by rw [List.map_map]; exact (List.map_id _).symm) hLaw (rt := rt) ?_ h ?_ (Nat.le_refl _) v lv st ws hg (fun _ _ => rfl)
  · intro _ i pc lv st ws r _ _ hpv
    obtain ⟨⟨q, hq, -⟩, -⟩ := hpv
    cases hq
  · exact fun x hx hn' v' lv' st' ws' hg' hv' => hs x hx (Nat.le_trans hn hn') v' lv' st' ws' hg' (fun i hi => by rw [hv' i (Nat.lt_of_lt_of_le hi hn)]; exact hv i hi) (rb_db_mono hn' hb) (rb_dv_ext hb hv' hd)
/-- a - b and what is added -/
def rb_df (a b : Nat × Int) (k : Int) : ra_L := ([(a.1, 1), (b.1, -1)], a.2 - b.2 + k)
theorem rb_df_ev (v : Nat → Int) (a b : Nat × Int) (k : Int) : ra_ev v (rb_df a b k) = (v a.1 + a.2) - (v b.1 + b.2) + k := by
  simp only [rb_df, ra_ev, List.foldr_cons, List.foldr_nil]
  omega
theorem rb_df_lb {n : Nat} {a b : Nat × Int} {k : Int} (h1 : a.1 < n) (h2 : b.1 < n) : rb_lb n (rb_df a b k) = true := by
  simp only [rb_lb, rb_df, List.all_cons, List.all_nil, Bool.and_true, Bool.and_eq_true]
  exact ⟨Nat.ble_eq_true_of_le h1, Nat.ble_eq_true_of_le h2⟩
def rb_t3 (r x y : Nat × Int) (a b d : Int) : ra_L := ([(r.1, a), (x.1, b), (y.1, d)], a * r.2 + b * x.2 + d * y.2)
theorem rb_t3_ev (v : Nat → Int) (r x y : Nat × Int) (a b d : Int) : ra_ev v (rb_t3 r x y a b d) = a * (v r.1 + r.2) + b * (v x.1 + x.2) + d * (v y.1 + y.2) := by
  simp only [rb_t3, ra_ev, List.foldr_cons, List.foldr_nil, Int.mul_add]
  omega
theorem rb_t3_lb {n : Nat} {r x y : Nat × Int} {a b d : Int} (h0 : r.1 < n) (h1 : x.1 < n) (h2 : y.1 < n) : rb_lb n (rb_t3 r x y a b d) = true := by
  simp only [rb_lb, rb_t3, List.all_cons, List.all_nil, Bool.and_true, Bool.and_eq_true]
  exact ⟨Nat.ble_eq_true_of_le h0, Nat.ble_eq_true_of_le h1, Nat.ble_eq_true_of_le h2⟩
theorem rb_db_nil {n : Nat} : rb_db n [] = true := rfl
theorem rb_db_cons {n : Nat} {d : ra_L} {F : rb_D} (h : rb_lb n d = true) (h2 : rb_db n F = true) : rb_db n (d :: F) = true := by
  unfold rb_db
  rw [List.all_cons, Bool.and_eq_true]
  exact ⟨h, h2⟩
theorem rb_db_app {n : Nat} {F G : rb_D} (h : rb_db n F = true) (h2 : rb_db n G = true) : rb_db n (F ++ G) = true := by
  unfold rb_db
  rw [List.all_append, Bool.and_eq_true]
  exact ⟨h, h2⟩
theorem rb_dv_nil {v : Nat → Int} : rb_dv v [] := fun d hd => nomatch hd
theorem rb_dv_cons {v : Nat → Int} {d : ra_L} {F : rb_D} (h : 0 ≤ ra_ev v d) (h2 : rb_dv v F) : rb_dv v (d :: F) := fun x hx => by
  rcases List.mem_cons.mp hx with e | e
  · rw [e]; exact h
  · exact h2 x e
theorem rb_dv_app {v : Nat → Int} {F G : rb_D} (h : rb_dv v F) (h2 : rb_dv v G) : rb_dv v (F ++ G) := fun x hx => by
  rcases List.mem_append.mp hx with e | e
  · exact h x e
  · exact h2 x e
/-- what an operation says of its result -/
def rb_rf (i : Instr) (env : ra_N) (x y r : Nat × Int) : rb_D := match i with
  | .iadd => let a := ra_rg env x; let b := ra_rg env y; if ra_inr (a.1 + b.1) (a.2 + b.2) then [rb_t3 r x y 1 (-1) (-1), rb_t3 r x y (-1) 1 1] else []
  | .isub => let a := ra_rg env x; let b := ra_rg env y; if ra_inr (a.1 - b.2) (a.2 - b.1) then [rb_t3 r x y 1 (-1) 1, rb_t3 r x y (-1) 1 (-1)] else []
  | .imul => (let a := ra_rg env x; let k := ra_nm env y; if k.1 = 0 ∧ ra_leb 0 k.2 = true ∧ ra_inr (a.1 * k.2) (a.2 * k.2) = true then [rb_t3 r x y 1 (-k.2) 0, rb_t3 r x y (-1) k.2 0] else []) ++ (let b := ra_rg env y; let k := ra_nm env x; if k.1 = 0 ∧ ra_leb 0 k.2 = true ∧ ra_inr (b.1 * k.2) (b.2 * k.2) = true then [rb_t3 r x y 1 0 (-k.2), rb_t3 r x y (-1) 0 k.2] else [])
  | .iand => (if ra_leb 0 (ra_rg env y).1 then [rb_df y r 0] else []) ++ (if ra_leb 0 (ra_rg env x).1 then [rb_df x r 0] else [])
  | _ => []
theorem rb_rf_ok {i : Instr} {v v' : Nat → Int} {env : ra_N} {n : Nat} (hN : ra_cN v env) {qx qy r : Nat × Int} {x y : Int32} (hx : qx.1 < env.length) (hy : qy.1 < env.length) (ex : x.toInt = v qx.1 + qx.2) (ey : y.toInt = v qy.1 + qy.2) (hv : ∀ i, i < env.length → v' i = v i) (hn : env.length ≤ n) (hr : r.1 < n) (ez : (ra_bopv i x y).toInt = v' r.1 + r.2) : rb_db n (rb_rf i env qx qy r) = true ∧ rb_dv v' (rb_rf i env qx qy r) := by
  have bx := ra_rg_ok hN ex
  have by_ := ra_rg_ok hN ey
  have hx' : qx.1 < n := by omega
  have hy' : qy.1 < n := by omega
  rw [← hv _ hx] at ex
  rw [← hv _ hy] at ey
  unfold rb_rf
  split
  · dsimp only
    split
    · rename_i h
      have h2 := ra_inr_ok h
      have e := ra_toInt_add x y (by omega)
      have ez : (x + y).toInt = v' r.1 + r.2 := ez
      exact ⟨rb_db_cons (rb_t3_lb hr hx' hy') (rb_db_cons (rb_t3_lb hr hx' hy') rfl), rb_dv_cons (by rw [rb_t3_ev]; omega) (rb_dv_cons (by rw [rb_t3_ev]; omega) rb_dv_nil)⟩
    · exact ⟨rfl, rb_dv_nil⟩
  · dsimp only
    split
    · rename_i h
      have h2 := ra_inr_ok h
      have e := ra_toInt_sub x y (by omega)
      have ez : (x - y).toInt = v' r.1 + r.2 := ez
      exact ⟨rb_db_cons (rb_t3_lb hr hx' hy') (rb_db_cons (rb_t3_lb hr hx' hy') rfl), rb_dv_cons (by rw [rb_t3_ev]; omega) (rb_dv_cons (by rw [rb_t3_ev]; omega) rb_dv_nil)⟩
    · exact ⟨rfl, rb_dv_nil⟩
  · have ez : (x * y).toInt = v' r.1 + r.2 := ez
    have F1 : rb_db n (let a := ra_rg env qx; let k := ra_nm env qy; if k.1 = 0 ∧ ra_leb 0 k.2 = true ∧ ra_inr (a.1 * k.2) (a.2 * k.2) = true then [rb_t3 r qx qy 1 (-k.2) 0, rb_t3 r qx qy (-1) k.2 0] else []) = true ∧ rb_dv v' (let a := ra_rg env qx; let k := ra_nm env qy; if k.1 = 0 ∧ ra_leb 0 k.2 = true ∧ ra_inr (a.1 * k.2) (a.2 * k.2) = true then [rb_t3 r qx qy 1 (-k.2) 0, rb_t3 r qx qy (-1) k.2 0] else []) := by
      dsimp only
      split
      · rename_i h
        obtain ⟨h1, h2, h3⟩ := h
        have h2 := ra_leb_le h2
        have h3 := ra_inr_ok h3
        have ek : y.toInt = (ra_nm env qy).2 := by
          have := (ra_nm_ok hN hy (by rw [ey, hv _ hy])).2
          rw [this, h1, hN.2.1]
          omega
        have m1 : (ra_rg env qx).1 * (ra_nm env qy).2 ≤ x.toInt * (ra_nm env qy).2 := Int.mul_le_mul_of_nonneg_right bx.1 h2
        have m2 : x.toInt * (ra_nm env qy).2 ≤ (ra_rg env qx).2 * (ra_nm env qy).2 := Int.mul_le_mul_of_nonneg_right bx.2 h2
        have e := ra_toInt_mul x y (by rw [ek]; omega)
        rw [ek] at e
        have e2 : (ra_nm env qy).2 * (v' qx.1 + qx.2) = x.toInt * (ra_nm env qy).2 := by rw [ex, Int.mul_comm]
        exact ⟨rb_db_cons (rb_t3_lb hr hx' hy') (rb_db_cons (rb_t3_lb hr hx' hy') rfl), rb_dv_cons (by rw [rb_t3_ev, Int.neg_mul, e2]; omega) (rb_dv_cons (by rw [rb_t3_ev, e2]; omega) rb_dv_nil)⟩
      · exact ⟨rfl, rb_dv_nil⟩
    have F2 : rb_db n (let b := ra_rg env qy; let k := ra_nm env qx; if k.1 = 0 ∧ ra_leb 0 k.2 = true ∧ ra_inr (b.1 * k.2) (b.2 * k.2) = true then [rb_t3 r qx qy 1 0 (-k.2), rb_t3 r qx qy (-1) 0 k.2] else []) = true ∧ rb_dv v' (let b := ra_rg env qy; let k := ra_nm env qx; if k.1 = 0 ∧ ra_leb 0 k.2 = true ∧ ra_inr (b.1 * k.2) (b.2 * k.2) = true then [rb_t3 r qx qy 1 0 (-k.2), rb_t3 r qx qy (-1) 0 k.2] else []) := by
      dsimp only
      split
      · rename_i h
        obtain ⟨h1, h2, h3⟩ := h
        have h2 := ra_leb_le h2
        have h3 := ra_inr_ok h3
        have ek : x.toInt = (ra_nm env qx).2 := by
          have := (ra_nm_ok hN hx (by rw [ex, hv _ hx])).2
          rw [this, h1, hN.2.1]
          omega
        have m1 : (ra_rg env qy).1 * (ra_nm env qx).2 ≤ y.toInt * (ra_nm env qx).2 := Int.mul_le_mul_of_nonneg_right by_.1 h2
        have m2 : y.toInt * (ra_nm env qx).2 ≤ (ra_rg env qy).2 * (ra_nm env qx).2 := Int.mul_le_mul_of_nonneg_right by_.2 h2
        have e := ra_toInt_mul x y (by rw [ek, Int.mul_comm]; omega)
        rw [ek, Int.mul_comm] at e
        have e2 : (ra_nm env qx).2 * (v' qy.1 + qy.2) = y.toInt * (ra_nm env qx).2 := by rw [ey, Int.mul_comm]
        exact ⟨rb_db_cons (rb_t3_lb hr hx' hy') (rb_db_cons (rb_t3_lb hr hx' hy') rfl), rb_dv_cons (by rw [rb_t3_ev, Int.neg_mul, e2]; omega) (rb_dv_cons (by rw [rb_t3_ev, e2]; omega) rb_dv_nil)⟩
      · exact ⟨rfl, rb_dv_nil⟩
    exact ⟨rb_db_app F1.1 F2.1, rb_dv_app F1.2 F2.2⟩
  · have ez : (x &&& y).toInt = v' r.1 + r.2 := ez
    refine ⟨rb_db_app ?_ ?_, rb_dv_app ?_ ?_⟩
    · split
      · exact rb_db_cons (rb_df_lb hy' hr) rfl
      · rfl
    · split
      · exact rb_db_cons (rb_df_lb hx' hr) rfl
      · rfl
    · split
      · rename_i h
        have h2 := ra_leb_le h
        have := ra_and_le (x := x) (y := y) (by omega)
        exact rb_dv_cons (by rw [rb_df_ev]; omega) rb_dv_nil
      · exact rb_dv_nil
    · split
      · rename_i h
        have h2 := ra_leb_le h
        have := ra_and_le (x := y) (y := x) (by omega)
        have e : x &&& y = y &&& x := by
          rw [← Int32.toBitVec_inj, Int32.toBitVec_and, Int32.toBitVec_and, BitVec.and_comm]
        rw [← e] at this
        exact rb_dv_cons (by rw [rb_df_ev]; omega) rb_dv_nil
      · exact rb_dv_nil
  · exact ⟨rfl, rb_dv_nil⟩
def rb_recb (i : Instr) (n pc : Nat) (a : ra_S) (F : rb_D) : Option (List rb_T) := match a with
  | (env, lv, st, aw, ce, sl) => match ra_bop i with
    | some op => ra_gd (n == 1) (match st with
      | .inl y :: .inl x :: st => let r := op env x y; some [(pc + 1, (r.1, lv, .inl r.2 :: st, aw, ce, sl), F ++ rb_rf i env x y r.2)]
      | _ => none)
    | none => none
theorem rb_recb_ok {i : Instr} {n pc : Nat} {a : ra_S} {F : rb_D} {out : List rb_T} (h : rb_recb i n pc a F = some out) (X : ra_X p s m args c cc own nL A D cl tys Ts) (hdg : decode cc pc = .ok (i, n)) (hs : ∀ x ∈ out, rb_ok p l e R s m args below meth c Q nL A D cl b0 ad0 cT n0 v0 x) : rb_ok p l e R s m args below meth c Q nL A D cl b0 ad0 cT n0 v0 (pc, a, F) := by
  obtain ⟨env, lv, st, aw, ce, sl⟩ := a
  intro hn v lvv stv ws hg hv hdb hdv
  have hst := hg.2.2.1
  have hN := hg.1
  dsimp only at hn hst hN hdb hdv
  unfold rb_recb at h
  dsimp only at h
  split at h
  · rename_i op hop
    have hq0 := ra_gd_ok h; clear h; obtain ⟨h1, h⟩ := hq0
    rw [beq_iff_eq] at h1
    subst h1
    split at h
    · cases h
      obtain ⟨x, stv1, rfl, g2, g4⟩ := ra_a2_cons hst
      obtain ⟨x2, stv2, rfl, g5, g6⟩ := ra_a2_cons g4
      obtain ⟨k1, y, rfl, k2⟩ := g2
      obtain ⟨k3, z, rfl, k4⟩ := g5
      obtain ⟨r1, r2, v', r3, r4, r5⟩ := ra_bop_ok hop hN k3 k1 k4 k2
      have hf := rb_rf_ok (i := i) hN k3 k1 k4 k2 r3 r1 r2 r5
      have hg' := ra_g_ext (ra_g_st (st' := _) (stv' := stv2) (ce' := ce) (sl' := sl) hg g6) r1 r3 r4
      refine ra_bopW hop X hdg (hs _ (List.mem_singleton.mpr rfl) (Nat.le_trans hn r1) v' _ _ ws ⟨hg'.1, hg'.2.1, ⟨⟨r2, _, rfl, r5⟩, hg'.2.2.1⟩, hg'.2.2.2⟩ (fun i hi => by rw [r3 i (by omega)]; exact hv i hi) (rb_db_app (rb_db_mono r1 hdb) hf.1) (rb_dv_app (rb_dv_ext hdb r3 hdv) hf.2))
    · cases h
  · cases h
/-- the rest is less than what it is by -/
def rb_recr (n pc : Nat) (a : ra_S) (F : rb_D) : Option (List rb_T) := match a with
  | (env, lv, st, aw, ce, sl) => ra_gd (n == 1) (match st with
    | .inl y :: .inl x :: st => ra_gd (ra_leb 1 (ra_rg env y).1) (let r := ra_bin ra_frem ra_grem env x y; some [(pc + 1, (r.1, lv, .inl r.2 :: st, aw, ce, sl), F ++ [rb_df y r.2 (-1)])])
    | _ => none)
theorem rb_recr_ok {n pc : Nat} {a : ra_S} {F : rb_D} {out : List rb_T} (h : rb_recr n pc a F = some out) (X : ra_X p s m args c cc own nL A D cl tys Ts) (hdg : decode cc pc = .ok (.irem, n)) (hs : ∀ x ∈ out, rb_ok p l e R s m args below meth c Q nL A D cl b0 ad0 cT n0 v0 x) : rb_ok p l e R s m args below meth c Q nL A D cl b0 ad0 cT n0 v0 (pc, a, F) := by
  obtain ⟨env, lv, st, aw, ce, sl⟩ := a
  intro hn v lvv stv ws hg hv hdb hdv
  have hst := hg.2.2.1
  have hN := hg.1
  dsimp only at hn hst hN hdb hdv
  obtain ⟨hx, hb, hml, hown, hts, hKK, hA⟩ := id X
  unfold rb_recr at h
  dsimp only at h
  have hq0 := ra_gd_ok h; clear h; obtain ⟨h1, h⟩ := hq0
  rw [beq_iff_eq] at h1
  subst h1
  split at h
  · have hq1 := ra_gd_ok h; clear h; obtain ⟨h2, h⟩ := hq1
    have h2 := ra_leb_le h2
    cases h
    obtain ⟨x, stv1, rfl, g2, g4⟩ := ra_a2_cons hst
    obtain ⟨x2, stv2, rfl, g5, g6⟩ := ra_a2_cons g4
    obtain ⟨k1, y, rfl, k2⟩ := g2
    obtain ⟨k3, z, rfl, k4⟩ := g5
    have hy := ra_rg_ok hN k2
    have hne : ¬ y = 0 := fun q => by
      have : y.toInt = 0 := by rw [q]; rfl
      omega
    obtain ⟨r1, r2, v', r3, r4, r5⟩ := ra_bin_ok ra_grem_ok hN k3 k1 k4 k2 trivial
    have hg' := ra_g_ext (ra_g_st (st' := _) (stv' := stv2) (ce' := ce) (sl' := sl) hg g6) r1 r3 r4
    have e1 := ra_toInt_rem z y (by omega)
    have e2 := Int.tmod_lt_of_pos z.toInt (b := y.toInt) (by omega)
    intro H locs ls hP hD hS hl
    refine lv_irem hx hb hdg hne (hs _ (List.mem_singleton.mpr rfl) (Nat.le_trans hn r1) v' _ (.int (ra_frem z y) :: stv2) ws ⟨hg'.1, hg'.2.1, ⟨⟨r2, _, rfl, r5⟩, hg'.2.2.1⟩, hg'.2.2.2⟩ (fun i hi => by rw [r3 i (by omega)]; exact hv i hi) (rb_db_app (rb_db_mono r1 hdb) (rb_db_cons (rb_df_lb (Nat.lt_of_lt_of_le k1 r1) r2) rfl)) (rb_dv_app (rb_dv_ext hdb r3 hdv) (rb_dv_cons ?_ rb_dv_nil)) H locs ls hP hD hS hl)
    rw [rb_df_ev, ← r5, r3 _ k1, ← k2]
    omega
  · cases h
/-- both ways of a comparison, with what they say -/
def rb_cs (k : Nat) (env : ra_N) (x y : Nat × Int) : List (ra_N × rb_D) := match k with
  | 0 => (ra_le 1 env x y).map (fun e => (e, [rb_df y x (-1)]))
  | 1 => (ra_le 0 env y x).map (fun e => (e, [rb_df x y 0]))
  | 2 => (ra_cmpT 2 env x y).map (fun e => (e, [rb_df x y 0, rb_df y x 0]))
  | 3 => (ra_le 1 env x y).map (fun e => (e, [rb_df y x (-1)])) ++ (ra_le 1 env y x).map (fun e => (e, [rb_df x y (-1)]))
  | 4 => (ra_le 1 env y x).map (fun e => (e, [rb_df x y (-1)]))
  | _ => (ra_le 0 env x y).map (fun e => (e, [rb_df y x 0]))
theorem rb_cs_ok {v : Nat → Int} {env : ra_N} (hN : ra_cN v env) {qx qy : Nat × Int} {x y : Int32} (k : Nat) (hx : qx.1 < env.length) (hy : qy.1 < env.length) (ex : x.toInt = v qx.1 + qx.2) (ey : y.toInt = v qy.1 + qy.2) (h : ra_cmpP k x y) : ∃ z ∈ rb_cs k env qx qy, ra_cN v z.1 ∧ z.1.length = env.length ∧ rb_db env.length z.2 = true ∧ rb_dv v z.2 := by
  have h' := h
  unfold ra_cmpP at h
  unfold rb_cs
  split at h
  · have hh := Int32.lt_iff_toInt_lt.mp h
    obtain ⟨e, e1, e2, e3⟩ := ra_le_ok (d := 1) hN hx hy ex ey (by omega)
    exact ⟨_, List.mem_map.mpr ⟨e, e1, rfl⟩, e2, e3, rb_db_cons (rb_df_lb hy hx) rfl, rb_dv_cons (by rw [rb_df_ev]; omega) rb_dv_nil⟩
  · have hh := Int32.le_iff_toInt_le.mp h
    obtain ⟨e, e1, e2, e3⟩ := ra_le_ok (d := 0) hN hy hx ey ex (by omega)
    exact ⟨_, List.mem_map.mpr ⟨e, e1, rfl⟩, e2, e3, rb_db_cons (rb_df_lb hx hy) rfl, rb_dv_cons (by rw [rb_df_ev]; omega) rb_dv_nil⟩
  · obtain ⟨e, e1, e2, e3⟩ := ra_cmpT_ok hN 2 hx hy ex ey h'
    have hh : x.toInt = y.toInt := by rw [h]
    exact ⟨_, List.mem_map.mpr ⟨e, e1, rfl⟩, e2, e3, rb_db_cons (rb_df_lb hx hy) (rb_db_cons (rb_df_lb hy hx) rfl), rb_dv_cons (by rw [rb_df_ev]; omega) (rb_dv_cons (by rw [rb_df_ev]; omega) rb_dv_nil)⟩
  · have hne : x.toInt ≠ y.toInt := fun q => h (Int32.toInt_inj.mp q)
    rcases Int.lt_or_gt_of_ne hne with q | q
    · obtain ⟨e, e1, e2, e3⟩ := ra_le_ok (d := 1) hN hx hy ex ey (by omega)
      exact ⟨_, List.mem_append_left _ (List.mem_map.mpr ⟨e, e1, rfl⟩), e2, e3, rb_db_cons (rb_df_lb hy hx) rfl, rb_dv_cons (by rw [rb_df_ev]; omega) rb_dv_nil⟩
    · obtain ⟨e, e1, e2, e3⟩ := ra_le_ok (d := 1) hN hy hx ey ex (by omega)
      exact ⟨_, List.mem_append_right _ (List.mem_map.mpr ⟨e, e1, rfl⟩), e2, e3, rb_db_cons (rb_df_lb hx hy) rfl, rb_dv_cons (by rw [rb_df_ev]; omega) rb_dv_nil⟩
  · have hh := Int32.lt_iff_toInt_lt.mp h
    obtain ⟨e, e1, e2, e3⟩ := ra_le_ok (d := 1) hN hy hx ey ex (by omega)
    exact ⟨_, List.mem_map.mpr ⟨e, e1, rfl⟩, e2, e3, rb_db_cons (rb_df_lb hx hy) rfl, rb_dv_cons (by rw [rb_df_ev]; omega) rb_dv_nil⟩
  · have hh := Int32.le_iff_toInt_le.mp h
    obtain ⟨e, e1, e2, e3⟩ := ra_le_ok (d := 0) hN hx hy ex ey (by omega)
    have hz : 0 ≤ ra_ev v (rb_df qy qx 0) := by rw [rb_df_ev]; omega
    split <;> first | contradiction | exact ⟨_, List.mem_map.mpr ⟨e, e1, rfl⟩, e2, e3, rb_db_cons (rb_df_lb hy hx) rfl, rb_dv_cons hz rb_dv_nil⟩
def rb_bs (pc : Nat) (es : List (ra_N × rb_D)) (lv : List (Nat × ra_V)) (st : List ra_V) (aw : List ra_C) (ce sl : Nat) (F : rb_D) : List rb_T := es.map (fun e => (pc, (e.1, lv, st, aw, ce, sl), F ++ e.2))
theorem rb_bs_ok {pc : Nat} {es : List (ra_N × rb_D)} {lv : List (Nat × ra_V)} {st st1 : List ra_V} {aw : List ra_C} {ce sl : Nat} {env : ra_N} {F : rb_D} {v : Nat → Int} {lvv : List (Nat × Value)} {stv stv1 : List Value} {ws : va_W} (hg : ra_g b0 ad0 cT v (env, lv, st1, aw, ce, sl) lvv stv1 ws) (hst : ra_a2 (ra_cV env.length v (ws.map Prod.fst) b0) st stv) (hn : n0 ≤ env.length) (hv : ∀ i, i < n0 → v i = v0 i) (hdb : rb_db env.length F = true) (hdv : rb_dv v F) (h : ∃ z ∈ es, ra_cN v z.1 ∧ z.1.length = env.length ∧ rb_db env.length z.2 = true ∧ rb_dv v z.2) (hs : ∀ x ∈ rb_bs pc es lv st aw ce sl F, rb_ok p l e R s m args below meth c Q nL A D cl b0 ad0 cT n0 v0 x) : ra_W p l e R s m args below meth c Q nL A D cl pc lvv stv ws ce sl := by
  obtain ⟨f, h1, h2, h3, h4, h5⟩ := h
  have hg' := ra_g_ext (ra_g_st (st' := st) (stv' := stv) (ce' := ce) (sl' := sl) hg hst) (Nat.le_of_eq h3.symm) (fun _ _ => rfl) h2
  exact hs _ (List.mem_map.mpr ⟨f, h1, rfl⟩) (by show n0 ≤ f.1.length; omega) v _ _ ws hg' hv (by show rb_db f.1.length _ = true; rw [h3]; exact rb_db_app hdb h4) (rb_dv_app hdv h5)
def rb_recc (i : Instr) (n pc : Nat) (a : ra_S) (F : rb_D) : Option (List rb_T) := match a with
  | (env, lv, st, aw, ce, sl) => match i with
    | .ifCond k off => ra_gd (n == 3 && ra_leb 0 ((pc : Int) + off)) (match st with
      | .inl x :: st => some (rb_bs (ra_tg pc off) (rb_cs (ra_ck k) env x (0, 0)) lv st aw ce sl F ++ rb_bs (pc + 3) (rb_cs (ra_nk k) env x (0, 0)) lv st aw ce sl F)
      | _ => none)
    | .if_icmp k off => ra_gd (n == 3 && ra_leb 0 ((pc : Int) + off)) (match st with
      | .inl y :: .inl x :: st => some (rb_bs (ra_tg pc off) (rb_cs (ra_ck k) env x y) lv st aw ce sl F ++ rb_bs (pc + 3) (rb_cs (ra_nk k) env x y) lv st aw ce sl F)
      | _ => none)
    | _ => none
theorem rb_recc_ok {i : Instr} {n pc : Nat} {a : ra_S} {F : rb_D} {out : List rb_T} (h : rb_recc i n pc a F = some out) (X : ra_X p s m args c cc own nL A D cl tys Ts) (hdg : decode cc pc = .ok (i, n)) (hs : ∀ x ∈ out, rb_ok p l e R s m args below meth c Q nL A D cl b0 ad0 cT n0 v0 x) : rb_ok p l e R s m args below meth c Q nL A D cl b0 ad0 cT n0 v0 (pc, a, F) := by
  obtain ⟨env, lv, st, aw, ce, sl⟩ := a
  intro hn v lvv stv ws hg hv hdb hdv
  have hst := hg.2.2.1
  have hN := hg.1
  dsimp only at hn hst hN hdb hdv
  unfold rb_recc at h
  dsimp only at h
  split at h
  · have hq0 := ra_gd_ok h; clear h; obtain ⟨h1, h⟩ := hq0
    simp only [Bool.and_eq_true, beq_iff_eq] at h1
    obtain ⟨h1, h2⟩ := h1
    subst h1
    split at h
    · cases h
      obtain ⟨x, stv1, rfl, g2, g4⟩ := ra_a2_cons hst
      obtain ⟨k1, y, rfl, k2⟩ := g2
      have e0 : (0 : Int32).toInt = v (0, (0 : Int)).1 + (0, (0 : Int)).2 := by show _ = v 0 + 0; rw [hN.2.1]; rfl
      exact ra_ifW X hdg (ra_tg_ok h2) (fun hc => rb_bs_ok hg g4 hn hv hdb hdv (rb_cs_ok hN _ k1 hN.1 k2 e0 hc) (fun z hz => hs z (List.mem_append_left _ hz))) (fun hc => rb_bs_ok hg g4 hn hv hdb hdv (rb_cs_ok hN _ k1 hN.1 k2 e0 hc) (fun z hz => hs z (List.mem_append_right _ hz)))
    · cases h
  · have hq0 := ra_gd_ok h; clear h; obtain ⟨h1, h⟩ := hq0
    simp only [Bool.and_eq_true, beq_iff_eq] at h1
    obtain ⟨h1, h2⟩ := h1
    subst h1
    split at h
    · cases h
      obtain ⟨x, stv1, rfl, g2, g4⟩ := ra_a2_cons hst
      obtain ⟨x2, stv2, rfl, g5, g6⟩ := ra_a2_cons g4
      obtain ⟨k1, y, rfl, k2⟩ := g2
      obtain ⟨k3, z, rfl, k4⟩ := g5
      exact ra_icmpW X hdg (ra_tg_ok h2) (fun hc => rb_bs_ok hg g6 hn hv hdb hdv (rb_cs_ok hN _ k3 k1 k4 k2 hc) (fun z hz => hs z (List.mem_append_left _ hz))) (fun hc => rb_bs_ok hg g6 hn hv hdb hdv (rb_cs_ok hN _ k3 k1 k4 k2 hc) (fun z hz => hs z (List.mem_append_right _ hz)))
    · cases h
  · cases h
end
end
