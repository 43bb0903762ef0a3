noncomputable section
/-! arrivals of the law's loop; the check of a work list -/
section
variable {p : Program} {l : Launch} {e : Env} {R : Room} {s : State} {m : MethodId} {args : Array Value} {below : List Frame} {meth : Method} {c : Code} {Q : State → Prop}
variable {cc : ByteArray} {own : String} {nL : Nat} {A : Nat → Prop} {D : va_G} {cl : List vw_C} {tys : List (ClassId × FieldType)} {Ts : List Cond} {b0 : Nat → Nat} {ad0 : List Nat} {cT : Nat → ClassId} {n0 : Nat} {v0 : Nat → Int}
variable {sc : String}
variable {nw : List (String × Nat × MethodName × String)} {SS : ra_Sx × (Nat → Nat)}
/-- one round of the check -/
def rb_it (spl nL : Nat) (cl : List vw_C) (tyv : Nat → Nat → FieldType) (ini : Option Nat) (sci : Nat) (hs0 : Bool) (sb : Nat) (MT : List ra_M) (K : List rb_K) (RC RS RF RL : Nat) (I : ra_I) (sx : ra_Sx) (tb : ra_Tb) (lt : List (Nat × Int)) (rps : List Nat) (rt : Option FieldType) (np : Nat) (posts : List rb_P) (mc ms : Nat) (cuts : List rb_U) (cps lps : List Nat) (R0 : ra_L) (x : Bool × rb_T) (w : List (Bool × rb_T)) (tp : List rb_Ht) : Option (List (Bool × rb_T) × List rb_Ht) := match ra_has lps x.2.1, tp with
  | true, [] => none
  | true, h :: tp => match h.1 with
    | 0 => match !x.1 && ra_has cps x.2.1, tp with
      | true, [] => none
      | true, h :: tp => match rb_at hs0 sb np cuts R0 x.2 h with
        | true => some (w, tp)
        | false => none
      | false, tp => match rb_one spl nL cl tyv ini sci hs0 sb MT K RC RS RF RL I sx tb lt rps rt np posts mc ms x.2.1 x.2.2.1 x.2.2.2 tp with
        | none => none
        | some r => some (r.1.map (fun y => (false, y)) ++ w, r.2)
    | n + 1 => match rb_lem (n + 1) h.2.1 h.2.2.1 h.2.2.2.2 x.2.2.1 x.2.2.2 with
      | none => none
      | some outs => some (outs.map (fun o => (x.1, x.2.1, o.1, o.2)) ++ w, tp)
  | false, tp => match !x.1 && ra_has cps x.2.1, tp with
    | true, [] => none
    | true, h :: tp => match rb_at hs0 sb np cuts R0 x.2 h with
      | true => some (w, tp)
      | false => none
    | false, tp => match rb_one spl nL cl tyv ini sci hs0 sb MT K RC RS RF RL I sx tb lt rps rt np posts mc ms x.2.1 x.2.2.1 x.2.2.2 tp with
      | none => none
      | some r => some (r.1.map (fun y => (false, y)) ++ w, r.2)
def rb_go (spl nL : Nat) (cl : List vw_C) (tyv : Nat → Nat → FieldType) (ini : Option Nat) (sci : Nat) (hs0 : Bool) (sb : Nat) (MT : List ra_M) (K : List rb_K) (RC RS RF RL : Nat) (I : ra_I) (sx : ra_Sx) (tb : ra_Tb) (lt : List (Nat × Int)) (rps : List Nat) (rt : Option FieldType) (np : Nat) (posts : List rb_P) (mc ms : Nat) (cuts : List rb_U) (cps lps : List Nat) (R0 : ra_L) : Nat → List (Bool × rb_T) → List rb_Ht → Option (List (Bool × rb_T) × List rb_Ht)
  | 0, w, tp => some (w, tp)
  | _ + 1, [], tp => some ([], tp)
  | n + 1, x :: w, tp => match rb_it spl nL cl tyv ini sci hs0 sb MT K RC RS RF RL I sx tb lt rps rt np posts mc ms cuts cps lps R0 x w tp with
    | none => none
    | some r => rb_go spl nL cl tyv ini sci hs0 sb MT K RC RS RF RL I sx tb lt rps rt np posts mc ms cuts cps lps R0 n r.1 r.2
/-- the slice of c items from a on, behind n rounds -/
def rb_pc (spl nL : Nat) (cl : List vw_C) (tyv : Nat → Nat → FieldType) (ini : Option Nat) (sci : Nat) (hs0 : Bool) (sb : Nat) (MT : List ra_M) (K : List rb_K) (RC RS RF RL : Nat) (I : ra_I) (sx : ra_Sx) (tb : ra_Tb) (lt : List (Nat × Int)) (rps : List Nat) (rt : Option FieldType) (np : Nat) (posts : List rb_P) (mc ms : Nat) (cuts : List rb_U) (cps lps : List Nat) (R0 : ra_L) (n : Nat) (tg : List rb_Ht) (w : List (Bool × rb_T)) (a c f : Nat) (tp : List rb_Ht) : Bool := match rb_go spl nL cl tyv ini sci hs0 sb MT K RC RS RF RL I sx tb lt rps rt np posts mc ms cuts cps lps R0 n w tg with
  | none => false
  | some r => rb_chk spl nL cl tyv ini sci hs0 sb MT K RC RS RF RL I sx tb lt rps rt np posts mc ms cuts cps lps R0 f ((ra_dr r.1 a).take c) tp
def ra_cvr (len : Nat) : Nat → List (Nat × Nat) → Bool
  | pos, [] => Nat.ble len pos
  | pos, s :: S => Nat.beq s.1 pos && ra_cvr len (pos + s.2) S
def rb_cv (spl nL : Nat) (cl : List vw_C) (tyv : Nat → Nat → FieldType) (ini : Option Nat) (sci : Nat) (hs0 : Bool) (sb : Nat) (MT : List ra_M) (K : List rb_K) (RC RS RF RL : Nat) (I : ra_I) (sx : ra_Sx) (tb : ra_Tb) (lt : List (Nat × Int)) (rps : List Nat) (rt : Option FieldType) (np : Nat) (posts : List rb_P) (mc ms : Nat) (cuts : List rb_U) (cps lps : List Nat) (R0 : ra_L) (n : Nat) (tg : List rb_Ht) (w : List (Bool × rb_T)) (S : List (Nat × Nat)) : Bool := match rb_go spl nL cl tyv ini sci hs0 sb MT K RC RS RF RL I sx tb lt rps rt np posts mc ms cuts cps lps R0 n w tg with
  | none => false
  | some r => ra_cvr r.1.length 0 S
/-- a check, whole or in slices -/
def rb_pcs (spl nL : Nat) (cl : List vw_C) (tyv : Nat → Nat → FieldType) (ini : Option Nat) (sci : Nat) (hs0 : Bool) (sb : Nat) (MT : List ra_M) (K : List rb_K) (RC RS RF RL : Nat) (I : ra_I) (sx : ra_Sx) (tb : ra_Tb) (lt : List (Nat × Int)) (rps : List Nat) (rt : Option FieldType) (np : Nat) (posts : List rb_P) (mc ms : Nat) (cuts : List rb_U) (cps lps : List Nat) (R0 : ra_L) (w : List (Bool × rb_T)) : Prop := (∃ (f : Nat) (tp : List rb_Ht), rb_chk spl nL cl tyv ini sci hs0 sb MT K RC RS RF RL I sx tb lt rps rt np posts mc ms cuts cps lps R0 f w tp = true) ∨ ∃ (n : Nat) (tg : List rb_Ht) (S : List (Nat × Nat)), rb_cv spl nL cl tyv ini sci hs0 sb MT K RC RS RF RL I sx tb lt rps rt np posts mc ms cuts cps lps R0 n tg w S = true ∧ ∀ s ∈ S, ∃ (f : Nat) (tp : List rb_Ht), rb_pc spl nL cl tyv ini sci hs0 sb MT K RC RS RF RL I sx tb lt rps rt np posts mc ms cuts cps lps R0 n tg w s.1 s.2 f tp = true
theorem ra_cvr_ok {len : Nat} : ∀ {S : List (Nat × Nat)} {pos : Nat}, ra_cvr len pos S = true → ∀ i, pos ≤ i → i < len → ∃ s ∈ S, s.1 ≤ i ∧ i < s.1 + s.2
  | [], pos, h, i, h1, h2 => by
    have := Nat.le_of_ble_eq_true h
    omega
  | s :: S, pos, h, i, h1, h2 => by
    unfold ra_cvr at h
    rw [Bool.and_eq_true, ra_nb] at h
    rcases Nat.lt_or_ge i (pos + s.2) with q | q
    · exact ⟨s, List.mem_cons_self, by omega, by omega⟩
    · obtain ⟨z, z1, z2⟩ := ra_cvr_ok h.2 i q h2
      exact ⟨z, List.mem_cons_of_mem _ z1, z2⟩
set_option maxHeartbeats 4000000 in
theorem rb_it_ok {spl : Nat} {tyv : Nat → Nat → FieldType} {ini : Option Nat} {sci : Nat} {hs0 : Bool} {sb : Nat} {MT : List ra_M} {K : List rb_K} {RC RS RF RL : Nat} {I : ra_I} {tb : ra_Tb} {lt : List (Nat × Int)} {rps : List Nat} {rt : Option FieldType} {np : Nat} {posts : List rb_P} {mc ms : Nat} {cuts : List rb_U} {cps lps : List Nat} {R0 : ra_L} (X : ra_X p s m args c cc own nL A D cl (ra_T sc cT) Ts) (hEx : ra_Ex sc nw s) (hSx : rs_S SS A s) (hb0 : ∀ j, b0 (1000 + j) = SS.2 j) (hTb : rs_okT Ts own SS.1 MT tb) (hG : ∀ w ∈ Ts, goodWord w = true) (hI : ra_okI Ts own sc cl nw MT cc I) (hLt : rb_okL Ts own lt) (hC : ra_okC Ts cl tyv) (hIn : ∀ ci, ini = some ci → meth.name = "<init>" ∧ ∀ (rc : vw_C) (k : Nat), cl[ci]? = some rc → k < rc.2.2 → (rc.2.1 k).1 = own) {rsc : vw_C} (hsci : cl[sci]? = some rsc) (hsn : rsc.1 = sc) (hsc : hs0 = true → ra_scr s A b0 sb n0 v0) (hAr : ra_okA Ts) (hK : ∀ k ∈ K, rb_Hk l sc nw SS Ts MT D cl cT k) (hRC : RC ≤ R.cells) (hRS : RS ≤ R.slots) (hRF : RF ≤ R.frames) (hRL : RL ≤ R.locals) {vE : Nat → Int} {ws0 : va_W} (hE : np ≤ n0) (hEv : ∀ i, i < np → v0 i = vE i) (had : hs0 = false → ad0 = ws0.map Prod.fst) (hLaw : hs0 = true → ∀ (pc : Nat) (lv : List (Nat × Value)) (ws : va_W) (ce sl : Nat), decode cc pc = .ok (.ireturn, 1) → ce ≤ mc → sl ≤ ms → ra_W p l e R s m args below meth c Q nL A D cl pc lv [.int 1] ws ce sl)
    (hR : hs0 = false → ∀ (i : Instr) (pc : Nat) (lv : List (Nat × Value)) (st : List Value) (ws : va_W) (r : Option Value), decode cc pc = .ok (i, 1) → ra_rv rt i st r → rb_pv b0 cT vE np posts ws0 r ws → ra_W p l e R s m args below meth c Q nL A D cl pc lv st ws mc ms) (hR0 : ∀ t ∈ R0.1, t.1 < n0)
    (hCut : hs0 = false → ∀ u ∈ cuts, ∀ (v : Nat → Int) (lv : List (Nat × Value)) (st : List Value) (ws : va_W), ra_g b0 ad0 cT v u.2.1 lv st ws → (∀ i, i < np → v i = vE i) → rb_dv v u.2.2.2 → 0 ≤ ra_ev v u.2.2.1 → ra_ev v u.2.2.1 < ra_ev v0 R0 → ra_W p l e R s m args below meth c Q nL A D cl u.1 lv st ws u.2.1.2.2.2.2.1 u.2.1.2.2.2.2.2)
    (hCutL : hs0 = true → ∀ u ∈ cuts, ∀ (b1 : Nat → Nat) (v : Nat → Int) (lv : List (Nat × Value)) (ws : va_W), b1 2 = b0 2 → (∀ j, b1 (1000 + j) = b0 (1000 + j)) → ra_g b1 [] cT v u.2.1 lv [] ws → (∀ i, i < np → v i = v0 i) → (sb = 0 → v 2 = 0) → (0 < sb → v 2 = v0 2 + 6) → rb_dv v u.2.2.2 → ra_W p l e R s m args below meth c Q nL A D cl u.1 lv [] ws u.2.1.2.2.2.2.1 u.2.1.2.2.2.2.2) :
    ∀ {y : Bool × rb_T} {w : List (Bool × rb_T)} {tp : List rb_Ht} {r : List (Bool × rb_T) × List rb_Ht}, rb_it spl nL cl tyv ini sci hs0 sb MT K RC RS RF RL I SS.1 tb lt rps rt np posts mc ms cuts cps lps R0 y w tp = some r → (∀ x ∈ r.1, rb_ok p l e R s m args below meth c Q nL A D cl b0 ad0 cT n0 v0 x.2) → ∀ x ∈ y :: w, rb_ok p l e R s m args below meth c Q nL A D cl b0 ad0 cT n0 v0 x.2 := by
  intro y w tp r h h3 x hx
  have hat : ∀ (z : rb_T) (hh : rb_Ht), rb_at hs0 sb np cuts R0 z hh = true → rb_ok p l e R s m args below meth c Q nL A D cl b0 ad0 cT n0 v0 z := by
    intro z hh ha
    unfold rb_at at ha
    split at ha
    · cases ha
    · rename_i u hu
      rw [ra_nth_eq] at hu
      have hu := List.mem_of_getElem? hu
      split at ha
      · exact rb_arrL_ok ha hE (by obtain ⟨L, xs, -, -, -, -, h3, -⟩ := hsc rfl; exact h3) (hCutL rfl u hu)
      · exact rb_arr_ok ha hE hEv hR0 (hCut rfl u hu)
  have hone : ∀ {tp : List rb_Ht} {q : List rb_T × List rb_Ht}, rb_one spl nL cl tyv ini sci hs0 sb MT K RC RS RF RL I SS.1 tb lt rps rt np posts mc ms y.2.1 y.2.2.1 y.2.2.2 tp = some q → r = (q.1.map (fun y => (false, y)) ++ w, q.2) → rb_ok p l e R s m args below meth c Q nL A D cl b0 ad0 cT n0 v0 x.2 := by
    intro tp q h1 h2
    subst h2
    rcases List.mem_cons.mp hx with e | e
    · subst e
      exact rb_one2_ok X hEx hSx hb0 hTb hG hI hLt hC hIn hsci hsn hsc hAr hK hRC hRS hRF hRL hE hEv had hLaw hR h1 (fun z hz => h3 (false, z) (List.mem_append_left _ (List.mem_map.mpr ⟨z, hz, rfl⟩)))
    · exact h3 x (List.mem_append_right _ e)
  have harr : ∀ {hh : rb_Ht} {tp : List rb_Ht}, rb_at hs0 sb np cuts R0 y.2 hh = true → r = (w, tp) → rb_ok p l e R s m args below meth c Q nL A D cl b0 ad0 cT n0 v0 x.2 := by
    intro hh tp h1 h2
    subst h2
    rcases List.mem_cons.mp hx with e | e
    · subst e
      exact hat _ _ h1
    · exact h3 x e
  unfold rb_it at h
  split at h
  · cases h
  · split at h
    · split at h
      · cases h
      · split at h
        · exact harr ‹_› (Option.some.inj h).symm
        · cases h
      · split at h
        · cases h
        · exact hone ‹_› (Option.some.inj h).symm
    · split at h
      · cases h
      · rename_i outs ho
        have h := (Option.some.inj h).symm
        subst h
        rcases List.mem_cons.mp hx with e | e
        · subst e
          exact rb_alt_ok (rb_lem_ok ho) (fun o hm => h3 (x.1, x.2.1, o.1, o.2) (List.mem_append_left _ (List.mem_map.mpr ⟨o, hm, rfl⟩)))
        · exact h3 x (List.mem_append_right _ e)
  · split at h
    · cases h
    · split at h
      · exact harr ‹_› (Option.some.inj h).symm
      · cases h
    · split at h
      · cases h
      · exact hone ‹_› (Option.some.inj h).symm
theorem rb_go_ok {spl : Nat} {tyv : Nat → Nat → FieldType} {ini : Option Nat} {sci : Nat} {hs0 : Bool} {sb : Nat} {MT : List ra_M} {K : List rb_K} {RC RS RF RL : Nat} {I : ra_I} {tb : ra_Tb} {lt : List (Nat × Int)} {rps : List Nat} {rt : Option FieldType} {np : Nat} {posts : List rb_P} {mc ms : Nat} {cuts : List rb_U} {cps lps : List Nat} {R0 : ra_L} (X : ra_X p s m args c cc own nL A D cl (ra_T sc cT) Ts) (hEx : ra_Ex sc nw s) (hSx : rs_S SS A s) (hb0 : ∀ j, b0 (1000 + j) = SS.2 j) (hTb : rs_okT Ts own SS.1 MT tb) (hG : ∀ w ∈ Ts, goodWord w = true) (hI : ra_okI Ts own sc cl nw MT cc I) (hLt : rb_okL Ts own lt) (hC : ra_okC Ts cl tyv) (hIn : ∀ ci, ini = some ci → meth.name = "<init>" ∧ ∀ (rc : vw_C) (k : Nat), cl[ci]? = some rc → k < rc.2.2 → (rc.2.1 k).1 = own) {rsc : vw_C} (hsci : cl[sci]? = some rsc) (hsn : rsc.1 = sc) (hsc : hs0 = true → ra_scr s A b0 sb n0 v0) (hAr : ra_okA Ts) (hK : ∀ k ∈ K, rb_Hk l sc nw SS Ts MT D cl cT k) (hRC : RC ≤ R.cells) (hRS : RS ≤ R.slots) (hRF : RF ≤ R.frames) (hRL : RL ≤ R.locals) {vE : Nat → Int} {ws0 : va_W} (hE : np ≤ n0) (hEv : ∀ i, i < np → v0 i = vE i) (had : hs0 = false → ad0 = ws0.map Prod.fst) (hLaw : hs0 = true → ∀ (pc : Nat) (lv : List (Nat × Value)) (ws : va_W) (ce sl : Nat), decode cc pc = .ok (.ireturn, 1) → ce ≤ mc → sl ≤ ms → ra_W p l e R s m args below meth c Q nL A D cl pc lv [.int 1] ws ce sl)
    (hR : hs0 = false → ∀ (i : Instr) (pc : Nat) (lv : List (Nat × Value)) (st : List Value) (ws : va_W) (r : Option Value), decode cc pc = .ok (i, 1) → ra_rv rt i st r → rb_pv b0 cT vE np posts ws0 r ws → ra_W p l e R s m args below meth c Q nL A D cl pc lv st ws mc ms) (hR0 : ∀ t ∈ R0.1, t.1 < n0)
    (hCut : hs0 = false → ∀ u ∈ cuts, ∀ (v : Nat → Int) (lv : List (Nat × Value)) (st : List Value) (ws : va_W), ra_g b0 ad0 cT v u.2.1 lv st ws → (∀ i, i < np → v i = vE i) → rb_dv v u.2.2.2 → 0 ≤ ra_ev v u.2.2.1 → ra_ev v u.2.2.1 < ra_ev v0 R0 → ra_W p l e R s m args below meth c Q nL A D cl u.1 lv st ws u.2.1.2.2.2.2.1 u.2.1.2.2.2.2.2)
    (hCutL : hs0 = true → ∀ u ∈ cuts, ∀ (b1 : Nat → Nat) (v : Nat → Int) (lv : List (Nat × Value)) (ws : va_W), b1 2 = b0 2 → (∀ j, b1 (1000 + j) = b0 (1000 + j)) → ra_g b1 [] cT v u.2.1 lv [] ws → (∀ i, i < np → v i = v0 i) → (sb = 0 → v 2 = 0) → (0 < sb → v 2 = v0 2 + 6) → rb_dv v u.2.2.2 → ra_W p l e R s m args below meth c Q nL A D cl u.1 lv [] ws u.2.1.2.2.2.2.1 u.2.1.2.2.2.2.2) :
    ∀ {n : Nat} {w : List (Bool × rb_T)} {tp : List rb_Ht} {r : List (Bool × rb_T) × List rb_Ht}, rb_go spl nL cl tyv ini sci hs0 sb MT K RC RS RF RL I SS.1 tb lt rps rt np posts mc ms cuts cps lps R0 n w tp = some r → (∀ x ∈ r.1, rb_ok p l e R s m args below meth c Q nL A D cl b0 ad0 cT n0 v0 x.2) → ∀ x ∈ w, rb_ok p l e R s m args below meth c Q nL A D cl b0 ad0 cT n0 v0 x.2
  | 0, w, tp, r, h, h3, x, hx => by
    cases h
    exact h3 x hx
  | n + 1, [], tp, r, h, h3, x, hx => by cases hx
  | n + 1, y :: w, tp, r, h, h3, x, hx => by
    unfold rb_go at h
    split at h
    · cases h
    · rename_i q hq
      exact rb_it_ok (spl := spl) (rps := rps) (cps := cps) (lps := lps) X hEx hSx hb0 hTb hG hI hLt hC hIn hsci hsn hsc hAr hK hRC hRS hRF hRL hE hEv had hLaw hR hR0 hCut hCutL hq (rb_go_ok (spl := spl) (rps := rps) (cps := cps) (lps := lps) X hEx hSx hb0 hTb hG hI hLt hC hIn hsci hsn hsc hAr hK hRC hRS hRF hRL hE hEv had hLaw hR hR0 hCut hCutL h h3) x hx
theorem rb_pcs_ok {spl : Nat} {tyv : Nat → Nat → FieldType} {ini : Option Nat} {sci : Nat} {hs0 : Bool} {sb : Nat} {MT : List ra_M} {K : List rb_K} {RC RS RF RL : Nat} {I : ra_I} {tb : ra_Tb} {lt : List (Nat × Int)} {rps : List Nat} {rt : Option FieldType} {np : Nat} {posts : List rb_P} {mc ms : Nat} {cuts : List rb_U} {cps lps : List Nat} {R0 : ra_L} (X : ra_X p s m args c cc own nL A D cl (ra_T sc cT) Ts) (hEx : ra_Ex sc nw s) (hSx : rs_S SS A s) (hb0 : ∀ j, b0 (1000 + j) = SS.2 j) (hTb : rs_okT Ts own SS.1 MT tb) (hG : ∀ w ∈ Ts, goodWord w = true) (hI : ra_okI Ts own sc cl nw MT cc I) (hLt : rb_okL Ts own lt) (hC : ra_okC Ts cl tyv) (hIn : ∀ ci, ini = some ci → meth.name = "<init>" ∧ ∀ (rc : vw_C) (k : Nat), cl[ci]? = some rc → k < rc.2.2 → (rc.2.1 k).1 = own) {rsc : vw_C} (hsci : cl[sci]? = some rsc) (hsn : rsc.1 = sc) (hsc : hs0 = true → ra_scr s A b0 sb n0 v0) (hAr : ra_okA Ts) (hK : ∀ k ∈ K, rb_Hk l sc nw SS Ts MT D cl cT k) (hRC : RC ≤ R.cells) (hRS : RS ≤ R.slots) (hRF : RF ≤ R.frames) (hRL : RL ≤ R.locals) {vE : Nat → Int} {ws0 : va_W} (hE : np ≤ n0) (hEv : ∀ i, i < np → v0 i = vE i) (had : hs0 = false → ad0 = ws0.map Prod.fst) (hLaw : hs0 = true → ∀ (pc : Nat) (lv : List (Nat × Value)) (ws : va_W) (ce sl : Nat), decode cc pc = .ok (.ireturn, 1) → ce ≤ mc → sl ≤ ms → ra_W p l e R s m args below meth c Q nL A D cl pc lv [.int 1] ws ce sl)
    (hR : hs0 = false → ∀ (i : Instr) (pc : Nat) (lv : List (Nat × Value)) (st : List Value) (ws : va_W) (r : Option Value), decode cc pc = .ok (i, 1) → ra_rv rt i st r → rb_pv b0 cT vE np posts ws0 r ws → ra_W p l e R s m args below meth c Q nL A D cl pc lv st ws mc ms) (hR0 : ∀ t ∈ R0.1, t.1 < n0)
    (hCut : hs0 = false → ∀ u ∈ cuts, ∀ (v : Nat → Int) (lv : List (Nat × Value)) (st : List Value) (ws : va_W), ra_g b0 ad0 cT v u.2.1 lv st ws → (∀ i, i < np → v i = vE i) → rb_dv v u.2.2.2 → 0 ≤ ra_ev v u.2.2.1 → ra_ev v u.2.2.1 < ra_ev v0 R0 → ra_W p l e R s m args below meth c Q nL A D cl u.1 lv st ws u.2.1.2.2.2.2.1 u.2.1.2.2.2.2.2)
    (hCutL : hs0 = true → ∀ u ∈ cuts, ∀ (b1 : Nat → Nat) (v : Nat → Int) (lv : List (Nat × Value)) (ws : va_W), b1 2 = b0 2 → (∀ j, b1 (1000 + j) = b0 (1000 + j)) → ra_g b1 [] cT v u.2.1 lv [] ws → (∀ i, i < np → v i = v0 i) → (sb = 0 → v 2 = 0) → (0 < sb → v 2 = v0 2 + 6) → rb_dv v u.2.2.2 → ra_W p l e R s m args below meth c Q nL A D cl u.1 lv [] ws u.2.1.2.2.2.2.1 u.2.1.2.2.2.2.2) :
    ∀ {w : List (Bool × rb_T)}, rb_pcs spl nL cl tyv ini sci hs0 sb MT K RC RS RF RL I SS.1 tb lt rps rt np posts mc ms cuts cps lps R0 w → ∀ x ∈ w, rb_ok p l e R s m args below meth c Q nL A D cl b0 ad0 cT n0 v0 x.2 := by
  intro w h
  rcases h with ⟨f, tp, h⟩ | ⟨n, tg, S, h1, h2⟩
  · exact rb_chk_ok (spl := spl) (rps := rps) (cps := cps) (lps := lps) X hEx hSx hb0 hTb hG hI hLt hC hIn hsci hsn hsc hAr hK hRC hRS hRF hRL hE hEv had hLaw hR hR0 hCut hCutL h
  · unfold rb_cv at h1
    cases hg : rb_go spl nL cl tyv ini sci hs0 sb MT K RC RS RF RL I SS.1 tb lt rps rt np posts mc ms cuts cps lps R0 n w tg with
    | none => rw [hg] at h1; cases h1
    | some r =>
      rw [hg] at h1
      dsimp only at h1
      refine rb_go_ok (spl := spl) (rps := rps) (cps := cps) (lps := lps) X hEx hSx hb0 hTb hG hI hLt hC hIn hsci hsn hsc hAr hK hRC hRS hRF hRL hE hEv had hLaw hR hR0 hCut hCutL hg (fun x hx => ?_)
      obtain ⟨i, hi⟩ := List.getElem?_of_mem hx
      obtain ⟨q, q1, q2, q3⟩ := ra_cvr_ok h1 i (Nat.zero_le _) (List.getElem?_eq_some_iff.mp hi).1
      obtain ⟨f, tp, hp⟩ := h2 q q1
      unfold rb_pc at hp
      rw [hg] at hp
      dsimp only at hp
      refine rb_chk_ok (spl := spl) (rps := rps) (cps := cps) (lps := lps) X hEx hSx hb0 hTb hG hI hLt hC hIn hsci hsn hsc hAr hK hRC hRS hRF hRL hE hEv had hLaw hR hR0 hCut hCutL hp x ?_
      rw [ra_dr_eq]
      refine List.mem_of_getElem? (i := i - q.1) ?_
      rw [List.getElem?_take, if_pos (by omega), List.getElem?_drop, show q.1 + (i - q.1) = i by omega]
      exact hi
end
end
