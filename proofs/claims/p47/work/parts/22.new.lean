noncomputable section
/-! new cells -/
section
variable {p : Program} {l : Launch} {e : Env} {R : Room} {s : State} {m : MethodId} {args : Array Value} {below : List Frame} {meth : Method} {c : Code} {Q : State → Prop}
variable {cc : ByteArray} {own : String} {nL : Nat} {A : Nat → Prop} {D : va_G} {cl : List vw_C} {tys : List (ClassId × FieldType)} {Ts : List Cond} {b0 : Nat → Nat} {ad0 : List Nat} {cT : Nat → ClassId} {n0 : Nat} {v0 : Nat → Int}
variable {sc : String}

theorem ra_app_ext {ads : List Nat} {q : Nat} (i r : Nat) (h : ads[i]? = some r) : (ads ++ [q])[i]? = some r := by
  rw [List.getElem?_append_left (List.getElem?_eq_some_iff.mp h).1]
  exact h
theorem ra_g_push {v : Nat → Int} {env : ra_N} {lv : List (Nat × ra_V)} {st st' : List ra_V} {aw : List ra_C} {ce sl ce' sl' : Nat} {lvv : List (Nat × Value)} {stv stv' : List Value} {ws : va_W} (hg : ra_g b0 ad0 cT v (env, lv, st, aw, ce, sl) lvv stv ws) {q : Nat} {c' : ra_C} {e' : va_E} (hc : ∀ ads : List Nat, ra_cC env.length v ads b0 cT c' e') (hs : ra_a2 (ra_cV env.length v (ws.map Prod.fst) b0) st' stv') : ra_g b0 ad0 cT v (env, lv, .inr (.inl aw.length) :: st', aw ++ [c'], ce', sl') lvv (.ref q :: stv') (ws ++ [(q, e')]) := by
  unfold ra_g ra_pf
  dsimp only
  have ea : (ws ++ [(q, e')]).map Prod.fst = ws.map Prod.fst ++ [q] := by simp
  have hl : aw.length = (ws.map Prod.fst).length := by rw [List.length_map]; exact ra_a2_len hg.2.2.2.1
  rw [ea]
  refine ⟨hg.1, ra_a2_mono (fun a b z => ⟨z.1, ra_cV_ext (Nat.le_refl _) (fun _ _ => rfl) ra_app_ext z.2⟩) hg.2.1, ra_a2_mk ?_ (ra_a2_mono (fun a b z => ra_cV_ext (Nat.le_refl _) (fun _ _ => rfl) ra_app_ext z) hs), ra_a2_app (ra_a2_mono (fun a b z => ra_cC_ext (Nat.le_refl _) (fun _ _ => rfl) ra_app_ext z) hg.2.2.2.1) ⟨hc _, trivial⟩, fun k r hk => ra_app_ext k r (hg.2.2.2.2 k r hk)⟩
  exact ⟨q, by rw [hl]; simp, rfl⟩
def ra_okN (Ts : List Cond) (own : String) (cl : List vw_C) (nl : List (Nat × Nat)) : Prop := ∀ e ∈ nl, ∃ r : vw_C, cl[e.2]? = some r ∧ Cond.classLink own e.1 r.1 ∈ Ts ∧ Cond.instantiable r.1 r.2.2 ∈ Ts ∧ Cond.initialized r.1 ∈ Ts
def ra_nf (nl : List (Nat × Nat)) (j : Nat) : Option Nat := match nl with
  | [] => none
  | q :: nl => if q.1 = j then some q.2 else ra_nf nl j
theorem ra_nf_mem : ∀ {nl : List (Nat × Nat)} {j : Nat} {r : Nat}, ra_nf nl j = some r → (j, r) ∈ nl
  | [], _, _, h => by simp [ra_nf] at h
  | q :: nl, j, r, h => by
    unfold ra_nf at h
    split at h
    · rename_i hq
      cases h
      exact List.mem_cons.mpr (Or.inl (by rw [← hq]))
    · exact List.mem_cons_of_mem _ (ra_nf_mem h)
def ra_dv (ty : FieldType) : Option ra_V := match ty with
  | .int => some (.inl (0, 0))
  | .boolean => some (.inl (0, 0))
  | .long => some (.inr (.inr (.inl 1)))
  | .object _ => some (.inr (.inr (.inl 0)))
  | .array _ => some (.inr (.inr (.inl 0)))
  | _ => none
theorem ra_dv_ok {v : Nat → Int} {env : ra_N} {ads : List Nat} (hN : ra_cN v env) {ty : FieldType} {a : ra_V} (h : ra_dv ty = some a) : ra_cV env.length v ads b0 a (defaultValue ty) := by
  unfold ra_dv at h
  split at h <;> first | (cases h; done) | skip
  · cases h
    exact ra_cV_const hN rfl
  · cases h
    exact ra_cV_const hN rfl
  · cases h
    exact ra_cV_long _
  · cases h
    exact Or.inl ⟨rfl, rfl⟩
  · cases h
    exact Or.inl ⟨rfl, rfl⟩
def ra_dvs (tyv : Nat → FieldType) : Nat → Nat → Option (List ra_V)
  | _, 0 => some []
  | k, n + 1 => match ra_dv (tyv k) with
    | none => none
    | some a => match ra_dvs tyv (k + 1) n with
      | none => none
      | some as => some (a :: as)
def ra_dfs (tyv : Nat → FieldType) : Nat → Nat → List Value
  | _, 0 => []
  | k, n + 1 => defaultValue (tyv k) :: ra_dfs tyv (k + 1) n
theorem ra_dvs_ok {v : Nat → Int} {env : ra_N} {ads : List Nat} (hN : ra_cN v env) {tyv : Nat → FieldType} : ∀ {n k : Nat} {as : List ra_V}, ra_dvs tyv k n = some as → ra_a2 (ra_cV env.length v ads b0) as (ra_dfs tyv k n)
  | 0, k, as, h => by
    simp [ra_dvs] at h
    subst h
    trivial
  | n + 1, k, as, h => by
    unfold ra_dvs at h
    split at h
    · cases h
    · rename_i a ha
      split at h
      · cases h
      · rename_i as' has
        cases h
        exact ⟨ra_dv_ok hN ha, ra_dvs_ok hN has⟩
theorem ra_dfs_get {tyv : Nat → FieldType} : ∀ {n k j : Nat}, j < n → (ra_dfs tyv k n)[j]? = some (defaultValue (tyv (k + j)))
  | 0, _, _, h => by omega
  | n + 1, k, 0, _ => by simp [ra_dfs]
  | n + 1, k, j + 1, h => by
    have := ra_dfs_get (tyv := tyv) (n := n) (k := k + 1) (j := j) (by omega)
    simp only [ra_dfs, List.getElem?_cons_succ]
    rw [this, show k + 1 + j = k + (j + 1) by omega]
def ra_newo (RC RS : Nat) (nl : List (Nat × Nat)) (cl : List vw_C) (tyv : Nat → Nat → FieldType) (j n pc : Nat) (a : ra_S) : Option (List (Nat × ra_S)) := match a with
  | (env, lv, st, aw, ce, sl) => ra_gd (n == 3) (match ra_nf nl j with
    | some ci => match ra_nth cl ci with
      | some rc => match ra_dvs (tyv ci) 0 rc.2.2 with
        | some as => ra_gd (Nat.ble (ce + 1) RC && Nat.ble (sl + rc.2.2) RS) (some [(pc + 3, (env, lv, .inr (.inl aw.length) :: st, aw ++ [.inl (ci, as)], ce + 1, sl + rc.2.2))])
        | none => none
      | none => none
    | none => none)
theorem ra_newo_ok {RC RS : Nat} {nl : List (Nat × Nat)} {tyv : Nat → Nat → FieldType} {j n pc : Nat} {a : ra_S} {out : List (Nat × ra_S)} (h : ra_newo RC RS nl cl tyv j n pc a = some out) (X : ra_X p s m args c cc own nL A D cl (ra_T sc cT) Ts) (hRC : RC ≤ R.cells) (hRS : RS ≤ R.slots) (hNl : ra_okN Ts own cl nl) (hC : ra_okC Ts cl tyv) (hdg : decode cc pc = .ok (.new j, n)) (hs : ∀ x ∈ out, ra_ok p l e R s m args below meth c Q nL A D cl b0 ad0 cT n0 v0 x) : ra_ok p l e R s m args below meth c Q nL A D cl b0 ad0 cT n0 v0 (pc, a) := by
  obtain ⟨env, lv, st, aw, ce, sl⟩ := a
  intro hn v lvv stv ws hg hv
  have hst := hg.2.2.1
  have hN := hg.1
  dsimp only at hn hst hN
  obtain ⟨hx, hb, hml, hown, hts, hKK, hA⟩ := id X
  unfold ra_newo at h
  simp only [ra_nth_eq] at h
  try dsimp only at h
  have hq0 := ra_gd_ok h; clear h; obtain ⟨h1, h⟩ := hq0
  rw [beq_iff_eq] at h1
  subst h1
  split at h
  · rename_i ci hci
    split at h
    · rename_i rc hrc
      split at h
      · rename_i as has
        have hq1 := ra_gd_ok h; clear h; obtain ⟨h2, h⟩ := hq1
        rw [Bool.and_eq_true] at h2
        have h3 := Nat.le_of_ble_eq_true h2.1
        have h4 := Nat.le_of_ble_eq_true h2.2
        cases h
        obtain ⟨rc', c1, c2, c3, c4⟩ := hNl _ (ra_nf_mem hci)
        have : rc' = rc := Option.some.inj (c1.symm.trans hrc)
        subst this
        obtain ⟨k1, k2, k3⟩ := hC _ _ hrc
        intro H locs ls hP hD hS hl
        refine va_new (ci := ci) (fs := ra_dfs (tyv ci) 0 rc'.2.2) (C := rc'.1) (T := rc'.2.1) (N := rc'.2.2) hx hb hts k1 (tyv ci) k2 hown (hts _ c2) (hts _ c3) (hts _ c4) hKK hP hD hS hA hrc (fun j hj => ?_) (Nat.le_trans h3 hRC) (Nat.le_trans h4 hRS) hdg (fun q H1 hP1 hD1 hS1 => ?_)
        · have := ra_dfs_get (tyv := tyv ci) (k := 0) hj
          rw [Nat.zero_add] at this
          simp [vp_V, this]
        · exact hs _ (List.mem_singleton.mpr rfl) hn v _ _ _ (ra_g_push hg (fun ads => ⟨_, rfl, ra_dvs_ok hN has⟩) hst) hv H1 locs ls hP1 hD1 hS1 hl
      · cases h
    · cases h
  · cases h
def ra_atc (ty : ArrayType) : Option Nat := match ty with
  | .int => some 0
  | .byte => some 1
  | .boolean => some 2
  | .long => some 3
  | _ => none
/-- the contents of a new array: each place by itself up to 100 -/
def ra_na (t k : Nat) : ra_C := if t = 3 then .inr (.inr (.inl (3, k, 0, 0))) else if k ≤ 100 ∨ k = 1601 then .inr (.inl (t, List.replicate k (.inl (.inl (0, 0))))) else .inr (.inr (.inl (t, k, 0, 0)))
def ra_newa (RC RS : Nat) (ty : ArrayType) (n pc : Nat) (a : ra_S) : Option (List (Nat × ra_S)) := match a with
  | (env, lv, st, aw, ce, sl) => ra_gd (n == 2) (match st with
    | .inl q :: st => match ra_atc ty with
      | some t => let k := ra_nm env q; ra_gd (k.1 == 0 && (ra_leb 0 k.2 && (Nat.ble k.2.toNat 60000000 && (Nat.ble (ce + 1) RC && Nat.ble (sl + k.2.toNat) RS)))) (some [(pc + 2, (env, lv, .inr (.inl aw.length) :: st, aw ++ [ra_na t k.2.toNat], ce + 1, sl + k.2.toNat))])
      | none => none
    | _ => none)
theorem ra_RA_eq {t : Nat} {ty : FieldType} {cA : ClassId} (hK : va_K D cl (ra_T sc cT ++ [(cA, ty)]) s) (ht : (ra_T sc cT)[t]? = some (cT t, ty)) : cA = cT t := by
  have hl : t < (ra_T sc cT).length := (List.getElem?_eq_some_iff.mp ht).1
  have h1 := (hK.2 t (cT t, ty) (by rw [List.getElem?_append_left hl]; exact ht)).2
  have h2 := (hK.2 (ra_T sc cT).length (cA, ty) (by simp)).2
  have key : ∀ (ty : FieldType) (c1 c2 : ClassId), va_RA s c1 ty → va_RA s c2 ty → c1 = c2 := by
    intro ty c1 c2 a b
    cases ty with
    | object C =>
      obtain ⟨_, _, _, _, _, a4⟩ := a
      obtain ⟨_, _, _, _, _, b4⟩ := b
      exact Option.some.inj (a4.symm.trans b4)
    | _ => exact Option.some.inj (a.symm.trans b)
  exact key ty _ _ h2 h1
def ra_okA (Ts : List Cond) : Prop := Cond.arrayClass .int ∈ Ts ∧ Cond.arrayClass .byte ∈ Ts ∧ Cond.arrayClass .boolean ∈ Ts ∧ Cond.arrayClass .long ∈ Ts
theorem ra_na_i {v : Nat → Int} {env : ra_N} (hN : ra_cN v env) {t k : Nat} (ht : t < 3) (ads : List Nat) : ra_cC env.length v ads b0 cT (ra_na t k) (.inl (cT t, k, .inl (fun _ => 0))) := by
  unfold ra_na
  rw [if_neg (by omega)]
  split
  · refine Or.inl ⟨ht, _, by simp; rfl, fun j x hx => ?_⟩
    rw [List.getElem?_replicate] at hx
    split at hx
    · cases hx
      exact ra_cV_const (b0 := b0) (ads := ads) hN rfl
    · cases hx
  · exact Or.inl ⟨ht, _, rfl, fun j hj => ⟨by show (0 : Int) ≤ (0 : Int32).toInt; decide, by show (0 : Int32).toInt ≤ (0 : Int); decide⟩⟩
theorem ra_newa_ok {RC RS : Nat} {ty : ArrayType} {n pc : Nat} {a : ra_S} {out : List (Nat × ra_S)} (h : ra_newa RC RS ty n pc a = some out) (X : ra_X p s m args c cc own nL A D cl (ra_T sc cT) Ts) (hRC : RC ≤ R.cells) (hRS : RS ≤ R.slots) (hAr : ra_okA Ts) (hdg : decode cc pc = .ok (.newarray ty, n)) (hs : ∀ x ∈ out, ra_ok p l e R s m args below meth c Q nL A D cl b0 ad0 cT n0 v0 x) : ra_ok p l e R s m args below meth c Q nL A D cl b0 ad0 cT n0 v0 (pc, a) := by
  obtain ⟨env, lv, st, aw, ce, sl⟩ := a
  intro hn v lvv stv ws hg hv
  have hst := hg.2.2.1
  have hN := hg.1
  dsimp only at hn hst hN
  obtain ⟨hx, hb, hml, hown, hts, hKK, hA⟩ := id X
  unfold ra_newa at h
  dsimp only at h
  have hq0 := ra_gd_ok h; clear h; obtain ⟨h1, h⟩ := hq0
  rw [beq_iff_eq] at h1
  subst h1
  split at h
  · rename_i q st1
    split at h
    · rename_i t ht
      have hq1 := ra_gd_ok h; clear h; obtain ⟨h2, h⟩ := hq1
      rw [Bool.and_eq_true, Bool.and_eq_true, Bool.and_eq_true, Bool.and_eq_true, beq_iff_eq] at h2
      obtain ⟨h2, h3, h4, h5, h6⟩ := h2
      have h3 := ra_leb_le h3
      have h4 := Nat.le_of_ble_eq_true h4
      have h5 := Nat.le_of_ble_eq_true h5
      have h6 := Nat.le_of_ble_eq_true h6
      cases h
      obtain ⟨x0, stv1, rfl, g2, g4⟩ := ra_a2_cons hst
      obtain ⟨k1, y, rfl, k2⟩ := g2
      have hk := ra_nm_ok hN k1 k2
      rw [h2, hN.2.1] at hk
      have hn0 : ¬ y < 0 := fun q => by
        have := Int32.lt_iff_toInt_lt.mp q
        have e0 : (0 : Int32).toInt = 0 := rfl
        omega
      have hc : y.toNatClampNeg = (ra_nm env q).2.toNat := by rw [ra_clamp]; omega
      have kk := fun (q1 : Nat) (e' : va_E) (he : ∀ ads : List Nat, ra_cC env.length v ads b0 cT (ra_na t (ra_nm env q).2.toNat) e') (H1 : Heap) (locs1 : List Loc) (ls : Array Slot) hP1 hD1 hS1 hl => hs _ (List.mem_singleton.mpr rfl) hn v lvv (.ref q1 :: stv1) (ws ++ [(q1, e')]) (ra_g_push hg he g4) hv H1 locs1 ls hP1 hD1 hS1 hl
      have hcells : ce + 1 ≤ R.cells := Nat.le_trans h5 hRC
      have hslots : sl + (ra_nm env q).2.toNat ≤ R.slots := Nat.le_trans h6 hRS
      intro H locs ls hP hD hS hl
      cases ty <;> first | (cases ht; done) | skip
      · cases ht
        refine va_newa (atype := .boolean) (ty := .boolean) (N' := (ra_nm env q).2.toNat) (a0 := ((ra_nm env q).2.toNat, .inl (fun _ => 0))) hx hb (hts _ hAr.2.2.1) rfl hKK hP hD hS hA (fun _ => rfl) hn0 hc (by show _ * 1 ≤ _; omega) hcells hslots hdg (fun q1 cA H1 hK1 hP1 hD1 hS1 => ?_)
        have e0 := ra_RA_eq (t := 2) hK1 rfl
        subst e0
        exact kk q1 _ (fun ads => ra_na_i hN (by omega) ads) H1 locs ls hP1 hD1 hS1 hl
      · cases ht
        refine va_newa (atype := .byte) (ty := .byte) (N' := (ra_nm env q).2.toNat) (a0 := ((ra_nm env q).2.toNat, .inl (fun _ => 0))) hx hb (hts _ hAr.2.1) rfl hKK hP hD hS hA (fun _ => rfl) hn0 hc (by show _ * 1 ≤ _; omega) hcells hslots hdg (fun q1 cA H1 hK1 hP1 hD1 hS1 => ?_)
        have e0 := ra_RA_eq (t := 1) hK1 rfl
        subst e0
        exact kk q1 _ (fun ads => ra_na_i hN (by omega) ads) H1 locs ls hP1 hD1 hS1 hl
      · cases ht
        refine va_newa (atype := .int) (ty := .int) (N' := (ra_nm env q).2.toNat) (a0 := ((ra_nm env q).2.toNat, .inl (fun _ => 0))) hx hb (hts _ hAr.1) rfl hKK hP hD hS hA (fun _ => rfl) hn0 hc (by show _ * 4 ≤ _; omega) hcells hslots hdg (fun q1 cA H1 hK1 hP1 hD1 hS1 => ?_)
        have e0 := ra_RA_eq (t := 0) hK1 rfl
        subst e0
        exact kk q1 _ (fun ads => ra_na_i hN (by omega) ads) H1 locs ls hP1 hD1 hS1 hl
      · cases ht
        refine va_newa (atype := .long) (ty := .long) (N' := (ra_nm env q).2.toNat) (a0 := ((ra_nm env q).2.toNat, .inr (.inl (fun _ => 0)))) hx hb (hts _ hAr.2.2.2) rfl hKK hP hD hS hA (fun _ => rfl) hn0 hc (by show _ * 8 ≤ _; omega) hcells hslots hdg (fun q1 cA H1 hK1 hP1 hD1 hS1 => ?_)
        have e0 := ra_RA_eq (t := 3) hK1 rfl
        subst e0
        exact kk q1 _ (fun ads => Or.inr ⟨rfl, _, rfl⟩) H1 locs ls hP1 hD1 hS1 hl
    · cases h
  · cases h
def ra_newq (RC RS : Nat) (ql : List Nat) (j n pc : Nat) (a : ra_S) : Option (List (Nat × ra_S)) := match a with
  | (env, lv, st, aw, ce, sl) => ra_gd (n == 3 && ql.contains j) (match st with
    | .inl q :: st => let k := ra_nm env q; ra_gd (k.1 == 0 && (ra_leb 0 k.2 && (Nat.ble k.2.toNat 60000000 && (Nat.ble (ce + 1) RC && Nat.ble (sl + k.2.toNat) RS)))) (some [(pc + 3, (env, lv, .inr (.inl aw.length) :: st, aw ++ [.inr (.inl (4, List.replicate k.2.toNat (.inl (.inr (.inr (.inl 0))))))], ce + 1, sl + k.2.toNat))])
    | _ => none)
theorem ra_newq_ok {RC RS : Nat} {ql : List Nat} {j n pc : Nat} {a : ra_S} {out : List (Nat × ra_S)} (h : ra_newq RC RS ql j n pc a = some out) (X : ra_X p s m args c cc own nL A D cl (ra_T sc cT) Ts) (hRC : RC ≤ R.cells) (hRS : RS ≤ R.slots) (hQl : ∀ j ∈ ql, Cond.classLink own j sc ∈ Ts) (hAO : va_AO sc s) (hdg : decode cc pc = .ok (.anewarray j, n)) (hs : ∀ x ∈ out, ra_ok p l e R s m args below meth c Q nL A D cl b0 ad0 cT n0 v0 x) : ra_ok p l e R s m args below meth c Q nL A D cl b0 ad0 cT n0 v0 (pc, a) := by
  obtain ⟨env, lv, st, aw, ce, sl⟩ := a
  intro hn v lvv stv ws hg hv
  have hst := hg.2.2.1
  have hN := hg.1
  dsimp only at hn hst hN
  obtain ⟨hx, hb, hml, hown, hts, hKK, hA⟩ := id X
  unfold ra_newq at h
  dsimp only at h
  have hq0 := ra_gd_ok h; clear h; obtain ⟨h1, h⟩ := hq0
  rw [Bool.and_eq_true, beq_iff_eq, List.contains_iff_mem] at h1
  obtain ⟨h1, hj⟩ := h1
  subst h1
  split at h
  · rename_i q st1
    have hq1 := ra_gd_ok h; clear h; obtain ⟨h2, h⟩ := hq1
    rw [Bool.and_eq_true, Bool.and_eq_true, Bool.and_eq_true, Bool.and_eq_true, beq_iff_eq] at h2
    obtain ⟨h2, h3, h4, h5, h6⟩ := h2
    have h3 := ra_leb_le h3
    have h4 := Nat.le_of_ble_eq_true h4
    have h5 := Nat.le_of_ble_eq_true h5
    have h6 := Nat.le_of_ble_eq_true h6
    cases h
    obtain ⟨x0, stv1, rfl, g2, g4⟩ := ra_a2_cons hst
    obtain ⟨k1, y, rfl, k2⟩ := g2
    have hk := ra_nm_ok hN k1 k2
    rw [h2, hN.2.1] at hk
    have hn0 : ¬ y < 0 := fun q => by
      have := Int32.lt_iff_toInt_lt.mp q
      have e0 : (0 : Int32).toInt = 0 := rfl
      omega
    have hc : y.toNatClampNeg = (ra_nm env q).2.toNat := by rw [ra_clamp]; omega
    intro H locs ls hP hD hS hl
    refine va_newq (N' := (ra_nm env q).2.toNat) hx hb hown (hts _ (hQl _ hj)) hAO hKK hP hD hS hA hn0 hc (by omega) (Nat.le_trans h5 hRC) (Nat.le_trans h6 hRS) hdg (fun q1 cA H1 hK1 hP1 hD1 hS1 => ?_)
    have e0 := ra_RA_eq (t := 4) hK1 rfl
    subst e0
    refine hs _ (List.mem_singleton.mpr rfl) hn v _ _ _ (ra_g_push hg (fun ads => Or.inr ⟨rfl, (fun _ => none), by simp, fun j x hx => ?_⟩) g4) hv H1 locs ls hP1 hD1 hS1 hl
    rw [List.getElem?_replicate] at hx
    split at hx
    · cases hx
      exact Or.inl ⟨rfl, rfl⟩
    · cases hx
  · cases h
def ra_aast (sci n pc : Nat) (a : ra_S) : Option (List (Nat × ra_S)) := match a with
  | (env, lv, st, aw, ce, sl) => ra_gd (n == 1) (match st with
    | .inr (.inl j) :: .inl q :: .inr (.inl i) :: st => match ra_nth aw i with
      | some (.inr (.inl o)) => match ra_nth aw j with
        | some (.inl w) => let k := ra_nm env q; ra_gd (o.1 == 4 && (w.1 == sci && (k.1 == 0 && ra_ix env q o.2.length))) (some [(pc + 1, (env, lv, st, aw.set i (.inr (.inl (4, o.2.set k.2.toNat (.inl (.inr (.inl j)))))), ce, sl))])
        | _ => none
      | _ => none
    | _ => none)
theorem ra_aast_ok {sci n pc : Nat} {a : ra_S} {out : List (Nat × ra_S)} (h : ra_aast sci n pc a = some out) (X : ra_X p s m args c cc own nL A D cl (ra_T sc cT) Ts) {rsc : vw_C} (hsci : cl[sci]? = some rsc) (hsn : rsc.1 = sc) (hdg : decode cc pc = .ok (.aastore, n)) (hs : ∀ x ∈ out, ra_ok p l e R s m args below meth c Q nL A D cl b0 ad0 cT n0 v0 x) : ra_ok p l e R s m args below meth c Q nL A D cl b0 ad0 cT n0 v0 (pc, a) := by
  obtain ⟨env, lv, st, aw, ce, sl⟩ := a
  intro hn v lvv stv ws hg hv
  have hst := hg.2.2.1
  have hN := hg.1
  dsimp only at hn hst hN
  obtain ⟨hx, hb, hml, hown, hts, hKK, hA⟩ := id X
  unfold ra_aast at h
  simp only [ra_nth_eq] at h
  try dsimp only at h
  have hq0 := ra_gd_ok h; clear h; obtain ⟨h1, h⟩ := hq0
  rw [beq_iff_eq] at h1
  subst h1
  split at h
  · rename_i j q i st1
    split at h
    · rename_i o ho
      split at h
      · rename_i w hw
        have hq1 := ra_gd_ok h; clear h; obtain ⟨h2, h⟩ := hq1
        rw [Bool.and_eq_true, Bool.and_eq_true, Bool.and_eq_true, beq_iff_eq, beq_iff_eq, beq_iff_eq] at h2
        obtain ⟨h2, h3, h4, h5⟩ := h2
        cases h
        obtain ⟨x0, stv1, rfl, g2, g4⟩ := ra_a2_cons hst
        obtain ⟨x1, stv2, rfl, g5, g6⟩ := ra_a2_cons g4
        obtain ⟨x2, stv3, rfl, g7, g8⟩ := ra_a2_cons g6
        obtain ⟨k1, y, rfl, k2⟩ := g5
        have g2' := g2
        obtain ⟨qj, u1, rfl, u2⟩ := ra_cell hg hw g2
        obtain ⟨qi, w1, rfl, w2⟩ := ra_cell hg ho g7
        obtain ⟨vs, f1, -⟩ := u2
        obtain ⟨i1, i2, i3, -⟩ := ra_ix_ok hN k2 h5
        have hk := ra_nm_ok hN k1 k2
        rw [h4, hN.2.1] at hk
        have hc : (ra_nm env q).2.toNat = y.toNatClampNeg := by omega
        rcases w2 with ⟨h0, -⟩ | ⟨h0, f, e1, e2⟩
        · omega
        · intro H locs ls hP hD hS hl
          refine va_astq hx hb hKK hP hD hS i 4 j sci (vs := vs) (v := qj.1) (r := rsc) (by rw [w1, ← e1]) (by rw [hsn]; rfl) (by rw [u1, ← h3, ← f1]) hsci i1 hdg (fun H1 locs1 hP1 hD1 hS1 => ?_)
          refine hs _ (List.mem_singleton.mpr rfl) hn v _ _ _ (ra_g_set hg w1 (Or.inr ⟨rfl, _, by rw [List.length_set], fun j2 x hx => ?_⟩) g8) hv H1 locs1 ls hP1 hD1 hS1 hl
          rw [List.getElem?_set] at hx
          unfold va_up
          split at hx
          · rename_i hj
            rw [hc] at hj
            subst hj
            try rw [if_pos (by rw [hc]; exact i3)] at hx
            cases hx
            rw [if_pos rfl]
            exact g2'
          · rename_i hj
            rw [if_neg (fun z => hj (by rw [hc]; exact z.symm))]
            exact e2 j2 x hx
      · cases h
    · cases h
  · cases h
end
end
