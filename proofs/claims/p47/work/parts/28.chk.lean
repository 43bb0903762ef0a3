noncomputable section
/-! the check of a method -/
section
variable {p : Program} {l : Launch} {e : Env} {R : Room} {s : State} {m : MethodId} {args : Array Value} {below : List Frame} {meth : Method} {c : Code} {Q : State → Prop}
variable {cc : ByteArray} {own : String} {nL : Nat} {A : Nat → Prop} {D : va_G} {cl : List vw_C} {tys : List (ClassId × FieldType)} {Ts : List Cond} {b0 : Nat → Nat} {ad0 : List Nat} {cT : Nat → ClassId} {n0 : Nat} {v0 : Nat → Int}
variable {sc : String}
variable {nw : List (String × Nat × MethodName × String)}
abbrev ra_I : Type := List (Nat × Instr × Nat) × List (Nat × Nat × Nat) × List (Nat × Int) × List Nat × List (Nat × Nat) × List Nat × List (Nat × Nat × Nat) × List Nat × List Nat × List (Nat × Nat)
abbrev ra_Hn : Type := Nat × List (Nat × Int) × List Nat × List ra_V
def ra_okI (Ts : List Cond) (own sc : String) (cl : List vw_C) (nw : List (String × Nat × MethodName × String)) (MT : List ra_M) (cc : ByteArray) (I : ra_I) : Prop :=
  (∀ q ∈ I.1, decode cc q.1 = .ok (q.2.1, q.2.2)) ∧ ra_okF Ts own cl I.2.1 ∧ ra_okK Ts own I.2.2.1 ∧ ra_okL Ts own I.2.2.2.1 ∧ ra_okN Ts own cl I.2.2.2.2.1 ∧ (∀ j ∈ I.2.2.2.2.2.1, Cond.classLink own j sc ∈ Ts) ∧ ra_okM Ts own cl nw MT I.2.2.2.2.2.2.1 ∧ ra_okO Ts own I.2.2.2.2.2.2.2.1 ∧ ra_okY Ts own I.2.2.2.2.2.2.2.2.1 ∧ ra_okMm Ts own I.2.2.2.2.2.2.2.2.2
noncomputable def ra_lk0 (pc : Nat) (l : List (Nat × Instr × Nat)) : Option (Instr × Nat) := List.rec (motive := fun _ => Option (Instr × Nat)) none (fun q _ ih => Bool.rec (motive := fun _ => Option (Instr × Nat)) ih (some q.2) (Nat.beq q.1 pc)) l
theorem ra_lk0_mem {pc : Nat} : ∀ {l : List (Nat × Instr × Nat)} {r : Instr × Nat}, ra_lk0 pc l = some r → (pc, r) ∈ l
  | [], r, h => nomatch (show (none : Option (Instr × Nat)) = some r from h)
  | q :: l, r, h => by
    have h' : Bool.rec (motive := fun _ => Option (Instr × Nat)) (ra_lk0 pc l) (some q.2) (Nat.beq q.1 pc) = some r := h
    cases hb : Nat.beq q.1 pc with
    | true =>
      rw [hb] at h'
      have h2 : some q.2 = some r := h'
      cases h2
      rw [← Nat.eq_of_beq_eq_true hb]
      exact List.mem_cons_self
    | false =>
      rw [hb] at h'
      exact List.mem_cons_of_mem _ (ra_lk0_mem h')
/-- by blocks of sixteen -/
noncomputable def ra_lkS (pc : Nat) (f : Nat) : List (Nat × Instr × Nat) → Option (Instr × Nat) := Nat.rec (motive := fun _ => List (Nat × Instr × Nat) → Option (Instr × Nat)) (fun l => ra_lk0 pc l) (fun _ ih l => List.rec (motive := fun _ => Option (Instr × Nat)) (ra_lk0 pc l) (fun q _ _ => Bool.rec (motive := fun _ => Option (Instr × Nat)) (ra_lk0 pc l) (ih (ra_dr l 16)) (Nat.ble q.1 pc)) (ra_dr l 16)) f
theorem ra_lkS_mem {pc : Nat} : ∀ {f : Nat} {l : List (Nat × Instr × Nat)} {r : Instr × Nat}, ra_lkS pc f l = some r → (pc, r) ∈ l
  | 0, l, r, h => ra_lk0_mem h
  | f + 1, l, r, h => by
    have h' : List.rec (motive := fun _ => Option (Instr × Nat)) (ra_lk0 pc l) (fun q _ _ => Bool.rec (motive := fun _ => Option (Instr × Nat)) (ra_lk0 pc l) (ra_lkS pc f (ra_dr l 16)) (Nat.ble q.1 pc)) (ra_dr l 16) = some r := h
    have ih : ra_lkS pc f (ra_dr l 16) = some r → (pc, r) ∈ l := fun h => by
      have := ra_lkS_mem h
      rw [ra_dr_eq] at this
      exact List.mem_of_mem_drop this
    revert h' ih
    generalize ra_lkS pc f (ra_dr l 16) = z
    intro h' ih
    cases hd : ra_dr l 16 with
    | nil =>
      rw [hd] at h'
      exact ra_lk0_mem h'
    | cons q t =>
      rw [hd] at h'
      have h2 : Bool.rec (motive := fun _ => Option (Instr × Nat)) (ra_lk0 pc l) z (Nat.ble q.1 pc) = some r := h'
      cases hb : Nat.ble q.1 pc with
      | true => rw [hb] at h2; exact ih h2
      | false => rw [hb] at h2; exact ra_lk0_mem h2
noncomputable def ra_lk (l : List (Nat × Instr × Nat)) (pc : Nat) : Option (Instr × Nat) := ra_lkS pc 200 l
theorem ra_lk_mem {l : List (Nat × Instr × Nat)} {pc : Nat} {r : Instr × Nat} (h : ra_lk l pc = some r) : (pc, r) ∈ l := ra_lkS_mem h
def ra_wt (x : Option (List (Nat × ra_S))) (tp : List ra_Hn) : Option (List (Nat × ra_S) × List ra_Hn) := match x with
  | none => none
  | some o => some (o, tp)
theorem ra_wt_ok {x : Option (List (Nat × ra_S))} {tp : List ra_Hn} {r : List (Nat × ra_S) × List ra_Hn} (h : ra_wt x tp = some r) : x = some r.1 := by
  cases x with
  | none => cases h
  | some o => cases h; rfl
def ra_one (spl nL : Nat) (cl : List vw_C) (tyv : Nat → Nat → FieldType) (ini : Option Nat) (sci : Nat) (hs0 : Bool) (sb : Nat) (MT : List ra_M) (K : List ra_K) (RC RS RF RL : Nat) (I : ra_I) (rt : Option FieldType) (np : Nat) (posts : List ra_P) (mc ms : Nat) (pc : Nat) (a : ra_S) (tp : List ra_Hn) : Option (List (Nat × ra_S) × List ra_Hn) := match ra_lk I.1 pc with
  | none => none
  | some r => match ra_spl spl r.1 a with
   | some q => some (ra_sps pc q a ((ra_rg a.1 q).2 - (ra_rg a.1 q).1 + 1).toNat (ra_rg a.1 q).1, tp)
   | none => match r.1 with
    | .getfield j => ra_wt (ra_getf I.2.1 j r.2 pc a) tp
    | .putfield j => ra_wt (ra_putf I.2.1 cl tyv ini j r.2 pc a) tp
    | .arraylength => ra_wt (ra_alen hs0 r.2 pc a) tp
    | .iaload => ra_wt (ra_ald hs0 sb 0 r.2 pc a) tp
    | .baload => ra_wt (ra_ald hs0 sb 1 r.2 pc a) tp
    | .iastore => ra_wt (ra_ast 0 r.2 pc a) tp
    | .bastore => ra_wt (ra_ast 1 r.2 pc a) tp
    | .laload => ra_wt (ra_lald r.2 pc a) tp
    | .lastore => ra_wt (ra_last r.2 pc a) tp
    | .aaload => ra_wt (ra_aald r.2 pc a) tp
    | .aastore => ra_wt (ra_aast sci r.2 pc a) tp
    | .new j => ra_wt (ra_newo RC RS I.2.2.2.2.1 cl tyv j r.2 pc a) tp
    | .newarray ty => ra_wt (ra_newa RC RS ty r.2 pc a) tp
    | .anewarray j => ra_wt (ra_newq RC RS I.2.2.2.2.2.1 j r.2 pc a) tp
    | .invokevirtual j => match tp with
      | h :: tp => ra_wt (ra_inv MT I.2.2.2.2.2.2.1 K RC RS RF RL 0 j r.2 pc h.1 h.2.1 h.2.2.1 h.2.2.2 a) tp
      | [] => none
    | .invokestatic j => match I.2.2.2.2.2.2.2.2.1.contains j with
      | true => ra_wt (ra_cpy I.2.2.2.2.2.2.2.2.1 RF RL j r.2 pc a) tp
      | false => match ra_nf I.2.2.2.2.2.2.2.2.2 j with
        | some _ => ra_wt (ra_mm I.2.2.2.2.2.2.2.2.2 RC RS RF RL j r.2 pc a) tp
        | none => match tp with
          | h :: tp => ra_wt (ra_inv MT I.2.2.2.2.2.2.1 K RC RS RF RL 1 j r.2 pc h.1 h.2.1 h.2.2.1 h.2.2.2 a) tp
          | [] => none
    | .invokespecial j => match I.2.2.2.2.2.2.2.1.contains j with
      | true => ra_wt (ra_obj I.2.2.2.2.2.2.2.1 RF RL j r.2 pc a) tp
      | false => match ra_ff I.2.2.2.2.2.2.1 j with
        | none => none
        | some mj => match tp with
          | h :: tp => ra_gd (Nat.ble 2 mj.2) (ra_wt (ra_inv MT I.2.2.2.2.2.2.1 K RC RS RF RL mj.2 j r.2 pc h.1 h.2.1 h.2.2.1 h.2.2.2 a) tp)
          | [] => none
    | .return_ => match tp with
      | h :: tp => ra_gd (ra_ret hs0 rt np posts mc ms .return_ r.2 h.1 h.2.1 a) (some ([], tp))
      | [] => none
    | .ireturn => match tp with
      | h :: tp => ra_gd (ra_ret hs0 rt np posts mc ms .ireturn r.2 h.1 h.2.1 a) (some ([], tp))
      | [] => none
    | .lreturn => match tp with
      | h :: tp => ra_gd (ra_ret hs0 rt np posts mc ms .lreturn r.2 h.1 h.2.1 a) (some ([], tp))
      | [] => none
    | .areturn => match tp with
      | h :: tp => ra_gd (ra_ret hs0 rt np posts mc ms .areturn r.2 h.1 h.2.1 a) (some ([], tp))
      | [] => none
    | .ifCond k o => ra_wt (ra_p2 (.ifCond k o) r.2 pc a) tp
    | .if_icmp k o => ra_wt (ra_p2 (.if_icmp k o) r.2 pc a) tp
    | .tableswitch d lo hi os => ra_wt (ra_p2 (.tableswitch d lo hi os) r.2 pc a) tp
    | .lookupswitch d ps => ra_wt (ra_p2 (.lookupswitch d ps) r.2 pc a) tp
    | i => ra_wt (ra_p1 I.2.2.1 I.2.2.2.1 nL i r.2 pc a) tp
set_option maxHeartbeats 4000000 in
theorem ra_one_ok {spl : Nat} {tyv : Nat → Nat → FieldType} {ini : Option Nat} {sci : Nat} {hs0 : Bool} {sb : Nat} {MT : List ra_M} {K : List ra_K} {RC RS RF RL : Nat} {I : ra_I} {rt : Option FieldType} {np : Nat} {posts : List ra_P} {mc ms : Nat} (X : ra_X p s m args c cc own nL A D cl (ra_T sc cT) Ts) (hEx : ra_Ex sc nw s) (hG : ∀ w ∈ Ts, goodWord w = true) (hI : ra_okI Ts own sc cl nw MT cc I) (hC : ra_okC Ts cl tyv) (hIn : ∀ ci, ini = some ci → meth.name = "<init>" ∧ ∀ (rc : vw_C) (k : Nat), cl[ci]? = some rc → k < rc.2.2 → (rc.2.1 k).1 = own) {rsc : vw_C} (hsci : cl[sci]? = some rsc) (hsn : rsc.1 = sc) (hsc : hs0 = true → ra_scr s A b0 sb n0 v0) (hAr : ra_okA Ts) (hK : ∀ k ∈ K, ra_Hk l sc nw Ts MT D cl cT k) (hRC : RC ≤ R.cells) (hRS : RS ≤ R.slots) (hRF : RF ≤ R.frames) (hRL : RL ≤ R.locals) {vE : Nat → Int} {ws0 : va_W} (hE : np ≤ n0) (hEv : ∀ i, i < np → v0 i = vE i) (had : ad0 = ws0.map Prod.fst) (hLaw : hs0 = true → ∀ (pc : Nat) (lv : List (Nat × Value)) (ws : va_W) (ce sl : Nat), decode cc pc = .ok (.ireturn, 1) → ce ≤ mc → sl ≤ ms → ra_W p l e R s m args below meth c Q nL A D cl pc lv [.int 1] ws ce sl)
    (hR : hs0 = false → ∀ (i : Instr) (pc : Nat) (lv : List (Nat × Value)) (st : List Value) (ws : va_W) (r : Option Value), decode cc pc = .ok (i, 1) → ra_rv rt i st r → ra_pv b0 cT vE np posts ws0 r ws → ra_W p l e R s m args below meth c Q nL A D cl pc lv st ws mc ms) {pc : Nat} {a : ra_S} {tp : List ra_Hn} {r : List (Nat × ra_S) × List ra_Hn} (h : ra_one spl nL cl tyv ini sci hs0 sb MT K RC RS RF RL I rt np posts mc ms pc a tp = some r) (hs : ∀ x ∈ r.1, ra_ok p l e R s m args below meth c Q nL A D cl b0 ad0 cT n0 v0 x) : ra_ok p l e R s m args below meth c Q nL A D cl b0 ad0 cT n0 v0 (pc, a) := by
  unfold ra_one at h
  split at h
  · cases h
  · rename_i q hq
    obtain ⟨i, n⟩ := q
    have hdg := hI.1 _ (ra_lk_mem hq)
    dsimp only at h hdg
    obtain ⟨-, j1, j2, j3, j4, j5, j6, j7, j8, j9⟩ := hI
    have hret : ∀ (i : Instr) (n ki : Nat) (μ : List (Nat × Int)), decode cc pc = .ok (i, n) → ra_ret hs0 rt np posts mc ms i n ki μ a = true → ra_ok p l e R s m args below meth c Q nL A D cl b0 ad0 cT n0 v0 (pc, a) := by
      intro i n ki μ hd hr
      cases hs0 with
      | true =>
        have hn1 : n = 1 := by
          obtain ⟨env, lv, st, aw, ce, sl⟩ := a
          unfold ra_ret at hr
          dsimp only at hr
          rw [Bool.and_eq_true, beq_iff_eq] at hr
          exact hr.1
        subst hn1
        exact (ra_retL_ok hr (fun hi lv ws ce sl z1 z2 => hLaw rfl pc lv ws ce sl (by rw [hd, hi]) z1 z2)).2
      | false =>
        have hn1 : n = 1 := by
          obtain ⟨env, lv, st, aw, ce, sl⟩ := a
          unfold ra_ret at hr
          dsimp only at hr
          split at hr
          · cases hr
          · simp only [Bool.and_eq_true, beq_iff_eq] at hr
            exact hr.1
        subst hn1
        exact (ra_ret_ok hr hE hEv had (fun lv st ws r z1 z2 => hR rfl i pc lv st ws r hd z1 z2)).2
    split at h
    · rename_i qs hqs
      cases h
      exact ra_sps_ok (ra_spl_in hqs) hs
    split at h
    · exact ra_getf_ok (ra_wt_ok h) X j1 hC hdg hs
    · exact ra_putf_ok (ra_wt_ok h) X j1 hC hIn hdg hs
    · exact ra_alen_ok (ra_wt_ok h) X hsc hdg hs
    · exact ra_ald_ok (ra_wt_ok h) X hsc hdg hs
    · exact ra_ald_ok (ra_wt_ok h) X hsc hdg hs
    · exact ra_ast_ok (ra_wt_ok h) X hdg hs
    · exact ra_ast_ok (ra_wt_ok h) X hdg hs
    · exact ra_lald_ok (ra_wt_ok h) X hdg hs
    · exact ra_last_ok (ra_wt_ok h) X hdg hs
    · exact ra_aald_ok (ra_wt_ok h) X hdg hs
    · exact ra_aast_ok (ra_wt_ok h) X hsci hsn hdg hs
    · exact ra_newo_ok (ra_wt_ok h) X hRC hRS j4 hC hdg hs
    · exact ra_newa_ok (ra_wt_ok h) X hRC hRS hAr hdg hs
    · exact ra_newq_ok (ra_wt_ok h) X hRC hRS j5 hEx.1 hdg hs
    · split at h
      · exact ra_inv_ok (kd := 0) (ra_wt_ok h) X hEx hG j6 hK hRC hRS hRF hRL hdg hs
      · cases h
    · split at h
      · exact ra_cpy_ok (ra_wt_ok h) X j8 hRF hRL hdg hs
      split at h
      · exact ra_mm_ok (ra_wt_ok h) X j9 hRC hRS hRF hRL hdg hs
      · split at h
        · exact ra_inv_ok (kd := 1) (ra_wt_ok h) X hEx hG j6 hK hRC hRS hRF hRL hdg hs
        · cases h
    · split at h
      · exact ra_obj_ok (ra_wt_ok h) X j7 hRF hRL hdg hs
      · split at h
        · cases h
        · rename_i mj hmj
          split at h
          · have hq1 := ra_gd_ok h; clear h; obtain ⟨h2, h⟩ := hq1
            have h2 := Nat.le_of_ble_eq_true h2
            refine ra_inv_ok (kd := mj.2) (ra_wt_ok h) X hEx hG j6 hK hRC hRS hRF hRL ?_ hs
            obtain ⟨kk, hkk⟩ : ∃ k, mj.2 = k + 2 := ⟨mj.2 - 2, by omega⟩
            rw [hkk]
            exact hdg
          · cases h
    · split at h
      · exact hret _ _ _ _ hdg (ra_gd_ok h).1
      · cases h
    · split at h
      · exact hret _ _ _ _ hdg (ra_gd_ok h).1
      · cases h
    · split at h
      · exact hret _ _ _ _ hdg (ra_gd_ok h).1
      · cases h
    · split at h
      · exact hret _ _ _ _ hdg (ra_gd_ok h).1
      · cases h
    · exact ra_p2_ok (ra_wt_ok h) X hdg hs
    · exact ra_p2_ok (ra_wt_ok h) X hdg hs
    · exact ra_p2_ok (ra_wt_ok h) X hdg hs
    · exact ra_p2_ok (ra_wt_ok h) X hdg hs
    · exact ra_p1_ok (ra_wt_ok h) X j2 j3 hdg hs
end
end
