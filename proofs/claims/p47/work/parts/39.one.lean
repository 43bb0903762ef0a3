noncomputable section
/-! the check of a method, with sayings -/
section
variable {p : Program} {l : Launch} {e : Env} {R : Room} {s : State} {m : MethodId} {args : Array Value} {below : List Frame} {meth : Method} {c : Code} {Q : State → Prop}
variable {cc : ByteArray} {own : String} {nL : Nat} {A : Nat → Prop} {D : va_G} {cl : List vw_C} {tys : List (ClassId × FieldType)} {Ts : List Cond} {b0 : Nat → Nat} {ad0 : List Nat} {cT : Nat → ClassId} {n0 : Nat} {v0 : Nat → Int}
variable {sc : String}
variable {nw : List (String × Nat × MethodName × String)} {SS : ra_Sx × (Nat → Nat)}
abbrev rb_Ht : Type := Nat × List (Nat × Int) × List Nat × List ra_V × List rb_H
def rb_wt (x : Option (List rb_T)) (tp : List rb_Ht) : Option (List rb_T × List rb_Ht) := match x with
  | none => none
  | some o => some (o, tp)
theorem rb_wt_ok {x : Option (List rb_T)} {tp : List rb_Ht} {r : List rb_T × List rb_Ht} (h : rb_wt x tp = some r) : x = some r.1 := by
  cases x with
  | none => cases h
  | some o => cases h; rfl
def rb_lo (F : rb_D) (x : Option (List (Nat × ra_S) × List ra_Hn)) (tp : List rb_Ht) : Option (List rb_T × List rb_Ht) := match x with
  | none => none
  | some o => some (o.1.map (fun y => (y.1, y.2, F)), tp)
theorem rb_lo_ok {F : rb_D} {x : Option (List (Nat × ra_S) × List ra_Hn)} {tp : List rb_Ht} {r : List rb_T × List rb_Ht} (h : rb_lo F x tp = some r) : ∃ o, x = some o ∧ r.1 = o.1.map (fun y => (y.1, y.2, F)) := by
  cases x with
  | none => cases h
  | some o => cases h; exact ⟨o, rfl, rfl⟩
/-- is the array on the stack one of which something is said? -/
def rb_isO (aw : List ra_C) (x : Option ra_V) : Bool := match x with
  | some (.inr (.inl i)) => match ra_nth aw i with
    | some (.inr (.inr (.inr _))) => true
    | _ => false
  | _ => false
/-- which step is due: 0 the plain one, 1 a call (0, 1, special), 2 an end, 3 a load, 4 a store, 5 a long, 6 to 8 with what it says -/
def rb_way (hs0 : Bool) (I : ra_I) (lt : List (Nat × Int)) (rps : List Nat) (pc : Nat) (i : Instr) (a : ra_S) : Nat := match i with
  | .invokevirtual _ => 1
  | .invokestatic j => match ra_has I.2.2.2.2.2.2.2.2.1 j with
    | true => 0
    | false => match ra_nf I.2.2.2.2.2.2.2.2.2 j with
      | some _ => 0
      | none => 1
  | .invokespecial j => match ra_has I.2.2.2.2.2.2.2.1 j with
    | true => 0
    | false => 1
  | .return_ => if hs0 then 0 else 2
  | .ireturn => if hs0 then 0 else 2
  | .lreturn => if hs0 then 0 else 2
  | .areturn => if hs0 then 0 else 2
  | .iaload => if rb_isO a.2.2.2.1 (a.2.2.1[1]?) then 3 else 0
  | .baload => if rb_isO a.2.2.2.1 (a.2.2.1[1]?) then 3 else 0
  | .iastore => if rb_isO a.2.2.2.1 (a.2.2.1[2]?) then 4 else 0
  | .bastore => if rb_isO a.2.2.2.1 (a.2.2.1[2]?) then 4 else 0
  | .ldc2_w _ => if lt.isEmpty then 0 else 5
  | .lload_n _ => if lt.isEmpty then 0 else 5
  | .lstore_n _ => if lt.isEmpty then 0 else 5
  | .lcmp => if lt.isEmpty then 0 else 5
  | .irem => if ra_has rps pc then 7 else 0
  | .ifCond _ _ => if ra_has rps pc then 8 else 0
  | .if_icmp _ _ => if ra_has rps pc then 8 else 0
  | _ => if ra_has rps pc then 6 else 0
def rb_kd (ml : List (Nat × Nat × Nat)) (i : Instr) : Option (Nat × Nat) := match i with
  | .invokevirtual j => some (0, j)
  | .invokestatic j => some (1, j)
  | .invokespecial j => match ra_ff ml j with
    | some mj => ra_gd (Nat.ble 2 mj.2) (some (mj.2, j))
    | none => none
  | _ => none
/-- is a text's step due: 1 a step, 2 a call -/
def rb_wayS (tb : ra_Tb) (i : Instr) (a : ra_S) : Nat := match i with
  | .ldc j => match ra_nf tb.1 j with
    | some _ => 1
    | none => 0
  | .getstatic _ => 1
  | .getfield _ => match a.2.2.1 with
    | .inr (.inr (.inl k)) :: _ => if Nat.ble 1000 k then 1 else 0
    | _ => 0
  | .arraylength => match a.2.2.1 with
    | .inr (.inr (.inl k)) :: _ => if Nat.ble 1000 k then 1 else 0
    | _ => 0
  | .baload => match a.2.2.1 with
    | _ :: .inr (.inr (.inl k)) :: _ => if Nat.ble 1000 k then 1 else 0
    | _ => 0
  | .invokevirtual j => match ra_nf tb.2.2.2.2 j with
    | some _ => 2
    | none => 0
  | _ => 0
def rb_one (spl nL : Nat) (cl : List vw_C) (tyv : Nat → Nat → FieldType) (ini : Option Nat) (sci : Nat) (hs0 : Bool) (sb : Nat) (MT : List ra_M) (K : List rb_K) (RC RS RF RL : Nat) (I : ra_I) (sx : ra_Sx) (tb : ra_Tb) (lt : List (Nat × Int)) (rps : List Nat) (rt : Option FieldType) (np : Nat) (posts : List rb_P) (mc ms : Nat) (pc : Nat) (a : ra_S) (F : rb_D) (tp : List rb_Ht) : Option (List rb_T × List rb_Ht) := match ra_lk I.1 pc with
  | none => none
  | some r => match rb_wayS tb r.1 a with
   | 1 => rb_wt (rb_str sx tb r.1 r.2 pc a F) tp
   | 2 => (match tp with
      | h :: tp => (match r.1 with
        | .invokevirtual j => rb_wt (rb_invS sx.length MT tb.2.2.2.2 K RC RS RF RL j r.2 pc h.1 h.2.1 h.2.2.1 h.2.2.2.1 h.2.2.2.2 a F) tp
        | _ => none)
      | [] => none)
   | _ => match rb_way hs0 I lt rps pc r.1 a with
    | 0 => rb_lo F (ra_one spl nL cl tyv ini sci hs0 sb MT [] RC RS RF RL I rt 0 [] mc ms pc a [(0, [], [], [])]) tp
    | 1 => match tp with
      | h :: tp => match rb_kd I.2.2.2.2.2.2.1 r.1 with
        | some k => rb_wt (rb_inv MT I.2.2.2.2.2.2.1 K RC RS RF RL k.1 k.2 r.2 pc h.1 h.2.1 h.2.2.1 h.2.2.2.1 h.2.2.2.2 a F) tp
        | none => none
      | [] => none
    | 2 => match tp with
      | h :: tp => ra_gd (!hs0 && rb_ret rt np posts mc ms r.1 r.2 h.1 h.2.1 h.2.2.2.2 a F) (some ([], tp))
      | [] => none
    | 3 => match r.1 with
      | .iaload => rb_wt (rb_old 0 r.2 pc a F) tp
      | .baload => rb_wt (rb_old 1 r.2 pc a F) tp
      | _ => none
    | 4 => match r.1 with
      | .iastore => rb_wt (rb_ost 0 r.2 pc a F) tp
      | .bastore => rb_wt (rb_ost 1 r.2 pc a F) tp
      | _ => none
    | 5 => rb_wt (rb_lng lt nL r.1 r.2 pc a F) tp
    | 6 => rb_wt (rb_recb r.1 r.2 pc a F) tp
    | 7 => match r.1 with
      | .irem => rb_wt (rb_recr r.2 pc a F) tp
      | _ => none
    | _ => rb_wt (rb_recc r.1 r.2 pc a F) tp
theorem rb_ret_n {rt : Option FieldType} {np : Nat} {posts : List rb_P} {mc ms : Nat} {i : Instr} {n ki : Nat} {μ : List (Nat × Int)} {hf : List rb_H} {a : ra_S} {F : rb_D} (h : rb_ret rt np posts mc ms i n ki μ hf a F = true) : n = 1 := by
  unfold rb_ret at h
  split at h
  · cases h
  · rw [Bool.and_eq_true] at h
    obtain ⟨-, h⟩ := h
    obtain ⟨env, lv, st, aw, ce, sl⟩ := a
    unfold ra_ret at h
    dsimp only at h
    simp only [List.getElem?_cons_zero, Bool.and_eq_true, beq_iff_eq] at h
    exact h.1
set_option maxHeartbeats 2000000 in
theorem rb_one2_ok {spl : Nat} {tyv : Nat → Nat → FieldType} {ini : Option Nat} {sci : Nat} {hs0 : Bool} {sb : Nat} {MT : List ra_M} {K : List rb_K} {RC RS RF RL : Nat} {I : ra_I} {tb : ra_Tb} {lt : List (Nat × Int)} {rps : List Nat} {rt : Option FieldType} {np : Nat} {posts : List rb_P} {mc ms : Nat} (X : ra_X p s m args c cc own nL A D cl (ra_T sc cT) Ts) (hEx : ra_Ex sc nw s) (hSx : rs_S SS A s) (hb0 : ∀ j, b0 (1000 + j) = SS.2 j) (hTb : rs_okT Ts own SS.1 MT tb) (hG : ∀ w ∈ Ts, goodWord w = true) (hI : ra_okI Ts own sc cl nw MT cc I) (hLt : rb_okL Ts own lt) (hC : ra_okC Ts cl tyv) (hIn : ∀ ci, ini = some ci → meth.name = "<init>" ∧ ∀ (rc : vw_C) (k : Nat), cl[ci]? = some rc → k < rc.2.2 → (rc.2.1 k).1 = own) {rsc : vw_C} (hsci : cl[sci]? = some rsc) (hsn : rsc.1 = sc) (hsc : hs0 = true → ra_scr s A b0 sb n0 v0) (hAr : ra_okA Ts) (hK : ∀ k ∈ K, rb_Hk l sc nw SS Ts MT D cl cT k) (hRC : RC ≤ R.cells) (hRS : RS ≤ R.slots) (hRF : RF ≤ R.frames) (hRL : RL ≤ R.locals) {vE : Nat → Int} {ws0 : va_W} (hE : np ≤ n0) (hEv : ∀ i, i < np → v0 i = vE i) (had : hs0 = false → ad0 = ws0.map Prod.fst) (hLaw : hs0 = true → ∀ (pc : Nat) (lv : List (Nat × Value)) (ws : va_W) (ce sl : Nat), decode cc pc = .ok (.ireturn, 1) → ce ≤ mc → sl ≤ ms → ra_W p l e R s m args below meth c Q nL A D cl pc lv [.int 1] ws ce sl)
    (hR : hs0 = false → ∀ (i : Instr) (pc : Nat) (lv : List (Nat × Value)) (st : List Value) (ws : va_W) (r : Option Value), decode cc pc = .ok (i, 1) → ra_rv rt i st r → rb_pv b0 cT vE np posts ws0 r ws → ra_W p l e R s m args below meth c Q nL A D cl pc lv st ws mc ms) {pc : Nat} {a : ra_S} {F : rb_D} {tp : List rb_Ht} {r : List rb_T × List rb_Ht} (h : rb_one spl nL cl tyv ini sci hs0 sb MT K RC RS RF RL I SS.1 tb lt rps rt np posts mc ms pc a F tp = some r) (hs : ∀ x ∈ r.1, rb_ok p l e R s m args below meth c Q nL A D cl b0 ad0 cT n0 v0 x) : rb_ok p l e R s m args below meth c Q nL A D cl b0 ad0 cT n0 v0 (pc, a, F) := by
  unfold rb_one at h
  split at h
  · cases h
  · rename_i q hq
    obtain ⟨i, n⟩ := q
    have hdg := hI.1 _ (ra_lk_mem hq)
    dsimp only at h hdg
    split at h
    · exact rb_str_ok (rb_wt_ok h) X hSx hTb hb0 hdg hs
    · split at h
      · split at h
        · exact rb_invS_ok (rb_wt_ok h) X hEx hSx hb0 hG hTb hK hRC hRS hRF hRL hdg hs
        · cases h
      · cases h
    split at h
    · obtain ⟨o, h1, h2⟩ := rb_lo_ok h
      rw [h2] at hs
      exact rb_one_ok X hEx hG hI hC hIn hsci hsn hsc hAr hRC hRS hRF hRL hLaw h1 (fun x hx => hs _ (List.mem_map.mpr ⟨x, hx, rfl⟩))
    · split at h
      · split at h
        · rename_i k hk
          refine rb_inv_ok (rb_wt_ok h) X hEx hSx hb0 hG hI.2.2.2.2.2.2.1 hK hRC hRS hRF hRL ?_ hs
          unfold rb_kd at hk
          split at hk
          · cases hk
            exact hdg
          · cases hk
            exact hdg
          · split at hk
            · obtain ⟨k1, k2⟩ := ra_gd_ok hk
              have k1 := Nat.le_of_ble_eq_true k1
              cases k2
              rename_i mj _ _
              obtain ⟨kk, hkk⟩ : ∃ k, mj.2 = k + 2 := ⟨mj.2 - 2, by omega⟩
              dsimp only
              rw [hkk]
              exact hdg
            · cases hk
          · cases hk
        · cases h
      · cases h
    · split at h
      · obtain ⟨h1, h2⟩ := ra_gd_ok h
        rw [Bool.and_eq_true] at h1
        have h0 : hs0 = false := by
          have := h1.1
          cases hs0 with
          | false => rfl
          | true => cases this
        have hn1 := rb_ret_n h1.2
        subst hn1
        exact (rb_ret_ok h1.2 hE hEv (had h0) (fun lv st ws r z1 z2 => hR h0 _ pc lv st ws r hdg z1 z2)).2
      · cases h
    · split at h
      · exact rb_old_ok (b := 0) (rb_wt_ok h) X hdg hs
      · exact rb_old_ok (b := 1) (rb_wt_ok h) X hdg hs
      · cases h
    · split at h
      · exact rb_ost_ok (b := 0) (rb_wt_ok h) X hdg hs
      · exact rb_ost_ok (b := 1) (rb_wt_ok h) X hdg hs
      · cases h
    · exact rb_lng_ok (rb_wt_ok h) X hLt hdg hs
    · exact rb_recb_ok (rb_wt_ok h) X hdg hs
    · split at h
      · exact rb_recr_ok (rb_wt_ok h) X hdg hs
      · cases h
    · exact rb_recc_ok (rb_wt_ok h) X hdg hs
end
end
