noncomputable section
/-! calls, ends and arrivals with sayings -/
section
variable {p : Program} {l : Launch} {e : Env} {R : Room} {s : State} {m : MethodId} {args : Array Value} {below : List Frame} {meth : Method} {c : Code} {Q : State → Prop}
variable {cc : ByteArray} {own : String} {nL : Nat} {A : Nat → Prop} {D : va_G} {cl : List vw_C} {tys : List (ClassId × FieldType)} {Ts : List Cond} {b0 : Nat → Nat} {ad0 : List Nat} {cT : Nat → ClassId} {n0 : Nat} {v0 : Nat → Int}
variable {sc : String}
variable {nw : List (String × Nat × MethodName × String)} {SS : ra_Sx × (Nat → Nat)}
abbrev rb_P : Type := ra_P × rb_D
abbrev rb_K : Type := Nat × ra_N × List ra_V × List ra_C × rb_D × List rb_P × Nat × Nat × Nat × Nat
def rb_pv (b0 : Nat → Nat) (cT : Nat → ClassId) (v : Nat → Int) (np : Nat) (posts : List rb_P) (ws : va_W) (r : Option Value) (w1 : va_W) : Prop :=
  (∃ q ∈ posts, ∃ v' : Nat → Int, (∀ i, i < np → v' i = v i) ∧ ra_cN v' q.1.1 ∧ ra_a2 (ra_cV q.1.1.length v' (w1.map Prod.fst) b0) q.1.2.1 r.toList ∧ ra_a2 (fun (c : ra_C) (x : Nat × va_E) => ra_cC q.1.1.length v' (w1.map Prod.fst) b0 cT c x.2) q.1.2.2 w1 ∧ rb_dv v' q.2) ∧ ∀ (k : Nat) (x : Nat × va_E), ws[k]? = some x → ∃ x', w1[k]? = some x' ∧ x'.1 = x.1
def rb_rm (k : rb_K) : Room := { frames := k.2.2.2.2.2.2.2.2.1, cells := k.2.2.2.2.2.2.1, slots := k.2.2.2.2.2.2.2.1, locals := k.2.2.2.2.2.2.2.2.2 }
def rb_Hk (l : Launch) (sc : String) (nw : List (String × Nat × MethodName × String)) (SS : ra_Sx × (Nat → Nat)) (Ts : List Cond) (MT : List ra_M) (D : va_G) (cl : List vw_C) (cT : Nat → ClassId) (k : rb_K) : Prop :=
  ∀ mm : ra_M, MT[k.1]? = some mm → ∀ (b0 : Nat → Nat) (v : Nat → Int) (av : List Value) (ws : va_W) (sz : Nat), (∀ j, b0 (1000 + j) = SS.2 j) → ra_cN v k.2.1 → ra_a2 (ra_cV k.2.1.length v (ws.map Prod.fst) b0) k.2.2.1 av → ra_a2 (fun (c : ra_C) (x : Nat × va_E) => ra_cC k.2.1.length v (ws.map Prod.fst) b0 cT c x.2) k.2.2.2.1 ws → rb_dv v k.2.2.2.2.1 →
    Met l mm.1 (Cond.code mm.1 mm.2.1 mm.2.2.1 mm.2.2.2.1 :: Ts) (rb_rm k) (rb_Pc sc nw SS D cl (ra_T sc cT) av ws sz) (ra_Qc D cl (ra_T sc cT) (rb_pv b0 cT v k.2.1.length k.2.2.2.2.2.1 ws) ws sz) k.2.2.2.2.2.2.1 k.2.2.2.2.2.2.2.1 (va_A ws sz)
def rb_aft (env : ra_N) (lv : List (Nat × ra_V)) (rest : List ra_V) (aw : List ra_C) (ce sl pc : Nat) (μ : List (Nat × Int)) (π : List Nat) (om : List ra_V) (F : rb_D) (q : rb_P) : List rb_T :=
  (ra_aft env lv rest aw ce sl pc μ π om q.1).map (fun x => (x.1, x.2, match rb_subs (μ ++ ra_up env.length (q.1.1.length - μ.length)) q.2 with
    | some G => F ++ G
    | none => F))
def rb_pre (env : ra_N) (F : rb_D) (μ : List (Nat × Int)) (hs : List rb_H) (P : rb_D) : Bool := match rb_subs μ P with
  | none => false
  | some G => rb_fars env F hs G
theorem rb_pre_ok {v : Nat → Int} {env : ra_N} {F : rb_D} {μ : List (Nat × Int)} {hs : List rb_H} {P : rb_D} (hN : ra_cN v env) (hF : rb_dv v F) (h : rb_pre env F μ hs P = true) : rb_dv (ra_vI v μ) P := by
  unfold rb_pre at h
  split at h
  · cases h
  · rename_i G hG
    exact rb_subs_ok hG (rb_fars_ok hN hF h)
def rb_inv (MT : List ra_M) (ml : List (Nat × Nat × Nat)) (K : List rb_K) (RC RS RF RL kd j n pc ki : Nat) (μ : List (Nat × Int)) (π : List Nat) (om : List ra_V) (hf : List rb_H) (a : ra_S) (F : rb_D) : Option (List rb_T) := match a with
  | (env, lv, st, aw, ce, sl) => match ra_nth K ki with
    | none => none
    | some k => match ra_bg (ra_bl MT) k.1 with
      | none => none
      | some mm => match ra_ff ml j with
        | none => none
        | some r => match ra_pick aw π with
          | none => none
          | some cs =>
            let na := if kd = 1 then mm.2.2.2.2.1 else mm.2.2.2.2.1 + 1
            ra_gd (n == 3 && (r.1 == k.1 && (r.2 == kd && (Nat.ble na st.length && (Nat.ble (ra_cats (st.drop na)) 8 && (ra_m0 μ && (ra_mok env μ k.2.1 && (ra_b2 (ra_en env μ (π, om)) (st.take na).reverse k.2.2.1 && (ra_nd π && (ra_b2 (ra_enC env μ (π, om)) cs k.2.2.2.1 && (Nat.ble (k.2.2.2.2.2.2.2.2.1 + 1) RF && (Nat.ble (8 + (mm.2.2.1 + 11) + k.2.2.2.2.2.2.2.2.2) RL && (Nat.ble (ce + k.2.2.2.2.2.2.1) RC && (Nat.ble (sl + k.2.2.2.2.2.2.2.1) RS && (k.2.2.2.2.2.1.all (fun q => Nat.ble k.2.1.length q.1.1.length) && (rb_pre env F μ hf k.2.2.2.2.1 && (ra_wok aw.length om && (Nat.ble om.length 1000 && ra_rcv mm.2.2.2.2.2 kd aw (st.take na).reverse))))))))))))))))))
              (some (k.2.2.2.2.2.1.flatMap (rb_aft env lv (st.drop na) aw (ce + k.2.2.2.2.2.2.1) (sl + k.2.2.2.2.2.2.2.1) pc μ π om F)))
theorem rs_bI {b0 : Nat → Nat} {ads : List Nat} {om : List ra_V} (h : om.length ≤ 1000) (j : Nat) : ra_bI b0 ads om (1000 + j) = b0 (1000 + j) := by
  unfold ra_bI
  rw [List.getElem?_eq_none (by omega)]
set_option maxHeartbeats 4000000 in
theorem rb_inv_ok {MT : List ra_M} {ml : List (Nat × Nat × Nat)} {K : List rb_K} {RC RS RF RL kd j n pc ki : Nat} {μ : List (Nat × Int)} {π : List Nat} {om : List ra_V} {hf : List rb_H} {a : ra_S} {F : rb_D} {out : List rb_T} (h : rb_inv MT ml K RC RS RF RL kd j n pc ki μ π om hf a F = some out) (X : ra_X p s m args c cc own nL A D cl (ra_T sc cT) Ts) (hE : ra_Ex sc nw s) (hSx : rs_S SS A s) (hb0 : ∀ j, b0 (1000 + j) = SS.2 j) (hG : ∀ w ∈ Ts, goodWord w = true) (hM : ra_okM Ts own cl nw MT ml) (hK : ∀ k ∈ K, rb_Hk l sc nw SS Ts MT D cl cT k) (hRC : RC ≤ R.cells) (hRS : RS ≤ R.slots) (hRF : RF ≤ R.frames) (hRL : RL ≤ R.locals)
    (hdg : decode cc pc = .ok (ra_ik kd j, n)) (hs : ∀ x ∈ out, rb_ok p l e R s m args below meth c Q nL A D cl b0 ad0 cT n0 v0 x) : rb_ok p l e R s m args below meth c Q nL A D cl b0 ad0 cT n0 v0 (pc, a, F) := by
  obtain ⟨env, lv, st, aw, ce, sl⟩ := a
  intro hn v lvv stv ws hg hv hdb hdv
  have hst := hg.2.2.1
  have hN := hg.1
  dsimp only at hn hst hN hdb hdv
  obtain ⟨hx, hb, hml, hown, hts, hKK, hA⟩ := id X
  unfold rb_inv at h
  dsimp only at h
  split at h
  · cases h
  · rename_i k hk
    rw [ra_nth_eq] at hk
    split at h
    · cases h
    · rename_i mm hmm
      rw [ra_bl_get] at hmm
      split at h
      · cases h
      · rename_i r hr
        split at h
        · cases h
        · rename_i cs hcs
          have hq1 := ra_gd_ok h; clear h; obtain ⟨h2, h⟩ := hq1
          obtain ⟨na, ena⟩ : ∃ z, z = (if kd = 1 then mm.2.2.2.2.1 else mm.2.2.2.2.1 + 1) := ⟨_, rfl⟩
          rw [← ena] at h h2
          simp only [Bool.and_eq_true, beq_iff_eq] at h2
          obtain ⟨c1, c2, c3, c4, c5, c6, c7, c8, c9, c10, c11, c12, c13, c14, c15, c18, c17, c19, c16⟩ := h2
          have c4 := Nat.le_of_ble_eq_true c4
          have c5 := Nat.le_of_ble_eq_true c5
          have c11 := Nat.le_of_ble_eq_true c11
          have c12 := Nat.le_of_ble_eq_true c12
          have c13 := Nat.le_of_ble_eq_true c13
          have c14 := Nat.le_of_ble_eq_true c14
          have c19 := Nat.le_of_ble_eq_true c19
          cases h
          subst c1
          obtain ⟨mm', M1, M2, M3, M4, M5⟩ := hM _ (ra_ff_mem hr)
          dsimp only at M1 M5
          have : mm' = mm := by
            rw [c2, hmm] at M1
            exact (Option.some.inj M1).symm
          subst this
          have hμl := ra_mok_len c7
          have hμ : ∀ (i : Nat) (r : Nat × Int), μ[i]? = some r → r.1 < env.length := fun i r hr => (ra_mok_get hN c7 hr).1
          obtain ⟨wc, w1, w2⟩ := ra_pick_a2 hg.2.2.2.1 hcs
          obtain ⟨p1, p2⟩ := ra_pick_get w1
          have hads : ∀ (i j r : Nat), π[i]? = some j → (ws.map Prod.fst)[j]? = some r → (wc.map Prod.fst)[i]? = some r := by
            intro i j r h1 h2
            obtain ⟨q, q1, q2⟩ := p2 i j h1
            rw [List.getElem?_map, q1] at h2
            rw [List.getElem?_map, q2]
            exact h2
          have hst1 := ra_a2_rev (ra_a2_take na hst)
          have hst2 := ra_a2_drop na hst
          have hargs : ra_a2 (ra_cV k.2.1.length (ra_vI v μ) (wc.map Prod.fst) (ra_bI b0 (ws.map Prod.fst) om)) k.2.2.1 (stv.take na).reverse := by
            rw [← hμl]
            exact ra_b2_ok (R := ra_cV env.length v (ws.map Prod.fst) b0) (R' := ra_cV μ.length (ra_vI v μ) (wc.map Prod.fst) (ra_bI b0 (ws.map Prod.fst) om)) (fun a b c q1 q2 => ra_en_ok (π := (π, om)) hN hads q1 q2) c8 hst1
          have hwor : ra_a2 (fun (c : ra_C) (x : Nat × va_E) => ra_cC k.2.1.length (ra_vI v μ) (wc.map Prod.fst) (ra_bI b0 (ws.map Prod.fst) om) cT c x.2) k.2.2.2.1 wc := by
            rw [← hμl]
            exact ra_b2_ok (R := fun (c : ra_C) (x : Nat × va_E) => ra_cC env.length v (ws.map Prod.fst) b0 cT c x.2) (R' := fun (c : ra_C) (x : Nat × va_E) => ra_cC μ.length (ra_vI v μ) (wc.map Prod.fst) (ra_bI b0 (ws.map Prod.fst) om) cT c x.2) (fun a b c q1 q2 => ra_enC_ok (π := (π, om)) hN hads q1 q2) c10 w2
          have hNI := ra_cN_map hN c6 c7
          intro H locs ls hP hD hS hl
          have hMet := hK k (List.mem_of_getElem? hk) mm' hmm (ra_bI b0 (ws.map Prod.fst) om) (ra_vI v μ) (stv.take na).reverse wc H.size (fun j => (rs_bI c19 j).trans (hb0 j)) hNI hargs hwor (rb_pre_ok hN hdv c18)
          have hfree : ∀ q, va_A wc H.size q → A q := va_free hD hS hA π (by
            apply List.ext_getElem?
            intro i
            rw [List.getElem?_map, List.getElem?_map]
            cases hi : π[i]? with
            | none =>
              have : wc[i]? = none := by
                rw [List.getElem?_eq_none_iff] at hi ⊢
                omega
              rw [this]
              rfl
            | some j =>
              obtain ⟨q, q1, q2⟩ := p2 i j hi
              rw [q2]
              simp [q1])
          have hPwc : va_P D cl wc H := fun i q hq => by
            have hi : i < π.length := by rw [p1]; exact (List.getElem?_eq_some_iff.mp hq).1
            obtain ⟨q', q1, q2⟩ := p2 i _ (List.getElem?_eq_getElem hi)
            rw [hq] at q2
            cases q2
            exact hP _ _ q1
          have hDwc : va_D (fun _ => True) wc := by
            refine ⟨fun i j x y hx hy hxy => ?_, fun _ _ _ => trivial⟩
            have hi : i < π.length := by rw [p1]; exact (List.getElem?_eq_some_iff.mp hx).1
            have hj : j < π.length := by rw [p1]; exact (List.getElem?_eq_some_iff.mp hy).1
            obtain ⟨q, q1, q2⟩ := p2 i _ (List.getElem?_eq_getElem hi)
            obtain ⟨q', q3, q4⟩ := p2 j _ (List.getElem?_eq_getElem hj)
            rw [hx] at q2
            rw [hy] at q4
            cases q2
            cases q4
            have e0 := hD.1 _ _ x y q1 q3 hxy
            exact ra_nd_ok c9 (List.getElem?_eq_getElem hi) (by rw [e0]; exact List.getElem?_eq_getElem hj)
          have hPre : ∀ U : State, U.heap = H → s.WarmedH U.vm → rb_Pc sc nw SS D cl (ra_T sc cT) (stv.take na).reverse wc H.size (stv.take na).reverse.toArray U := fun U hU hW => ⟨rfl, by rw [hU], by rw [hU]; exact hPwc, va_K.moved hW.alike hKK, hDwc, ra_Ex_warm hE hW, rs_S_warm hSx hW hS hU hfree⟩
          have hlen : stv.length = st.length := (ra_a2_len hst).symm
          have htl : (stv.take na).length = na := by rw [List.length_take]; omega
          have hsplit : stv = (stv.take na).reverse.reverse ++ stv.drop na := by rw [List.reverse_reverse, List.take_append_drop]
          have hrest : 2 * (F0 m pc ls stv).monitorRoom + ((stv.drop na).map fun v => v.category).sum ≤ 8 := lv_room (by rw [ra_cats_ok hst2]; exact c5)
          have hGood : GoodIn Ts (Cond.code mm'.1 mm'.2.1 mm'.2.2.1 mm'.2.2.2.1 :: Ts) := fun w hw => by
            have hm : w ∈ Ts := by
              rcases List.mem_cons.mp hw with q | q
              · rw [q]; exact M2
              · exact q
            exact ⟨hm, good_of_word (hG w hm)⟩
          have hroom : (rb_rm k).frames + 1 ≤ R.frames ∧ 8 + (mm'.2.2.1 + 11) + (rb_rm k).locals ≤ R.locals := ⟨Nat.le_trans c11 hRF, Nat.le_trans c12 hRL⟩
          have hcel : ce + k.2.2.2.2.2.2.1 ≤ R.cells ∧ sl + k.2.2.2.2.2.2.2.1 ≤ R.slots := ⟨Nat.le_trans c13 hRC, Nat.le_trans c14 hRS⟩
          have hrun : va_Run p l e R s m args below meth c H locs ce sl k.2.2.2.2.2.2.1 k.2.2.2.2.2.2.2.1 (F0 m pc ls stv) (stv.drop na) (ra_Qc D cl (ra_T sc cT) (rb_pv (ra_bI b0 (ws.map Prod.fst) om) cT (ra_vI v μ) k.2.1.length k.2.2.2.2.2.1 wc) wc H.size (stv.take na).reverse.toArray) (va_A wc H.size) := by
            rcases M5 with ⟨d0, d1, d2, d3, rc, d4, d5⟩ | ⟨d0, d1, d2⟩ | ⟨d0, d1, d2, d3, d4⟩ | ⟨d0, ⟨host, d1⟩, d2, d3, d4⟩
            · rw [c3] at d0
              subst d0
              have ena : na = mm'.2.2.2.2.1 + 1 := ena
              have hcb := callB_of (R := R) (rm := rb_rm k) (own := own) (index := j) mm'.2.2.2.2.1 hts hGood rfl rfl rfl (hts _ M3) (hts _ d1) M4 hroom
              obtain ⟨as, eas⟩ : ∃ z, z = (stv.take na).reverse := ⟨_, rfl⟩
              rw [← eas] at hMet hPre hsplit hst1 ⊢
              have has : as.length = na := by rw [eas, List.length_reverse, htl]
              obtain ⟨i, as', o, e1, ho, c16⟩ := ra_rcv0 c16
              rw [e1] at hst1
              obtain ⟨x0, As, rfl, g2, g4⟩ := ra_a2_cons hst1
              obtain ⟨qr, u1, rfl, u2⟩ := ra_cell hg ho g2
              obtain ⟨fs, f1, -⟩ := u2
              have hrc := va_recv (a := qr.1) (q0 := i) (ci := mm'.2.2.2.2.2) (fs := fs) hKK hP d4 (by rw [u1, ← c16, ← f1])
              rw [d5] at hrc
              exact va_runV (As := As) (C := mm'.1.cls) ⟨hx, hb, hml, hown, hts⟩ hMet ⟨hcb, hts _ d2, hts _ d3⟩ ⟨rb_blind, hrc, hPre⟩ rfl (by simp at has; omega) hl.1 (by rw [List.reverse_cons, List.append_assoc] at hsplit; exact hsplit) hrest hdg hcel
            · rw [c3] at d0
              subst d0
              have ena : na = mm'.2.2.2.2.1 := ena
              have hcb := callB_of (R := R) (rm := rb_rm k) (own := own) (index := j) mm'.2.2.2.2.1 hts hGood rfl rfl rfl (hts _ M3) (hts _ d1) M4 hroom
              exact va_runS (As := (stv.take na).reverse) ⟨hx, hb, hml, hown, hts⟩ hMet ⟨hcb, hts _ d2⟩ ⟨rb_blind, hPre⟩ rfl (by rw [List.length_reverse, htl, ena]) hl.1 hsplit hrest hdg hcel
            · rw [c3] at d0
              subst d0
              have ena : na = mm'.2.2.2.2.1 + 1 := ena
              have hcb := callB_of (R := R) (rm := rb_rm k) (own := own) (index := j) mm'.2.2.2.2.1 hts hGood rfl rfl rfl (hts _ M3) (hts _ d1) M4 hroom
              obtain ⟨as, eas⟩ : ∃ z, z = (stv.take na).reverse := ⟨_, rfl⟩
              rw [← eas] at hMet hPre hsplit hst1 ⊢
              have has : as.length = na := by rw [eas, List.length_reverse, htl]
              obtain ⟨i, as', e1⟩ := ra_rcv2 (by decide) c16
              rw [e1] at hst1
              obtain ⟨x0, As, rfl, g2, g4⟩ := ra_a2_cons hst1
              obtain ⟨qr, u1, rfl⟩ := g2
              rw [d4] at hcb hMet
              exact va_runI (As := As) ⟨hx, hb, hml, hown, hts⟩ hMet ⟨hcb, d3, hts _ d2⟩ ⟨rb_blind, hPre⟩ rfl (by simp at has; omega) hl.1 (by rw [List.reverse_cons, List.append_assoc] at hsplit; exact hsplit) hrest hdg hcel
            · rw [c3] at d0
              subst d0
              have ena : na = mm'.2.2.2.2.1 + 1 := ena
              have hcb := va_cnB (R := R) (rm := rb_rm k) (own := own) (index := j) (host := host) mm'.2.2.2.2.1 hts hGood rfl rfl rfl (hE.2 _ d1) (hts _ M3) M4 hroom
              obtain ⟨as, eas⟩ : ∃ z, z = (stv.take na).reverse := ⟨_, rfl⟩
              rw [← eas] at hMet hPre hsplit hst1 ⊢
              have has : as.length = na := by rw [eas, List.length_reverse, htl]
              obtain ⟨i, as', e1⟩ := ra_rcv2 (by decide) c16
              rw [e1] at hst1
              obtain ⟨x0, As, rfl, g2, g4⟩ := ra_a2_cons hst1
              obtain ⟨qr, u1, rfl⟩ := g2
              rw [d4] at hcb hMet
              exact va_runIN (As := As) ⟨hx, hb, hml, hown, hts⟩ hMet ⟨hcb, d3, hts _ d2⟩ ⟨rb_blind, hPre⟩ rfl (by simp at has; omega) hl.1 (by rw [List.reverse_cons, List.append_assoc] at hsplit; exact hsplit) hrest hdg hcel
          refine ra_callG hrun hS hfree hfree (fun rv wn H1 locs1 hpv hP1 hD1 hk1 hS1 => ?_)
          obtain ⟨⟨q, hq, vc, vc1, vc2, vc3, vc4, vc5⟩, hadr⟩ := hpv
          obtain ⟨j1, j2, j3⟩ := ra_join hP hD c9 p1 p2 hadr hk1 hfree hP1 hD1
          have hql : μ.length ≤ q.1.1.length := by
            rw [hμl]
            exact Nat.le_of_ble_eq_true (List.all_eq_true.mp c15 q hq)
          have hpl : π.length ≤ wn.length := by
            rcases Nat.lt_or_ge wn.length π.length with z | z
            · have h1 : wn.length < wc.length := by omega
              obtain ⟨q', h2, -⟩ := hadr wn.length wc[wn.length] (List.getElem?_eq_getElem h1)
              simp at h2
            · exact z
          obtain ⟨x, hx1, hx2, hx3, hx4, hx5, v', hx6, hx7, hx8⟩ := ra_aft_ok (q := q.1) (ce := ce + k.2.2.2.2.2.2.1) (sl := sl + k.2.2.2.2.2.2.2.1) (pc := pc) hg hst2 hμ hql (fun i hi => vc1 i (by rw [← hμl]; exact hi)) vc2 c17 vc3 vc4 (fun kk x hkk hxk => by
            obtain ⟨y, y1, y2⟩ := p2 kk _ (List.getElem?_eq_getElem hkk)
            obtain ⟨x', x1, x2⟩ := hadr kk y y2
            rw [hxk] at x1
            cases x1
            exact ⟨_, y, List.getElem?_eq_getElem hkk, y1, x2.symm⟩) j3 hpl
          have hFG : rb_db x.2.1.length (match rb_subs (μ ++ ra_up env.length (q.1.1.length - μ.length)) q.2 with
              | some G => F ++ G
              | none => F) = true ∧ rb_dv v' (match rb_subs (μ ++ ra_up env.length (q.1.1.length - μ.length)) q.2 with
              | some G => F ++ G
              | none => F) := by
            have f1 := rb_db_mono hx5 hdb
            have f2 := rb_dv_ext hdb hx6 hdv
            split
            · rename_i G hG
              have f3 := rb_subs_v hx8 hG vc5
              exact ⟨rb_db_app f1 f3.1, rb_dv_app f2 f3.2⟩
            · exact ⟨f1, f2⟩
          have hfin := hs _ (List.mem_flatMap.mpr ⟨q, hq, List.mem_map.mpr ⟨x, hx1, rfl⟩⟩) (by show n0 ≤ x.2.1.length; omega) v' _ _ _ hx7 (fun i hi => by rw [hx6 i (by omega)]; exact hv i hi) hFG.1 hFG.2 H1 locs1 ls j1 j2 hS1 hl
          dsimp only at hfin
          rw [hx2, hx3, hx4] at hfin
          exact hfin
def rs_rcv (sn : Nat) (as : List ra_V) : Bool := match as with
  | .inr (.inr (.inl k)) :: _ => Nat.ble 1000 k && Nat.blt k (1000 + sn)
  | _ => false
theorem rs_rcv_ok {sn : Nat} {as : List ra_V} (h : rs_rcv sn as = true) : ∃ (i : Nat) (as' : List ra_V), as = .inr (.inr (.inl (1000 + i))) :: as' ∧ i < sn := by
  unfold rs_rcv at h
  split at h
  · rename_i k as'
    rw [Bool.and_eq_true] at h
    have h1 := Nat.le_of_ble_eq_true h.1
    have h2 : k < 1000 + sn := Nat.le_of_ble_eq_true h.2
    exact ⟨k - 1000, as', by rw [show 1000 + (k - 1000) = k by omega], by omega⟩
  · cases h
def rb_invS (sn : Nat) (MT : List ra_M) (ml : List (Nat × Nat)) (K : List rb_K) (RC RS RF RL j n pc ki : Nat) (μ : List (Nat × Int)) (π : List Nat) (om : List ra_V) (hf : List rb_H) (a : ra_S) (F : rb_D) : Option (List rb_T) := match a with
  | (env, lv, st, aw, ce, sl) => match ra_nth K ki with
    | none => none
    | some k => match ra_bg (ra_bl MT) k.1 with
      | none => none
      | some mm => match ra_nf ml j with
        | none => none
        | some r => match ra_pick aw π with
          | none => none
          | some cs =>
            let na := mm.2.2.2.2.1 + 1
            ra_gd (n == 3 && (r == k.1 && (Nat.ble na st.length && (Nat.ble (ra_cats (st.drop na)) 8 && (ra_m0 μ && (ra_mok env μ k.2.1 && (ra_b2 (ra_en env μ (π, om)) (st.take na).reverse k.2.2.1 && (ra_nd π && (ra_b2 (ra_enC env μ (π, om)) cs k.2.2.2.1 && (Nat.ble (k.2.2.2.2.2.2.2.2.1 + 1) RF && (Nat.ble (8 + (mm.2.2.1 + 11) + k.2.2.2.2.2.2.2.2.2) RL && (Nat.ble (ce + k.2.2.2.2.2.2.1) RC && (Nat.ble (sl + k.2.2.2.2.2.2.2.1) RS && (k.2.2.2.2.2.1.all (fun q => Nat.ble k.2.1.length q.1.1.length) && (rb_pre env F μ hf k.2.2.2.2.1 && (ra_wok aw.length om && (Nat.ble om.length 1000 && rs_rcv sn (st.take na).reverse)))))))))))))))))
              (some (k.2.2.2.2.2.1.flatMap (rb_aft env lv (st.drop na) aw (ce + k.2.2.2.2.2.2.1) (sl + k.2.2.2.2.2.2.2.1) pc μ π om F)))
set_option maxHeartbeats 4000000 in
theorem rb_invS_ok {MT : List ra_M} {tb : ra_Tb} {K : List rb_K} {RC RS RF RL j n pc ki : Nat} {μ : List (Nat × Int)} {π : List Nat} {om : List ra_V} {hf : List rb_H} {a : ra_S} {F : rb_D} {out : List rb_T} (h : rb_invS SS.1.length MT tb.2.2.2.2 K RC RS RF RL j n pc ki μ π om hf a F = some out) (X : ra_X p s m args c cc own nL A D cl (ra_T sc cT) Ts) (hE : ra_Ex sc nw s) (hSx : rs_S SS A s) (hb0 : ∀ j, b0 (1000 + j) = SS.2 j) (hG : ∀ w ∈ Ts, goodWord w = true) (hM : rs_okT Ts own SS.1 MT tb) (hK : ∀ k ∈ K, rb_Hk l sc nw SS Ts MT D cl cT k) (hRC : RC ≤ R.cells) (hRS : RS ≤ R.slots) (hRF : RF ≤ R.frames) (hRL : RL ≤ R.locals)
    (hdg : decode cc pc = .ok (.invokevirtual j, n)) (hs : ∀ x ∈ out, rb_ok p l e R s m args below meth c Q nL A D cl b0 ad0 cT n0 v0 x) : rb_ok p l e R s m args below meth c Q nL A D cl b0 ad0 cT n0 v0 (pc, a, F) := by
  obtain ⟨env, lv, st, aw, ce, sl⟩ := a
  intro hn v lvv stv ws hg hv hdb hdv
  have hst := hg.2.2.1
  have hN := hg.1
  dsimp only at hn hst hN hdb hdv
  obtain ⟨hx, hb, hml, hown, hts, hKK, hA⟩ := id X
  unfold rb_invS at h
  dsimp only at h
  split at h
  · cases h
  · rename_i k hk
    rw [ra_nth_eq] at hk
    split at h
    · cases h
    · rename_i mm hmm
      rw [ra_bl_get] at hmm
      split at h
      · cases h
      · rename_i r hr
        split at h
        · cases h
        · rename_i cs hcs
          have hq1 := ra_gd_ok h; clear h; obtain ⟨h2, h⟩ := hq1
          obtain ⟨na, ena⟩ : ∃ z, z = mm.2.2.2.2.1 + 1 := ⟨_, rfl⟩
          rw [← ena] at h h2
          simp only [Bool.and_eq_true, beq_iff_eq] at h2
          obtain ⟨c1, c2, c4, c5, c6, c7, c8, c9, c10, c11, c12, c13, c14, c15, c18, c17, c19, c16⟩ := h2
          have c4 := Nat.le_of_ble_eq_true c4
          have c5 := Nat.le_of_ble_eq_true c5
          have c11 := Nat.le_of_ble_eq_true c11
          have c12 := Nat.le_of_ble_eq_true c12
          have c13 := Nat.le_of_ble_eq_true c13
          have c14 := Nat.le_of_ble_eq_true c14
          have c19 := Nat.le_of_ble_eq_true c19
          cases h
          subst c1
          obtain ⟨mm', M1, M2, M3, M4, d1, d2, d3, d4⟩ := hM.2.2.2.2 _ (ra_nf_mem hr)
          dsimp only at M1 d1 d2 d3 d4
          have : mm' = mm := by
            rw [c2, hmm] at M1
            exact (Option.some.inj M1).symm
          subst this
          have hμl := ra_mok_len c7
          have hμ : ∀ (i : Nat) (r : Nat × Int), μ[i]? = some r → r.1 < env.length := fun i r hr => (ra_mok_get hN c7 hr).1
          obtain ⟨wc, w1, w2⟩ := ra_pick_a2 hg.2.2.2.1 hcs
          obtain ⟨p1, p2⟩ := ra_pick_get w1
          have hads : ∀ (i j r : Nat), π[i]? = some j → (ws.map Prod.fst)[j]? = some r → (wc.map Prod.fst)[i]? = some r := by
            intro i j r h1 h2
            obtain ⟨q, q1, q2⟩ := p2 i j h1
            rw [List.getElem?_map, q1] at h2
            rw [List.getElem?_map, q2]
            exact h2
          have hst1 := ra_a2_rev (ra_a2_take na hst)
          have hst2 := ra_a2_drop na hst
          have hargs : ra_a2 (ra_cV k.2.1.length (ra_vI v μ) (wc.map Prod.fst) (ra_bI b0 (ws.map Prod.fst) om)) k.2.2.1 (stv.take na).reverse := by
            rw [← hμl]
            exact ra_b2_ok (R := ra_cV env.length v (ws.map Prod.fst) b0) (R' := ra_cV μ.length (ra_vI v μ) (wc.map Prod.fst) (ra_bI b0 (ws.map Prod.fst) om)) (fun a b c q1 q2 => ra_en_ok (π := (π, om)) hN hads q1 q2) c8 hst1
          have hwor : ra_a2 (fun (c : ra_C) (x : Nat × va_E) => ra_cC k.2.1.length (ra_vI v μ) (wc.map Prod.fst) (ra_bI b0 (ws.map Prod.fst) om) cT c x.2) k.2.2.2.1 wc := by
            rw [← hμl]
            exact ra_b2_ok (R := fun (c : ra_C) (x : Nat × va_E) => ra_cC env.length v (ws.map Prod.fst) b0 cT c x.2) (R' := fun (c : ra_C) (x : Nat × va_E) => ra_cC μ.length (ra_vI v μ) (wc.map Prod.fst) (ra_bI b0 (ws.map Prod.fst) om) cT c x.2) (fun a b c q1 q2 => ra_enC_ok (π := (π, om)) hN hads q1 q2) c10 w2
          have hNI := ra_cN_map hN c6 c7
          intro H locs ls hP hD hS hl
          have hMet := hK k (List.mem_of_getElem? hk) mm' hmm (ra_bI b0 (ws.map Prod.fst) om) (ra_vI v μ) (stv.take na).reverse wc H.size (fun j => (rs_bI c19 j).trans (hb0 j)) hNI hargs hwor (rb_pre_ok hN hdv c18)
          have hfree : ∀ q, va_A wc H.size q → A q := va_free hD hS hA π (by
            apply List.ext_getElem?
            intro i
            rw [List.getElem?_map, List.getElem?_map]
            cases hi : π[i]? with
            | none =>
              have : wc[i]? = none := by
                rw [List.getElem?_eq_none_iff] at hi ⊢
                omega
              rw [this]
              rfl
            | some j =>
              obtain ⟨q, q1, q2⟩ := p2 i j hi
              rw [q2]
              simp [q1])
          have hPwc : va_P D cl wc H := fun i q hq => by
            have hi : i < π.length := by rw [p1]; exact (List.getElem?_eq_some_iff.mp hq).1
            obtain ⟨q', q1, q2⟩ := p2 i _ (List.getElem?_eq_getElem hi)
            rw [hq] at q2
            cases q2
            exact hP _ _ q1
          have hDwc : va_D (fun _ => True) wc := by
            refine ⟨fun i j x y hx hy hxy => ?_, fun _ _ _ => trivial⟩
            have hi : i < π.length := by rw [p1]; exact (List.getElem?_eq_some_iff.mp hx).1
            have hj : j < π.length := by rw [p1]; exact (List.getElem?_eq_some_iff.mp hy).1
            obtain ⟨q, q1, q2⟩ := p2 i _ (List.getElem?_eq_getElem hi)
            obtain ⟨q', q3, q4⟩ := p2 j _ (List.getElem?_eq_getElem hj)
            rw [hx] at q2
            rw [hy] at q4
            cases q2
            cases q4
            have e0 := hD.1 _ _ x y q1 q3 hxy
            exact ra_nd_ok c9 (List.getElem?_eq_getElem hi) (by rw [e0]; exact List.getElem?_eq_getElem hj)
          have hPre : ∀ U : State, U.heap = H → s.WarmedH U.vm → rb_Pc sc nw SS D cl (ra_T sc cT) (stv.take na).reverse wc H.size (stv.take na).reverse.toArray U := fun U hU hW => ⟨rfl, by rw [hU], by rw [hU]; exact hPwc, va_K.moved hW.alike hKK, hDwc, ra_Ex_warm hE hW, rs_S_warm hSx hW hS hU hfree⟩
          have hlen : stv.length = st.length := (ra_a2_len hst).symm
          have htl : (stv.take na).length = na := by rw [List.length_take]; omega
          have hsplit : stv = (stv.take na).reverse.reverse ++ stv.drop na := by rw [List.reverse_reverse, List.take_append_drop]
          have hrest : 2 * (F0 m pc ls stv).monitorRoom + ((stv.drop na).map fun v => v.category).sum ≤ 8 := lv_room (by rw [ra_cats_ok hst2]; exact c5)
          have hGood : GoodIn Ts (Cond.code mm'.1 mm'.2.1 mm'.2.2.1 mm'.2.2.2.1 :: Ts) := fun w hw => by
            have hm : w ∈ Ts := by
              rcases List.mem_cons.mp hw with q | q
              · rw [q]; exact M2
              · exact q
            exact ⟨hm, good_of_word (hG w hm)⟩
          have hroom : (rb_rm k).frames + 1 ≤ R.frames ∧ 8 + (mm'.2.2.1 + 11) + (rb_rm k).locals ≤ R.locals := ⟨Nat.le_trans c11 hRF, Nat.le_trans c12 hRL⟩
          have hcel : ce + k.2.2.2.2.2.2.1 ≤ R.cells ∧ sl + k.2.2.2.2.2.2.2.1 ≤ R.slots := ⟨Nat.le_trans c13 hRC, Nat.le_trans c14 hRS⟩
          have hrun : va_Run p l e R s m args below meth c H locs ce sl k.2.2.2.2.2.2.1 k.2.2.2.2.2.2.2.1 (F0 m pc ls stv) (stv.drop na) (ra_Qc D cl (ra_T sc cT) (rb_pv (ra_bI b0 (ws.map Prod.fst) om) cT (ra_vI v μ) k.2.1.length k.2.2.2.2.2.1 wc) wc H.size (stv.take na).reverse.toArray) (va_A wc H.size) := by
            have hcb := callB_of (R := R) (rm := rb_rm k) (own := own) (index := j) mm'.2.2.2.2.1 hts hGood rfl rfl rfl (hts _ M3) (hts _ d1) M4 hroom
            obtain ⟨as, eas⟩ : ∃ z, z = (stv.take na).reverse := ⟨_, rfl⟩
            rw [← eas] at hMet hPre hsplit hst1 ⊢
            have has : as.length = na := by rw [eas, List.length_reverse, htl]
            obtain ⟨i, as', e1, hi⟩ := rs_rcv_ok c16
            rw [e1] at hst1
            obtain ⟨x0, As, rfl, g2, g4⟩ := ra_a2_cons hst1
            have ex : x0 = .ref (SS.2 i) := by
              rcases g2 with ⟨z, -⟩ | ⟨z, -⟩ | ⟨-, z⟩
              · omega
              · omega
              · rw [z, hb0]
            subst ex
            have hrc := vk_recv hSx.2.1 hi hS
            rw [← d4] at hrc
            exact va_runV (As := As) (C := mm'.1.cls) ⟨hx, hb, hml, hown, hts⟩ hMet ⟨hcb, hts _ d2, hts _ d3⟩ ⟨rb_blind, hrc, hPre⟩ rfl (by simp at has; omega) hl.1 (by rw [List.reverse_cons, List.append_assoc] at hsplit; exact hsplit) hrest hdg hcel
          refine ra_callG hrun hS hfree hfree (fun rv wn H1 locs1 hpv hP1 hD1 hk1 hS1 => ?_)
          obtain ⟨⟨q, hq, vc, vc1, vc2, vc3, vc4, vc5⟩, hadr⟩ := hpv
          obtain ⟨j1, j2, j3⟩ := ra_join hP hD c9 p1 p2 hadr hk1 hfree hP1 hD1
          have hql : μ.length ≤ q.1.1.length := by
            rw [hμl]
            exact Nat.le_of_ble_eq_true (List.all_eq_true.mp c15 q hq)
          have hpl : π.length ≤ wn.length := by
            rcases Nat.lt_or_ge wn.length π.length with z | z
            · have h1 : wn.length < wc.length := by omega
              obtain ⟨q', h2, -⟩ := hadr wn.length wc[wn.length] (List.getElem?_eq_getElem h1)
              simp at h2
            · exact z
          obtain ⟨x, hx1, hx2, hx3, hx4, hx5, v', hx6, hx7, hx8⟩ := ra_aft_ok (q := q.1) (ce := ce + k.2.2.2.2.2.2.1) (sl := sl + k.2.2.2.2.2.2.2.1) (pc := pc) hg hst2 hμ hql (fun i hi => vc1 i (by rw [← hμl]; exact hi)) vc2 c17 vc3 vc4 (fun kk x hkk hxk => by
            obtain ⟨y, y1, y2⟩ := p2 kk _ (List.getElem?_eq_getElem hkk)
            obtain ⟨x', x1, x2⟩ := hadr kk y y2
            rw [hxk] at x1
            cases x1
            exact ⟨_, y, List.getElem?_eq_getElem hkk, y1, x2.symm⟩) j3 hpl
          have hFG : rb_db x.2.1.length (match rb_subs (μ ++ ra_up env.length (q.1.1.length - μ.length)) q.2 with
              | some G => F ++ G
              | none => F) = true ∧ rb_dv v' (match rb_subs (μ ++ ra_up env.length (q.1.1.length - μ.length)) q.2 with
              | some G => F ++ G
              | none => F) := by
            have f1 := rb_db_mono hx5 hdb
            have f2 := rb_dv_ext hdb hx6 hdv
            split
            · rename_i G hG
              have f3 := rb_subs_v hx8 hG vc5
              exact ⟨rb_db_app f1 f3.1, rb_dv_app f2 f3.2⟩
            · exact ⟨f1, f2⟩
          have hfin := hs _ (List.mem_flatMap.mpr ⟨q, hq, List.mem_map.mpr ⟨x, hx1, rfl⟩⟩) (by show n0 ≤ x.2.1.length; omega) v' _ _ _ hx7 (fun i hi => by rw [hx6 i (by omega)]; exact hv i hi) hFG.1 hFG.2 H1 locs1 ls j1 j2 hS1 hl
          dsimp only at hfin
          rw [hx2, hx3, hx4] at hfin
          exact hfin
def rb_ret (rt : Option FieldType) (np : Nat) (posts : List rb_P) (mc ms : Nat) (i : Instr) (n : Nat) (ki : Nat) (μ : List (Nat × Int)) (hf : List rb_H) (a : ra_S) (F : rb_D) : Bool := match posts[ki]? with
  | none => false
  | some q => rb_pre a.1 F μ hf q.2 && ra_ret false rt np [q.1] mc ms i n 0 μ a
theorem rb_ret_ok {rt : Option FieldType} {np : Nat} {posts : List rb_P} {mc ms : Nat} {i : Instr} {n pc ki : Nat} {μ : List (Nat × Int)} {hf : List rb_H} {a : ra_S} {F : rb_D} {vE : Nat → Int} {ws0 : va_W} (h : rb_ret rt np posts mc ms i n ki μ hf a F = true) (hE : np ≤ n0) (hEv : ∀ i, i < np → v0 i = vE i) (had : ad0 = ws0.map Prod.fst)
    (hR : ∀ (lv : List (Nat × Value)) (st : List Value) (ws : va_W) (r : Option Value), ra_rv rt i st r → rb_pv b0 cT vE np posts ws0 r ws → ra_W p l e R s m args below meth c Q nL A D cl pc lv st ws mc ms) : n = 1 ∧ rb_ok p l e R s m args below meth c Q nL A D cl b0 ad0 cT n0 v0 (pc, a, F) := by
  unfold rb_ret at h
  split at h
  · cases h
  · rename_i q hq
    rw [Bool.and_eq_true] at h
    obtain ⟨h0, h⟩ := h
    obtain ⟨env, lv, st, aw, ce, sl⟩ := a
    unfold ra_ret at h
    dsimp only at h h0
    simp only [List.getElem?_cons_zero, Bool.and_eq_true, beq_iff_eq] at h
    obtain ⟨c1, c2, c3, c4, c5, c6, c7, c8, c9⟩ := h
    refine ⟨c1, ?_⟩
    intro hn v lvv stv ws hg hv hdb hdv
    have hN := hg.1
    have hst := hg.2.2.1
    dsimp only at hn hN hst hdb hdv
    obtain ⟨r, r1, r2⟩ := ra_rok_ok c4 hN hst
    have hμl := ra_mok_len c7
    show ra_W p l e R s m args below meth c Q nL A D cl pc lvv stv ws ce sl
    rw [c2, c3]
    refine hR lvv stv ws r r1 ⟨⟨q, List.mem_of_getElem? hq, ra_vI v μ, fun i hi => ?_, ra_cN_map hN c5 c7, ?_, ?_, rb_pre_ok hN hdv h0⟩, fun k x hx => ?_⟩
    · have := ra_idn_ok c6 i hi
      simp only [ra_vI, this]
      rw [Nat.zero_add, hv i (by omega), hEv i hi]
      omega
    · rw [r2, ← hμl]
      exact ra_b2_ok (R := ra_cV env.length v (ws.map Prod.fst) b0) (R' := ra_cV μ.length (ra_vI v μ) (ws.map Prod.fst) b0) (fun a b c q1 q2 => ra_en_id hN q1 q2) c8 hst
    · rw [← hμl]
      exact ra_b2_ok (R := fun (c : ra_C) (x : Nat × va_E) => ra_cC env.length v (ws.map Prod.fst) b0 cT c x.2) (R' := fun (c : ra_C) (x : Nat × va_E) => ra_cC μ.length (ra_vI v μ) (ws.map Prod.fst) b0 cT c x.2) (fun a b c q1 q2 => ra_enC_id hN q1 q2) c9 hg.2.2.2.1
    · have h1 := hg.2.2.2.2 k x.1 (by rw [had, List.getElem?_map, hx]; rfl)
      rw [List.getElem?_map] at h1
      cases hw : ws[k]? with
      | none => rw [hw] at h1; cases h1
      | some y => rw [hw] at h1; exact ⟨y, rfl, by simpa using h1⟩
abbrev rb_U : Type := Nat × ra_S × ra_L × rb_D
/-- an arrival at a cut, with a smaller rank -/
def rb_arr (np : Nat) (R0 : ra_L) (u : rb_U) (pc : Nat) (μ : List (Nat × Int)) (hf : List rb_H) (a : ra_S) (F : rb_D) : Bool := match a with
  | (env, lv, st, aw, ce, sl) => u.1 == pc && (ce == u.2.1.2.2.2.2.1 && (sl == u.2.1.2.2.2.2.2 && (ra_m0 μ && (ra_idn 0 np μ && (ra_mok env μ u.2.1.1 && (u.2.1.2.1.all (ra_lvb env μ (ra_upn 0 aw.length, []) lv) && (ra_b2 (ra_en env μ (ra_upn 0 aw.length, [])) st u.2.1.2.2.1 && (ra_b2 (ra_enC env μ (ra_upn 0 aw.length, [])) aw u.2.1.2.2.2.1 && (match ra_sub1 μ u.2.2.1.1 u.2.2.1.2 with
    | none => false
    | some rn => match hf with
      | h1 :: h2 :: hs => rb_far env F h1 rn && (rb_far env F h2 (ra_neg rn.1 ++ R0.1, R0.2 - (rn.2 + 1)) && rb_pre env F μ hs u.2.2.2)
      | _ => false)))))))))
theorem rb_arr_ok {np : Nat} {R0 : ra_L} {u : rb_U} {pc : Nat} {μ : List (Nat × Int)} {hf : List rb_H} {a : ra_S} {F : rb_D} {vE : Nat → Int} (h : rb_arr np R0 u pc μ hf a F = true) (hE : np ≤ n0) (hEv : ∀ i, i < np → v0 i = vE i) (hR0 : ∀ t ∈ R0.1, t.1 < n0)
    (hC : ∀ (v : Nat → Int) (lv : List (Nat × Value)) (st : List Value) (ws : va_W), ra_g b0 ad0 cT v u.2.1 lv st ws → (∀ i, i < np → v i = vE i) → rb_dv v u.2.2.2 → 0 ≤ ra_ev v u.2.2.1 → ra_ev v u.2.2.1 < ra_ev v0 R0 → ra_W p l e R s m args below meth c Q nL A D cl u.1 lv st ws u.2.1.2.2.2.2.1 u.2.1.2.2.2.2.2) : rb_ok p l e R s m args below meth c Q nL A D cl b0 ad0 cT n0 v0 (pc, a, F) := by
  obtain ⟨env, lv, st, aw, ce, sl⟩ := a
  unfold rb_arr at h
  simp only [Bool.and_eq_true, beq_iff_eq] at h
  obtain ⟨c1, c2, c3, c4, c5, c6, c7, c8, c9, c10⟩ := h
  intro hn v lvv stv ws hg hv hdb hdv
  have hN := hg.1
  have hst := hg.2.2.1
  have hlv := hg.2.1
  dsimp only at hn hN hst hlv hdb hdv
  have hμl := ra_mok_len c6
  split at c10
  · cases c10
  · rename_i rn hrn
    split at c10
    · rename_i h1 h2 hs
      rw [Bool.and_eq_true, Bool.and_eq_true] at c10
      obtain ⟨d1, d2, d3⟩ := c10
      have e1 := rb_far_ok hN hdv d1
      have e2 := rb_far_ok hN hdv d2
      rw [ra_ev_neg] at e2
      have e5 : ra_ev (ra_vI v μ) u.2.2.1 = ra_ev v rn := ra_sub1_ok (ts := u.2.2.1.1) (k := u.2.2.1.2) hrn
      have e6 : ra_ev v R0 = ra_ev v0 R0 := rb_ev_ext (ts := R0.1) (k := R0.2) (fun t ht => hv _ (hR0 t ht))
      have e7 : ra_ev v (R0.1, R0.2) = ra_ev v R0 := rfl
      have e8 : ra_ev v (rn.1, rn.2 + 1) = 1 + ra_ev v rn := ra_ev_add v rn.1 rn.2 1
      rw [e7, e6, e8] at e2
      obtain ⟨lvu, l1, l2⟩ := ra_lvs hN hlv c7
      intro H locs ls hP hD hS hl
      show W p l e R s m args below meth c H locs ce sl Q (F0 m pc ls stv)
      rw [← c1, c2, c3]
      refine hC (ra_vI v μ) lvu stv ws ⟨ra_cN_map hN c4 c6, ?_, ?_, ?_, hg.2.2.2.2⟩ (fun i hi => ?_) (rb_pre_ok hN hdv d3) (by rw [e5]; omega) (by rw [e5]; omega) H locs ls hP hD hS ⟨hl.1, hl.2.1, fun q hq => hl.2.2 q (l2 q hq)⟩
      · rw [← hμl]
        exact l1
      · rw [← hμl]
        exact ra_b2_ok (R := ra_cV env.length v (ws.map Prod.fst) b0) (R' := ra_cV μ.length (ra_vI v μ) (ws.map Prod.fst) b0) (fun a b c q1 q2 => ra_en_id hN q1 q2) c8 hst
      · rw [← hμl]
        exact ra_b2_ok (R := fun (c : ra_C) (x : Nat × va_E) => ra_cC env.length v (ws.map Prod.fst) b0 cT c x.2) (R' := fun (c : ra_C) (x : Nat × va_E) => ra_cC μ.length (ra_vI v μ) (ws.map Prod.fst) b0 cT c x.2) (fun a b c q1 q2 => ra_enC_id hN q1 q2) c9 hg.2.2.2.1
      · have := ra_idn_ok c5 i hi
        simp only [ra_vI, this]
        rw [Nat.zero_add, hv i (by omega), hEv i hi]
        omega
    · cases c10
end
end
