noncomputable section
/-! the call itself -/
section
variable {p : Program} {l : Launch} {e : Env} {R : Room} {s : State} {m : MethodId} {args : Array Value} {below : List Frame} {meth : Method} {c : Code} {Q : State → Prop}
variable {cc : ByteArray} {own : String} {nL : Nat} {A : Nat → Prop} {D : va_G} {cl : List vw_C} {tys : List (ClassId × FieldType)} {Ts : List Cond} {b0 : Nat → Nat} {ad0 : List Nat} {cT : Nat → ClassId} {n0 : Nat} {v0 : Nat → Int}
variable {sc : String}
variable {nw : List (String × Nat × MethodName × String)}
noncomputable def ra_pick {α : Type} (aw : List α) : List Nat → Option (List α)
  | [] => some []
  | i :: π => match ra_bg (ra_bl aw) i with
    | none => none
    | some c => match ra_pick aw π with
      | none => none
      | some cs => some (c :: cs)
theorem ra_pick_a2 {α β : Type} {R : α → β → Prop} {aw : List α} {ws : List β} (h : ra_a2 R aw ws) : ∀ {π : List Nat} {cs : List α}, ra_pick aw π = some cs → ∃ wc, ra_pick ws π = some wc ∧ ra_a2 R cs wc
  | [], cs, h1 => by
    simp [ra_pick] at h1
    subst h1
    exact ⟨[], rfl, trivial⟩
  | i :: π, cs, h1 => by
    unfold ra_pick at h1
    rw [ra_bl_get] at h1
    split at h1
    · cases h1
    · rename_i c hc
      split at h1
      · cases h1
      · rename_i cs' hcs
        cases h1
        obtain ⟨b, g1, g2⟩ := ra_a2_get h hc
        obtain ⟨wc, g3, g4⟩ := ra_pick_a2 h hcs
        exact ⟨b :: wc, by simp [ra_pick, ra_bl_get, g1, g3], g2, g4⟩
theorem ra_pick_get {α : Type} {aw : List α} : ∀ {π : List Nat} {cs : List α}, ra_pick aw π = some cs → π.length = cs.length ∧ ∀ (k j : Nat), π[k]? = some j → ∃ c, aw[j]? = some c ∧ cs[k]? = some c
  | [], cs, h1 => by
    simp [ra_pick] at h1
    subst h1
    exact ⟨rfl, fun k j h => by simp at h⟩
  | i :: π, cs, h1 => by
    unfold ra_pick at h1
    rw [ra_bl_get] at h1
    split at h1
    · cases h1
    · rename_i c hc
      split at h1
      · cases h1
      · rename_i cs' hcs
        cases h1
        have ih := ra_pick_get hcs
        refine ⟨by simp [ih.1], fun k j hk => ?_⟩
        cases k with
        | zero =>
          simp at hk
          subst hk
          exact ⟨c, hc, by simp⟩
        | succ k =>
          simp at hk
          obtain ⟨c', g1, g2⟩ := ih.2 k j hk
          exact ⟨c', g1, by simpa using g2⟩
def ra_rcv (ci kd : Nat) (aw : List ra_C) (as : List ra_V) : Bool := match kd with
  | 1 => true
  | 0 => match as with
    | .inr (.inl i) :: _ => match ra_nth aw i with
      | some (.inl o) => o.1 == ci
      | _ => false
    | _ => false
  | _ => match as with
    | .inr (.inl _) :: _ => true
    | _ => false
theorem ra_rcv0 {ci : Nat} {aw : List ra_C} {as : List ra_V} (h : ra_rcv ci 0 aw as = true) : ∃ (i : Nat) (as' : List ra_V) (o : Nat × List ra_V), as = .inr (.inl i) :: as' ∧ aw[i]? = some (.inl o) ∧ o.1 = ci := by
  rcases as with _ | ⟨q | i | k, as'⟩
  · cases h
  · cases h
  · cases ho : aw[i]? with
    | none => simp [ra_rcv, ra_nth_eq, ho] at h
    | some o =>
      rcases o with o | o
      · simp [ra_rcv, ra_nth_eq, ho] at h
        exact ⟨i, as', o, rfl, ho, h⟩
      · simp [ra_rcv, ra_nth_eq, ho] at h
  · cases h
theorem ra_rcv2 {ci kd : Nat} {aw : List ra_C} {as : List ra_V} (hk : 2 ≤ kd) (h : ra_rcv ci kd aw as = true) : ∃ (i : Nat) (as' : List ra_V), as = .inr (.inl i) :: as' := by
  obtain ⟨k, rfl⟩ : ∃ k, kd = k + 2 := ⟨kd - 2, by omega⟩
  rcases as with _ | ⟨q | i | k, as'⟩
  · cases h
  · cases h
  · exact ⟨i, as', rfl⟩
  · cases h
def ra_inv (MT : List ra_M) (ml : List (Nat × Nat × Nat)) (K : List ra_K) (RC RS RF RL kd j n pc ki : Nat) (μ : List (Nat × Int)) (π : List Nat) (om : List ra_V) (a : ra_S) : Option (List (Nat × ra_S)) := match a with
  | (env, lv, st, aw, ce, sl) => match K[ki]? with
    | none => none
    | some k => match MT[k.1]? with
      | none => none
      | some mm => match ra_ff ml j with
        | none => none
        | some r => match ra_pick aw π with
          | none => none
          | some cs =>
            let na := if kd = 1 then mm.2.2.2.2.1 else mm.2.2.2.2.1 + 1
            ra_gd (n == 3 && (r.1 == k.1 && (r.2 == kd && (Nat.ble na st.length && (Nat.ble (ra_cats (st.drop na)) 8 && (ra_m0 μ && (ra_mok env μ k.2.1 && (ra_b2 (ra_en env μ (π, om)) (st.take na).reverse k.2.2.1 && (ra_nd π && (ra_b2 (ra_enC env μ (π, om)) cs k.2.2.2.1 && (Nat.ble (k.2.2.2.2.2.2.2.1 + 1) RF && (Nat.ble (8 + (mm.2.2.1 + 11) + k.2.2.2.2.2.2.2.2) RL && (Nat.ble (ce + k.2.2.2.2.2.1) RC && (Nat.ble (sl + k.2.2.2.2.2.2.1) RS && (k.2.2.2.2.1.all (fun q => Nat.ble k.2.1.length q.1.length) && (ra_wok aw.length om && ra_rcv mm.2.2.2.2.2 kd aw (st.take na).reverse))))))))))))))))
              (some (k.2.2.2.2.1.flatMap (ra_aft env lv (st.drop na) aw (ce + k.2.2.2.2.2.1) (sl + k.2.2.2.2.2.2.1) pc μ π om)))
def ra_ik (kd j : Nat) : Instr := match kd with
  | 0 => .invokevirtual j
  | 1 => .invokestatic j
  | _ => .invokespecial j
set_option maxHeartbeats 4000000 in
theorem ra_inv_ok {MT : List ra_M} {ml : List (Nat × Nat × Nat)} {K : List ra_K} {RC RS RF RL kd j n pc ki : Nat} {μ : List (Nat × Int)} {π : List Nat} {om : List ra_V} {a : ra_S} {out : List (Nat × ra_S)} (h : ra_inv MT ml K RC RS RF RL kd j n pc ki μ π om a = some out) (X : ra_X p s m args c cc own nL A D cl (ra_T sc cT) Ts) (hE : ra_Ex sc nw s) (hG : ∀ w ∈ Ts, goodWord w = true) (hM : ra_okM Ts own cl nw MT ml) (hK : ∀ k ∈ K, ra_Hk l sc nw Ts MT D cl cT k) (hRC : RC ≤ R.cells) (hRS : RS ≤ R.slots) (hRF : RF ≤ R.frames) (hRL : RL ≤ R.locals)
    (hdg : decode cc pc = .ok (ra_ik kd j, n)) (hs : ∀ x ∈ out, ra_ok p l e R s m args below meth c Q nL A D cl b0 ad0 cT n0 v0 x) : ra_ok p l e R s m args below meth c Q nL A D cl b0 ad0 cT n0 v0 (pc, a) := by
  obtain ⟨env, lv, st, aw, ce, sl⟩ := a
  intro hn v lvv stv ws hg hv
  have hst := hg.2.2.1
  have hN := hg.1
  dsimp only at hn hst hN
  obtain ⟨hx, hb, hml, hown, hts, hKK, hA⟩ := id X
  unfold ra_inv at h
  dsimp only at h
  split at h
  · cases h
  · rename_i k hk
    split at h
    · cases h
    · rename_i mm hmm
      split at h
      · cases h
      · rename_i r hr
        split at h
        · cases h
        · rename_i cs hcs
          have hq1 := ra_gd_ok h; clear h; obtain ⟨h2, h⟩ := hq1
          obtain ⟨na, ena⟩ : ∃ z, z = (if kd = 1 then mm.2.2.2.2.1 else mm.2.2.2.2.1 + 1) := ⟨_, rfl⟩
          rw [← ena] at h h2
          simp only [Bool.and_eq_true, beq_iff_eq] at h2
          obtain ⟨c1, c2, c3, c4, c5, c6, c7, c8, c9, c10, c11, c12, c13, c14, c15, c17, c16⟩ := h2
          have c4 := Nat.le_of_ble_eq_true c4
          have c5 := Nat.le_of_ble_eq_true c5
          have c11 := Nat.le_of_ble_eq_true c11
          have c12 := Nat.le_of_ble_eq_true c12
          have c13 := Nat.le_of_ble_eq_true c13
          have c14 := Nat.le_of_ble_eq_true c14
          cases h
          subst c1
          obtain ⟨mm', M1, M2, M3, M4, M5⟩ := hM _ (ra_ff_mem hr)
          dsimp only at M1 M5
          have : mm' = mm := by
            rw [c2, hmm] at M1
            exact (Option.some.inj M1).symm
          subst this
          have hμl := ra_mok_len c7
          have hμ : ∀ (i : Nat) (r : Nat × Int), μ[i]? = some r → r.1 < env.length := fun i r hr => (ra_mok_get hN c7 hr).1
          obtain ⟨wc, w1, w2⟩ := ra_pick_a2 hg.2.2.2.1 hcs
          obtain ⟨p1, p2⟩ := ra_pick_get w1
          have hads : ∀ (i j r : Nat), π[i]? = some j → (ws.map Prod.fst)[j]? = some r → (wc.map Prod.fst)[i]? = some r := by
            intro i j r h1 h2
            obtain ⟨q, q1, q2⟩ := p2 i j h1
            rw [List.getElem?_map, q1] at h2
            rw [List.getElem?_map, q2]
            exact h2
          have hst1 := ra_a2_rev (ra_a2_take na hst)
          have hst2 := ra_a2_drop na hst
          have hargs : ra_a2 (ra_cV k.2.1.length (ra_vI v μ) (wc.map Prod.fst) (ra_bI b0 (ws.map Prod.fst) om)) k.2.2.1 (stv.take na).reverse := by
            rw [← hμl]
            exact ra_b2_ok (R := ra_cV env.length v (ws.map Prod.fst) b0) (R' := ra_cV μ.length (ra_vI v μ) (wc.map Prod.fst) (ra_bI b0 (ws.map Prod.fst) om)) (fun a b c q1 q2 => ra_en_ok (π := (π, om)) hN hads q1 q2) c8 hst1
          have hwor : ra_a2 (fun (c : ra_C) (x : Nat × va_E) => ra_cC k.2.1.length (ra_vI v μ) (wc.map Prod.fst) (ra_bI b0 (ws.map Prod.fst) om) cT c x.2) k.2.2.2.1 wc := by
            rw [← hμl]
            exact ra_b2_ok (R := fun (c : ra_C) (x : Nat × va_E) => ra_cC env.length v (ws.map Prod.fst) b0 cT c x.2) (R' := fun (c : ra_C) (x : Nat × va_E) => ra_cC μ.length (ra_vI v μ) (wc.map Prod.fst) (ra_bI b0 (ws.map Prod.fst) om) cT c x.2) (fun a b c q1 q2 => ra_enC_ok (π := (π, om)) hN hads q1 q2) c10 w2
          have hNI := ra_cN_map hN c6 c7
          intro H locs ls hP hD hS hl
          have hMet := hK k (List.mem_of_getElem? hk) mm' hmm (ra_bI b0 (ws.map Prod.fst) om) (ra_vI v μ) (stv.take na).reverse wc H.size hNI hargs hwor
          have hfree : ∀ q, va_A wc H.size q → A q := va_free hD hS hA π (by
            apply List.ext_getElem?
            intro i
            rw [List.getElem?_map, List.getElem?_map]
            cases hi : π[i]? with
            | none =>
              have : wc[i]? = none := by
                rw [List.getElem?_eq_none_iff] at hi ⊢
                omega
              rw [this]
              rfl
            | some j =>
              obtain ⟨q, q1, q2⟩ := p2 i j hi
              rw [q2]
              simp [q1])
          have hPwc : va_P D cl wc H := fun i q hq => by
            have hi : i < π.length := by rw [p1]; exact (List.getElem?_eq_some_iff.mp hq).1
            obtain ⟨q', q1, q2⟩ := p2 i _ (List.getElem?_eq_getElem hi)
            rw [hq] at q2
            cases q2
            exact hP _ _ q1
          have hDwc : va_D (fun _ => True) wc := by
            refine ⟨fun i j x y hx hy hxy => ?_, fun _ _ _ => trivial⟩
            have hi : i < π.length := by rw [p1]; exact (List.getElem?_eq_some_iff.mp hx).1
            have hj : j < π.length := by rw [p1]; exact (List.getElem?_eq_some_iff.mp hy).1
            obtain ⟨q, q1, q2⟩ := p2 i _ (List.getElem?_eq_getElem hi)
            obtain ⟨q', q3, q4⟩ := p2 j _ (List.getElem?_eq_getElem hj)
            rw [hx] at q2
            rw [hy] at q4
            cases q2
            cases q4
            have e0 := hD.1 _ _ x y q1 q3 hxy
            exact ra_nd_ok c9 (List.getElem?_eq_getElem hi) (by rw [e0]; exact List.getElem?_eq_getElem hj)
          have hPre : ∀ U : State, U.heap = H → s.WarmedH U.vm → ra_Pc sc nw D cl (ra_T sc cT) (stv.take na).reverse wc H.size (stv.take na).reverse.toArray U := fun U hU hW => ⟨rfl, by rw [hU], by rw [hU]; exact hPwc, va_K.moved hW.alike hKK, hDwc, ra_Ex_warm hE hW⟩
          have hlen : stv.length = st.length := (ra_a2_len hst).symm
          have htl : (stv.take na).length = na := by rw [List.length_take]; omega
          have hsplit : stv = (stv.take na).reverse.reverse ++ stv.drop na := by rw [List.reverse_reverse, List.take_append_drop]
          have hrest : 2 * (F0 m pc ls stv).monitorRoom + ((stv.drop na).map fun v => v.category).sum ≤ 8 := lv_room (by rw [ra_cats_ok hst2]; exact c5)
          have hGood : GoodIn Ts (Cond.code mm'.1 mm'.2.1 mm'.2.2.1 mm'.2.2.2.1 :: Ts) := fun w hw => by
            have hm : w ∈ Ts := by
              rcases List.mem_cons.mp hw with q | q
              · rw [q]; exact M2
              · exact q
            exact ⟨hm, good_of_word (hG w hm)⟩
          have hroom : (ra_rm k).frames + 1 ≤ R.frames ∧ 8 + (mm'.2.2.1 + 11) + (ra_rm k).locals ≤ R.locals := ⟨Nat.le_trans c11 hRF, Nat.le_trans c12 hRL⟩
          have hcel : ce + k.2.2.2.2.2.1 ≤ R.cells ∧ sl + k.2.2.2.2.2.2.1 ≤ R.slots := ⟨Nat.le_trans c13 hRC, Nat.le_trans c14 hRS⟩
          have hrun : va_Run p l e R s m args below meth c H locs ce sl k.2.2.2.2.2.1 k.2.2.2.2.2.2.1 (F0 m pc ls stv) (stv.drop na) (ra_Qc D cl (ra_T sc cT) (ra_pv (ra_bI b0 (ws.map Prod.fst) om) cT (ra_vI v μ) k.2.1.length k.2.2.2.2.1 wc) wc H.size (stv.take na).reverse.toArray) (va_A wc H.size) := by
            rcases M5 with ⟨d0, d1, d2, d3, rc, d4, d5⟩ | ⟨d0, d1, d2⟩ | ⟨d0, d1, d2, d3, d4⟩ | ⟨d0, ⟨host, d1⟩, d2, d3, d4⟩
            · rw [c3] at d0
              subst d0
              have ena : na = mm'.2.2.2.2.1 + 1 := ena
              have hcb := callB_of (R := R) (rm := ra_rm k) (own := own) (index := j) mm'.2.2.2.2.1 hts hGood rfl rfl rfl (hts _ M3) (hts _ d1) M4 hroom
              obtain ⟨as, eas⟩ : ∃ z, z = (stv.take na).reverse := ⟨_, rfl⟩
              rw [← eas] at hMet hPre hsplit hst1 ⊢
              have has : as.length = na := by rw [eas, List.length_reverse, htl]
              obtain ⟨i, as', o, e1, ho, c16⟩ := ra_rcv0 c16
              rw [e1] at hst1
              obtain ⟨x0, As, rfl, g2, g4⟩ := ra_a2_cons hst1
              obtain ⟨qr, u1, rfl, u2⟩ := ra_cell hg ho g2
              obtain ⟨fs, f1, -⟩ := u2
              have hrc := va_recv (a := qr.1) (q0 := i) (ci := mm'.2.2.2.2.2) (fs := fs) hKK hP d4 (by rw [u1, ← c16, ← f1])
              rw [d5] at hrc
              exact va_runV (As := As) (C := mm'.1.cls) ⟨hx, hb, hml, hown, hts⟩ hMet ⟨hcb, hts _ d2, hts _ d3⟩ ⟨ra_blind, hrc, hPre⟩ rfl (by simp at has; omega) hl.1 (by rw [List.reverse_cons, List.append_assoc] at hsplit; exact hsplit) hrest hdg hcel
            · rw [c3] at d0
              subst d0
              have ena : na = mm'.2.2.2.2.1 := ena
              have hcb := callB_of (R := R) (rm := ra_rm k) (own := own) (index := j) mm'.2.2.2.2.1 hts hGood rfl rfl rfl (hts _ M3) (hts _ d1) M4 hroom
              exact va_runS (As := (stv.take na).reverse) ⟨hx, hb, hml, hown, hts⟩ hMet ⟨hcb, hts _ d2⟩ ⟨ra_blind, hPre⟩ rfl (by rw [List.length_reverse, htl, ena]) hl.1 hsplit hrest hdg hcel
            · rw [c3] at d0
              subst d0
              have ena : na = mm'.2.2.2.2.1 + 1 := ena
              have hcb := callB_of (R := R) (rm := ra_rm k) (own := own) (index := j) mm'.2.2.2.2.1 hts hGood rfl rfl rfl (hts _ M3) (hts _ d1) M4 hroom
              obtain ⟨as, eas⟩ : ∃ z, z = (stv.take na).reverse := ⟨_, rfl⟩
              rw [← eas] at hMet hPre hsplit hst1 ⊢
              have has : as.length = na := by rw [eas, List.length_reverse, htl]
              obtain ⟨i, as', e1⟩ := ra_rcv2 (by decide) c16
              rw [e1] at hst1
              obtain ⟨x0, As, rfl, g2, g4⟩ := ra_a2_cons hst1
              obtain ⟨qr, u1, rfl⟩ := g2
              rw [d4] at hcb hMet
              exact va_runI (As := As) ⟨hx, hb, hml, hown, hts⟩ hMet ⟨hcb, d3, hts _ d2⟩ ⟨ra_blind, hPre⟩ rfl (by simp at has; omega) hl.1 (by rw [List.reverse_cons, List.append_assoc] at hsplit; exact hsplit) hrest hdg hcel
            · rw [c3] at d0
              subst d0
              have ena : na = mm'.2.2.2.2.1 + 1 := ena
              have hcb := va_cnB (R := R) (rm := ra_rm k) (own := own) (index := j) (host := host) mm'.2.2.2.2.1 hts hGood rfl rfl rfl (hE.2 _ d1) (hts _ M3) M4 hroom
              obtain ⟨as, eas⟩ : ∃ z, z = (stv.take na).reverse := ⟨_, rfl⟩
              rw [← eas] at hMet hPre hsplit hst1 ⊢
              have has : as.length = na := by rw [eas, List.length_reverse, htl]
              obtain ⟨i, as', e1⟩ := ra_rcv2 (by decide) c16
              rw [e1] at hst1
              obtain ⟨x0, As, rfl, g2, g4⟩ := ra_a2_cons hst1
              obtain ⟨qr, u1, rfl⟩ := g2
              rw [d4] at hcb hMet
              exact va_runIN (As := As) ⟨hx, hb, hml, hown, hts⟩ hMet ⟨hcb, d3, hts _ d2⟩ ⟨ra_blind, hPre⟩ rfl (by simp at has; omega) hl.1 (by rw [List.reverse_cons, List.append_assoc] at hsplit; exact hsplit) hrest hdg hcel
          refine ra_callG hrun hS hfree hfree (fun rv wn H1 locs1 hpv hP1 hD1 hk1 hS1 => ?_)
          obtain ⟨⟨q, hq, vc, vc1, vc2, vc3, vc4⟩, hadr⟩ := hpv
          obtain ⟨j1, j2, j3⟩ := ra_join hP hD c9 p1 p2 hadr hk1 hfree hP1 hD1
          have hql : μ.length ≤ q.1.length := by
            rw [hμl]
            exact Nat.le_of_ble_eq_true (List.all_eq_true.mp c15 q hq)
          have hpl : π.length ≤ wn.length := by
            rcases Nat.lt_or_ge wn.length π.length with z | z
            · have h1 : wn.length < wc.length := by omega
              obtain ⟨q', h2, -⟩ := hadr wn.length wc[wn.length] (List.getElem?_eq_getElem h1)
              simp at h2
            · exact z
          obtain ⟨x, hx1, hx2, hx3, hx4, hx5, v', hx6, hx7, -⟩ := ra_aft_ok (ce := ce + k.2.2.2.2.2.1) (sl := sl + k.2.2.2.2.2.2.1) (pc := pc) hg hst2 hμ hql (fun i hi => vc1 i (by rw [← hμl]; exact hi)) vc2 c17 vc3 vc4 (fun kk x hkk hxk => by
            obtain ⟨y, y1, y2⟩ := p2 kk _ (List.getElem?_eq_getElem hkk)
            obtain ⟨x', x1, x2⟩ := hadr kk y y2
            rw [hxk] at x1
            cases x1
            exact ⟨_, y, List.getElem?_eq_getElem hkk, y1, x2.symm⟩) j3 hpl
          have hfin := hs x (List.mem_flatMap.mpr ⟨q, hq, hx1⟩) (by omega) v' _ _ _ hx7 (fun i hi => by rw [hx6 i (by omega)]; exact hv i hi) H1 locs1 ls j1 j2 hS1 hl
          rw [hx2, hx3, hx4] at hfin
          exact hfin
end
end
