noncomputable section
/-! calls by contract -/
section
variable {p : Program} {l : Launch} {e : Env} {R : Room} {s : State} {m : MethodId} {args : Array Value} {below : List Frame} {meth : Method} {c : Code} {Q : State → Prop}
variable {cc : ByteArray} {own : String} {nL : Nat} {A : Nat → Prop} {D : va_G} {cl : List vw_C} {tys : List (ClassId × FieldType)} {Ts : List Cond} {b0 : Nat → Nat} {ad0 : List Nat} {cT : Nat → ClassId} {n0 : Nat} {v0 : Nat → Int}
variable {sc : String}
variable {nw : List (String × Nat × MethodName × String)}
/-- a method: name, bytes, room of its frame, what it answers, how many it takes, its receiver's number -/
abbrev ra_M : Type := MethodName × ByteArray × Nat × Option FieldType × Nat × Nat
/-- a contract: method, bounds, arguments, world, what comes back, cells, slots, frames, room of frames -/
abbrev ra_K : Type := Nat × ra_N × List ra_V × List ra_C × List ra_P × Nat × Nat × Nat × Nat
def ra_rm (k : ra_K) : Room := { frames := k.2.2.2.2.2.2.2.1, cells := k.2.2.2.2.2.1, slots := k.2.2.2.2.2.2.1, locals := k.2.2.2.2.2.2.2.2 }
def ra_Hk (l : Launch) (sc : String) (nw : List (String × Nat × MethodName × String)) (Ts : List Cond) (MT : List ra_M) (D : va_G) (cl : List vw_C) (cT : Nat → ClassId) (k : ra_K) : Prop :=
  ∀ mm : ra_M, MT[k.1]? = some mm → ∀ (b0 : Nat → Nat) (v : Nat → Int) (av : List Value) (ws : va_W) (sz : Nat), ra_cN v k.2.1 → ra_a2 (ra_cV k.2.1.length v (ws.map Prod.fst) b0) k.2.2.1 av → ra_a2 (fun (c : ra_C) (x : Nat × va_E) => ra_cC k.2.1.length v (ws.map Prod.fst) b0 cT c x.2) k.2.2.2.1 ws →
    Met l mm.1 (Cond.code mm.1 mm.2.1 mm.2.2.1 mm.2.2.2.1 :: Ts) (ra_rm k) (ra_Pc sc nw D cl (ra_T sc cT) av ws sz) (ra_Qc D cl (ra_T sc cT) (ra_pv b0 cT v k.2.1.length k.2.2.2.2.1 ws) ws sz) k.2.2.2.2.2.1 k.2.2.2.2.2.2.1 (va_A ws sz)
def ra_okM (Ts : List Cond) (own : String) (cl : List vw_C) (nw : List (String × Nat × MethodName × String)) (MT : List ra_M) (ml : List (Nat × Nat × Nat)) : Prop := ∀ e ∈ ml, ∃ mm : ra_M, MT[e.2.1]? = some mm ∧ Cond.code mm.1 mm.2.1 mm.2.2.1 mm.2.2.2.1 ∈ Ts ∧ Cond.initialized mm.1.cls ∈ Ts ∧ (mm.1.cls ≠ "java/lang/invoke/MethodHandle" ∧ mm.1.cls ≠ "java/lang/invoke/VarHandle" ∧ (parseMethodDescriptor mm.1.desc).map (fun d => d.parameters.length) = some mm.2.2.2.2.1) ∧
  ((e.2.2 = 0 ∧ Cond.methodLink own e.1 mm.1 ∈ Ts ∧ Cond.instanceMethod mm.1 ∈ Ts ∧ Cond.selects mm.1.cls mm.1 mm.1 ∈ Ts ∧ ∃ r : vw_C, cl[mm.2.2.2.2.2]? = some r ∧ r.1 = mm.1.cls) ∨
   (e.2.2 = 1 ∧ Cond.methodLink own e.1 mm.1 ∈ Ts ∧ Cond.static mm.1 ∈ Ts) ∨
   (e.2.2 = 2 ∧ Cond.methodLink own e.1 mm.1 ∈ Ts ∧ Cond.instanceMethod mm.1 ∈ Ts ∧ mm.1.name = "<init>" ∧ mm.2.2.2.1 = none) ∨
   (e.2.2 = 3 ∧ (∃ host, (own, e.1, mm.1, host) ∈ nw) ∧ Cond.instanceMethod mm.1 ∈ Ts ∧ mm.1.name = "<init>" ∧ mm.2.2.2.1 = none))
def ra_up (n : Nat) : Nat → List (Nat × Int)
  | 0 => []
  | k + 1 => (n, 0) :: ra_up (n + 1) k
theorem ra_up_len : ∀ {k n : Nat}, (ra_up n k).length = k
  | 0, _ => rfl
  | k + 1, n => by simp [ra_up, ra_up_len]
theorem ra_up_get : ∀ {k n i : Nat}, i < k → (ra_up n k)[i]? = some (n + i, 0)
  | 0, _, _, h => by omega
  | k + 1, n, 0, _ => by simp [ra_up]
  | k + 1, n, i + 1, h => by
    have := ra_up_get (k := k) (n := n + 1) (i := i) (by omega)
    simp only [ra_up, List.getElem?_cons_succ]
    rw [this, show n + 1 + i = n + (i + 1) by omega]
def ra_upn (n : Nat) : Nat → List Nat
  | 0 => []
  | k + 1 => n :: ra_upn (n + 1) k
theorem ra_upn_get : ∀ {k n i : Nat}, i < k → (ra_upn n k)[i]? = some (n + i)
  | 0, _, _, h => by omega
  | k + 1, n, 0, _ => by simp [ra_upn]
  | k + 1, n, i + 1, h => by
    have := ra_upn_get (k := k) (n := n + 1) (i := i) (by omega)
    simp only [ra_upn, List.getElem?_cons_succ]
    rw [this, show n + 1 + i = n + (i + 1) by omega]
theorem ra_a2_put {α β : Type} {R : α → β → Prop} : ∀ {π : List Nat} {as xs : List α} {bs ys : List β}, ra_a2 R as bs → ra_a2 R xs ys → ra_a2 R (ra_put as π xs) (ra_put bs π ys)
  | [], _, _, _, _, h, _ => by simpa [ra_put] using h
  | _ :: _, _, [], _, [], h, _ => by simpa [ra_put] using h
  | i :: π, as, x :: xs, bs, y :: ys, h, h2 => by
    unfold ra_put
    rw [ra_st_eq, ra_st_eq]
    exact ra_a2_put (ra_a2_set h i h2.1) h2.2
  | _ :: _, _, [], _, _ :: _, _, h2 => h2.elim
  | _ :: _, _, _ :: _, _, [], _, h2 => h2.elim
theorem ra_a2_drop {α β : Type} {R : α → β → Prop} : ∀ (n : Nat) {as : List α} {bs : List β}, ra_a2 R as bs → ra_a2 R (as.drop n) (bs.drop n)
  | 0, _, _, h => by simpa using h
  | n + 1, [], [], _ => trivial
  | n + 1, _ :: _, _ :: _, h => by simpa using ra_a2_drop n h.2
  | _ + 1, [], _ :: _, h => h.elim
  | _ + 1, _ :: _, [], h => h.elim
theorem ra_a2_take {α β : Type} {R : α → β → Prop} : ∀ (n : Nat) {as : List α} {bs : List β}, ra_a2 R as bs → ra_a2 R (as.take n) (bs.take n)
  | 0, _, _, _ => by simp; trivial
  | n + 1, [], [], _ => trivial
  | n + 1, _ :: _, _ :: _, h => ⟨h.1, ra_a2_take n h.2⟩
  | _ + 1, [], _ :: _, h => h.elim
  | _ + 1, _ :: _, [], h => h.elim
theorem ra_a2_rev {α β : Type} {R : α → β → Prop} : ∀ {as : List α} {bs : List β}, ra_a2 R as bs → ra_a2 R as.reverse bs.reverse
  | [], [], _ => trivial
  | a :: as, b :: bs, h => by
    rw [List.reverse_cons, List.reverse_cons]
    exact ra_a2_app (ra_a2_rev h.2) ⟨h.1, trivial⟩
  | [], _ :: _, h => h.elim
  | _ :: _, [], h => h.elim
/-- the state behind a call that gives back such an end -/
def ra_aft (env : ra_N) (lv : List (Nat × ra_V)) (rest : List ra_V) (aw : List ra_C) (ce sl pc : Nat) (μ : List (Nat × Int)) (π : List Nat) (om : List ra_V) (q : ra_P) : List (Nat × ra_S) := match ra_meets env μ q.1 with
  | none => []
  | some e1 =>
    let μ2 := ra_ap μ (ra_up (ra_ln env) (ra_ln q.1 - ra_ln μ))
    let π2 := ra_ap π (ra_upn (ra_ln aw) (ra_ln q.2.2 - ra_ln π))
    let w := ra_mp (ra_trC μ2 (π2, om)) q.2.2
    [(pc + 3, (ra_ap e1 (ra_dr q.1 (ra_ln μ)), lv, ra_ap (ra_mp (ra_tr μ2 (π2, om)) q.2.1) rest, ra_ap (ra_put aw π w) (ra_dr w (ra_ln π)), ce, sl))]
theorem ra_aft_eq (env : ra_N) (lv : List (Nat × ra_V)) (rest : List ra_V) (aw : List ra_C) (ce sl pc : Nat) (μ : List (Nat × Int)) (π : List Nat) (om : List ra_V) (q : ra_P) : ra_aft env lv rest aw ce sl pc μ π om q = (match ra_meets env μ q.1 with
  | none => []
  | some e1 =>
    let μ2 := μ ++ ra_up env.length (q.1.length - μ.length)
    let π2 := π ++ ra_upn aw.length (q.2.2.length - π.length)
    let w := q.2.2.map (ra_trC μ2 (π2, om))
    [(pc + 3, (e1 ++ q.1.drop μ.length, lv, q.2.1.map (ra_tr μ2 (π2, om)) ++ rest, ra_put aw π w ++ w.drop π.length, ce, sl))]) := by
  unfold ra_aft
  simp only [ra_ap_eq, ra_mp_eq, ra_ln_eq, ra_dr_eq]
theorem ra_om_ok {n n' : Nat} {v : Nat → Int} {ads ads' : List Nat} {om : List ra_V} {μ : List (Nat × Int)} {π : List Nat} (h : ra_wok ads.length om = true) (hext : ∀ (i r : Nat), ads[i]? = some r → ads'[i]? = some r) (k : Nat) (hk : 2 ≤ k) : ra_cV n' v ads' b0 (ra_tr μ (π, om) (.inr (.inr (.inl k)))) (.ref (ra_bI b0 ads om k)) := by
  obtain ⟨k, rfl⟩ : ∃ z, k = z + 2 := ⟨k - 2, by omega⟩
  cases hw : om[k + 2]? with
  | none =>
    simp only [ra_tr, ra_bl_get, ra_bI, hw]
    exact Or.inr (Or.inr ⟨by omega, rfl⟩)
  | some w =>
    have hm := List.all_eq_true.mp h w (List.mem_of_getElem? hw)
    rcases w with q | i | j | j
    · simp only [ra_tr, ra_bl_get, ra_bI, hw]
      exact Or.inr (Or.inr ⟨by omega, rfl⟩)
    · have hi : i < ads.length := Nat.le_of_ble_eq_true hm
      have hr : ads[i]? = some ads[i] := List.getElem?_eq_getElem hi
      simp only [ra_tr, ra_bl_get, ra_bI, hw, hr]
      exact ⟨_, hext _ _ hr, rfl⟩
    · simp only [ra_tr, ra_bl_get, ra_bI, hw]
      exact Or.inr (Or.inr ⟨Nat.le_of_ble_eq_true hm, rfl⟩)
    · cases hm
theorem ra_aft_ok {v vc : Nat → Int} {env : ra_N} {lv : List (Nat × ra_V)} {st rest : List ra_V} {aw : List ra_C} {ce0 sl0 ce sl pc : Nat} {μ : List (Nat × Int)} {π : List Nat} {om : List ra_V} {q : ra_P} {lvv : List (Nat × Value)} {stv restv : List Value} {ws w1 : va_W} {rv : List Value}
    (hg : ra_g b0 ad0 cT v (env, lv, st, aw, ce0, sl0) lvv stv ws) (hr : ra_a2 (ra_cV env.length v (ws.map Prod.fst) b0) rest restv) (hμ : ∀ (i : Nat) (r : Nat × Int), μ[i]? = some r → r.1 < env.length) (hn : μ.length ≤ q.1.length)
    (hv : ∀ i, i < μ.length → vc i = ra_vI v μ i) (hN : ra_cN vc q.1) (hom : ra_wok aw.length om = true) (hrv : ra_a2 (ra_cV q.1.length vc (w1.map Prod.fst) (ra_bI b0 (ws.map Prod.fst) om)) q.2.1 rv) (hw : ra_a2 (fun (c : ra_C) (x : Nat × va_E) => ra_cC q.1.length vc (w1.map Prod.fst) (ra_bI b0 (ws.map Prod.fst) om) cT c x.2) q.2.2 w1)
    (hπ : ∀ (k : Nat) (x : Nat × va_E), k < π.length → w1[k]? = some x → ∃ (j : Nat) (y : Nat × va_E), π[k]? = some j ∧ ws[j]? = some y ∧ y.1 = x.1) (hfst : (ra_put ws π w1).map Prod.fst = ws.map Prod.fst) (hpl : π.length ≤ w1.length) :
    ∃ x ∈ ra_aft env lv rest aw ce sl pc μ π om q, x.1 = pc + 3 ∧ x.2.2.2.2.2.1 = ce ∧ x.2.2.2.2.2.2 = sl ∧ env.length ≤ x.2.1.length ∧ ∃ v' : Nat → Int, (∀ i, i < env.length → v' i = v i) ∧ ra_g b0 ad0 cT v' x.2 lvv (rv ++ restv) (ra_put ws π w1 ++ w1.drop π.length) ∧ ∀ (i : Nat) (r : Nat × Int), (μ ++ ra_up env.length (q.1.length - μ.length))[i]? = some r → r.1 < x.2.1.length ∧ vc i = v' r.1 + r.2 := by
  have hN0 := hg.1
  dsimp only at hN0
  obtain ⟨e1, m1, m2, m3⟩ := ra_meets_ok (v := v) (μ := μ) (es := q.1) hN0 (fun i r z hr hz => by
    have hi : i < μ.length := (List.getElem?_eq_some_iff.mp hr).1
    have h1 := hN.2.2 i z hz
    have h2 : ra_vI v μ i = v r.1 + r.2 := by simp [ra_vI, hr]
    rw [hv i hi, h2] at h1
    exact ⟨hμ i r hr, h1⟩)
  have hwl : q.2.2.length = w1.length := ra_a2_len hw
  obtain ⟨μ2, eμ⟩ : ∃ z, z = μ ++ ra_up env.length (q.1.length - μ.length) := ⟨_, rfl⟩
  obtain ⟨π2, eπ⟩ : ∃ z, z = π ++ ra_upn aw.length (q.2.2.length - π.length) := ⟨_, rfl⟩
  let v' : Nat → Int := fun i => if i < env.length then v i else vc (i - env.length + μ.length)
  have hv' : ∀ i, i < env.length → v' i = v i := fun i hi => if_pos hi
  have hl2 : (e1 ++ q.1.drop μ.length).length = env.length + (q.1.length - μ.length) := by rw [List.length_append, List.length_drop, m3]
  have hN2 : ra_cN v' (e1 ++ q.1.drop μ.length) := by
    refine ⟨by rw [hl2]; have := hN0.1; omega, by rw [hv' 0 hN0.1]; exact hN0.2.1, fun i z hz => ?_⟩
    rcases Nat.lt_or_ge i env.length with h | h
    · rw [List.getElem?_append_left (by omega)] at hz
      rw [hv' i h]
      exact m2.2.2 i z hz
    · rw [List.getElem?_append_right (by omega), List.getElem?_drop, m3] at hz
      have := hN.2.2 _ z hz
      have e : v' i = vc (i - env.length + μ.length) := if_neg (by omega)
      rw [e, show i - env.length + μ.length = μ.length + (i - env.length) by omega]
      exact this
  have hlμ : μ2.length = q.1.length := by rw [eμ, List.length_append, ra_up_len]; omega
  have hμ2 : ∀ (i : Nat) (r : Nat × Int), μ2[i]? = some r → r.1 < (e1 ++ q.1.drop μ.length).length ∧ vc i = v' r.1 + r.2 := by
    intro i r hr
    have hi : i < μ2.length := (List.getElem?_eq_some_iff.mp hr).1
    rw [eμ] at hr
    rw [hl2]
    rcases Nat.lt_or_ge i μ.length with h | h
    · rw [List.getElem?_append_left h] at hr
      have h1 := hμ i r hr
      refine ⟨by omega, ?_⟩
      rw [hv i h, hv' _ h1]
      simp [ra_vI, hr]
    · rw [List.getElem?_append_right h, ra_up_get (by omega)] at hr
      cases hr
      refine ⟨by dsimp only; omega, ?_⟩
      have e : v' (env.length + (i - μ.length)) = vc (env.length + (i - μ.length) - env.length + μ.length) := if_neg (by omega)
      dsimp only
      rw [e, show env.length + (i - μ.length) - env.length + μ.length = i by omega]
      omega
  have hads : (ra_put ws π w1 ++ w1.drop π.length).map Prod.fst = ws.map Prod.fst ++ (w1.drop π.length).map Prod.fst := by rw [List.map_append, hfst]
  have hawl : aw.length = ws.length := ra_a2_len hg.2.2.2.1
  have hπ2 : ∀ (i r : Nat), (w1.map Prod.fst)[i]? = some r → ∃ j, π2[i]? = some j ∧ ((ra_put ws π w1 ++ w1.drop π.length).map Prod.fst)[j]? = some r := by
    intro i r hr
    rw [List.getElem?_map] at hr
    cases hx : w1[i]? with
    | none => rw [hx] at hr; cases hr
    | some x =>
      rw [hx] at hr
      have hr : x.1 = r := by simpa using hr
      have hil : i < w1.length := (List.getElem?_eq_some_iff.mp hx).1
      rw [hads, eπ]
      rcases Nat.lt_or_ge i π.length with h | h
      · obtain ⟨j, y, h1, h2, h3⟩ := hπ i x h hx
        refine ⟨j, by rw [List.getElem?_append_left h]; exact h1, ?_⟩
        rw [List.getElem?_append_left (by rw [List.length_map]; exact (List.getElem?_eq_some_iff.mp h2).1), List.getElem?_map, h2]
        simp [h3, hr]
      · refine ⟨aw.length + (i - π.length), by rw [List.getElem?_append_right h, ra_upn_get (by omega)], ?_⟩
        rw [List.getElem?_append_right (by rw [List.length_map]; omega), List.length_map, List.getElem?_map, List.getElem?_drop, show π.length + (aw.length + (i - π.length) - ws.length) = i by omega, hx]
        simp [hr]
  have hext : ∀ (i r : Nat), (ws.map Prod.fst)[i]? = some r → ((ra_put ws π w1 ++ w1.drop π.length).map Prod.fst)[i]? = some r := by
    intro i r hr
    rw [hads, List.getElem?_append_left (List.getElem?_eq_some_iff.mp hr).1]
    exact hr
  have hω := fun k (hk : 2 ≤ k) => ra_om_ok (n := 0) (n' := (e1 ++ q.1.drop μ.length).length) (v := v') (μ := μ2) (π := π2) (b0 := b0) (ads := ws.map Prod.fst) (by rw [List.length_map, ← hawl]; exact hom) hext k hk
  have hnn : env.length ≤ (e1 ++ q.1.drop μ.length).length := by omega
  refine ⟨_, by rw [ra_aft_eq, m1]; exact List.mem_singleton.mpr rfl, rfl, rfl, rfl, hnn, v', hv', ⟨hN2, ?_, ?_, ?_, fun k r hk => hext k r (hg.2.2.2.2 k r hk)⟩, by rw [← eμ]; exact hμ2⟩
  · exact ra_a2_mono (fun a b z => ⟨z.1, ra_cV_ext hnn hv' hext z.2⟩) hg.2.1
  · dsimp only
    rw [← eμ, ← eπ]
    refine ra_a2_app (ra_a2_map (R := ra_cV q.1.length vc (w1.map Prod.fst) (ra_bI b0 (ws.map Prod.fst) om)) (fun a b z => ?_) hrv) (ra_a2_mono (fun a b z => ra_cV_ext hnn hv' hext z) hr)
    rw [← hlμ] at z
    exact ra_tr_ok (π := (π2, om)) hμ2 hπ2 hω z
  · dsimp only
    rw [← eμ, ← eπ]
    have hmap : ra_a2 (fun (c : ra_C) (x : Nat × va_E) => ra_cC (e1 ++ q.1.drop μ.length).length v' ((ra_put ws π w1 ++ w1.drop π.length).map Prod.fst) b0 cT c x.2) (q.2.2.map (ra_trC μ2 (π2, om))) w1 := by
      refine ra_a2_map (R := fun (c : ra_C) (x : Nat × va_E) => ra_cC q.1.length vc (w1.map Prod.fst) (ra_bI b0 (ws.map Prod.fst) om) cT c x.2) (fun a b z => ?_) hw
      rw [← hlμ] at z
      exact ra_trC_ok (π := (π2, om)) hμ2 hπ2 hω z
    exact ra_a2_app (ra_a2_put (ra_a2_mono (fun a b z => ra_cC_ext hnn hv' hext z) hg.2.2.2.1) hmap) (ra_a2_drop _ hmap)
end
end
