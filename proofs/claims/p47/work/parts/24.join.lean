noncomputable section
/-! worlds behind a call -/
section
variable {p : Program} {l : Launch} {e : Env} {R : Room} {s : State} {m : MethodId} {args : Array Value} {below : List Frame} {meth : Method} {c : Code} {Q : State → Prop}
variable {cc : ByteArray} {own : String} {nL : Nat} {A : Nat → Prop} {D : va_G} {cl : List vw_C} {tys : List (ClassId × FieldType)} {Ts : List Cond} {b0 : Nat → Nat} {ad0 : List Nat} {cT : Nat → ClassId} {n0 : Nat} {v0 : Nat → Int}
variable {sc : String}

noncomputable def ra_put {α : Type} : List α → List Nat → List α → List α
  | ws, i :: π, x :: w1 => ra_put (ra_st ws x i) π w1
  | ws, [], _ => ws
  | ws, _ :: _, [] => ws
theorem ra_put_len {α : Type} : ∀ {π : List Nat} {ws w1 : List α}, (ra_put ws π w1).length = ws.length
  | [], _, _ => by simp [ra_put]
  | _ :: _, _, [] => by simp [ra_put]
  | i :: π, ws, x :: w1 => by
    unfold ra_put
    rw [ra_st_eq]
    rw [ra_put_len]
    simp
theorem ra_put_get {α : Type} : ∀ {π : List Nat} {ws w1 : List α}, π.length ≤ w1.length → ∀ {j : Nat} {x : α}, (ra_put ws π w1)[j]? = some x → (∃ k : Nat, π[k]? = some j ∧ w1[k]? = some x) ∨ (j ∉ π ∧ ws[j]? = some x)
  | [], ws, w1, _, j, x, h => Or.inr ⟨by simp, by simpa [ra_put] using h⟩
  | _ :: _, _, [], hl, _, _, _ => by simp at hl
  | i :: π, ws, y :: w1, hl, j, x, h => by
    unfold ra_put at h
    rw [ra_st_eq] at h
    rcases ra_put_get (by simpa using hl) h with ⟨k, h1, h2⟩ | ⟨h1, h2⟩
    · exact Or.inl ⟨k + 1, by simpa using h1, by simpa using h2⟩
    · rw [List.getElem?_set] at h2
      split at h2
      · rename_i hij
        subst hij
        split at h2
        · cases h2
          exact Or.inl ⟨0, by simp, by simp⟩
        · cases h2
      · rename_i hij
        exact Or.inr ⟨fun hm => by rcases List.mem_cons.mp hm with q | q; exact hij q.symm; exact h1 q, h2⟩
theorem ra_put_fst {α : Type} : ∀ {π : List Nat} {ws w1 : List (Nat × α)}, (∀ (k j : Nat) (x : Nat × α), π[k]? = some j → w1[k]? = some x → ∃ q, ws[j]? = some q ∧ x.1 = q.1) → (ra_put ws π w1).map Prod.fst = ws.map Prod.fst
  | [], ws, w1, _ => by simp [ra_put]
  | _ :: _, _, [], _ => by simp [ra_put]
  | i :: π, ws, y :: w1, h => by
    unfold ra_put
    rw [ra_st_eq]
    obtain ⟨q, h1, h2⟩ := h 0 i y (by simp) (by simp)
    have e : (ws.set i y).map Prod.fst = ws.map Prod.fst := by
      apply List.ext_getElem?
      intro j
      rw [List.getElem?_map, List.getElem?_map, List.getElem?_set]
      split
      · rename_i hj
        subst hj
        rw [if_pos (List.getElem?_eq_some_iff.mp h1).1, h1]
        simp [h2]
      · rfl
    rw [ra_put_fst (fun k j x hk hx => ?_), e]
    obtain ⟨q', g1, g2⟩ := h (k + 1) j x (by simpa using hk) (by simpa using hx)
    have e2 : ((ws.set i y).map Prod.fst)[j]? = (ws.map Prod.fst)[j]? := by rw [e]
    rw [List.getElem?_map, List.getElem?_map, g1] at e2
    cases hw : (ws.set i y)[j]? with
    | none => rw [hw] at e2; cases e2
    | some q2 =>
      rw [hw] at e2
      have e3 : q2.1 = q'.1 := by simpa using e2
      exact ⟨q2, rfl, by rw [e3]; exact g2⟩
def ra_nd (π : List Nat) : Bool := ra_ndM 0 π
theorem ra_nd_ok {π : List Nat} (h : ra_nd π = true) {i j k : Nat} (hi : π[i]? = some k) (hj : π[j]? = some k) : i = j := by
  have hn := (ra_ndM_ok h).1
  have h1 : i < π.length := (List.getElem?_eq_some_iff.mp hi).1
  exact (List.getElem?_inj h1 hn).mp (hi.trans hj.symm)
theorem ra_join {ws wc w1 : va_W} {H H1 : Heap} {π : List Nat} (hP : va_P D cl ws H) (hD : va_D A ws) (hnd : ra_nd π = true) (hl : π.length = wc.length) (hc : ∀ (k j : Nat), π[k]? = some j → ∃ q, ws[j]? = some q ∧ wc[k]? = some q)
    (had : ∀ (k : Nat) (q : Nat × va_E), wc[k]? = some q → ∃ q', w1[k]? = some q' ∧ q'.1 = q.1) (hk : ∀ q : Nat, q < H.size → ¬ va_A wc H.size q → H1[q]? = H[q]?) (hF : ∀ q, va_A wc H.size q → A q) (hP1 : va_P D cl w1 H1) (hD1 : va_D (va_A wc H.size) w1) :
    va_P D cl (ra_put ws π w1 ++ w1.drop π.length) H1 ∧ va_D A (ra_put ws π w1 ++ w1.drop π.length) ∧ (ra_put ws π w1).map Prod.fst = ws.map Prod.fst := by
  have hle : π.length ≤ w1.length := by
    rcases Nat.lt_or_ge w1.length π.length with q | q
    · have h1 : w1.length < wc.length := by omega
      obtain ⟨q', h2, -⟩ := had w1.length wc[w1.length] (List.getElem?_eq_getElem h1)
      simp at h2
    · exact q
  have hfst : (ra_put ws π w1).map Prod.fst = ws.map Prod.fst := by
    refine ra_put_fst (fun k j x h1 h2 => ?_)
    obtain ⟨q, g1, g2⟩ := hc k j h1
    obtain ⟨q', g3, g4⟩ := had k q g2
    rw [h2] at g3
    cases g3
    exact ⟨q, g1, g4⟩
  have hfst' : ∀ (j : Nat) (x : Nat × va_E), (ra_put ws π w1)[j]? = some x → ∃ q, ws[j]? = some q ∧ q.1 = x.1 := by
    intro j x hx
    have : ((ra_put ws π w1).map Prod.fst)[j]? = (ws.map Prod.fst)[j]? := by rw [hfst]
    rw [List.getElem?_map, List.getElem?_map, hx] at this
    cases hw : ws[j]? with
    | none => rw [hw] at this; cases this
    | some q => rw [hw] at this; exact ⟨q, rfl, by simpa using this.symm⟩
  have split2 : ∀ (j : Nat) (x : Nat × va_E), (ra_put ws π w1 ++ w1.drop π.length)[j]? = some x → (j < ws.length ∧ (ra_put ws π w1)[j]? = some x) ∨ (ws.length ≤ j ∧ w1[π.length + (j - ws.length)]? = some x) := by
    intro j x hx
    rcases Nat.lt_or_ge j ws.length with q | q
    · rw [List.getElem?_append_left (by rw [ra_put_len]; exact q)] at hx
      exact Or.inl ⟨q, hx⟩
    · rw [List.getElem?_append_right (by rw [ra_put_len]; exact q), ra_put_len, List.getElem?_drop] at hx
      exact Or.inr ⟨q, hx⟩
  have newA : ∀ (k : Nat) (x : Nat × va_E), π.length ≤ k → w1[k]? = some x → H.size ≤ x.1 := by
    intro k x hk1 hx
    rcases hD1.2 k x hx with ⟨k2, e2, h2⟩ | h2
    · obtain ⟨q', h3, h4⟩ := had k2 _ h2
      have := hD1.1 k k2 x q' hx h3 h4.symm
      have hl2 := (List.getElem?_eq_some_iff.mp h2).1
      omega
    · exact h2
  refine ⟨fun j x hx => ?_, ⟨fun i j x y hx hy hxy => ?_, fun j x hx => ?_⟩, hfst⟩
  · rcases split2 j x hx with ⟨h1, h2⟩ | ⟨h1, h2⟩
    · rcases ra_put_get hle h2 with ⟨k, g1, g2⟩ | ⟨g1, g2⟩
      · exact hP1 k x g2
      · have hat := hP j x g2
        refine hat.kept (hk x.1 hat.lt (fun hA => ?_))
        rcases hA with ⟨k2, e2, h3⟩ | h3
        · have hl2 := (List.getElem?_eq_some_iff.mp h3).1
          have hp : π[k2]? = some π[k2] := List.getElem?_eq_getElem (by omega)
          obtain ⟨q, q1, q2⟩ := hc k2 _ hp
          rw [h3] at q2
          cases q2
          have := hD.1 j _ x _ g2 q1 rfl
          rw [this] at g1
          exact g1 (List.mem_of_getElem? hp)
        · have := hat.lt
          omega
    · exact hP1 _ x h2
  · rcases split2 i x hx with ⟨h1, h2⟩ | ⟨h1, h2⟩
    · obtain ⟨q, q1, q2⟩ := hfst' i x h2
      have hlt := (hP i q q1).lt
      rcases split2 j y hy with ⟨h3, h4⟩ | ⟨h3, h4⟩
      · obtain ⟨q', q3, q4⟩ := hfst' j y h4
        exact hD.1 i j q q' q1 q3 (by rw [q2, q4, hxy])
      · have := newA _ y (by omega) h4
        omega
    · have n1 := newA _ x (by omega) h2
      rcases split2 j y hy with ⟨h3, h4⟩ | ⟨h3, h4⟩
      · obtain ⟨q', q3, q4⟩ := hfst' j y h4
        have hlt := (hP j q' q3).lt
        omega
      · have := hD1.1 _ _ x y h2 h4 hxy
        omega
  · rcases split2 j x hx with ⟨h1, h2⟩ | ⟨h1, h2⟩
    · obtain ⟨q, q1, q2⟩ := hfst' j x h2
      rw [← q2]
      exact hD.2 j q q1
    · exact hF _ (hD1.2 _ x h2)
/-- what a method gives back: its answer and its world are those of one of some states -/
abbrev ra_P : Type := ra_N × List ra_V × List ra_C
def ra_pv (b0 : Nat → Nat) (cT : Nat → ClassId) (v : Nat → Int) (np : Nat) (posts : List ra_P) (ws : va_W) (r : Option Value) (w1 : va_W) : Prop :=
  (∃ q ∈ posts, ∃ v' : Nat → Int, (∀ i, i < np → v' i = v i) ∧ ra_cN v' q.1 ∧ ra_a2 (ra_cV q.1.length v' (w1.map Prod.fst) b0) q.2.1 r.toList ∧ ra_a2 (fun (c : ra_C) (x : Nat × va_E) => ra_cC q.1.length v' (w1.map Prod.fst) b0 cT c x.2) q.2.2 w1) ∧ ∀ (k : Nat) (x : Nat × va_E), ws[k]? = some x → ∃ x', w1[k]? = some x' ∧ x'.1 = x.1
def ra_Qc (D : va_G) (cl : List vw_C) (tys : List (ClassId × FieldType)) (pv : Option Value → va_W → Prop) (ws : va_W) (sz : Nat) : Array Value → State → Outcome → State → Prop := fun _ st oc t =>
  (∃ (r : Option Value) (w1 : va_W), oc = .returned r ∧ pv r w1 ∧ va_P D cl w1 t.heap ∧ va_K D cl tys t ∧ va_D (va_A ws sz) w1) ∧ va_F (va_A ws sz) st t
def ra_Ex (sc : String) (nw : List (String × Nat × MethodName × String)) (U : State) : Prop := va_AO sc U ∧ ∀ q ∈ nw, va_Nw (.methodLinkNest q.1 q.2.1 q.2.2.1 q.2.2.2) U
theorem ra_Ex_warm {nw : List (String × Nat × MethodName × String)} {U : State} (h : ra_Ex sc nw s) (hW : s.WarmedH U.vm) : ra_Ex sc nw U := ⟨va_AO.moved hW.alike h.1, fun q hq => va_Nw.warmM hW (h.2 q hq)⟩
def ra_Pc (sc : String) (nw : List (String × Nat × MethodName × String)) (D : va_G) (cl : List vw_C) (tys : List (ClassId × FieldType)) (av : List Value) (ws : va_W) (sz : Nat) : Array Value → State → Prop := va_Pc av (fun U => U.heap.size = sz ∧ va_P D cl ws U.heap ∧ va_K D cl tys U ∧ va_D (fun _ => True) ws ∧ ra_Ex sc nw U)
theorem ra_blind {nw : List (String × Nat × MethodName × String)} {av : List Value} {ws : va_W} {sz : Nat} : FrameBlind (ra_Pc sc nw D cl tys av ws sz) := fun a U g mk q => by
  obtain ⟨q0, q1, qP, qK, qD, qE⟩ := q
  exact ⟨q0, q1, qP, va_K.moved (u := U) (U := U.calling g mk a) (Vm.Alike.refl U.vm) qK, qD, va_AO.moved (u := U) (U := U.calling g mk a) (Vm.Alike.refl U.vm) qE.1, fun z hz => va_Nw.same (u := U) (U := U.calling g mk a) rfl rfl (qE.2 z hz)⟩
theorem ra_callG {pv : Option Value → va_W → Prop} {wc : va_W} {H : Heap} {locs : List Loc} {ce sl mc ms pc : Nat} {ls : Array Slot} {st0 rest : List Value} {a : Array Value} {free : Addr → Prop} (hr : va_Run p l e R s m args below meth c H locs ce sl mc ms (F0 m pc ls st0) rest (ra_Qc D cl tys pv wc H.size a) free) (hS : va_S A s.heap H locs) (hA : ∀ q, va_A wc H.size q → A q) (hf : ∀ q, free q → A q)
    (kk : ∀ (r : Option Value) (w1 : va_W) (H1 : Heap) (locs1 : List Loc), pv r w1 → va_P D cl w1 H1 → va_D (va_A wc H.size) w1 → (∀ q : Nat, q < H.size → ¬ va_A wc H.size q → H1[q]? = H[q]?) → va_S A s.heap H1 locs1 → W p l e R s m args below meth c H1 locs1 (ce + mc) (sl + ms) Q (F0 m (pc + 3) ls (r.toList ++ rest))) : W p l e R s m args below meth c H locs ce sl Q (F0 m pc ls st0) := by
  intro T hT X
  obtain ⟨v, st₀, t, T', L, h0, X', hL, e1, e2, ⟨⟨r, w1, hv, hp, hb, hK, hD⟩, hz, hk⟩, st⟩ := hr T hT X
  cases hv
  rw [h0] at hz hk
  obtain ⟨t2, a1, b1⟩ := kk v w1 T'.heap (locs ++ L) hp (by rw [e1]; exact hb) hD (fun q h1 h2 => by rw [e1]; exact hk q h1 h2)
    ⟨Nat.le_trans hS.1 (by rw [e1]; exact hz), fun q h1 h2 => by rw [e1, hk q (Nat.lt_of_lt_of_le h1 hS.1) (fun z => h2 (hA q z))]; exact hS.2.1 q h1 h2, fun q hq => by
      rcases List.mem_append.mp hq with h | h
      · exact hS.2.2 q h
      · exact hf _ (hL q h)⟩ T' rfl X'
  exact ⟨t2, st t2 a1, b1⟩
end
end
